theorem c_X11_getX {G : GT} {S : Shp} {σ : Sto} (k0 : Nat) (hk : k0 < 4) {i : Int} (hi : inR i) : PMet G mX11_get 0 0 0 [.ref (1000000 + k0), .int (iI i)] S σ (isP (some (.int (iI (gI (xT k0) (tabK k0).length i)))) S σ) := by
  have hlen : ((tabK k0).length : Int) ≤ 30 := by
    rcases (show k0 = 0 ∨ k0 = 1 ∨ k0 = 2 ∨ k0 = 3 by omega) with rfl | rfl | rfl | rfl <;> decide
  refine PMet.of [(0, .ref (1000000 + k0)), (1, .int (iI i))] (by decide +kernel) rfl (Nat.le_of_ble_eq_true rfl) ?_
  refine PW.aload_n dX11_get_0 rfl ?_
  refine PW.ifnull dX11_get_1 ?_
  refine PW.iload_n dX11_get_4 rfl ?_
  refine PW.if_lt 14 dX11_get_5 (by decide) (by first | assumption | (unfold inR; omega)) (fun h5 => ?_) (fun h5 => ?_)
  · refine PW.iconst dX11_get_14 ?_
    exact PW.iret rfl rfl dX11_get_15 ⟨ret_eq (by unfold gI; rw [if_neg (by omega)]), rfl, rfl⟩
  · refine PW.iload_n dX11_get_8 rfl ?_
    refine PW.aload_n dX11_get_9 rfl ?_
    refine PW.alenX k0 hk dX11_get_10 ?_
    refine PW.icmp_lt 16 dX11_get_11 (by decide) (by first | assumption | (unfold inR; omega)) (by first | assumption | (unfold inR; omega)) (fun h11 => ?_) (fun h11 => ?_)
    · refine PW.aload_n dX11_get_16 rfl ?_
      refine PW.iload_n dX11_get_17 rfl ?_
      refine PW.ialoadX k0 hk (by first | assumption | (unfold inR; omega)) (by omega) (by omega) dX11_get_18 ?_
      exact PW.iret rfl rfl dX11_get_19 ⟨ret_eq (by unfold gI; rw [if_pos (by omega)]), rfl, rfl⟩
    · refine PW.iconst dX11_get_14 ?_
      exact PW.iret rfl rfl dX11_get_15 ⟨ret_eq (by unfold gI; rw [if_neg (by omega)]), rfl, rfl⟩
theorem xT_0 {k : Int} (h : 0 ≤ k ∧ k ≤ 5) : 2 ≤ xT 0 k ∧ xT 0 k ≤ 5 := by
  rcases (show k = 0 ∨ k = 1 ∨ k = 2 ∨ k = 3 ∨ k = 4 ∨ k = 5 by omega) with rfl | rfl | rfl | rfl | rfl | rfl <;> decide
theorem xT_1 {k : Int} (h : 0 ≤ k ∧ k ≤ 5) : 0 ≤ xT 1 k ∧ xT 1 k ≤ 4 := by
  rcases (show k = 0 ∨ k = 1 ∨ k = 2 ∨ k = 3 ∨ k = 4 ∨ k = 5 by omega) with rfl | rfl | rfl | rfl | rfl | rfl <;> decide
theorem xT_r (k : Nat) (j : Int) : inR (xT k j) := inR_of _
/-- whether a number is within its bounds, or one that the kind has not -/
abbrev suF (k p v : Int) : Prop := ¬ p < xT 0 k ∨ (xT 2 (5 * k + p) ≤ v ∧ v ≤ xT 3 (5 * k + p))
/-- the numbers of an event are within the bounds of its kind -/
abbrev okEv (k a b c d e : Int) : Prop := (0 ≤ k ∧ k ≤ 5) ∧ ¬ (k = 5 ∧ d < c) ∧ suF k 0 a ∧ suF k 1 b ∧ suF k 2 c ∧ suF k 3 d ∧ suF k 4 e
theorem c_X5_numbers {G : GT} {S : Shp} {σ : Sto} {k : Int} (hk : 0 ≤ k ∧ k ≤ 5) : PMet G mX5_numbers 1 0 0 [.int (iI k)] S σ (isP (some (.int (iI (xT 0 k)))) S σ) := by
  refine PMet.of [(0, .int (iI k))] (by decide +kernel) rfl (Nat.le_of_ble_eq_true rfl) ?_
  refine PW.getsX 0 (by decide) fs_X5_34 rfl dX5_numbers_0 ?_
  refine PW.iload_n dX5_numbers_3 rfl ?_
  refine PW.callSr (c_X11_getX 0 (by decide) (by unfold inR; omega)) cs_X11_get lk_X5_27 dX5_numbers_4 rfl rfl rfl ?_
  exact PW.iret rfl rfl dX5_numbers_7 ⟨ret_eq (by unfold gI; rw [if_pos (by simp only [tabK, List.length_cons, List.length_nil]; omega)]), rfl, rfl⟩
theorem c_X5_mainPlace {G : GT} {S : Shp} {σ : Sto} {k : Int} (hk : 0 ≤ k ∧ k ≤ 5) : PMet G mX5_mainPlace 1 0 0 [.int (iI k)] S σ (isP (some (.int (iI (xT 1 k)))) S σ) := by
  refine PMet.of [(0, .int (iI k))] (by decide +kernel) rfl (Nat.le_of_ble_eq_true rfl) ?_
  refine PW.getsX 1 (by decide) fs_X5_37 rfl dX5_mainPlace_0 ?_
  refine PW.iload_n dX5_mainPlace_3 rfl ?_
  refine PW.callSr (c_X11_getX 1 (by decide) (by unfold inR; omega)) cs_X11_get lk_X5_27 dX5_mainPlace_4 rfl rfl rfl ?_
  exact PW.iret rfl rfl dX5_mainPlace_7 ⟨ret_eq (by unfold gI; rw [if_pos (by simp only [tabK, List.length_cons, List.length_nil]; omega)]), rfl, rfl⟩
theorem c_X5_suits {G : GT} {S : Shp} {σ : Sto} {k q v : Int} (hk : 0 ≤ k ∧ k ≤ 5) (hp : 0 ≤ q ∧ q ≤ 4) (rv : inR v) : PMet G mX5_suits 2 0 0 [.int (iI k), .int (iI q), .int (iI v)] S σ (isP (some (.int (iI (b01 (suF k q v))))) S σ) := by
  refine PMet.of [(0, .int (iI k)), (1, .int (iI q)), (2, .int (iI v))] (by decide +kernel) rfl (Nat.le_of_ble_eq_true rfl) ?_
  refine PW.iload_n dX5_suits_0 rfl ?_
  refine PW.iload_n dX5_suits_1 rfl ?_
  refine PW.callSr (c_X5_numbers (by omega)) cs_X5_numbers lk_X5_19 dX5_suits_2 rfl rfl rfl ?_
  refine PW.icmp_lt 10 dX5_suits_5 (by decide) (by first | assumption | exact xT_r _ _ | (unfold inR; omega)) (by first | assumption | exact xT_r _ _ | (unfold inR; omega)) (fun h5 => ?_) (fun h5 => ?_)
  · refine PW.iload_n dX5_suits_10 rfl ?_
    refine PW.iconst dX5_suits_11 ?_
    refine PW.imul dX5_suits_12 ?_
    refine PW.iload_n dX5_suits_13 rfl ?_
    refine PW.iadd dX5_suits_14 ?_
    refine PW.istore_n [(0, _), (1, _), (2, _), (3, _)] dX5_suits_15 rfl (Nat.le_of_ble_eq_true rfl) ?_
    refine PW.iload_n dX5_suits_16 rfl ?_
    refine PW.getsX 2 (by decide) fs_X5_23 rfl dX5_suits_17 ?_
    refine PW.iload_n dX5_suits_20 rfl ?_
    refine PW.callSr (c_X11_getX 2 (by decide) (by unfold inR; omega)) cs_X11_get lk_X5_27 dX5_suits_21 rfl rfl rfl ?_
    refine PW.top (xT 2 (5 * k + q)) (by unfold gI; rw [if_pos (by simp only [tabK, List.length_cons, List.length_nil]; omega), Int.mul_comm]) ?_
    refine PW.icmp_lt 42 dX5_suits_24 (by decide) (by first | assumption | exact xT_r _ _ | (unfold inR; omega)) (by first | assumption | exact xT_r _ _ | (unfold inR; omega)) (fun h24 => ?_) (fun h24 => ?_)
    · refine PW.iconst dX5_suits_42 ?_
      exact PW.iret rfl (by first | rfl | exact narB _) dX5_suits_43 ⟨ret_eq (by unfold b01; first | rw [if_pos (by omega)] | rw [if_neg (by omega)]), rfl, rfl⟩
    · refine PW.iload_n dX5_suits_27 rfl ?_
      refine PW.getsX 3 (by decide) fs_X5_31 rfl dX5_suits_28 ?_
      refine PW.iload_n dX5_suits_31 rfl ?_
      refine PW.callSr (c_X11_getX 3 (by decide) (by unfold inR; omega)) cs_X11_get lk_X5_27 dX5_suits_32 rfl rfl rfl ?_
      refine PW.top (xT 3 (5 * k + q)) (by unfold gI; rw [if_pos (by simp only [tabK, List.length_cons, List.length_nil]; omega), Int.mul_comm]) ?_
      refine PW.icmp_gt 42 dX5_suits_35 (by decide) (by first | assumption | exact xT_r _ _ | (unfold inR; omega)) (by first | assumption | exact xT_r _ _ | (unfold inR; omega)) (fun h35 => ?_) (fun h35 => ?_)
      · refine PW.iconst dX5_suits_42 ?_
        exact PW.iret rfl (by first | rfl | exact narB _) dX5_suits_43 ⟨ret_eq (by unfold b01; first | rw [if_pos (by omega)] | rw [if_neg (by omega)]), rfl, rfl⟩
      · refine PW.iconst dX5_suits_38 ?_
        refine PW.goto 43 dX5_suits_39 (by decide) ?_
        exact PW.iret rfl (by first | rfl | exact narB _) dX5_suits_43 ⟨ret_eq (by unfold b01; first | rw [if_pos (by omega)] | rw [if_neg (by omega)]), rfl, rfl⟩
  · refine PW.iconst dX5_suits_8 ?_
    exact PW.iret rfl (by first | rfl | exact narB _) dX5_suits_9 ⟨ret_eq (by unfold b01; first | rw [if_pos (by omega)] | rw [if_neg (by omega)]), rfl, rfl⟩
-- (not here: c_X5_isAxisPlace)
theorem c_X5_allow {G : GT} {S : Shp} {σ : Sto} {k a b c d e : Int} (rk : inR k) (ra : inR a) (rb : inR b) (rc : inR c) (rd : inR d) (re : inR e) : PMet G mX5_allow 3 0 0 [.int (iI k), .int (iI a), .int (iI b), .int (iI c), .int (iI d), .int (iI e)] S σ (isP (some (.int (iI (b01 (okEv k a b c d e))))) S σ) := by
  refine PMet.of [(0, .int (iI k)), (1, .int (iI a)), (2, .int (iI b)), (3, .int (iI c)), (4, .int (iI d)), (5, .int (iI e))] (by decide +kernel) rfl (Nat.le_of_ble_eq_true rfl) ?_
  refine PW.iload_n dX5_allow_0 rfl ?_
  refine PW.bipush (by decide) dX5_allow_1 ?_
  refine PW.callSr (c_X11_isBelow (by first | assumption | (unfold inR; omega)) (by first | assumption | (unfold inR; omega))) cs_X11_isBelow lk_X5_9 dX5_allow_3 rfl rfl rfl ?_
  refine PW.if_neB 11 dX5_allow_6 (by decide) (fun h6 => ?_) (fun h6 => ?_)
  · refine PW.iload_n dX5_allow_11 rfl ?_
    refine PW.iconst dX5_allow_12 ?_
    refine PW.icmp_ne 24 dX5_allow_13 (by decide) (by first | assumption | (unfold inR; omega)) (by first | assumption | (unfold inR; omega)) (fun h13 => ?_) (fun h13 => ?_)
    · refine PW.iload_n dX5_allow_24 rfl ?_
      refine PW.iconst dX5_allow_25 ?_
      refine PW.iload_n dX5_allow_26 rfl ?_
      refine PW.callSr (c_X5_suits (by omega) (by omega) (by first | assumption | (unfold inR; omega))) cs_X5_suits lk_X5_15 dX5_allow_27 rfl rfl rfl ?_
      refine PW.if_eqB 75 dX5_allow_30 (by decide) (fun h30 => ?_) (fun h30 => ?_)
      · refine PW.iconst dX5_allow_75 ?_
        exact PW.iret rfl (by first | rfl | exact narB _) dX5_allow_76 ⟨(by first | exact ret_eq (b01_t ⟨by omega, by omega, h30, h39, h48, h58, h68⟩).symm | exact ret_eq (b01_f (fun h => by obtain ⟨-, -, q1, q2, q3, q4, q5⟩ := h; contradiction)).symm), rfl, rfl⟩
      · refine PW.iload_n dX5_allow_33 rfl ?_
        refine PW.iconst dX5_allow_34 ?_
        refine PW.iload_n dX5_allow_35 rfl ?_
        refine PW.callSr (c_X5_suits (by omega) (by omega) (by first | assumption | (unfold inR; omega))) cs_X5_suits lk_X5_15 dX5_allow_36 rfl rfl rfl ?_
        refine PW.if_eqB 75 dX5_allow_39 (by decide) (fun h39 => ?_) (fun h39 => ?_)
        · refine PW.iconst dX5_allow_75 ?_
          exact PW.iret rfl (by first | rfl | exact narB _) dX5_allow_76 ⟨(by first | exact ret_eq (b01_t ⟨by omega, by omega, h30, h39, h48, h58, h68⟩).symm | exact ret_eq (b01_f (fun h => by obtain ⟨-, -, q1, q2, q3, q4, q5⟩ := h; contradiction)).symm), rfl, rfl⟩
        · refine PW.iload_n dX5_allow_42 rfl ?_
          refine PW.iconst dX5_allow_43 ?_
          refine PW.iload_n dX5_allow_44 rfl ?_
          refine PW.callSr (c_X5_suits (by omega) (by omega) (by first | assumption | (unfold inR; omega))) cs_X5_suits lk_X5_15 dX5_allow_45 rfl rfl rfl ?_
          refine PW.if_eqB 75 dX5_allow_48 (by decide) (fun h48 => ?_) (fun h48 => ?_)
          · refine PW.iconst dX5_allow_75 ?_
            exact PW.iret rfl (by first | rfl | exact narB _) dX5_allow_76 ⟨(by first | exact ret_eq (b01_t ⟨by omega, by omega, h30, h39, h48, h58, h68⟩).symm | exact ret_eq (b01_f (fun h => by obtain ⟨-, -, q1, q2, q3, q4, q5⟩ := h; contradiction)).symm), rfl, rfl⟩
          · refine PW.iload_n dX5_allow_51 rfl ?_
            refine PW.iconst dX5_allow_52 ?_
            refine PW.iload dX5_allow_53 rfl ?_
            refine PW.callSr (c_X5_suits (by omega) (by omega) (by first | assumption | (unfold inR; omega))) cs_X5_suits lk_X5_15 dX5_allow_55 rfl rfl rfl ?_
            refine PW.if_eqB 75 dX5_allow_58 (by decide) (fun h58 => ?_) (fun h58 => ?_)
            · refine PW.iconst dX5_allow_75 ?_
              exact PW.iret rfl (by first | rfl | exact narB _) dX5_allow_76 ⟨(by first | exact ret_eq (b01_t ⟨by omega, by omega, h30, h39, h48, h58, h68⟩).symm | exact ret_eq (b01_f (fun h => by obtain ⟨-, -, q1, q2, q3, q4, q5⟩ := h; contradiction)).symm), rfl, rfl⟩
            · refine PW.iload_n dX5_allow_61 rfl ?_
              refine PW.iconst dX5_allow_62 ?_
              refine PW.iload dX5_allow_63 rfl ?_
              refine PW.callSr (c_X5_suits (by omega) (by omega) (by first | assumption | (unfold inR; omega))) cs_X5_suits lk_X5_15 dX5_allow_65 rfl rfl rfl ?_
              refine PW.if_eqB 75 dX5_allow_68 (by decide) (fun h68 => ?_) (fun h68 => ?_)
              · refine PW.iconst dX5_allow_75 ?_
                exact PW.iret rfl (by first | rfl | exact narB _) dX5_allow_76 ⟨(by first | exact ret_eq (b01_t ⟨by omega, by omega, h30, h39, h48, h58, h68⟩).symm | exact ret_eq (b01_f (fun h => by obtain ⟨-, -, q1, q2, q3, q4, q5⟩ := h; contradiction)).symm), rfl, rfl⟩
              · refine PW.iconst dX5_allow_71 ?_
                refine PW.goto 76 dX5_allow_72 (by decide) ?_
                exact PW.iret rfl (by first | rfl | exact narB _) dX5_allow_76 ⟨(by first | exact ret_eq (b01_t ⟨by omega, by omega, h30, h39, h48, h58, h68⟩).symm | exact ret_eq (b01_f (fun h => by obtain ⟨-, -, q1, q2, q3, q4, q5⟩ := h; contradiction)).symm), rfl, rfl⟩
    · refine PW.iload dX5_allow_16 rfl ?_
      refine PW.iload_n dX5_allow_18 rfl ?_
      refine PW.icmp_ge 24 dX5_allow_19 (by decide) (by first | assumption | (unfold inR; omega)) (by first | assumption | (unfold inR; omega)) (fun h19 => ?_) (fun h19 => ?_)
      · refine PW.iload_n dX5_allow_24 rfl ?_
        refine PW.iconst dX5_allow_25 ?_
        refine PW.iload_n dX5_allow_26 rfl ?_
        refine PW.callSr (c_X5_suits (by omega) (by omega) (by first | assumption | (unfold inR; omega))) cs_X5_suits lk_X5_15 dX5_allow_27 rfl rfl rfl ?_
        refine PW.if_eqB 75 dX5_allow_30 (by decide) (fun h30 => ?_) (fun h30 => ?_)
        · refine PW.iconst dX5_allow_75 ?_
          exact PW.iret rfl (by first | rfl | exact narB _) dX5_allow_76 ⟨(by first | exact ret_eq (b01_t ⟨by omega, by omega, h30, h39, h48, h58, h68⟩).symm | exact ret_eq (b01_f (fun h => by obtain ⟨-, -, q1, q2, q3, q4, q5⟩ := h; contradiction)).symm), rfl, rfl⟩
        · refine PW.iload_n dX5_allow_33 rfl ?_
          refine PW.iconst dX5_allow_34 ?_
          refine PW.iload_n dX5_allow_35 rfl ?_
          refine PW.callSr (c_X5_suits (by omega) (by omega) (by first | assumption | (unfold inR; omega))) cs_X5_suits lk_X5_15 dX5_allow_36 rfl rfl rfl ?_
          refine PW.if_eqB 75 dX5_allow_39 (by decide) (fun h39 => ?_) (fun h39 => ?_)
          · refine PW.iconst dX5_allow_75 ?_
            exact PW.iret rfl (by first | rfl | exact narB _) dX5_allow_76 ⟨(by first | exact ret_eq (b01_t ⟨by omega, by omega, h30, h39, h48, h58, h68⟩).symm | exact ret_eq (b01_f (fun h => by obtain ⟨-, -, q1, q2, q3, q4, q5⟩ := h; contradiction)).symm), rfl, rfl⟩
          · refine PW.iload_n dX5_allow_42 rfl ?_
            refine PW.iconst dX5_allow_43 ?_
            refine PW.iload_n dX5_allow_44 rfl ?_
            refine PW.callSr (c_X5_suits (by omega) (by omega) (by first | assumption | (unfold inR; omega))) cs_X5_suits lk_X5_15 dX5_allow_45 rfl rfl rfl ?_
            refine PW.if_eqB 75 dX5_allow_48 (by decide) (fun h48 => ?_) (fun h48 => ?_)
            · refine PW.iconst dX5_allow_75 ?_
              exact PW.iret rfl (by first | rfl | exact narB _) dX5_allow_76 ⟨(by first | exact ret_eq (b01_t ⟨by omega, by omega, h30, h39, h48, h58, h68⟩).symm | exact ret_eq (b01_f (fun h => by obtain ⟨-, -, q1, q2, q3, q4, q5⟩ := h; contradiction)).symm), rfl, rfl⟩
            · refine PW.iload_n dX5_allow_51 rfl ?_
              refine PW.iconst dX5_allow_52 ?_
              refine PW.iload dX5_allow_53 rfl ?_
              refine PW.callSr (c_X5_suits (by omega) (by omega) (by first | assumption | (unfold inR; omega))) cs_X5_suits lk_X5_15 dX5_allow_55 rfl rfl rfl ?_
              refine PW.if_eqB 75 dX5_allow_58 (by decide) (fun h58 => ?_) (fun h58 => ?_)
              · refine PW.iconst dX5_allow_75 ?_
                exact PW.iret rfl (by first | rfl | exact narB _) dX5_allow_76 ⟨(by first | exact ret_eq (b01_t ⟨by omega, by omega, h30, h39, h48, h58, h68⟩).symm | exact ret_eq (b01_f (fun h => by obtain ⟨-, -, q1, q2, q3, q4, q5⟩ := h; contradiction)).symm), rfl, rfl⟩
              · refine PW.iload_n dX5_allow_61 rfl ?_
                refine PW.iconst dX5_allow_62 ?_
                refine PW.iload dX5_allow_63 rfl ?_
                refine PW.callSr (c_X5_suits (by omega) (by omega) (by first | assumption | (unfold inR; omega))) cs_X5_suits lk_X5_15 dX5_allow_65 rfl rfl rfl ?_
                refine PW.if_eqB 75 dX5_allow_68 (by decide) (fun h68 => ?_) (fun h68 => ?_)
                · refine PW.iconst dX5_allow_75 ?_
                  exact PW.iret rfl (by first | rfl | exact narB _) dX5_allow_76 ⟨(by first | exact ret_eq (b01_t ⟨by omega, by omega, h30, h39, h48, h58, h68⟩).symm | exact ret_eq (b01_f (fun h => by obtain ⟨-, -, q1, q2, q3, q4, q5⟩ := h; contradiction)).symm), rfl, rfl⟩
                · refine PW.iconst dX5_allow_71 ?_
                  refine PW.goto 76 dX5_allow_72 (by decide) ?_
                  exact PW.iret rfl (by first | rfl | exact narB _) dX5_allow_76 ⟨(by first | exact ret_eq (b01_t ⟨by omega, by omega, h30, h39, h48, h58, h68⟩).symm | exact ret_eq (b01_f (fun h => by obtain ⟨-, -, q1, q2, q3, q4, q5⟩ := h; contradiction)).symm), rfl, rfl⟩
      · refine PW.iconst dX5_allow_22 ?_
        exact PW.iret rfl (by first | rfl | exact narB _) dX5_allow_23 ⟨ret_eq (by unfold b01; rw [if_neg (fun h => h.2.1 (by omega))]), rfl, rfl⟩
  · refine PW.iconst dX5_allow_9 ?_
    exact PW.iret rfl (by first | rfl | exact narB _) dX5_allow_10 ⟨ret_eq (by unfold b01; rw [if_neg (fun h => h6 (by have := h.1; omega))]), rfl, rfl⟩

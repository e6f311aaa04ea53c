theorem c_X11_isBelow {G : GT} {S : Shp} {σ : Sto} {v e : Int} (rv : inR v) (re : inR e) : PMet G mX11_isBelow 0 0 0 [.int (iI v), .int (iI e)] S σ (isP (some (.int (iI (b01 (0 ≤ v ∧ v < e))))) S σ) := by
  refine PMet.of [(0, .int (iI v)), (1, .int (iI e))] (by decide +kernel) rfl (Nat.le_of_ble_eq_true rfl) ?_
  refine PW.iload_n dX11_isBelow_0 rfl ?_
  refine PW.if_lt 13 dX11_isBelow_1 (by decide) (by first | assumption | (unfold inR; omega)) (fun h1 => ?_) (fun h1 => ?_)
  · refine PW.iconst dX11_isBelow_13 ?_
    exact PW.iret rfl (by first | rfl | exact narB _) dX11_isBelow_14 ⟨(by first | rfl | exact ret_eq (by unfold b01; first | rw [if_pos (by omega)] | rw [if_neg (by omega)])), rfl, rfl⟩
  · refine PW.iload_n dX11_isBelow_4 rfl ?_
    refine PW.iload_n dX11_isBelow_5 rfl ?_
    refine PW.icmp_ge 13 dX11_isBelow_6 (by decide) (by first | assumption | (unfold inR; omega)) (by first | assumption | (unfold inR; omega)) (fun h6 => ?_) (fun h6 => ?_)
    · refine PW.iconst dX11_isBelow_13 ?_
      exact PW.iret rfl (by first | rfl | exact narB _) dX11_isBelow_14 ⟨(by first | rfl | exact ret_eq (by unfold b01; first | rw [if_pos (by omega)] | rw [if_neg (by omega)])), rfl, rfl⟩
    · refine PW.iconst dX11_isBelow_9 ?_
      refine PW.goto 14 dX11_isBelow_10 (by decide) ?_
      exact PW.iret rfl (by first | rfl | exact narB _) dX11_isBelow_14 ⟨(by first | rfl | exact ret_eq (by unfold b01; first | rw [if_pos (by omega)] | rw [if_neg (by omega)])), rfl, rfl⟩
theorem c_X11_isStep {G : GT} {S : Shp} {σ : Sto} {v : Int} (rv : inR v) : PMet G mX11_isStep 1 0 0 [.int (iI v)] S σ (isP (some (.int (iI (b01 (0 ≤ v ∧ v < 8))))) S σ) := by
  refine PMet.of [(0, .int (iI v))] (by decide +kernel) rfl (Nat.le_of_ble_eq_true rfl) ?_
  refine PW.iload_n dX11_isStep_0 rfl ?_
  refine PW.bipush (by decide) dX11_isStep_1 ?_
  refine PW.callSr (c_X11_isBelow (by first | assumption | (unfold inR; omega)) (by first | assumption | (unfold inR; omega))) cs_X11_isBelow lk_X11_270 dX11_isStep_3 rfl rfl rfl ?_
  exact PW.iret rfl (by first | rfl | exact narB _) dX11_isStep_6 ⟨(by first | rfl | exact ret_eq (by unfold b01; first | rw [if_pos (by omega)] | rw [if_neg (by omega)])), rfl, rfl⟩
theorem c_X11_isBed {G : GT} {S : Shp} {σ : Sto} {v : Int} (rv : inR v) : PMet G mX11_isBed 1 0 0 [.int (iI v)] S σ (isP (some (.int (iI (b01 (0 ≤ v ∧ v < 16))))) S σ) := by
  refine PMet.of [(0, .int (iI v))] (by decide +kernel) rfl (Nat.le_of_ble_eq_true rfl) ?_
  refine PW.iload_n dX11_isBed_0 rfl ?_
  refine PW.bipush (by decide) dX11_isBed_1 ?_
  refine PW.callSr (c_X11_isBelow (by first | assumption | (unfold inR; omega)) (by first | assumption | (unfold inR; omega))) cs_X11_isBelow lk_X11_270 dX11_isBed_3 rfl rfl rfl ?_
  exact PW.iret rfl (by first | rfl | exact narB _) dX11_isBed_6 ⟨(by first | rfl | exact ret_eq (by unfold b01; first | rw [if_pos (by omega)] | rw [if_neg (by omega)])), rfl, rfl⟩
theorem c_X11_isAxis {G : GT} {S : Shp} {σ : Sto} {v : Int} (rv : inR v) : PMet G mX11_isAxis 0 0 0 [.int (iI v)] S σ (isP (some (.int (iI (b01 (v = 0 ∨ v = 1))))) S σ) := by
  refine PMet.of [(0, .int (iI v))] (by decide +kernel) rfl (Nat.le_of_ble_eq_true rfl) ?_
  refine PW.iload_n dX11_isAxis_0 rfl ?_
  refine PW.if_eq 9 dX11_isAxis_1 (by decide) (by first | assumption | (unfold inR; omega)) (fun h1 => ?_) (fun h1 => ?_)
  · refine PW.iconst dX11_isAxis_9 ?_
    refine PW.goto 14 dX11_isAxis_10 (by decide) ?_
    exact PW.iret rfl (by first | rfl | exact narB _) dX11_isAxis_14 ⟨(by first | rfl | exact ret_eq (by unfold b01; first | rw [if_pos (by omega)] | rw [if_neg (by omega)])), rfl, rfl⟩
  · refine PW.iload_n dX11_isAxis_4 rfl ?_
    refine PW.iconst dX11_isAxis_5 ?_
    refine PW.icmp_ne 13 dX11_isAxis_6 (by decide) (by first | assumption | (unfold inR; omega)) (by first | assumption | (unfold inR; omega)) (fun h6 => ?_) (fun h6 => ?_)
    · refine PW.iconst dX11_isAxis_13 ?_
      exact PW.iret rfl (by first | rfl | exact narB _) dX11_isAxis_14 ⟨(by first | rfl | exact ret_eq (by unfold b01; first | rw [if_pos (by omega)] | rw [if_neg (by omega)])), rfl, rfl⟩
    · refine PW.iconst dX11_isAxis_9 ?_
      refine PW.goto 14 dX11_isAxis_10 (by decide) ?_
      exact PW.iret rfl (by first | rfl | exact narB _) dX11_isAxis_14 ⟨(by first | rfl | exact ret_eq (by unfold b01; first | rw [if_pos (by omega)] | rw [if_neg (by omega)])), rfl, rfl⟩
theorem c_X11_isHeight {G : GT} {S : Shp} {σ : Sto} {v : Int} (rv : inR v) : PMet G mX11_isHeight 0 0 0 [.int (iI v)] S σ (isP (some (.int (iI (b01 (-40 ≤ v ∧ v ≤ 39))))) S σ) := by
  refine PMet.of [(0, .int (iI v))] (by decide +kernel) rfl (Nat.le_of_ble_eq_true rfl) ?_
  refine PW.iload_n dX11_isHeight_0 rfl ?_
  refine PW.bipush (by decide) dX11_isHeight_1 ?_
  refine PW.icmp_lt 16 dX11_isHeight_3 (by decide) (by first | assumption | (unfold inR; omega)) (by first | assumption | (unfold inR; omega)) (fun h3 => ?_) (fun h3 => ?_)
  · refine PW.iconst dX11_isHeight_16 ?_
    exact PW.iret rfl (by first | rfl | exact narB _) dX11_isHeight_17 ⟨(by first | rfl | exact ret_eq (by unfold b01; first | rw [if_pos (by omega)] | rw [if_neg (by omega)])), rfl, rfl⟩
  · refine PW.iload_n dX11_isHeight_6 rfl ?_
    refine PW.bipush (by decide) dX11_isHeight_7 ?_
    refine PW.icmp_gt 16 dX11_isHeight_9 (by decide) (by first | assumption | (unfold inR; omega)) (by first | assumption | (unfold inR; omega)) (fun h9 => ?_) (fun h9 => ?_)
    · refine PW.iconst dX11_isHeight_16 ?_
      exact PW.iret rfl (by first | rfl | exact narB _) dX11_isHeight_17 ⟨(by first | rfl | exact ret_eq (by unfold b01; first | rw [if_pos (by omega)] | rw [if_neg (by omega)])), rfl, rfl⟩
    · refine PW.iconst dX11_isHeight_12 ?_
      refine PW.goto 17 dX11_isHeight_13 (by decide) ?_
      exact PW.iret rfl (by first | rfl | exact narB _) dX11_isHeight_17 ⟨(by first | rfl | exact ret_eq (by unfold b01; first | rw [if_pos (by omega)] | rw [if_neg (by omega)])), rfl, rfl⟩
theorem c_X11_columnNumber {G : GT} {S : Shp} {σ : Sto} {a b : Int}  : PMet G mX11_columnNumber 0 0 0 [.int (iI a), .int (iI b)] S σ (isP (some (.int (iI (8 * b + a)))) S σ) := by
  refine PMet.of [(0, .int (iI a)), (1, .int (iI b))] (by decide +kernel) rfl (Nat.le_of_ble_eq_true rfl) ?_
  refine PW.bipush (by decide) dX11_columnNumber_0 ?_
  refine PW.iload_n dX11_columnNumber_2 rfl ?_
  refine PW.imul dX11_columnNumber_3 ?_
  refine PW.iload_n dX11_columnNumber_4 rfl ?_
  refine PW.iadd dX11_columnNumber_5 ?_
  exact PW.iret rfl rfl dX11_columnNumber_6 ⟨ret_eq (by omega), rfl, rfl⟩
theorem c_X11_columnX {G : GT} {S : Shp} {σ : Sto} {a : Int} (r : inR a) (h0 : 0 ≤ a) : PMet G mX11_columnX 1 0 0 [.int (iI a)] S σ (isP (some (.int (iI (a % 8)))) S σ) := by
  refine PMet.of [(0, .int (iI a))] (by decide +kernel) rfl (Nat.le_of_ble_eq_true rfl) ?_
  refine PW.iload_n dX11_columnX_0 rfl ?_
  refine PW.bipush (by decide) dX11_columnX_1 ?_
  refine PW.callSr (c_J9_floorMod_7cf53 (by first | assumption | (unfold inR; omega)) (by first | assumption | (unfold inR; omega)) (by omega) (by omega)) cs_J9_floorMod_7cf53 lk_X11_354 dX11_columnX_3 rfl rfl rfl ?_
  exact PW.iret rfl rfl dX11_columnX_6 ⟨ret_eq (Int.fmod_eq_emod_of_nonneg _ (by decide)), rfl, rfl⟩
theorem c_X11_columnY {G : GT} {S : Shp} {σ : Sto} {a : Int} (r : inR a) (h0 : 0 ≤ a) : PMet G mX11_columnY 1 0 0 [.int (iI a)] S σ (isP (some (.int (iI (a / 8)))) S σ) := by
  refine PMet.of [(0, .int (iI a))] (by decide +kernel) rfl (Nat.le_of_ble_eq_true rfl) ?_
  refine PW.iload_n dX11_columnY_0 rfl ?_
  refine PW.bipush (by decide) dX11_columnY_1 ?_
  refine PW.callSr (c_J9_floorDiv_7cf53 (by first | assumption | (unfold inR; omega)) (by first | assumption | (unfold inR; omega)) (by omega) (by omega)) cs_J9_floorDiv_7cf53 lk_X11_359 dX11_columnY_3 rfl rfl rfl ?_
  exact PW.iret rfl rfl dX11_columnY_6 ⟨ret_eq (Int.fdiv_eq_ediv_of_nonneg _ (by decide)), rfl, rfl⟩
theorem c_X11_flag {G : GT} {S : Shp} {σ : Sto} {P : Prop} [Decidable P]  : PMet G mX11_flag 0 0 0 [.int (iI (b01 P))] S σ (isP (some (.int (iI (b01 P)))) S σ) := by
  refine PMet.of [(0, .int (iI (b01 P)))] (by decide +kernel) rfl (Nat.le_of_ble_eq_true rfl) ?_
  refine PW.iload_n dX11_flag_0 rfl ?_
  refine PW.if_eqB 8 dX11_flag_1 (by decide) (fun h1 => ?_) (fun h1 => ?_)
  · refine PW.iconst dX11_flag_8 ?_
    exact PW.iret rfl rfl dX11_flag_9 ⟨ret_eq (by unfold b01; first | rw [if_pos h1] | rw [if_neg h1]), rfl, rfl⟩
  · refine PW.iconst dX11_flag_4 ?_
    refine PW.goto 9 dX11_flag_5 (by decide) ?_
    exact PW.iret rfl rfl dX11_flag_9 ⟨ret_eq (by unfold b01; first | rw [if_pos h1] | rw [if_neg h1]), rfl, rfl⟩
theorem c_X11_get {G : GT} {S : Shp} {σ : Sto} {a N : Nat} {i : Int} (hA : At S a (sA 0 N)) (hi : inR i) (hN : (N : Int) ≤ 2147483647) : PMet G mX11_get 0 0 0 [.ref a, .int (iI i)] S σ (isP (some (.int (iI (gI (σ a) N i)))) S σ) := by
  refine PMet.of [(0, .ref a), (1, .int (iI i))] (by decide +kernel) rfl (Nat.le_of_ble_eq_true rfl) ?_
  refine PW.aload_n dX11_get_0 rfl ?_
  refine PW.ifnull dX11_get_1 ?_
  refine PW.iload_n dX11_get_4 rfl ?_
  refine PW.if_lt 14 dX11_get_5 (by decide) (by first | assumption | (unfold inR; omega)) (fun h5 => ?_) (fun h5 => ?_)
  · refine PW.iconst dX11_get_14 ?_
    exact PW.iret rfl rfl dX11_get_15 ⟨ret_eq (by unfold gI; rw [if_neg (by omega)]), rfl, rfl⟩
  · refine PW.iload_n dX11_get_8 rfl ?_
    refine PW.aload_n dX11_get_9 rfl ?_
    refine PW.alen (by assumption) (by decide) dX11_get_10 ?_
    refine PW.icmp_lt 16 dX11_get_11 (by decide) (by first | assumption | (unfold inR; omega)) (by first | assumption | (unfold inR; omega)) (fun h11 => ?_) (fun h11 => ?_)
    · refine PW.aload_n dX11_get_16 rfl ?_
      refine PW.iload_n dX11_get_17 rfl ?_
      refine PW.iaload (by assumption) (by first | assumption | (unfold inR; omega)) (by omega) (by omega) dX11_get_18 ?_
      exact PW.iret rfl rfl dX11_get_19 ⟨ret_eq (by unfold gI; rw [if_pos (by omega)]), rfl, rfl⟩
    · refine PW.iconst dX11_get_14 ?_
      exact PW.iret rfl rfl dX11_get_15 ⟨ret_eq (by unfold gI; rw [if_neg (by omega)]), rfl, rfl⟩
theorem c_X11_put {G : GT} {S : Shp} {σ : Sto} {a N : Nat} {i : Int} {v : Int} (hA : At S a (sA 0 N)) (hi : inR i) (hN : (N : Int) ≤ 2147483647) : PMet G mX11_put 0 0 0 [.ref a, .int (iI i), .int (iI v)] S σ (isP none S (if 0 ≤ i ∧ i < N then upS σ a (up1 (σ a) i v) else σ)) := by
  refine PMet.of [(0, .ref a), (1, .int (iI i)), (2, .int (iI v))] (by decide +kernel) rfl (Nat.le_of_ble_eq_true rfl) ?_
  refine PW.aload_n dX11_put_0 rfl ?_
  refine PW.ifnull dX11_put_1 ?_
  refine PW.iload_n dX11_put_4 rfl ?_
  refine PW.if_lt 18 dX11_put_5 (by decide) (by first | assumption | (unfold inR; omega)) (fun h5 => ?_) (fun h5 => ?_)
  · exact PW.vret rfl dX11_put_18 (⟨rfl, rfl, (by first | rw [if_pos (by omega)] | rw [if_neg (by omega)])⟩)
  · refine PW.iload_n dX11_put_8 rfl ?_
    refine PW.aload_n dX11_put_9 rfl ?_
    refine PW.alen (by assumption) (by decide) dX11_put_10 ?_
    refine PW.icmp_ge 18 dX11_put_11 (by decide) (by first | assumption | (unfold inR; omega)) (by first | assumption | (unfold inR; omega)) (fun h11 => ?_) (fun h11 => ?_)
    · exact PW.vret rfl dX11_put_18 (⟨rfl, rfl, (by first | rw [if_pos (by omega)] | rw [if_neg (by omega)])⟩)
    · refine PW.aload_n dX11_put_14 rfl ?_
      refine PW.iload_n dX11_put_15 rfl ?_
      refine PW.iload_n dX11_put_16 rfl ?_
      refine PW.iastore (by assumption) (by first | assumption | (unfold inR; omega)) (by omega) (by omega) dX11_put_17 ?_
      exact PW.vret rfl dX11_put_18 (⟨rfl, rfl, (by first | rw [if_pos (by omega)] | rw [if_neg (by omega)])⟩)
theorem fill_loop {G : GT} {S : Shp} {σ : Sto} {d a N : Nat} {fr en v m : Int} {Q : Option Value → Shp → Sto → Prop} (hA : At S a (sA 0 N)) (hN : (N : Int) ≤ 2147483647) (he : inR en) (h0 : 0 ≤ m) (hm : inR m) (hQ : ∀ f : Int → Int, (∀ j, f j = if m ≤ j ∧ j < en ∧ j < N then v else σ a j) → Q none S (upS σ a f)) : ∀ (t : Nat) (i : Int), m ≤ i → (i = m ∨ (i ≤ en ∧ i ≤ N)) → (N : Int) - i < t → PW (fm G mX11_fill d 0 0 Q) G S (upS σ a (fun j => if m ≤ j ∧ j < i then v else σ a j)) 0 0 12 [(0, .ref a), (1, .int (iI fr)), (2, .int (iI en)), (3, .int (iI v)), (4, .int (iI i))] [] := by
  intro t
  induction t with
  | zero =>
    intro i h1 h2 h3
    have hi : inR i := by unfold inR at *; omega
    refine PW.iload dX11_fill_12 rfl ?_
    refine PW.iload_n dX11_fill_14 rfl ?_
    refine PW.icmp_ge 36 dX11_fill_15 (by decide) (by first | assumption | (unfold inR; omega)) (by first | assumption | (unfold inR; omega)) (fun h15 => ?_) (fun h15 => ?_)
    · refine PW.vret rfl dX11_fill_36 (hQ _ fun j => ?_)
      by_cases hj : m ≤ j ∧ j < i
      · rw [if_pos hj, if_pos (by omega)]
      · rw [if_neg hj, if_neg (by omega)]
    · refine PW.iload dX11_fill_18 rfl ?_
      refine PW.aload_n dX11_fill_20 rfl ?_
      refine PW.alen (by assumption) (by decide) dX11_fill_21 ?_
      refine PW.icmp_ge 36 dX11_fill_22 (by decide) (by first | assumption | (unfold inR; omega)) (by first | assumption | (unfold inR; omega)) (fun h22 => ?_) (fun h22 => ?_)
      · refine PW.vret rfl dX11_fill_36 (hQ _ fun j => ?_)
        by_cases hj : m ≤ j ∧ j < i
        · rw [if_pos hj, if_pos (by omega)]
        · rw [if_neg hj, if_neg (by omega)]
      · omega
  | succ t ih =>
    intro i h1 h2 h3
    have hi : inR i := by unfold inR at *; omega
    refine PW.iload dX11_fill_12 rfl ?_
    refine PW.iload_n dX11_fill_14 rfl ?_
    refine PW.icmp_ge 36 dX11_fill_15 (by decide) (by first | assumption | (unfold inR; omega)) (by first | assumption | (unfold inR; omega)) (fun h15 => ?_) (fun h15 => ?_)
    · refine PW.vret rfl dX11_fill_36 (hQ _ fun j => ?_)
      by_cases hj : m ≤ j ∧ j < i
      · rw [if_pos hj, if_pos (by omega)]
      · rw [if_neg hj, if_neg (by omega)]
    · refine PW.iload dX11_fill_18 rfl ?_
      refine PW.aload_n dX11_fill_20 rfl ?_
      refine PW.alen (by assumption) (by decide) dX11_fill_21 ?_
      refine PW.icmp_ge 36 dX11_fill_22 (by decide) (by first | assumption | (unfold inR; omega)) (by first | assumption | (unfold inR; omega)) (fun h22 => ?_) (fun h22 => ?_)
      · refine PW.vret rfl dX11_fill_36 (hQ _ fun j => ?_)
        by_cases hj : m ≤ j ∧ j < i
        · rw [if_pos hj, if_pos (by omega)]
        · rw [if_neg hj, if_neg (by omega)]
      · refine PW.aload_n dX11_fill_25 rfl ?_
        refine PW.iload dX11_fill_26 rfl ?_
        refine PW.iload_n dX11_fill_28 rfl ?_
        refine PW.iastore (by assumption) (by first | assumption | (unfold inR; omega)) (by omega) (by omega) dX11_fill_29 ?_
        refine PW.st (upS σ a (fun j => if m ≤ j ∧ j < i + 1 then v else σ a j)) (by
          rw [upS_upS, upS_same]
          congr 1
          funext j
          unfold up1
          dsimp only
          by_cases hj : j = i
          · rw [if_pos hj, if_pos (by omega)]
          · rw [if_neg hj]
            by_cases hk : m ≤ j ∧ j < i
            · rw [if_pos hk, if_pos (by omega)]
            · rw [if_neg hk, if_neg (by omega)]) ?_
        refine PW.iinc [(0, _), (1, _), (2, _), (3, _), (4, _)] dX11_fill_30 rfl rfl (Nat.le_of_ble_eq_true rfl) ?_
        refine PW.goto 12 dX11_fill_33 (by decide) ?_
        exact ih (i + 1) (by omega) (by omega) (by omega)
theorem c_X11_fill {G : GT} {S : Shp} {σ : Sto} {a N : Nat} {fr en v : Int} (hA : At S a (sA 0 N)) (hN : (N : Int) ≤ 2147483647) (hf : inR fr) (he : inR en) : PMet G mX11_fill 1 0 0 [.ref a, .int (iI fr), .int (iI en), .int (iI v)] S σ (isP none S (upS σ a (flI (σ a) fr en N v))) := by
  refine PMet.of [(0, .ref a), (1, .int (iI fr)), (2, .int (iI en)), (3, .int (iI v))] (by decide +kernel) rfl (Nat.le_of_ble_eq_true rfl) ?_
  refine PW.aload_n dX11_fill_0 rfl ?_
  refine PW.ifnonnull 5 dX11_fill_1 (by decide) ?_
  refine PW.iconst dX11_fill_5 ?_
  refine PW.iload_n dX11_fill_6 rfl ?_
  refine PW.callSr (c_J9_max_7cf53 (by first | assumption | (unfold inR; omega)) (by first | assumption | (unfold inR; omega))) cs_J9_max_7cf53 lk_X11_362 dX11_fill_7 rfl rfl rfl ?_
  refine PW.istore [(0, _), (1, _), (2, _), (3, _), (4, _)] dX11_fill_10 rfl (Nat.le_of_ble_eq_true rfl) ?_
  refine PW.st (upS σ a (fun j => if max 0 fr ≤ j ∧ j < max 0 fr then v else σ a j)) (by
    rw [show (fun j => if max 0 fr ≤ j ∧ j < max 0 fr then v else σ a j) = σ a from funext fun j => by rw [if_neg (by omega)], upS_self]) ?_
  refine fill_loop hA hN he (by omega) (by unfold inR at *; omega) (fun f hf' => ⟨rfl, rfl, ?_⟩) (N + 1) _ (by omega) (Or.inl rfl) (by omega)
  congr 1
  funext j
  rw [hf' j]
  unfold flI
  by_cases hj : max 0 fr ≤ j ∧ j < en ∧ j < N
  · rw [if_pos hj, if_pos (by omega)]
  · rw [if_neg hj, if_neg (by omega)]
theorem c_X11_copy {G : GT} {S : Shp} {σ : Sto} {a0 a n0 n1 : Nat} {sp dp m0 : Int} (hA0 : At S a0 (sA 0 n0)) (hA : At S a (sA 0 n1)) (hN0 : (n0 : Int) ≤ 1000000) (hN : (n1 : Int) ≤ 1000000) (r1 : inR sp) (r2 : inR dp) (r3 : -1000000000 ≤ m0 ∧ m0 ≤ 1000000000) : PMet G mX11_copy 1 0 0 [.ref a0, .int (iI sp), .ref a, .int (iI dp), .int (iI m0)] S σ (isP none S (if 0 ≤ sp ∧ 0 ≤ dp ∧ 0 < m0 ∧ sp + m0 ≤ n0 ∧ dp + m0 ≤ n1 then upS σ a (cpF (σ a0) (σ a) sp dp m0) else σ)) := by
  refine PMet.of [(0, .ref a0), (1, .int (iI sp)), (2, .ref a), (3, .int (iI dp)), (4, .int (iI m0))] (by decide +kernel) rfl (Nat.le_of_ble_eq_true rfl) ?_
  refine PW.aload_n dX11_copy_0 rfl ?_
  refine PW.ifnull dX11_copy_1 ?_
  refine PW.aload_n dX11_copy_4 rfl ?_
  refine PW.ifnull dX11_copy_5 ?_
  refine PW.iload_n dX11_copy_8 rfl ?_
  refine PW.if_lt 21 dX11_copy_9 (by decide) (by first | assumption | (unfold inR; omega)) (fun h9 => ?_) (fun h9 => ?_)
  · exact PW.vret rfl dX11_copy_21 (⟨rfl, rfl, (by first | rw [if_pos (by omega)] | rw [if_neg (by omega)])⟩)
  · refine PW.iload_n dX11_copy_12 rfl ?_
    refine PW.if_lt 21 dX11_copy_13 (by decide) (by first | assumption | (unfold inR; omega)) (fun h13 => ?_) (fun h13 => ?_)
    · exact PW.vret rfl dX11_copy_21 (⟨rfl, rfl, (by first | rw [if_pos (by omega)] | rw [if_neg (by omega)])⟩)
    · refine PW.iload dX11_copy_16 rfl ?_
      refine PW.if_gt 22 dX11_copy_18 (by decide) (by first | assumption | (unfold inR; omega)) (fun h18 => ?_) (fun h18 => ?_)
      · refine PW.iload_n dX11_copy_22 rfl ?_
        refine PW.aload_n dX11_copy_23 rfl ?_
        refine PW.alen (by assumption) (by decide) dX11_copy_24 ?_
        refine PW.iload dX11_copy_25 rfl ?_
        refine PW.isub dX11_copy_27 ?_
        refine PW.icmp_gt 40 dX11_copy_28 (by decide) (by first | assumption | (unfold inR; omega)) (by first | assumption | (unfold inR; omega)) (fun h28 => ?_) (fun h28 => ?_)
        · exact PW.vret rfl dX11_copy_40 (⟨rfl, rfl, (by first | rw [if_pos (by omega)] | rw [if_neg (by omega)])⟩)
        · refine PW.iload_n dX11_copy_31 rfl ?_
          refine PW.aload_n dX11_copy_32 rfl ?_
          refine PW.alen (by assumption) (by decide) dX11_copy_33 ?_
          refine PW.iload dX11_copy_34 rfl ?_
          refine PW.isub dX11_copy_36 ?_
          refine PW.icmp_le 41 dX11_copy_37 (by decide) (by first | assumption | (unfold inR; omega)) (by first | assumption | (unfold inR; omega)) (fun h37 => ?_) (fun h37 => ?_)
          · refine PW.aload_n dX11_copy_41 rfl ?_
            refine PW.iload_n dX11_copy_42 rfl ?_
            refine PW.aload_n dX11_copy_43 rfl ?_
            refine PW.iload_n dX11_copy_44 rfl ?_
            refine PW.iload dX11_copy_45 rfl ?_
            refine PW.copyI lc_X11 rfl (by assumption) (by assumption) (by first | assumption | (unfold inR; omega)) (by first | assumption | (unfold inR; omega)) (by first | assumption | (unfold inR; omega)) (by omega) (by omega) (by omega) (by omega) (by omega) (Nat.le_of_ble_eq_true rfl) ⟨Nat.le_of_ble_eq_true rfl, Nat.le_of_ble_eq_true rfl⟩ dX11_copy_47 ?_
            exact PW.vret rfl dX11_copy_50 (⟨rfl, rfl, (by first | rw [if_pos (by omega)] | rw [if_neg (by omega)])⟩)
          · exact PW.vret rfl dX11_copy_40 (⟨rfl, rfl, (by first | rw [if_pos (by omega)] | rw [if_neg (by omega)])⟩)
      · exact PW.vret rfl dX11_copy_21 (⟨rfl, rfl, (by first | rw [if_pos (by omega)] | rw [if_neg (by omega)])⟩)

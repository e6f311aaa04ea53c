theorem ite_up {P : Prop} [Decidable P] {σ : Sto} {a : Nat} {f : Int → Int} : (if P then upS σ a f else σ) = upS σ a (if P then f else σ a) := by
  split
  · rfl
  · exact (upS_self σ a).symm
/-- a new COLUMN, over what its row held -/
def bgF (c : Int → Int) : Int → Int := fun i => if 0 ≤ i ∧ i < 80 then (if i < 40 then 15 else -1) else c i
def cp8 (c e : Int → Int) : Int → Int := fun i => if 0 ≤ i ∧ i < 80 then e i else c i
theorem bgF_ok (c : Int → Int) : colOk (bgF c) := by
  intro i h0 h1
  unfold bgF
  split
  · split <;> omega
  · omega
theorem c_X1_begin {G : GT} {S : Shp} {σ : Sto} {a : Nat} (hA : IsCol S a) : PMet G mX1_begin 2 0 0 [.ref a] S σ (isP none S (upS σ (a + 1) (bgF (σ (a + 1))))) := by
  obtain ⟨hA0, hA1⟩ := id hA
  refine PMet.of [(0, .ref a)] (by decide +kernel) rfl (Nat.le_of_ble_eq_true rfl) ?_
  refine PW.aload_n dX1_begin_0 rfl ?_
  refine PW.getR fl_X1_9 rfl (by assumption) rfl dX1_begin_1 ?_
  refine PW.iconst dX1_begin_4 ?_
  refine PW.bipush (by decide) dX1_begin_5 ?_
  refine PW.bipush (by decide) dX1_begin_7 ?_
  refine PW.callSv (c_X11_fill (by assumption) (by decide) (by first | assumption | (unfold inR; omega)) (by first | assumption | (unfold inR; omega))) cs_X11_fill lk_X1_22 dX1_begin_9 rfl rfl rfl ?_
  refine PW.aload_n dX1_begin_12 rfl ?_
  refine PW.getR fl_X1_9 rfl (by assumption) rfl dX1_begin_13 ?_
  refine PW.bipush (by decide) dX1_begin_16 ?_
  refine PW.bipush (by decide) dX1_begin_18 ?_
  refine PW.iconst dX1_begin_20 ?_
  refine PW.callSv (c_X11_fill (by assumption) (by decide) (by first | assumption | (unfold inR; omega)) (by first | assumption | (unfold inR; omega))) cs_X11_fill lk_X1_22 dX1_begin_21 rfl rfl rfl ?_
  refine PW.vret rfl dX1_begin_24 ⟨rfl, rfl, ?_⟩
  rw [upS_upS, upS_same]
  refine congrArg (upS σ (a + 1)) (funext fun j => ?_)
  simp only [bgF, flI]
  by_cases q1 : 0 ≤ j ∧ j < 80
  · rw [if_pos q1]
    by_cases q2 : j < 40
    · rw [if_pos q2, if_neg (by omega), if_pos (by omega)]
    · rw [if_neg q2, if_pos (by omega)]
  · rw [if_neg q1, if_neg (by omega), if_neg (by omega)]
theorem c_X1_become {G : GT} {S : Shp} {σ : Sto} {a b : Nat} (hA : IsCol S a) (hB : IsCol S b) : PMet G mX1_become 2 0 0 [.ref a, .ref b] S σ (isP none S (upS σ (a + 1) (cp8 (σ (a + 1)) (σ (b + 1))))) := by
  obtain ⟨hA0, hA1⟩ := id hA
  obtain ⟨hB0, hB1⟩ := id hB
  refine PMet.of [(0, .ref a), (1, .ref b)] (by decide +kernel) rfl (Nat.le_of_ble_eq_true rfl) ?_
  refine PW.aload_n dX1_become_0 rfl ?_
  refine PW.ifnull dX1_become_1 ?_
  refine PW.aload_n dX1_become_4 rfl ?_
  refine PW.getR fl_X1_9 rfl (by assumption) rfl dX1_become_5 ?_
  refine PW.iconst dX1_become_8 ?_
  refine PW.aload_n dX1_become_9 rfl ?_
  refine PW.getR fl_X1_9 rfl (by assumption) rfl dX1_become_10 ?_
  refine PW.iconst dX1_become_13 ?_
  refine PW.bipush (by decide) dX1_become_14 ?_
  refine PW.callSv (c_X11_copy (by assumption) (by assumption) (by decide) (by decide) (by first | assumption | (unfold inR; omega)) (by first | assumption | (unfold inR; omega)) (by omega)) cs_X11_copy lk_X1_18 dX1_become_16 rfl rfl rfl ?_
  refine PW.vret rfl dX1_become_19 ⟨rfl, rfl, ?_⟩
  rw [if_pos (by decide)]
  refine congrArg (upS σ (a + 1)) (funext fun j => ?_)
  simp only [cp8, cpF]
  by_cases q1 : 0 ≤ j ∧ j < 80
  · rw [if_pos q1, if_pos (by omega)]
    congr 1
    omega
  · rw [if_neg q1, if_neg (by omega)]
theorem c_X1_move {G : GT} {S : Shp} {σ : Sto} {a : Nat} {lo hi m : Int} (hA : IsCol S a) (hl : -10000 ≤ lo ∧ lo ≤ 10000) (he : -10000 ≤ hi ∧ hi ≤ 10000) (hm : -10000 ≤ m ∧ m ≤ 10000) : PMet G mX1_move 2 0 0 [.ref a, .int (iI lo), .int (iI hi), .int (iI m)] S σ (isP none S (upS σ (a + 1) (mvF (σ (a + 1)) lo hi m))) := by
  obtain ⟨hA0, hA1⟩ := id hA
  refine PMet.of [(0, .ref a), (1, .int (iI (lo))), (2, .int (iI (hi))), (3, .int (iI (m)))] (by decide +kernel) rfl (Nat.le_of_ble_eq_true rfl) ?_
  refine PW.iload_n dX1_move_0 rfl ?_
  refine PW.bipush (by decide) dX1_move_1 ?_
  refine PW.callSr (c_J9_max_7cf53 (by first | assumption | (unfold inR; omega)) (by first | assumption | (unfold inR; omega))) cs_J9_max_7cf53 lk_X1_98 dX1_move_3 rfl rfl rfl ?_
  refine PW.istore [(0, _), (1, _), (2, _), (3, _), (4, _)] dX1_move_6 rfl (Nat.le_of_ble_eq_true rfl) ?_
  refine PW.iload_n dX1_move_8 rfl ?_
  refine PW.bipush (by decide) dX1_move_9 ?_
  refine PW.callSr (c_J9_min_7cf53 (by first | assumption | (unfold inR; omega)) (by first | assumption | (unfold inR; omega))) cs_J9_min_7cf53 lk_X1_91 dX1_move_11 rfl rfl rfl ?_
  refine PW.istore [(0, _), (1, _), (2, _), (3, _), (4, _), (5, _)] dX1_move_14 rfl (Nat.le_of_ble_eq_true rfl) ?_
  refine PW.iload dX1_move_16 rfl ?_
  refine PW.bipush (by decide) dX1_move_18 ?_
  refine PW.iload_n dX1_move_20 rfl ?_
  refine PW.iadd dX1_move_21 ?_
  refine PW.callSr (c_J9_max_7cf53 (by first | assumption | (unfold inR; omega)) (by first | assumption | (unfold inR; omega))) cs_J9_max_7cf53 lk_X1_98 dX1_move_22 rfl rfl rfl ?_
  refine PW.istore [(0, _), (1, _), (2, _), (3, _), (4, _), (5, _), (6, _)] dX1_move_25 rfl (Nat.le_of_ble_eq_true rfl) ?_
  refine PW.iload dX1_move_27 rfl ?_
  refine PW.bipush (by decide) dX1_move_29 ?_
  refine PW.iload_n dX1_move_31 rfl ?_
  refine PW.iadd dX1_move_32 ?_
  refine PW.callSr (c_J9_min_7cf53 (by first | assumption | (unfold inR; omega)) (by first | assumption | (unfold inR; omega))) cs_J9_min_7cf53 lk_X1_91 dX1_move_33 rfl rfl rfl ?_
  refine PW.istore [(0, _), (1, _), (2, _), (3, _), (4, _), (5, _), (6, _), (7, _)] dX1_move_36 rfl (Nat.le_of_ble_eq_true rfl) ?_
  refine PW.aload_n dX1_move_38 rfl ?_
  refine PW.getR fl_X1_9 rfl (by assumption) rfl dX1_move_39 ?_
  refine PW.iload dX1_move_42 rfl ?_
  refine PW.iload_n dX1_move_44 rfl ?_
  refine PW.isub dX1_move_45 ?_
  refine PW.bipush (by decide) dX1_move_46 ?_
  refine PW.isub dX1_move_48 ?_
  refine PW.aload_n dX1_move_49 rfl ?_
  refine PW.getR fl_X1_9 rfl (by assumption) rfl dX1_move_50 ?_
  refine PW.iload dX1_move_53 rfl ?_
  refine PW.bipush (by decide) dX1_move_55 ?_
  refine PW.isub dX1_move_57 ?_
  refine PW.iload dX1_move_58 rfl ?_
  refine PW.iload dX1_move_60 rfl ?_
  refine PW.isub dX1_move_62 ?_
  refine PW.iconst dX1_move_63 ?_
  refine PW.iadd dX1_move_64 ?_
  refine PW.callSv (c_X11_copy (by assumption) (by assumption) (by decide) (by decide) (by first | assumption | (unfold inR; omega)) (by first | assumption | (unfold inR; omega)) (by omega)) cs_X11_copy lk_X1_18 dX1_move_65 rfl rfl rfl ?_
  refine PW.st _ ite_up ?_
  refine PW.aload_n dX1_move_68 rfl ?_
  refine PW.iload dX1_move_69 rfl ?_
  refine PW.iload dX1_move_71 rfl ?_
  refine PW.bipush (by decide) dX1_move_73 ?_
  refine PW.iload_n dX1_move_75 rfl ?_
  refine PW.iadd dX1_move_76 ?_
  refine PW.iconst dX1_move_77 ?_
  refine PW.isub dX1_move_78 ?_
  refine PW.callSr (c_J9_min_7cf53 (by first | assumption | (unfold inR; omega)) (by first | assumption | (unfold inR; omega))) cs_J9_min_7cf53 lk_X1_91 dX1_move_79 rfl rfl rfl ?_
  refine PW.bipush (by decide) dX1_move_82 ?_
  refine PW.callVv (c_X1_fillHeights (by assumption) (by omega) (by omega)) cv_X1_fillHeights lk_X1_77 (by first | assumption | exact And.left (by assumption)) dX1_move_84 rfl rfl rfl rfl ?_
  refine PW.aload_n dX1_move_87 rfl ?_
  refine PW.iload dX1_move_88 rfl ?_
  refine PW.bipush (by decide) dX1_move_90 ?_
  refine PW.iload_n dX1_move_92 rfl ?_
  refine PW.iadd dX1_move_93 ?_
  refine PW.iconst dX1_move_94 ?_
  refine PW.iadd dX1_move_95 ?_
  refine PW.callSr (c_J9_max_7cf53 (by first | assumption | (unfold inR; omega)) (by first | assumption | (unfold inR; omega))) cs_J9_max_7cf53 lk_X1_98 dX1_move_96 rfl rfl rfl ?_
  refine PW.iload dX1_move_99 rfl ?_
  refine PW.iconst dX1_move_101 ?_
  refine PW.callVv (c_X1_fillHeights (by assumption) (by omega) (by omega)) cv_X1_fillHeights lk_X1_77 (by first | assumption | exact And.left (by assumption)) dX1_move_102 rfl rfl rfl rfl ?_
  refine PW.vret rfl dX1_move_105 ⟨rfl, rfl, ?_⟩
  simp only [upS_upS, upS_same]
  refine congrArg (upS σ (a + 1)) (funext fun j => ?_)
  simp only [fhF, mvF]
  by_cases q1 : 0 ≤ j ∧ j < 80 ∧ lo ≤ j - 40 ∧ j - 40 ≤ hi
  · rw [if_pos q1]
    by_cases q2 : j - 40 - m < -40
    · rw [if_pos q2, if_neg (by omega), if_pos (by omega)]
    · rw [if_neg q2]
      by_cases q3 : 39 < j - 40 - m
      · rw [if_pos q3, if_pos (by omega)]
      · rw [if_neg q3, if_neg (by omega), if_neg (by omega), if_pos (by omega)]
        simp only [cpF]
        rw [if_pos (by omega)]
        congr 1
        omega
  · rw [if_neg q1, if_neg (by omega), if_neg (by omega)]
    split
    · simp only [cpF]
      rw [if_neg (by omega)]
    · rfl
theorem int_loop {G : GT} {S : Shp} {σ : Sto} {a : Nat} {v h : Int} {Q : Option Value → Shp → Sto → Prop} (hA : IsCol S a) (hC : colOk (σ (a + 1))) (hh : -40 ≤ h ∧ h ≤ 39) (hQ : Q none S (upS σ (a + 1) (inF (σ (a + 1)) v h))) : ∀ (t : Nat) (i : Int), 0 ≤ i → i ≤ h + 41 → h + 41 - i < t → PW (fm G mX1_intrude 0 0 0 Q) G S (upS σ (a + 1) (fun j => if 0 ≤ j ∧ j < i ∧ ¬ σ (a + 1) j = -1 then v else σ (a + 1) j)) 0 0 2 [(0, .ref a), (1, .int (iI (v))), (2, .int (iI (h))), (3, .int (iI (i)))] [] := by
  obtain ⟨hA0, hA1⟩ := id hA
  intro t
  induction t with
  | zero => intro i h1 h2 h3; omega
  | succ t ih =>
    intro i h1 h2 h3
    refine PW.iload_n dX1_intrude_2 rfl ?_
    refine PW.iload_n dX1_intrude_3 rfl ?_
    refine PW.bipush (by decide) dX1_intrude_4 ?_
    refine PW.isub dX1_intrude_6 ?_
    refine PW.icmp_gt 42 dX1_intrude_7 (by decide) (by first | (unfold inR; omega) | (have := hC i (by omega) (by omega); unfold inR; omega)) (by first | (unfold inR; omega) | (have := hC i (by omega) (by omega); unfold inR; omega)) (fun h7 => ?_) (fun h7 => ?_)
    · refine PW.vret rfl dX1_intrude_42 ?_
      have e : (fun j => if 0 ≤ j ∧ j < i ∧ ¬ σ (a + 1) j = -1 then v else σ (a + 1) j) = inF (σ (a + 1)) v h := by
        funext j
        unfold inF
        have e : (0 ≤ j ∧ j < i ∧ ¬ σ (a + 1) j = -1) ↔ (0 ≤ j ∧ j < 80 ∧ j - 40 ≤ h ∧ ¬ σ (a + 1) j = -1) := by omega
        simp only [e]
      rw [e]
      exact hQ
    · refine PW.iload_n dX1_intrude_10 rfl ?_
      refine PW.aload_n dX1_intrude_11 rfl ?_
      refine PW.getR fl_X1_9 rfl (by assumption) rfl dX1_intrude_12 ?_
      refine PW.alen (by assumption) (by decide) dX1_intrude_15 ?_
      refine PW.icmp_ge 42 dX1_intrude_16 (by decide) (by first | (unfold inR; omega) | (have := hC i (by omega) (by omega); unfold inR; omega)) (by first | (unfold inR; omega) | (have := hC i (by omega) (by omega); unfold inR; omega)) (fun h16 => ?_) (fun h16 => ?_)
      · refine PW.vret rfl dX1_intrude_42 ?_
        have e : (fun j => if 0 ≤ j ∧ j < i ∧ ¬ σ (a + 1) j = -1 then v else σ (a + 1) j) = inF (σ (a + 1)) v h := by
          funext j
          unfold inF
          have e : (0 ≤ j ∧ j < i ∧ ¬ σ (a + 1) j = -1) ↔ (0 ≤ j ∧ j < 80 ∧ j - 40 ≤ h ∧ ¬ σ (a + 1) j = -1) := by omega
          simp only [e]
        rw [e]
        exact hQ
      · refine PW.aload_n dX1_intrude_19 rfl ?_
        refine PW.getR fl_X1_9 rfl (by assumption) rfl dX1_intrude_20 ?_
        refine PW.iload_n dX1_intrude_23 rfl ?_
        refine PW.iaload (by assumption) (by first | (unfold inR; omega) | (have := hC i (by omega) (by omega); unfold inR; omega)) (by omega) (by omega) dX1_intrude_24 ?_
        refine PW.top (σ (a + 1) i) (by rw [upS_same, if_neg (by omega)]) ?_
        refine PW.iconst dX1_intrude_25 ?_
        refine PW.icmp_eq 36 dX1_intrude_26 (by decide) (by first | (unfold inR; omega) | (have := hC i (by omega) (by omega); unfold inR; omega)) (by first | (unfold inR; omega) | (have := hC i (by omega) (by omega); unfold inR; omega)) (fun h26 => ?_) (fun h26 => ?_)
        · refine PW.iinc [(0, _), (1, _), (2, _), (3, _)] dX1_intrude_36 rfl rfl (Nat.le_of_ble_eq_true rfl) ?_
          refine PW.goto 2 dX1_intrude_39 (by decide) ?_
          refine PW.st (upS σ (a + 1) (fun j => if 0 ≤ j ∧ j < i + 1 ∧ ¬ σ (a + 1) j = -1 then v else σ (a + 1) j)) ?_ (ih (i + 1) (by omega) (by omega) (by omega))
          first
            | rw [upS_upS, upS_same]
            | skip
          refine congrArg (upS σ (a + 1)) (funext fun j => ?_)
          try unfold up1
          try dsimp only
          by_cases hj : j = i
          · subst hj
            simp_all
            try omega
          · have e : (0 ≤ j ∧ j < i ∧ ¬ σ (a + 1) j = -1) ↔ (0 ≤ j ∧ j < i + 1 ∧ ¬ σ (a + 1) j = -1) := by omega
            simp only [if_neg hj, e]
        · refine PW.aload_n dX1_intrude_29 rfl ?_
          refine PW.getR fl_X1_9 rfl (by assumption) rfl dX1_intrude_30 ?_
          refine PW.iload_n dX1_intrude_33 rfl ?_
          refine PW.iload_n dX1_intrude_34 rfl ?_
          refine PW.iastore (by assumption) (by first | (unfold inR; omega) | (have := hC i (by omega) (by omega); unfold inR; omega)) (by omega) (by omega) dX1_intrude_35 ?_
          refine PW.iinc [(0, _), (1, _), (2, _), (3, _)] dX1_intrude_36 rfl rfl (Nat.le_of_ble_eq_true rfl) ?_
          refine PW.goto 2 dX1_intrude_39 (by decide) ?_
          refine PW.st (upS σ (a + 1) (fun j => if 0 ≤ j ∧ j < i + 1 ∧ ¬ σ (a + 1) j = -1 then v else σ (a + 1) j)) ?_ (ih (i + 1) (by omega) (by omega) (by omega))
          first
            | rw [upS_upS, upS_same]
            | skip
          refine congrArg (upS σ (a + 1)) (funext fun j => ?_)
          try unfold up1
          try dsimp only
          by_cases hj : j = i
          · subst hj
            simp_all
            try omega
          · have e : (0 ≤ j ∧ j < i ∧ ¬ σ (a + 1) j = -1) ↔ (0 ≤ j ∧ j < i + 1 ∧ ¬ σ (a + 1) j = -1) := by omega
            simp only [if_neg hj, e]
theorem c_X1_intrude {G : GT} {S : Shp} {σ : Sto} {a : Nat} {v h : Int} (hA : IsCol S a) (hC : colOk (σ (a + 1))) (hh : -40 ≤ h ∧ h ≤ 39) : PMet G mX1_intrude 0 0 0 [.ref a, .int (iI v), .int (iI h)] S σ (isP none S (upS σ (a + 1) (inF (σ (a + 1)) v h))) := by
  obtain ⟨hA0, hA1⟩ := id hA
  refine PMet.of [(0, .ref a), (1, .int (iI (v))), (2, .int (iI (h)))] (by decide +kernel) rfl (Nat.le_of_ble_eq_true rfl) ?_
  refine PW.iconst dX1_intrude_0 ?_
  refine PW.istore_n [(0, _), (1, _), (2, _), (3, _)] dX1_intrude_1 rfl (Nat.le_of_ble_eq_true rfl) ?_
  refine PW.st (upS σ (a + 1) (fun j => if 0 ≤ j ∧ j < 0 ∧ ¬ σ (a + 1) j = -1 then v else σ (a + 1) j)) ?_ (int_loop hA hC hh ⟨rfl, rfl, rfl⟩ 81 0 (by omega) (by omega) (by omega))
  rw [show (fun j => if 0 ≤ j ∧ j < 0 ∧ ¬ σ (a + 1) j = -1 then v else σ (a + 1) j) = σ (a + 1) from funext fun j => by rw [if_neg (by omega)], upS_self]
theorem ok_0 {a b c d e : Int} (h : okEv 0 a b c d e) : (0 ≤ a ∧ a ≤ 14) ∧ (1 ≤ b ∧ b ≤ 8) := by
  obtain ⟨-, h0, h1, h2, h3, h4, h5⟩ := h
  have e := (show xT 0 0 = 2 by decide)
  have l0 := (show xT 2 (5 * 0 + 0) = 0 by decide)
  have u0 := (show xT 3 (5 * 0 + 0) = 14 by decide)
  have l1 := (show xT 2 (5 * 0 + 1) = 1 by decide)
  have u1 := (show xT 3 (5 * 0 + 1) = 8 by decide)
  unfold suF at h1 h2 h3 h4 h5
  rw [e, l0, u0] at h1
  rw [e, l1, u1] at h2
  omega
theorem ok_1 {a b c d e : Int} (h : okEv 1 a b c d e) : (-8 ≤ a ∧ a ≤ 8) ∧ (-8 ≤ b ∧ b ≤ 8) := by
  obtain ⟨-, h0, h1, h2, h3, h4, h5⟩ := h
  have e := (show xT 0 1 = 2 by decide)
  have l0 := (show xT 2 (5 * 1 + 0) = -8 by decide)
  have u0 := (show xT 3 (5 * 1 + 0) = 8 by decide)
  have l1 := (show xT 2 (5 * 1 + 1) = -8 by decide)
  have u1 := (show xT 3 (5 * 1 + 1) = 8 by decide)
  unfold suF at h1 h2 h3 h4 h5
  rw [e, l0, u0] at h1
  rw [e, l1, u1] at h2
  omega
theorem ok_2 {a b c d e : Int} (h : okEv 2 a b c d e) : (0 ≤ a ∧ a ≤ 1) ∧ (-8 ≤ b ∧ b ≤ 8) ∧ (2 ≤ c ∧ c ≤ 8) ∧ (0 ≤ d ∧ d ≤ 7) := by
  obtain ⟨-, h0, h1, h2, h3, h4, h5⟩ := h
  have e := (show xT 0 2 = 4 by decide)
  have l0 := (show xT 2 (5 * 2 + 0) = 0 by decide)
  have u0 := (show xT 3 (5 * 2 + 0) = 1 by decide)
  have l1 := (show xT 2 (5 * 2 + 1) = -8 by decide)
  have u1 := (show xT 3 (5 * 2 + 1) = 8 by decide)
  have l2 := (show xT 2 (5 * 2 + 2) = 2 by decide)
  have u2 := (show xT 3 (5 * 2 + 2) = 8 by decide)
  have l3 := (show xT 2 (5 * 2 + 3) = 0 by decide)
  have u3 := (show xT 3 (5 * 2 + 3) = 7 by decide)
  unfold suF at h1 h2 h3 h4 h5
  rw [e, l0, u0] at h1
  rw [e, l1, u1] at h2
  rw [e, l2, u2] at h3
  rw [e, l3, u3] at h4
  omega
theorem ok_3 {a b c d e : Int} (h : okEv 3 a b c d e) : (0 ≤ a ∧ a ≤ 1) ∧ (0 ≤ b ∧ b ≤ 7) ∧ (-16 ≤ c ∧ c ≤ 16) ∧ (-2 ≤ d ∧ d ≤ 2) := by
  obtain ⟨-, h0, h1, h2, h3, h4, h5⟩ := h
  have e := (show xT 0 3 = 4 by decide)
  have l0 := (show xT 2 (5 * 3 + 0) = 0 by decide)
  have u0 := (show xT 3 (5 * 3 + 0) = 1 by decide)
  have l1 := (show xT 2 (5 * 3 + 1) = 0 by decide)
  have u1 := (show xT 3 (5 * 3 + 1) = 7 by decide)
  have l2 := (show xT 2 (5 * 3 + 2) = -16 by decide)
  have u2 := (show xT 3 (5 * 3 + 2) = 16 by decide)
  have l3 := (show xT 2 (5 * 3 + 3) = -2 by decide)
  have u3 := (show xT 3 (5 * 3 + 3) = 2 by decide)
  unfold suF at h1 h2 h3 h4 h5
  rw [e, l0, u0] at h1
  rw [e, l1, u1] at h2
  rw [e, l2, u2] at h3
  rw [e, l3, u3] at h4
  omega
theorem ok_4 {a b c d e : Int} (h : okEv 4 a b c d e) : (-30 ≤ a ∧ a ≤ 39) ∧ (-8 ≤ b ∧ b ≤ 8) ∧ (-8 ≤ c ∧ c ≤ 8) := by
  obtain ⟨-, h0, h1, h2, h3, h4, h5⟩ := h
  have e := (show xT 0 4 = 3 by decide)
  have l0 := (show xT 2 (5 * 4 + 0) = -30 by decide)
  have u0 := (show xT 3 (5 * 4 + 0) = 39 by decide)
  have l1 := (show xT 2 (5 * 4 + 1) = -8 by decide)
  have u1 := (show xT 3 (5 * 4 + 1) = 8 by decide)
  have l2 := (show xT 2 (5 * 4 + 2) = -8 by decide)
  have u2 := (show xT 3 (5 * 4 + 2) = 8 by decide)
  unfold suF at h1 h2 h3 h4 h5
  rw [e, l0, u0] at h1
  rw [e, l1, u1] at h2
  rw [e, l2, u2] at h3
  omega
theorem ok_5 {a b c d e : Int} (h : okEv 5 a b c d e) : (0 ≤ a ∧ a ≤ 14) ∧ (0 ≤ b ∧ b ≤ 1) ∧ (0 ≤ c ∧ c ≤ 7) ∧ (0 ≤ d ∧ d ≤ 7) ∧ (-40 ≤ e ∧ e ≤ 39) ∧ c ≤ d := by
  obtain ⟨-, h0, h1, h2, h3, h4, h5⟩ := h
  have e := (show xT 0 5 = 5 by decide)
  have l0 := (show xT 2 (5 * 5 + 0) = 0 by decide)
  have u0 := (show xT 3 (5 * 5 + 0) = 14 by decide)
  have l1 := (show xT 2 (5 * 5 + 1) = 0 by decide)
  have u1 := (show xT 3 (5 * 5 + 1) = 1 by decide)
  have l2 := (show xT 2 (5 * 5 + 2) = 0 by decide)
  have u2 := (show xT 3 (5 * 5 + 2) = 7 by decide)
  have l3 := (show xT 2 (5 * 5 + 3) = 0 by decide)
  have u3 := (show xT 3 (5 * 5 + 3) = 7 by decide)
  have l4 := (show xT 2 (5 * 5 + 4) = -40 by decide)
  have u4 := (show xT 3 (5 * 5 + 4) = 39 by decide)
  unfold suF at h1 h2 h3 h4 h5
  rw [e, l0, u0] at h1
  rw [e, l1, u1] at h2
  rw [e, l2, u2] at h3
  rw [e, l3, u3] at h4
  rw [e, l4, u4] at h5
  omega
/-- what an event of kind k makes of the column with number n -/
def evC (k a b c d e n : Int) (col : Int → Int) : Int → Int :=
  if k = 0 then lyF col a b
  else if k = 1 then mvF col (-40) 39 (slF a b (n % 8) (n / 8))
  else if k = 2 then mvF col (-40) 39 (frF b c d (soF a (n % 8) (n / 8)))
  else if k = 3 then mvF col (fbF (b - soF a (n % 8) (n / 8)) d) (lbF (b - soF a (n % 8) (n / 8)) d) c
  else if k = 4 then fhF col (a + slF b c (n % 8) (n / 8)) 39 (-1)
  else if c ≤ soF b (n % 8) (n / 8) ∧ soF b (n % 8) (n / 8) ≤ d then inF col a e else col
abbrev evR (f : Int → Int) (i n : Int) (col : Int → Int) : Int → Int := evC (f (7 * i)) (f (7 * i + 1 + 0)) (f (7 * i + 1 + 1)) (f (7 * i + 1 + 2)) (f (7 * i + 1 + 3)) (f (7 * i + 1 + 4)) n col
theorem soF_b {ax n : Int} (h : 0 ≤ n ∧ n ≤ 63) : 0 ≤ soF ax (n % 8) (n / 8) ∧ soF ax (n % 8) (n / 8) ≤ 7 := by
  unfold soF
  split <;> omega
theorem c_X1_befall {G : GT} {S : Shp} {σ : Sto} {a b : Nat} {i n : Int} (hA : IsCol S a) (hB : IsTale S b) (hC : colOk (σ (a + 1))) (hi : 0 ≤ i ∧ i ≤ 15) (hE : evOk (σ (b + 1)) i) (hn : 0 ≤ n ∧ n ≤ 63) : PMet G mX1_befall 3 0 0 [.ref a, .ref b, .int (iI i), .int (iI n)] S σ (isP none S (upS σ (a + 1) (evR (σ (b + 1)) i n (σ (a + 1))))) := by
  obtain ⟨hA0, hA1⟩ := id hA
  obtain ⟨hB0, hB1, hB2⟩ := id hB
  obtain ⟨hev, hnum, -⟩ := id hE
  have hk := hev.1
  have n0 := hnum 0 (by omega) (by omega)
  have n1 := hnum 1 (by omega) (by omega)
  have n2 := hnum 2 (by omega) (by omega)
  have n3 := hnum 3 (by omega) (by omega)
  have n4 := hnum 4 (by omega) (by omega)
  have s0 := soF_b (ax := σ (b + 1) (7 * i + 1 + 0)) hn
  have s1 := soF_b (ax := σ (b + 1) (7 * i + 1 + 1)) hn
  have m1 : 0 ≤ n % 8 ∧ n % 8 ≤ 7 := by omega
  have m2 : 0 ≤ n / 8 ∧ n / 8 ≤ 7 := by omega
  refine PMet.of [(0, .ref a), (1, .ref b), (2, .int (iI (i))), (3, .int (iI (n)))] (by decide +kernel) rfl (Nat.le_of_ble_eq_true rfl) ?_
  refine PW.aload_n dX1_befall_0 rfl ?_
  refine PW.ifnonnull 5 dX1_befall_1 (by decide) ?_
  refine PW.iload_n dX1_befall_5 rfl ?_
  refine PW.callSr (c_X11_columnX (by first | assumption | (unfold inR; omega)) (by omega)) cs_X11_columnX lk_X1_34 dX1_befall_6 rfl rfl rfl ?_
  refine PW.istore [(0, _), (1, _), (2, _), (3, _), (4, _)] dX1_befall_9 rfl (Nat.le_of_ble_eq_true rfl) ?_
  refine PW.iload_n dX1_befall_11 rfl ?_
  refine PW.callSr (c_X11_columnY (by first | assumption | (unfold inR; omega)) (by omega)) cs_X11_columnY lk_X1_38 dX1_befall_12 rfl rfl rfl ?_
  refine PW.istore [(0, _), (1, _), (2, _), (3, _), (4, _), (5, _)] dX1_befall_15 rfl (Nat.le_of_ble_eq_true rfl) ?_
  refine PW.aload_n dX1_befall_17 rfl ?_
  refine PW.iload_n dX1_befall_18 rfl ?_
  refine PW.iconst dX1_befall_19 ?_
  refine PW.callVr (c_X8_number (by assumption) (by omega) (by omega)) cv_X8_number lk_X1_41 (by first | assumption | exact And.left (by assumption)) dX1_befall_20 rfl rfl rfl rfl ?_
  refine PW.istore [(0, _), (1, _), (2, _), (3, _), (4, _), (5, _), (6, _)] dX1_befall_23 rfl (Nat.le_of_ble_eq_true rfl) ?_
  refine PW.aload_n dX1_befall_25 rfl ?_
  refine PW.iload_n dX1_befall_26 rfl ?_
  refine PW.iconst dX1_befall_27 ?_
  refine PW.callVr (c_X8_number (by assumption) (by omega) (by omega)) cv_X8_number lk_X1_41 (by first | assumption | exact And.left (by assumption)) dX1_befall_28 rfl rfl rfl rfl ?_
  refine PW.istore [(0, _), (1, _), (2, _), (3, _), (4, _), (5, _), (6, _), (7, _)] dX1_befall_31 rfl (Nat.le_of_ble_eq_true rfl) ?_
  refine PW.aload_n dX1_befall_33 rfl ?_
  refine PW.iload_n dX1_befall_34 rfl ?_
  refine PW.iconst dX1_befall_35 ?_
  refine PW.callVr (c_X8_number (by assumption) (by omega) (by omega)) cv_X8_number lk_X1_41 (by first | assumption | exact And.left (by assumption)) dX1_befall_36 rfl rfl rfl rfl ?_
  refine PW.istore [(0, _), (1, _), (2, _), (3, _), (4, _), (5, _), (6, _), (7, _), (8, _)] dX1_befall_39 rfl (Nat.le_of_ble_eq_true rfl) ?_
  refine PW.aload_n dX1_befall_41 rfl ?_
  refine PW.iload_n dX1_befall_42 rfl ?_
  refine PW.iconst dX1_befall_43 ?_
  refine PW.callVr (c_X8_number (by assumption) (by omega) (by omega)) cv_X8_number lk_X1_41 (by first | assumption | exact And.left (by assumption)) dX1_befall_44 rfl rfl rfl rfl ?_
  refine PW.istore [(0, _), (1, _), (2, _), (3, _), (4, _), (5, _), (6, _), (7, _), (8, _), (9, _)] dX1_befall_47 rfl (Nat.le_of_ble_eq_true rfl) ?_
  refine PW.aload_n dX1_befall_49 rfl ?_
  refine PW.iload_n dX1_befall_50 rfl ?_
  refine PW.callVr (c_X8_kind (by assumption) (by omega)) cv_X8_kind lk_X1_47 (by first | assumption | exact And.left (by assumption)) dX1_befall_51 rfl rfl rfl rfl ?_
  refine PW.iconst dX1_befall_54 ?_
  refine PW.icmp_ne 63 dX1_befall_55 (by decide) (by first | assumption | (unfold inR; omega)) (by first | assumption | (unfold inR; omega)) (fun h55 => ?_) (fun h55 => ?_)
  · refine PW.iload dX1_befall_63 rfl ?_
    refine PW.iload dX1_befall_65 rfl ?_
    refine PW.iload dX1_befall_67 rfl ?_
    refine PW.callSr (c_X1_stepOf (by first | assumption | (unfold inR; omega))) cs_X1_stepOf lk_X1_52 dX1_befall_69 rfl rfl rfl ?_
    refine PW.istore [(0, _), (1, _), (2, _), (3, _), (4, _), (5, _), (6, _), (7, _), (8, _), (9, _), (10, _)] dX1_befall_72 rfl (Nat.le_of_ble_eq_true rfl) ?_
    refine PW.aload_n dX1_befall_74 rfl ?_
    refine PW.iload_n dX1_befall_75 rfl ?_
    refine PW.callVr (c_X8_kind (by assumption) (by omega)) cv_X8_kind lk_X1_47 (by first | assumption | exact And.left (by assumption)) dX1_befall_76 rfl rfl rfl rfl ?_
    rcases (show σ (b + 1) (7 * i) = 0 ∨ σ (b + 1) (7 * i) = 1 ∨ σ (b + 1) (7 * i) = 2 ∨ σ (b + 1) (7 * i) = 3 ∨ σ (b + 1) (7 * i) = 4 ∨ σ (b + 1) (7 * i) = 5 by omega) with h79 | h79 | h79 | h79 | h79 | h79
    · refine PW.tsIn (37) 116 (by first | assumption | (unfold inR; omega)) dX1_befall_79 (by omega) (by omega) (by rw [h79]; rfl) (by decide) ?_
      have ok := ok_0 (by rw [h79] at hev; exact hev)
      refine PW.aload_n dX1_befall_116 rfl ?_
      refine PW.iload dX1_befall_117 rfl ?_
      refine PW.iload dX1_befall_119 rfl ?_
      refine PW.callVv (c_X1_lay (by assumption) (by assumption) (by omega)) cv_X1_lay lk_X1_56 (by first | assumption | exact And.left (by assumption)) dX1_befall_121 rfl rfl rfl rfl ?_
      refine PW.goto 253 dX1_befall_124 (by decide) ?_
      refine PW.vret rfl dX1_befall_253 ⟨rfl, rfl, ?_⟩
      first
        | (exfalso; omega)
        | (simp only [evR, evC, h79]; rfl)
        | (simp only [evR, evC, h79]; simp; done)
        | (simp only [evR, evC, h79]; rw [if_neg (by decide), if_neg (by decide), if_neg (by decide), if_neg (by decide), if_neg (by decide)]; first | rw [if_pos (by omega)] | (rw [if_neg (by omega), upS_self]))
    · refine PW.tsIn (48) 127 (by first | assumption | (unfold inR; omega)) dX1_befall_79 (by omega) (by omega) (by rw [h79]; rfl) (by decide) ?_
      have ok := ok_1 (by rw [h79] at hev; exact hev)
      refine PW.aload_n dX1_befall_127 rfl ?_
      refine PW.bipush (by decide) dX1_befall_128 ?_
      refine PW.bipush (by decide) dX1_befall_130 ?_
      refine PW.iload dX1_befall_132 rfl ?_
      refine PW.iload dX1_befall_134 rfl ?_
      refine PW.iload dX1_befall_136 rfl ?_
      refine PW.iload dX1_befall_138 rfl ?_
      refine PW.callSr (c_X1_slope (by omega) (by omega) (by omega) (by omega)) cs_X1_slope lk_X1_60 dX1_befall_140 rfl rfl rfl ?_
      have sb := slF_b (a := σ (b + 1) (7 * i + 1 + 0)) (c := σ (b + 1) (7 * i + 1 + 1)) (x := n % 8) (y := n / 8) (by omega) (by omega) (by omega) (by omega)
      refine PW.callVv (c_X1_move (by assumption) (by omega) (by omega) (by omega)) cv_X1_move lk_X1_64 (by first | assumption | exact And.left (by assumption)) dX1_befall_143 rfl rfl rfl rfl ?_
      refine PW.goto 253 dX1_befall_146 (by decide) ?_
      refine PW.vret rfl dX1_befall_253 ⟨rfl, rfl, ?_⟩
      first
        | (exfalso; omega)
        | (simp only [evR, evC, h79]; rfl)
        | (simp only [evR, evC, h79]; simp; done)
        | (simp only [evR, evC, h79]; rw [if_neg (by decide), if_neg (by decide), if_neg (by decide), if_neg (by decide), if_neg (by decide)]; first | rw [if_pos (by omega)] | (rw [if_neg (by omega), upS_self]))
    · refine PW.tsIn (70) 149 (by first | assumption | (unfold inR; omega)) dX1_befall_79 (by omega) (by omega) (by rw [h79]; rfl) (by decide) ?_
      have ok := ok_2 (by rw [h79] at hev; exact hev)
      refine PW.aload_n dX1_befall_149 rfl ?_
      refine PW.bipush (by decide) dX1_befall_150 ?_
      refine PW.bipush (by decide) dX1_befall_152 ?_
      refine PW.iload dX1_befall_154 rfl ?_
      refine PW.iload dX1_befall_156 rfl ?_
      refine PW.iload dX1_befall_158 rfl ?_
      refine PW.iload dX1_befall_160 rfl ?_
      refine PW.callSr (c_X1_foldRise (by omega) (by omega) (by omega) (by omega)) cs_X1_foldRise lk_X1_68 dX1_befall_162 rfl rfl rfl ?_
      have fb := frF_b (h := σ (b + 1) (7 * i + 1 + 1)) (l := σ (b + 1) (7 * i + 1 + 2)) (s := σ (b + 1) (7 * i + 1 + 3)) (st := soF (σ (b + 1) (7 * i + 1 + 0)) (n % 8) (n / 8)) (by omega) (by omega) (by omega) (by omega)
      refine PW.callVv (c_X1_move (by assumption) (by omega) (by omega) (by omega)) cv_X1_move lk_X1_64 (by first | assumption | exact And.left (by assumption)) dX1_befall_165 rfl rfl rfl rfl ?_
      refine PW.goto 253 dX1_befall_168 (by decide) ?_
      refine PW.vret rfl dX1_befall_253 ⟨rfl, rfl, ?_⟩
      first
        | (exfalso; omega)
        | (simp only [evR, evC, h79]; rfl)
        | (simp only [evR, evC, h79]; simp; done)
        | (simp only [evR, evC, h79]; rw [if_neg (by decide), if_neg (by decide), if_neg (by decide), if_neg (by decide), if_neg (by decide)]; first | rw [if_pos (by omega)] | (rw [if_neg (by omega), upS_self]))
    · refine PW.tsIn (92) 171 (by first | assumption | (unfold inR; omega)) dX1_befall_79 (by omega) (by omega) (by rw [h79]; rfl) (by decide) ?_
      have ok := ok_3 (by rw [h79] at hev; exact hev)
      refine PW.aload_n dX1_befall_171 rfl ?_
      refine PW.iload dX1_befall_172 rfl ?_
      refine PW.iload dX1_befall_174 rfl ?_
      refine PW.isub dX1_befall_176 ?_
      refine PW.iload dX1_befall_177 rfl ?_
      refine PW.callSr (c_X1_firstBeyond (by omega) (by omega)) cs_X1_firstBeyond lk_X1_71 dX1_befall_179 rfl rfl rfl ?_
      have bb := fbF_b (w := σ (b + 1) (7 * i + 1 + 1) - soF (σ (b + 1) (7 * i + 1 + 0)) (n % 8) (n / 8)) (l := σ (b + 1) (7 * i + 1 + 3)) (by omega) (by omega)
      refine PW.iload dX1_befall_182 rfl ?_
      refine PW.iload dX1_befall_184 rfl ?_
      refine PW.isub dX1_befall_186 ?_
      refine PW.iload dX1_befall_187 rfl ?_
      refine PW.callSr (c_X1_lastBeyond (by omega) (by omega)) cs_X1_lastBeyond lk_X1_74 dX1_befall_189 rfl rfl rfl ?_
      have lb := lbF_b (w := σ (b + 1) (7 * i + 1 + 1) - soF (σ (b + 1) (7 * i + 1 + 0)) (n % 8) (n / 8)) (l := σ (b + 1) (7 * i + 1 + 3)) (by omega) (by omega)
      refine PW.iload dX1_befall_192 rfl ?_
      refine PW.callVv (c_X1_move (by assumption) (by omega) (by omega) (by omega)) cv_X1_move lk_X1_64 (by first | assumption | exact And.left (by assumption)) dX1_befall_194 rfl rfl rfl rfl ?_
      refine PW.goto 253 dX1_befall_197 (by decide) ?_
      refine PW.vret rfl dX1_befall_253 ⟨rfl, rfl, ?_⟩
      first
        | (exfalso; omega)
        | (simp only [evR, evC, h79]; rfl)
        | (simp only [evR, evC, h79]; simp; done)
        | (simp only [evR, evC, h79]; rw [if_neg (by decide), if_neg (by decide), if_neg (by decide), if_neg (by decide), if_neg (by decide)]; first | rw [if_pos (by omega)] | (rw [if_neg (by omega), upS_self]))
    · refine PW.tsIn (121) 200 (by first | assumption | (unfold inR; omega)) dX1_befall_79 (by omega) (by omega) (by rw [h79]; rfl) (by decide) ?_
      have ok := ok_4 (by rw [h79] at hev; exact hev)
      refine PW.aload_n dX1_befall_200 rfl ?_
      refine PW.iload dX1_befall_201 rfl ?_
      refine PW.iload dX1_befall_203 rfl ?_
      refine PW.iload dX1_befall_205 rfl ?_
      refine PW.iload dX1_befall_207 rfl ?_
      refine PW.iload dX1_befall_209 rfl ?_
      refine PW.callSr (c_X1_slope (by omega) (by omega) (by omega) (by omega)) cs_X1_slope lk_X1_60 dX1_befall_211 rfl rfl rfl ?_
      have sb := slF_b (a := σ (b + 1) (7 * i + 1 + 1)) (c := σ (b + 1) (7 * i + 1 + 2)) (x := n % 8) (y := n / 8) (by omega) (by omega) (by omega) (by omega)
      refine PW.iadd dX1_befall_214 ?_
      refine PW.bipush (by decide) dX1_befall_215 ?_
      refine PW.iconst dX1_befall_217 ?_
      refine PW.callVv (c_X1_fillHeights (by assumption) (by omega) (by omega)) cv_X1_fillHeights lk_X1_77 (by first | assumption | exact And.left (by assumption)) dX1_befall_218 rfl rfl rfl rfl ?_
      refine PW.goto 253 dX1_befall_221 (by decide) ?_
      refine PW.vret rfl dX1_befall_253 ⟨rfl, rfl, ?_⟩
      first
        | (exfalso; omega)
        | (simp only [evR, evC, h79]; rfl)
        | (simp only [evR, evC, h79]; simp; done)
        | (simp only [evR, evC, h79]; rw [if_neg (by decide), if_neg (by decide), if_neg (by decide), if_neg (by decide), if_neg (by decide)]; first | rw [if_pos (by omega)] | (rw [if_neg (by omega), upS_self]))
    · refine PW.tsIn (145) 224 (by first | assumption | (unfold inR; omega)) dX1_befall_79 (by omega) (by omega) (by rw [h79]; rfl) (by decide) ?_
      have ok := ok_5 (by rw [h79] at hev; exact hev)
      refine PW.iload dX1_befall_224 rfl ?_
      refine PW.iload dX1_befall_226 rfl ?_
      refine PW.icmp_lt 253 dX1_befall_228 (by decide) (by first | assumption | (unfold inR; omega)) (by first | assumption | (unfold inR; omega)) (fun h228 => ?_) (fun h228 => ?_)
      · refine PW.vret rfl dX1_befall_253 ⟨rfl, rfl, ?_⟩
        first
          | (exfalso; omega)
          | (simp only [evR, evC, h79]; rfl)
          | (simp only [evR, evC, h79]; simp; done)
          | (simp only [evR, evC, h79]; rw [if_neg (by decide), if_neg (by decide), if_neg (by decide), if_neg (by decide), if_neg (by decide)]; first | rw [if_pos (by omega)] | (rw [if_neg (by omega), upS_self]))
      · refine PW.iload dX1_befall_231 rfl ?_
        refine PW.iload dX1_befall_233 rfl ?_
        refine PW.icmp_gt 253 dX1_befall_235 (by decide) (by first | assumption | (unfold inR; omega)) (by first | assumption | (unfold inR; omega)) (fun h235 => ?_) (fun h235 => ?_)
        · refine PW.vret rfl dX1_befall_253 ⟨rfl, rfl, ?_⟩
          first
            | (exfalso; omega)
            | (simp only [evR, evC, h79]; rfl)
            | (simp only [evR, evC, h79]; simp; done)
            | (simp only [evR, evC, h79]; rw [if_neg (by decide), if_neg (by decide), if_neg (by decide), if_neg (by decide), if_neg (by decide)]; first | rw [if_pos (by omega)] | (rw [if_neg (by omega), upS_self]))
        · refine PW.aload_n dX1_befall_238 rfl ?_
          refine PW.iload dX1_befall_239 rfl ?_
          refine PW.aload_n dX1_befall_241 rfl ?_
          refine PW.iload_n dX1_befall_242 rfl ?_
          refine PW.iconst dX1_befall_243 ?_
          refine PW.callVr (c_X8_number (by assumption) (by omega) (by omega)) cv_X8_number lk_X1_41 (by first | assumption | exact And.left (by assumption)) dX1_befall_244 rfl rfl rfl rfl ?_
          refine PW.callVv (c_X1_intrude (by assumption) (by assumption) (by omega)) cv_X1_intrude lk_X1_80 (by first | assumption | exact And.left (by assumption)) dX1_befall_247 rfl rfl rfl rfl ?_
          refine PW.goto 253 dX1_befall_250 (by decide) ?_
          refine PW.vret rfl dX1_befall_253 ⟨rfl, rfl, ?_⟩
          first
            | (exfalso; omega)
            | (simp only [evR, evC, h79]; rfl)
            | (simp only [evR, evC, h79]; simp; done)
            | (simp only [evR, evC, h79]; rw [if_neg (by decide), if_neg (by decide), if_neg (by decide), if_neg (by decide), if_neg (by decide)]; first | rw [if_pos (by omega)] | (rw [if_neg (by omega), upS_self]))
  · refine PW.iload dX1_befall_58 rfl ?_
    refine PW.goto 65 dX1_befall_60 (by decide) ?_
    refine PW.iload dX1_befall_65 rfl ?_
    refine PW.iload dX1_befall_67 rfl ?_
    refine PW.callSr (c_X1_stepOf (by first | assumption | (unfold inR; omega))) cs_X1_stepOf lk_X1_52 dX1_befall_69 rfl rfl rfl ?_
    refine PW.istore [(0, _), (1, _), (2, _), (3, _), (4, _), (5, _), (6, _), (7, _), (8, _), (9, _), (10, _)] dX1_befall_72 rfl (Nat.le_of_ble_eq_true rfl) ?_
    refine PW.aload_n dX1_befall_74 rfl ?_
    refine PW.iload_n dX1_befall_75 rfl ?_
    refine PW.callVr (c_X8_kind (by assumption) (by omega)) cv_X8_kind lk_X1_47 (by first | assumption | exact And.left (by assumption)) dX1_befall_76 rfl rfl rfl rfl ?_
    rcases (show σ (b + 1) (7 * i) = 0 ∨ σ (b + 1) (7 * i) = 1 ∨ σ (b + 1) (7 * i) = 2 ∨ σ (b + 1) (7 * i) = 3 ∨ σ (b + 1) (7 * i) = 4 ∨ σ (b + 1) (7 * i) = 5 by omega) with h79 | h79 | h79 | h79 | h79 | h79
    · refine PW.tsIn (37) 116 (by first | assumption | (unfold inR; omega)) dX1_befall_79 (by omega) (by omega) (by rw [h79]; rfl) (by decide) ?_
      have ok := ok_0 (by rw [h79] at hev; exact hev)
      refine PW.aload_n dX1_befall_116 rfl ?_
      refine PW.iload dX1_befall_117 rfl ?_
      refine PW.iload dX1_befall_119 rfl ?_
      refine PW.callVv (c_X1_lay (by assumption) (by assumption) (by omega)) cv_X1_lay lk_X1_56 (by first | assumption | exact And.left (by assumption)) dX1_befall_121 rfl rfl rfl rfl ?_
      refine PW.goto 253 dX1_befall_124 (by decide) ?_
      refine PW.vret rfl dX1_befall_253 ⟨rfl, rfl, ?_⟩
      first
        | (exfalso; omega)
        | (simp only [evR, evC, h79]; rfl)
        | (simp only [evR, evC, h79]; simp; done)
        | (simp only [evR, evC, h79]; rw [if_neg (by decide), if_neg (by decide), if_neg (by decide), if_neg (by decide), if_neg (by decide)]; first | rw [if_pos (by omega)] | (rw [if_neg (by omega), upS_self]))
    · refine PW.tsIn (48) 127 (by first | assumption | (unfold inR; omega)) dX1_befall_79 (by omega) (by omega) (by rw [h79]; rfl) (by decide) ?_
      have ok := ok_1 (by rw [h79] at hev; exact hev)
      refine PW.aload_n dX1_befall_127 rfl ?_
      refine PW.bipush (by decide) dX1_befall_128 ?_
      refine PW.bipush (by decide) dX1_befall_130 ?_
      refine PW.iload dX1_befall_132 rfl ?_
      refine PW.iload dX1_befall_134 rfl ?_
      refine PW.iload dX1_befall_136 rfl ?_
      refine PW.iload dX1_befall_138 rfl ?_
      refine PW.callSr (c_X1_slope (by omega) (by omega) (by omega) (by omega)) cs_X1_slope lk_X1_60 dX1_befall_140 rfl rfl rfl ?_
      have sb := slF_b (a := σ (b + 1) (7 * i + 1 + 0)) (c := σ (b + 1) (7 * i + 1 + 1)) (x := n % 8) (y := n / 8) (by omega) (by omega) (by omega) (by omega)
      refine PW.callVv (c_X1_move (by assumption) (by omega) (by omega) (by omega)) cv_X1_move lk_X1_64 (by first | assumption | exact And.left (by assumption)) dX1_befall_143 rfl rfl rfl rfl ?_
      refine PW.goto 253 dX1_befall_146 (by decide) ?_
      refine PW.vret rfl dX1_befall_253 ⟨rfl, rfl, ?_⟩
      first
        | (exfalso; omega)
        | (simp only [evR, evC, h79]; rfl)
        | (simp only [evR, evC, h79]; simp; done)
        | (simp only [evR, evC, h79]; rw [if_neg (by decide), if_neg (by decide), if_neg (by decide), if_neg (by decide), if_neg (by decide)]; first | rw [if_pos (by omega)] | (rw [if_neg (by omega), upS_self]))
    · refine PW.tsIn (70) 149 (by first | assumption | (unfold inR; omega)) dX1_befall_79 (by omega) (by omega) (by rw [h79]; rfl) (by decide) ?_
      have ok := ok_2 (by rw [h79] at hev; exact hev)
      refine PW.aload_n dX1_befall_149 rfl ?_
      refine PW.bipush (by decide) dX1_befall_150 ?_
      refine PW.bipush (by decide) dX1_befall_152 ?_
      refine PW.iload dX1_befall_154 rfl ?_
      refine PW.iload dX1_befall_156 rfl ?_
      refine PW.iload dX1_befall_158 rfl ?_
      refine PW.iload dX1_befall_160 rfl ?_
      refine PW.callSr (c_X1_foldRise (by omega) (by omega) (by omega) (by omega)) cs_X1_foldRise lk_X1_68 dX1_befall_162 rfl rfl rfl ?_
      have fb := frF_b (h := σ (b + 1) (7 * i + 1 + 1)) (l := σ (b + 1) (7 * i + 1 + 2)) (s := σ (b + 1) (7 * i + 1 + 3)) (st := soF (σ (b + 1) (7 * i + 1 + 0)) (n % 8) (n / 8)) (by omega) (by omega) (by omega) (by omega)
      refine PW.callVv (c_X1_move (by assumption) (by omega) (by omega) (by omega)) cv_X1_move lk_X1_64 (by first | assumption | exact And.left (by assumption)) dX1_befall_165 rfl rfl rfl rfl ?_
      refine PW.goto 253 dX1_befall_168 (by decide) ?_
      refine PW.vret rfl dX1_befall_253 ⟨rfl, rfl, ?_⟩
      first
        | (exfalso; omega)
        | (simp only [evR, evC, h79]; rfl)
        | (simp only [evR, evC, h79]; simp; done)
        | (simp only [evR, evC, h79]; rw [if_neg (by decide), if_neg (by decide), if_neg (by decide), if_neg (by decide), if_neg (by decide)]; first | rw [if_pos (by omega)] | (rw [if_neg (by omega), upS_self]))
    · refine PW.tsIn (92) 171 (by first | assumption | (unfold inR; omega)) dX1_befall_79 (by omega) (by omega) (by rw [h79]; rfl) (by decide) ?_
      have ok := ok_3 (by rw [h79] at hev; exact hev)
      refine PW.aload_n dX1_befall_171 rfl ?_
      refine PW.iload dX1_befall_172 rfl ?_
      refine PW.iload dX1_befall_174 rfl ?_
      refine PW.isub dX1_befall_176 ?_
      refine PW.iload dX1_befall_177 rfl ?_
      refine PW.callSr (c_X1_firstBeyond (by omega) (by omega)) cs_X1_firstBeyond lk_X1_71 dX1_befall_179 rfl rfl rfl ?_
      have bb := fbF_b (w := σ (b + 1) (7 * i + 1 + 1) - soF (σ (b + 1) (7 * i + 1 + 0)) (n % 8) (n / 8)) (l := σ (b + 1) (7 * i + 1 + 3)) (by omega) (by omega)
      refine PW.iload dX1_befall_182 rfl ?_
      refine PW.iload dX1_befall_184 rfl ?_
      refine PW.isub dX1_befall_186 ?_
      refine PW.iload dX1_befall_187 rfl ?_
      refine PW.callSr (c_X1_lastBeyond (by omega) (by omega)) cs_X1_lastBeyond lk_X1_74 dX1_befall_189 rfl rfl rfl ?_
      have lb := lbF_b (w := σ (b + 1) (7 * i + 1 + 1) - soF (σ (b + 1) (7 * i + 1 + 0)) (n % 8) (n / 8)) (l := σ (b + 1) (7 * i + 1 + 3)) (by omega) (by omega)
      refine PW.iload dX1_befall_192 rfl ?_
      refine PW.callVv (c_X1_move (by assumption) (by omega) (by omega) (by omega)) cv_X1_move lk_X1_64 (by first | assumption | exact And.left (by assumption)) dX1_befall_194 rfl rfl rfl rfl ?_
      refine PW.goto 253 dX1_befall_197 (by decide) ?_
      refine PW.vret rfl dX1_befall_253 ⟨rfl, rfl, ?_⟩
      first
        | (exfalso; omega)
        | (simp only [evR, evC, h79]; rfl)
        | (simp only [evR, evC, h79]; simp; done)
        | (simp only [evR, evC, h79]; rw [if_neg (by decide), if_neg (by decide), if_neg (by decide), if_neg (by decide), if_neg (by decide)]; first | rw [if_pos (by omega)] | (rw [if_neg (by omega), upS_self]))
    · refine PW.tsIn (121) 200 (by first | assumption | (unfold inR; omega)) dX1_befall_79 (by omega) (by omega) (by rw [h79]; rfl) (by decide) ?_
      have ok := ok_4 (by rw [h79] at hev; exact hev)
      refine PW.aload_n dX1_befall_200 rfl ?_
      refine PW.iload dX1_befall_201 rfl ?_
      refine PW.iload dX1_befall_203 rfl ?_
      refine PW.iload dX1_befall_205 rfl ?_
      refine PW.iload dX1_befall_207 rfl ?_
      refine PW.iload dX1_befall_209 rfl ?_
      refine PW.callSr (c_X1_slope (by omega) (by omega) (by omega) (by omega)) cs_X1_slope lk_X1_60 dX1_befall_211 rfl rfl rfl ?_
      have sb := slF_b (a := σ (b + 1) (7 * i + 1 + 1)) (c := σ (b + 1) (7 * i + 1 + 2)) (x := n % 8) (y := n / 8) (by omega) (by omega) (by omega) (by omega)
      refine PW.iadd dX1_befall_214 ?_
      refine PW.bipush (by decide) dX1_befall_215 ?_
      refine PW.iconst dX1_befall_217 ?_
      refine PW.callVv (c_X1_fillHeights (by assumption) (by omega) (by omega)) cv_X1_fillHeights lk_X1_77 (by first | assumption | exact And.left (by assumption)) dX1_befall_218 rfl rfl rfl rfl ?_
      refine PW.goto 253 dX1_befall_221 (by decide) ?_
      refine PW.vret rfl dX1_befall_253 ⟨rfl, rfl, ?_⟩
      first
        | (exfalso; omega)
        | (simp only [evR, evC, h79]; rfl)
        | (simp only [evR, evC, h79]; simp; done)
        | (simp only [evR, evC, h79]; rw [if_neg (by decide), if_neg (by decide), if_neg (by decide), if_neg (by decide), if_neg (by decide)]; first | rw [if_pos (by omega)] | (rw [if_neg (by omega), upS_self]))
    · refine PW.tsIn (145) 224 (by first | assumption | (unfold inR; omega)) dX1_befall_79 (by omega) (by omega) (by rw [h79]; rfl) (by decide) ?_
      have ok := ok_5 (by rw [h79] at hev; exact hev)
      refine PW.iload dX1_befall_224 rfl ?_
      refine PW.iload dX1_befall_226 rfl ?_
      refine PW.icmp_lt 253 dX1_befall_228 (by decide) (by first | assumption | (unfold inR; omega)) (by first | assumption | (unfold inR; omega)) (fun h228 => ?_) (fun h228 => ?_)
      · refine PW.vret rfl dX1_befall_253 ⟨rfl, rfl, ?_⟩
        first
          | (exfalso; omega)
          | (simp only [evR, evC, h79]; rfl)
          | (simp only [evR, evC, h79]; simp; done)
          | (simp only [evR, evC, h79]; rw [if_neg (by decide), if_neg (by decide), if_neg (by decide), if_neg (by decide), if_neg (by decide)]; first | rw [if_pos (by omega)] | (rw [if_neg (by omega), upS_self]))
      · refine PW.iload dX1_befall_231 rfl ?_
        refine PW.iload dX1_befall_233 rfl ?_
        refine PW.icmp_gt 253 dX1_befall_235 (by decide) (by first | assumption | (unfold inR; omega)) (by first | assumption | (unfold inR; omega)) (fun h235 => ?_) (fun h235 => ?_)
        · refine PW.vret rfl dX1_befall_253 ⟨rfl, rfl, ?_⟩
          first
            | (exfalso; omega)
            | (simp only [evR, evC, h79]; rfl)
            | (simp only [evR, evC, h79]; simp; done)
            | (simp only [evR, evC, h79]; rw [if_neg (by decide), if_neg (by decide), if_neg (by decide), if_neg (by decide), if_neg (by decide)]; first | rw [if_pos (by omega)] | (rw [if_neg (by omega), upS_self]))
        · refine PW.aload_n dX1_befall_238 rfl ?_
          refine PW.iload dX1_befall_239 rfl ?_
          refine PW.aload_n dX1_befall_241 rfl ?_
          refine PW.iload_n dX1_befall_242 rfl ?_
          refine PW.iconst dX1_befall_243 ?_
          refine PW.callVr (c_X8_number (by assumption) (by omega) (by omega)) cv_X8_number lk_X1_41 (by first | assumption | exact And.left (by assumption)) dX1_befall_244 rfl rfl rfl rfl ?_
          refine PW.callVv (c_X1_intrude (by assumption) (by assumption) (by omega)) cv_X1_intrude lk_X1_80 (by first | assumption | exact And.left (by assumption)) dX1_befall_247 rfl rfl rfl rfl ?_
          refine PW.goto 253 dX1_befall_250 (by decide) ?_
          refine PW.vret rfl dX1_befall_253 ⟨rfl, rfl, ?_⟩
          first
            | (exfalso; omega)
            | (simp only [evR, evC, h79]; rfl)
            | (simp only [evR, evC, h79]; simp; done)
            | (simp only [evR, evC, h79]; rw [if_neg (by decide), if_neg (by decide), if_neg (by decide), if_neg (by decide), if_neg (by decide)]; first | rw [if_pos (by omega)] | (rw [if_neg (by omega), upS_self]))
/-- what the first so many events make of a column, over what its row held -/
def tlF (f : Int → Int) (n : Int) (c : Int → Int) : Nat → (Int → Int)
  | 0 => bgF c
  | k + 1 => evR f (k : Int) n (tlF f n c k)
theorem tlF_succ (f : Int → Int) (n : Int) (c : Int → Int) {i : Int} (h : 0 ≤ i) : tlF f n c (i + 1).toNat = evR f i n (tlF f n c i.toNat) := by
  rw [show (i + 1).toNat = i.toNat + 1 by omega]
  simp only [tlF]
  rw [show ((i.toNat : Nat) : Int) = i by omega]
theorem fhF_ok {c : Int → Int} {lo hi v : Int} (h : colOk c) (hv : -1 ≤ v ∧ v ≤ 15) : colOk (fhF c lo hi v) := by
  intro i h0 h1
  have := h i h0 h1
  unfold fhF
  split <;> omega
theorem mvF_ok {c : Int → Int} {lo hi m : Int} (h : colOk c) : colOk (mvF c lo hi m) := by
  intro i h0 h1
  have := h i h0 h1
  unfold mvF
  split
  · split
    · omega
    · split
      · omega
      · exact h _ (by omega) (by omega)
  · omega
theorem inF_ok {c : Int → Int} {v t : Int} (h : colOk c) (hv : -1 ≤ v ∧ v ≤ 15) : colOk (inF c v t) := by
  intro i h0 h1
  have := h i h0 h1
  unfold inF
  split <;> omega
theorem evC_ok {k a b c d e n : Int} {col : Int → Int} (h : colOk col) (hk : okEv k a b c d e) : colOk (evC k a b c d e n col) := by
  have hk0 := hk.1
  rcases (show k = 0 ∨ k = 1 ∨ k = 2 ∨ k = 3 ∨ k = 4 ∨ k = 5 by omega) with rfl | rfl | rfl | rfl | rfl | rfl
  · have := ok_0 hk
    exact fhF_ok h (by omega)
  · exact mvF_ok h
  · exact mvF_ok h
  · exact mvF_ok h
  · exact fhF_ok h (by omega)
  · have := ok_5 hk
    show colOk (if _ then inF col a e else col)
    split
    · exact inF_ok h (by omega)
    · exact h
theorem tlF_ok {f : Int → Int} {n : Int} {c : Int → Int} : ∀ {k : Nat}, (∀ i : Int, 0 ≤ i → i < k → evOk f i) → colOk (tlF f n c k)
  | 0, _ => bgF_ok c
  | k + 1, h => evC_ok (tlF_ok (k := k) (fun i h0 h1 => h i h0 (by omega))) (h k (by omega) (by omega)).1
theorem tell_loop {G : GT} {S : Shp} {σ : Sto} {a b : Nat} {k n : Int} {τ : Int → Int} {Q : Option Value → Shp → Sto → Prop} (hA : IsCol S a) (hB : IsTale S b) (hab : b + 1 ≠ a + 1) (hT : taOk σ b) (hk : 0 ≤ k ∧ k ≤ σ b 2) (hn : 0 ≤ n ∧ n ≤ 63) (hQ : Q none S (upS σ (a + 1) (tlF (σ (b + 1)) n τ k.toNat))) : ∀ (t : Nat) (i : Int), 0 ≤ i → i ≤ k → k - i < t → PW (fm G mX1_tell 4 0 0 Q) G S (upS σ (a + 1) (tlF (σ (b + 1)) n τ i.toNat)) 0 0 7 [(0, .ref a), (1, .ref b), (2, .int (iI (k))), (3, .int (iI (n))), (4, .int (iI (i)))] [] := by
  obtain ⟨hA0, hA1⟩ := id hA
  obtain ⟨hB0, hB1, hB2⟩ := id hB
  obtain ⟨hs, hE⟩ := hT
  intro t
  induction t with
  | zero => intro i h1 h2 h3; omega
  | succ t ih =>
    intro i h1 h2 h3
    refine PW.iload dX1_tell_7 rfl ?_
    refine PW.iload_n dX1_tell_9 rfl ?_
    refine PW.icmp_ge 27 dX1_tell_10 (by decide) (by first | assumption | (unfold inR; omega)) (by first | assumption | (unfold inR; omega)) (fun h10 => ?_) (fun h10 => ?_)
    · have hi : i = k := by omega
      subst hi
      exact PW.vret rfl dX1_tell_27 hQ
    · have hE1 := hE i h1 (by omega)
      have e1 : (upS σ (a + 1) (tlF (σ (b + 1)) n τ i.toNat)) (b + 1) = σ (b + 1) := upS_ne hab
      have hC : colOk ((upS σ (a + 1) (tlF (σ (b + 1)) n τ i.toNat)) (a + 1)) := by
        rw [upS_same]
        exact tlF_ok (fun j q1 q2 => hE j q1 (by omega))
      refine PW.aload_n dX1_tell_13 rfl ?_
      refine PW.aload_n dX1_tell_14 rfl ?_
      refine PW.iload dX1_tell_15 rfl ?_
      refine PW.iload_n dX1_tell_17 rfl ?_
      refine PW.callVv (c_X1_befall (a := a) (b := b) hA hB hC (by omega) (by rw [e1]; exact hE1) hn) cv_X1_befall lk_X1_26 (by first | assumption | exact And.left (by assumption)) dX1_tell_18 rfl rfl rfl rfl ?_
      refine PW.st (upS σ (a + 1) (tlF (σ (b + 1)) n τ (i + 1).toNat)) (by rw [upS_upS, upS_same, e1, tlF_succ _ _ _ h1]) ?_
      refine PW.iinc [(0, _), (1, _), (2, _), (3, _), (4, _)] dX1_tell_21 rfl rfl (Nat.le_of_ble_eq_true rfl) ?_
      refine PW.goto 7 dX1_tell_24 (by decide) ?_
      exact ih (i + 1) (by omega) (by omega) (by omega)
theorem c_X1_tell {G : GT} {S : Shp} {σ : Sto} {a b : Nat} {k n : Int} (hA : IsCol S a) (hB : IsTale S b) (hab : b + 1 ≠ a + 1) (hba : b ≠ a + 1) (hT : taOk σ b) (hk : 0 ≤ k ∧ k ≤ σ b 2) (hn : 0 ≤ n ∧ n ≤ 63) : PMet G mX1_tell 4 0 0 [.ref a, .ref b, .int (iI k), .int (iI n)] S σ (isP none S (upS σ (a + 1) (tlF (σ (b + 1)) n (σ (a + 1)) k.toNat))) := by
  obtain ⟨hA0, hA1⟩ := id hA
  refine PMet.of [(0, .ref a), (1, .ref b), (2, .int (iI (k))), (3, .int (iI (n)))] (by decide +kernel) rfl (Nat.le_of_ble_eq_true rfl) ?_
  refine PW.aload_n dX1_tell_0 rfl ?_
  refine PW.callVv (c_X1_begin (by assumption)) cv_X1_begin lk_X1_15 (by first | assumption | exact And.left (by assumption)) dX1_tell_1 rfl rfl rfl rfl ?_
  refine PW.iconst dX1_tell_4 ?_
  refine PW.istore [(0, _), (1, _), (2, _), (3, _), (4, _)] dX1_tell_5 rfl (Nat.le_of_ble_eq_true rfl) ?_
  have e1 : (upS σ (a + 1) (bgF (σ (a + 1)))) (b + 1) = σ (b + 1) := upS_ne hab
  have e2 : (upS σ (a + 1) (bgF (σ (a + 1)))) b = σ b := upS_ne hba
  have hT2 : taOk (upS σ (a + 1) (bgF (σ (a + 1)))) b := by unfold taOk; rw [e1, e2]; exact hT
  have h := tell_loop (G := G) (S := S) (Q := isP none S (upS σ (a + 1) (tlF (σ (b + 1)) n (σ (a + 1)) k.toNat))) (σ := upS σ (a + 1) (bgF (σ (a + 1)))) (τ := σ (a + 1)) hA hB hab hT2 (by rw [e2]; exact hk) hn ⟨rfl, rfl, by rw [upS_upS, e1]⟩ 17 0 (by omega) (by omega) (by have := hT.1; omega)
  rw [upS_upS, e1] at h
  exact h

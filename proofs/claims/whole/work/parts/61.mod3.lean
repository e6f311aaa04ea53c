theorem mo_move2_loop {G : GT} {S : Shp} {σ : Sto} {m : Nat} {L k c : Int} {Q : Option Value → Shp → Sto → Prop} (hA : IsMod S m) (hC : cOk (σ (m + 1)) 15360) (hL : 0 ≤ L ∧ L ≤ 2) (hc : 0 ≤ c ∧ c ≤ 63) (hk : 1 ≤ k ∧ k ≤ 3) (ho : okG k (σ (m + 6))) (hQ : Q none S (upS (upS σ (m + 2) (pfF (σ (m + 2)) (evG k (σ (m + 6)) c (clV (σ (m + 1)) L c)) 0 (80))) (m + 1) (ptF (σ (m + 1)) (5120 * L + 80 * c) (evG k (σ (m + 6)) c (clV (σ (m + 1)) L c))))) : ∀ (t : Nat) (i : Int), -40 ≤ i → i ≤ 40 → 40 - i < t → PW (fm G mX12_move 2 0 0 Q) G S (upS (upS σ (m + 2) (pfF (σ (m + 2)) (evG k (σ (m + 6)) c (clV (σ (m + 1)) L c)) 0 (80))) (m + 1) (pfF (σ (m + 1)) (fun j => evG k (σ (m + 6)) c (clV (σ (m + 1)) L c) (j - (5120 * L + 80 * c))) (5120 * L + 80 * c) (5120 * L + 80 * c + i + 40))) 0 0 120 [(0, .ref m), (1, .int (iI (L))), (2, .int (iI (k))), (3, .int (iI (c))), (4, .int (iI (i)))] [] := by
  obtain ⟨hM0, hM1, hM2, hM3, hM4, hM5, hM6, hM7, hM8, hM9, hM10, hM11, hM12, hM13, hM14, hM15, hM16, hM17, hM18, hM19, hM20, hM21, hM22, hM23, hM24, hM25, hM26, hM27, hM28, hM29, hM30, hM31, hM32, hM33, hM34⟩ := id hA
  have hx : colOk (evG k (σ (m + 6)) c (clV (σ (m + 1)) L c)) := evC_ok (clV_ok hC hL hc) ho
  intro t
  induction t with
  | zero => intro i h1 h2 h3; omega
  | succ t ih =>
    intro i h1 h2 h3
    refine PW.iload dX12_move_120 rfl ?_
    refine PW.bipush (by decide) dX12_move_122 ?_
    refine PW.icmp_ge 155 dX12_move_124 (by decide) (by first | assumption | (unfold inR; omega)) (by first | assumption | (unfold inR; omega)) (fun h124 => ?_) (fun h124 => ?_)
    · have hi : i = 40 := by omega
      subst hi
      refine PW.st (upS (upS σ (m + 2) (pfF (σ (m + 2)) (evG k (σ (m + 6)) c (clV (σ (m + 1)) L c)) 0 (80))) (m + 1) (ptF (σ (m + 1)) (5120 * L + 80 * c) (evG k (σ (m + 6)) c (clV (σ (m + 1)) L c)))) (congrArg (upS (upS σ (m + 2) (pfF (σ (m + 2)) (evG k (σ (m + 6)) c (clV (σ (m + 1)) L c)) 0 (80))) (m + 1)) (funext fun j => ?_)) (PW.vret rfl dX12_move_155 hQ)
      unfold ptF pfF
      by_cases q : 5120 * L + 80 * c ≤ j ∧ j < 5120 * L + 80 * c + 80
      · rw [if_pos q, if_pos (by omega)]
      · rw [if_neg q, if_neg (by omega)]
    · refine PW.aload_n dX12_move_127 rfl ?_
      refine PW.getR fl_X12_7 rfl (by assumption) rfl dX12_move_128 ?_
      refine PW.iload_n dX12_move_131 rfl ?_
      refine PW.iload_n dX12_move_132 rfl ?_
      refine PW.iload dX12_move_133 rfl ?_
      refine PW.callSr (c_X12_cellAt) cs_X12_cellAt lk_X12_123 dX12_move_135 rfl rfl rfl ?_
      refine PW.aload_n dX12_move_138 rfl ?_
      refine PW.getR fl_X12_13 rfl (by assumption) rfl dX12_move_139 ?_
      refine PW.iload dX12_move_142 rfl ?_
      refine PW.bipush (by decide) dX12_move_144 ?_
      refine PW.iadd dX12_move_146 ?_
      have hxv := hx (i + 40) (by omega) (by omega)
      refine PW.baload (by assumption) (by unfold inR; omega) (by omega) (by omega) dX12_move_147 ?_
      refine PW.top (evG k (σ (m + 6)) c (clV (σ (m + 1)) L c) (i + 40)) (by
        rw [upS_ne (show m + 2 ≠ m + 1 by omega), upS_same]
        unfold pfF
        rw [if_pos (by omega)]) ?_
      refine PW.bastore (by assumption) (by first | assumption | (unfold inR; omega)) (by omega) (by omega) (narY (by omega)) dX12_move_148 ?_
      refine PW.st (upS (upS σ (m + 2) (pfF (σ (m + 2)) (evG k (σ (m + 6)) c (clV (σ (m + 1)) L c)) 0 (80))) (m + 1) (pfF (σ (m + 1)) (fun j => evG k (σ (m + 6)) c (clV (σ (m + 1)) L c) (j - (5120 * L + 80 * c))) (5120 * L + 80 * c) (5120 * L + 80 * c + (i + 1) + 40))) (by
        rw [upS_upS, upS_same]
        refine congrArg (upS (upS σ (m + 2) (pfF (σ (m + 2)) (evG k (σ (m + 6)) c (clV (σ (m + 1)) L c)) 0 (80))) (m + 1)) ?_
        rw [show 5120 * L + 80 * c + (i + 1) + 40 = 5120 * L + 80 * c + i + 40 + 1 by omega, ← pfF_s (by omega)]
        congr 2
        omega) ?_
      refine PW.iinc [(0, _), (1, _), (2, _), (3, _), (4, _)] dX12_move_149 rfl rfl (Nat.le_of_ble_eq_true rfl) ?_
      refine PW.goto 120 dX12_move_152 (by decide) ?_
      exact ih (i + 1) (by omega) (by omega) (by omega)
theorem mo_move1_loop {G : GT} {S : Shp} {σ : Sto} {m : Nat} {L k c : Int} {Q : Option Value → Shp → Sto → Prop} (hA : IsMod S m) (hC : cOk (σ (m + 1)) 15360) (hL : 0 ≤ L ∧ L ≤ 2) (hc : 0 ≤ c ∧ c ≤ 63) (hk : k = 1 ∨ k = 2) (ho : okG k (σ (m + 6))) (hK : PW (fm G mX12_move 2 0 0 Q) G S (upS σ (m + 2) (pfF (σ (m + 2)) (evG k (σ (m + 6)) c (clV (σ (m + 1)) L c)) 0 (80))) 0 0 116 [(0, .ref m), (1, .int (iI L)), (2, .int (iI k)), (3, .int (iI c))] []) : ∀ (t : Nat) (i : Int), -40 ≤ i → i ≤ 40 → 40 - i < t → PW (fm G mX12_move 2 0 0 Q) G S (upS σ (m + 2) (pfF (σ (m + 2)) (evG k (σ (m + 6)) c (clV (σ (m + 1)) L c)) 0 ((i + 40)))) 0 0 4 [(0, .ref m), (1, .int (iI (L))), (2, .int (iI (k))), (3, .int (iI (c))), (4, .int (iI (i)))] [] := by
  obtain ⟨hM0, hM1, hM2, hM3, hM4, hM5, hM6, hM7, hM8, hM9, hM10, hM11, hM12, hM13, hM14, hM15, hM16, hM17, hM18, hM19, hM20, hM21, hM22, hM23, hM24, hM25, hM26, hM27, hM28, hM29, hM30, hM31, hM32, hM33, hM34⟩ := id hA
  intro t
  induction t with
  | zero => intro i h1 h2 h3; omega
  | succ t ih =>
    intro i h1 h2 h3
    have e6 : (upS σ (m + 2) (pfF (σ (m + 2)) (evG k (σ (m + 6)) c (clV (σ (m + 1)) L c)) 0 ((i + 40)))) (m + 6) = σ (m + 6) := upS_ne (by omega)
    have e1 : (upS σ (m + 2) (pfF (σ (m + 2)) (evG k (σ (m + 6)) c (clV (σ (m + 1)) L c)) 0 ((i + 40)))) (m + 1) = σ (m + 1) := upS_ne (by omega)
    have hC2 : cOk ((upS σ (m + 2) (pfF (σ (m + 2)) (evG k (σ (m + 6)) c (clV (σ (m + 1)) L c)) 0 ((i + 40)))) (m + 1)) 15360 := by rw [e1]; exact hC
    have hg := gtV_b hC (z := i - rsF k (σ (m + 6)) c) hL hc
    have hg2 := gtV_b hC (z := i) hL hc
    have hr := rsF_b hk ho hc
    refine PW.iload dX12_move_4 rfl ?_
    refine PW.bipush (by decide) dX12_move_6 ?_
    refine PW.icmp_ge 116 dX12_move_8 (by decide) (by first | assumption | (unfold inR; omega)) (by first | assumption | (unfold inR; omega)) (fun h8 => ?_) (fun h8 => ?_)
    · have e : i = 40 := by omega
      subst e
      refine PW.take 4 ?_
      exact hK
    · refine PW.iload_n dX12_move_11 rfl ?_
      refine PW.iconst dX12_move_12 ?_
      refine PW.icmp_ne 49 dX12_move_13 (by decide) (by first | assumption | (unfold inR; omega)) (by first | assumption | (unfold inR; omega)) (fun h13 => ?_) (fun h13 => ?_)
      · refine PW.iconst dX12_move_49 ?_
        refine PW.goto 54 dX12_move_50 (by decide) ?_
        refine PW.istore [(0, _), (1, _), (2, _), (3, _), (4, _), (5, _)] dX12_move_54 rfl (Nat.le_of_ble_eq_true rfl) ?_
        refine PW.iload_n dX12_move_56 rfl ?_
        refine PW.iconst dX12_move_57 ?_
        refine PW.icmp_ne 70 dX12_move_58 (by decide) (by first | assumption | (unfold inR; omega)) (by first | assumption | (unfold inR; omega)) (fun h58 => ?_) (fun h58 => ?_)
        · refine PW.aload_n dX12_move_70 rfl ?_
          refine PW.iload_n dX12_move_71 rfl ?_
          refine PW.iload_n dX12_move_72 rfl ?_
          refine PW.callVr (c_X12_rise hA hk (by rw [e6]; exact ho) hc) cv_X12_rise lk_X12_158 (by first | assumption | exact And.left (by assumption)) dX12_move_73 rfl rfl rfl rfl ?_
          refine PW.top (rsF k (σ (m + 6)) c) (by rw [e6]) ?_
          refine PW.istore [(0, _), (1, _), (2, _), (3, _), (4, _), (5, _), (6, _)] dX12_move_76 rfl (Nat.le_of_ble_eq_true rfl) ?_
          refine PW.aload_n dX12_move_78 rfl ?_
          refine PW.getR fl_X12_13 rfl (by assumption) rfl dX12_move_79 ?_
          refine PW.iload dX12_move_82 rfl ?_
          refine PW.bipush (by decide) dX12_move_84 ?_
          refine PW.iadd dX12_move_86 ?_
          refine PW.aload_n dX12_move_87 rfl ?_
          refine PW.iload_n dX12_move_88 rfl ?_
          refine PW.iload_n dX12_move_89 rfl ?_
          refine PW.iload dX12_move_90 rfl ?_
          refine PW.if_eq 103 dX12_move_92 (by decide) (by first | assumption | (unfold inR; omega)) (fun h92 => ?_) (fun h92 => ?_)
          · refine PW.iload dX12_move_103 rfl ?_
            refine PW.callVr (c_X12_get hA hL hc (by omega)) cv_X12_get lk_X12_127 (by first | assumption | exact And.left (by assumption)) dX12_move_105 rfl rfl rfl rfl ?_
            refine PW.top (gtV (σ (m + 1)) L c _) (by rw [e1]) ?_
            refine PW.i2b dX12_move_108 ?_
            refine PW.bastore (by assumption) (by first | assumption | (unfold inR; omega)) (by omega) (by omega) (by rw [b8_id (by omega)]; exact narY (by omega)) dX12_move_109 ?_
            refine PW.st (upS σ (m + 2) (pfF (σ (m + 2)) (evG k (σ (m + 6)) c (clV (σ (m + 1)) L c)) 0 ((i + 1 + 40)))) (by
              rw [upS_upS, upS_same]
              refine congrArg (upS σ (m + 2)) ?_
              rw [show i + 1 + 40 = i + 40 + 1 by omega, ← pfF_s (by omega)]
              first
                | (exfalso; omega)
                | (rw [← evG_12 hk (show 0 ≤ i + 40 ∧ i + 40 < 80 by omega), show i + 40 - 40 = i by omega])) ?_
            refine PW.iinc [(0, _), (1, _), (2, _), (3, _), (4, _), (5, _), (6, _)] dX12_move_110 rfl rfl (Nat.le_of_ble_eq_true rfl) ?_
            refine PW.goto 4 dX12_move_113 (by decide) ?_
            refine PW.take 5 ?_
            exact ih (i + 1) (by omega) (by omega) (by omega)
          · refine PW.iload dX12_move_95 rfl ?_
            refine PW.iload dX12_move_97 rfl ?_
            refine PW.isub dX12_move_99 ?_
            refine PW.goto 105 dX12_move_100 (by decide) ?_
            refine PW.callVr (c_X12_get hA hL hc (by omega)) cv_X12_get lk_X12_127 (by first | assumption | exact And.left (by assumption)) dX12_move_105 rfl rfl rfl rfl ?_
            refine PW.top (gtV (σ (m + 1)) L c _) (by rw [e1]) ?_
            refine PW.i2b dX12_move_108 ?_
            refine PW.bastore (by assumption) (by first | assumption | (unfold inR; omega)) (by omega) (by omega) (by rw [b8_id (by omega)]; exact narY (by omega)) dX12_move_109 ?_
            refine PW.st (upS σ (m + 2) (pfF (σ (m + 2)) (evG k (σ (m + 6)) c (clV (σ (m + 1)) L c)) 0 ((i + 1 + 40)))) (by
              rw [upS_upS, upS_same]
              refine congrArg (upS σ (m + 2)) ?_
              rw [show i + 1 + 40 = i + 40 + 1 by omega, ← pfF_s (by omega)]
              first
                | (exfalso; omega)
                | (rw [← evG_12 hk (show 0 ≤ i + 40 ∧ i + 40 < 80 by omega), show i + 40 - 40 = i by omega])) ?_
            refine PW.iinc [(0, _), (1, _), (2, _), (3, _), (4, _), (5, _), (6, _)] dX12_move_110 rfl rfl (Nat.le_of_ble_eq_true rfl) ?_
            refine PW.goto 4 dX12_move_113 (by decide) ?_
            refine PW.take 5 ?_
            exact ih (i + 1) (by omega) (by omega) (by omega)
        · omega
      · omega
theorem mo_move3_loop {G : GT} {S : Shp} {σ : Sto} {m : Nat} {L k c : Int} {Q : Option Value → Shp → Sto → Prop} (hA : IsMod S m) (hC : cOk (σ (m + 1)) 15360) (hL : 0 ≤ L ∧ L ≤ 2) (hc : 0 ≤ c ∧ c ≤ 63) (hk : k = 3) (ho : okG k (σ (m + 6))) (hK : PW (fm G mX12_move 2 0 0 Q) G S (upS σ (m + 2) (pfF (σ (m + 2)) (evG k (σ (m + 6)) c (clV (σ (m + 1)) L c)) 0 (80))) 0 0 116 [(0, .ref m), (1, .int (iI L)), (2, .int (iI k)), (3, .int (iI c))] []) : ∀ (t : Nat) (i : Int), -40 ≤ i → i ≤ 40 → 40 - i < t → PW (fm G mX12_move 2 0 0 Q) G S (upS σ (m + 2) (pfF (σ (m + 2)) (evG k (σ (m + 6)) c (clV (σ (m + 1)) L c)) 0 ((i + 40)))) 0 0 4 [(0, .ref m), (1, .int (iI (L))), (2, .int (iI (k))), (3, .int (iI (c))), (4, .int (iI (i)))] [] := by
  obtain ⟨hM0, hM1, hM2, hM3, hM4, hM5, hM6, hM7, hM8, hM9, hM10, hM11, hM12, hM13, hM14, hM15, hM16, hM17, hM18, hM19, hM20, hM21, hM22, hM23, hM24, hM25, hM26, hM27, hM28, hM29, hM30, hM31, hM32, hM33, hM34⟩ := id hA
  have h3 := ok_3 (by rw [hk] at ho; exact ho)
  have hs := soF_b (ax := σ (m + 6) 0) hc
  intro t
  induction t with
  | zero => intro i h1 h2 h3; omega
  | succ t ih =>
    intro i h1 h2 h3
    have e6 : (upS σ (m + 2) (pfF (σ (m + 2)) (evG k (σ (m + 6)) c (clV (σ (m + 1)) L c)) 0 ((i + 40)))) (m + 6) = σ (m + 6) := upS_ne (by omega)
    have e1 : (upS σ (m + 2) (pfF (σ (m + 2)) (evG k (σ (m + 6)) c (clV (σ (m + 1)) L c)) 0 ((i + 40)))) (m + 1) = σ (m + 1) := upS_ne (by omega)
    have hC2 : cOk ((upS σ (m + 2) (pfF (σ (m + 2)) (evG k (σ (m + 6)) c (clV (σ (m + 1)) L c)) 0 ((i + 40)))) (m + 1)) 15360 := by rw [e1]; exact hC
    have hg := gtV_b hC (z := i - σ (m + 6) 2) hL hc
    have hg2 := gtV_b hC (z := i) hL hc
    have hx3 : -200 ≤ σ (m + 6) 3 * i ∧ σ (m + 6) 3 * i ≤ 200 := by
      rcases (show σ (m + 6) 3 = -2 ∨ σ (m + 6) 3 = -1 ∨ σ (m + 6) 3 = 0 ∨ σ (m + 6) 3 = 1 ∨ σ (m + 6) 3 = 2 by omega) with e | e | e | e | e <;> rw [e] <;> omega
    refine PW.iload dX12_move_4 rfl ?_
    refine PW.bipush (by decide) dX12_move_6 ?_
    refine PW.icmp_ge 116 dX12_move_8 (by decide) (by first | assumption | (unfold inR; omega)) (by first | assumption | (unfold inR; omega)) (fun h8 => ?_) (fun h8 => ?_)
    · have e : i = 40 := by omega
      subst e
      refine PW.take 4 ?_
      exact hK
    · refine PW.iload_n dX12_move_11 rfl ?_
      refine PW.iconst dX12_move_12 ?_
      refine PW.icmp_ne 49 dX12_move_13 (by decide) (by first | assumption | (unfold inR; omega)) (by first | assumption | (unfold inR; omega)) (fun h13 => ?_) (fun h13 => ?_)
      · omega
      · refine PW.iconst dX12_move_16 ?_
        refine PW.aload_n dX12_move_17 rfl ?_
        refine PW.getR fl_X12_27 rfl (by assumption) rfl dX12_move_18 ?_
        refine PW.iconst dX12_move_21 ?_
        refine PW.iaload (by assumption) (by unfold inR; omega) (by omega) (by omega) dX12_move_22 ?_
        refine PW.top (σ (m + 6) 0) (by rw [e6]) ?_
        refine PW.iload_n dX12_move_23 rfl ?_
        refine PW.callSr (c_X12_step (by unfold inR; omega) (by omega)) cs_X12_step lk_X12_152 dX12_move_24 rfl rfl rfl ?_
        refine PW.imul dX12_move_27 ?_
        refine PW.aload_n dX12_move_28 rfl ?_
        refine PW.getR fl_X12_27 rfl (by assumption) rfl dX12_move_29 ?_
        refine PW.iconst dX12_move_32 ?_
        refine PW.iaload (by assumption) (by unfold inR; omega) (by omega) (by omega) dX12_move_33 ?_
        refine PW.top (σ (m + 6) 3) (by rw [e6]) ?_
        refine PW.iload dX12_move_34 rfl ?_
        refine PW.imul dX12_move_36 ?_
        refine PW.iadd dX12_move_37 ?_
        refine PW.iconst dX12_move_38 ?_
        refine PW.aload_n dX12_move_39 rfl ?_
        refine PW.getR fl_X12_27 rfl (by assumption) rfl dX12_move_40 ?_
        refine PW.iconst dX12_move_43 ?_
        refine PW.iaload (by assumption) (by unfold inR; omega) (by omega) (by omega) dX12_move_44 ?_
        refine PW.top (σ (m + 6) 1) (by rw [e6]) ?_
        refine PW.imul dX12_move_45 ?_
        refine PW.icmp_lt 53 dX12_move_46 (by decide) (by first | assumption | (unfold inR; omega)) (by first | assumption | (unfold inR; omega)) (fun h46 => ?_) (fun h46 => ?_)
        · refine PW.iconst dX12_move_53 ?_
          refine PW.istore [(0, _), (1, _), (2, _), (3, _), (4, _), (5, _)] dX12_move_54 rfl (Nat.le_of_ble_eq_true rfl) ?_
          refine PW.iload_n dX12_move_56 rfl ?_
          refine PW.iconst dX12_move_57 ?_
          refine PW.icmp_ne 70 dX12_move_58 (by decide) (by first | assumption | (unfold inR; omega)) (by first | assumption | (unfold inR; omega)) (fun h58 => ?_) (fun h58 => ?_)
          · omega
          · refine PW.aload_n dX12_move_61 rfl ?_
            refine PW.getR fl_X12_27 rfl (by assumption) rfl dX12_move_62 ?_
            refine PW.iconst dX12_move_65 ?_
            refine PW.iaload (by assumption) (by unfold inR; omega) (by omega) (by omega) dX12_move_66 ?_
            refine PW.top (σ (m + 6) 2) (by rw [e6]) ?_
            refine PW.goto 76 dX12_move_67 (by decide) ?_
            refine PW.istore [(0, _), (1, _), (2, _), (3, _), (4, _), (5, _), (6, _)] dX12_move_76 rfl (Nat.le_of_ble_eq_true rfl) ?_
            refine PW.aload_n dX12_move_78 rfl ?_
            refine PW.getR fl_X12_13 rfl (by assumption) rfl dX12_move_79 ?_
            refine PW.iload dX12_move_82 rfl ?_
            refine PW.bipush (by decide) dX12_move_84 ?_
            refine PW.iadd dX12_move_86 ?_
            refine PW.aload_n dX12_move_87 rfl ?_
            refine PW.iload_n dX12_move_88 rfl ?_
            refine PW.iload_n dX12_move_89 rfl ?_
            refine PW.iload dX12_move_90 rfl ?_
            refine PW.if_eq 103 dX12_move_92 (by decide) (by first | assumption | (unfold inR; omega)) (fun h92 => ?_) (fun h92 => ?_)
            · refine PW.iload dX12_move_103 rfl ?_
              refine PW.callVr (c_X12_get hA hL hc (by omega)) cv_X12_get lk_X12_127 (by first | assumption | exact And.left (by assumption)) dX12_move_105 rfl rfl rfl rfl ?_
              refine PW.top (gtV (σ (m + 1)) L c _) (by rw [e1]) ?_
              refine PW.i2b dX12_move_108 ?_
              refine PW.bastore (by assumption) (by first | assumption | (unfold inR; omega)) (by omega) (by omega) (by rw [b8_id (by omega)]; exact narY (by omega)) dX12_move_109 ?_
              refine PW.st (upS σ (m + 2) (pfF (σ (m + 2)) (evG k (σ (m + 6)) c (clV (σ (m + 1)) L c)) 0 ((i + 1 + 40)))) (by
                rw [upS_upS, upS_same]
                refine congrArg (upS σ (m + 2)) ?_
                rw [show i + 1 + 40 = i + 40 + 1 by omega, ← pfF_s (by omega)]
                first
                  | (exfalso; omega)
                  | (have ev := evG_3 (C := σ (m + 1)) (L := L) (by rw [hk] at ho; exact ho) hc (show 0 ≤ i + 40 ∧ i + 40 < 80 by omega)
                     rw [if_pos (by rw [show i + 40 - 40 = i by omega]; omega), show i + 40 - 40 = i by omega] at ev
                     rw [hk, ev])
                  | (have ev := evG_3 (C := σ (m + 1)) (L := L) (by rw [hk] at ho; exact ho) hc (show 0 ≤ i + 40 ∧ i + 40 < 80 by omega)
                     rw [if_neg (by rw [show i + 40 - 40 = i by omega]; omega), show i + 40 - 40 = i by omega] at ev
                     rw [hk, ev])) ?_
              refine PW.iinc [(0, _), (1, _), (2, _), (3, _), (4, _), (5, _), (6, _)] dX12_move_110 rfl rfl (Nat.le_of_ble_eq_true rfl) ?_
              refine PW.goto 4 dX12_move_113 (by decide) ?_
              refine PW.take 5 ?_
              exact ih (i + 1) (by omega) (by omega) (by omega)
            · refine PW.iload dX12_move_95 rfl ?_
              refine PW.iload dX12_move_97 rfl ?_
              refine PW.isub dX12_move_99 ?_
              refine PW.goto 105 dX12_move_100 (by decide) ?_
              refine PW.callVr (c_X12_get hA hL hc (by omega)) cv_X12_get lk_X12_127 (by first | assumption | exact And.left (by assumption)) dX12_move_105 rfl rfl rfl rfl ?_
              refine PW.top (gtV (σ (m + 1)) L c _) (by rw [e1]) ?_
              refine PW.i2b dX12_move_108 ?_
              refine PW.bastore (by assumption) (by first | assumption | (unfold inR; omega)) (by omega) (by omega) (by rw [b8_id (by omega)]; exact narY (by omega)) dX12_move_109 ?_
              refine PW.st (upS σ (m + 2) (pfF (σ (m + 2)) (evG k (σ (m + 6)) c (clV (σ (m + 1)) L c)) 0 ((i + 1 + 40)))) (by
                rw [upS_upS, upS_same]
                refine congrArg (upS σ (m + 2)) ?_
                rw [show i + 1 + 40 = i + 40 + 1 by omega, ← pfF_s (by omega)]
                first
                  | (exfalso; omega)
                  | (have ev := evG_3 (C := σ (m + 1)) (L := L) (by rw [hk] at ho; exact ho) hc (show 0 ≤ i + 40 ∧ i + 40 < 80 by omega)
                     rw [if_pos (by rw [show i + 40 - 40 = i by omega]; omega), show i + 40 - 40 = i by omega] at ev
                     rw [hk, ev])
                  | (have ev := evG_3 (C := σ (m + 1)) (L := L) (by rw [hk] at ho; exact ho) hc (show 0 ≤ i + 40 ∧ i + 40 < 80 by omega)
                     rw [if_neg (by rw [show i + 40 - 40 = i by omega]; omega), show i + 40 - 40 = i by omega] at ev
                     rw [hk, ev])) ?_
              refine PW.iinc [(0, _), (1, _), (2, _), (3, _), (4, _), (5, _), (6, _)] dX12_move_110 rfl rfl (Nat.le_of_ble_eq_true rfl) ?_
              refine PW.goto 4 dX12_move_113 (by decide) ?_
              refine PW.take 5 ?_
              exact ih (i + 1) (by omega) (by omega) (by omega)
        · refine PW.iconst dX12_move_49 ?_
          refine PW.goto 54 dX12_move_50 (by decide) ?_
          refine PW.istore [(0, _), (1, _), (2, _), (3, _), (4, _), (5, _)] dX12_move_54 rfl (Nat.le_of_ble_eq_true rfl) ?_
          refine PW.iload_n dX12_move_56 rfl ?_
          refine PW.iconst dX12_move_57 ?_
          refine PW.icmp_ne 70 dX12_move_58 (by decide) (by first | assumption | (unfold inR; omega)) (by first | assumption | (unfold inR; omega)) (fun h58 => ?_) (fun h58 => ?_)
          · omega
          · refine PW.aload_n dX12_move_61 rfl ?_
            refine PW.getR fl_X12_27 rfl (by assumption) rfl dX12_move_62 ?_
            refine PW.iconst dX12_move_65 ?_
            refine PW.iaload (by assumption) (by unfold inR; omega) (by omega) (by omega) dX12_move_66 ?_
            refine PW.top (σ (m + 6) 2) (by rw [e6]) ?_
            refine PW.goto 76 dX12_move_67 (by decide) ?_
            refine PW.istore [(0, _), (1, _), (2, _), (3, _), (4, _), (5, _), (6, _)] dX12_move_76 rfl (Nat.le_of_ble_eq_true rfl) ?_
            refine PW.aload_n dX12_move_78 rfl ?_
            refine PW.getR fl_X12_13 rfl (by assumption) rfl dX12_move_79 ?_
            refine PW.iload dX12_move_82 rfl ?_
            refine PW.bipush (by decide) dX12_move_84 ?_
            refine PW.iadd dX12_move_86 ?_
            refine PW.aload_n dX12_move_87 rfl ?_
            refine PW.iload_n dX12_move_88 rfl ?_
            refine PW.iload_n dX12_move_89 rfl ?_
            refine PW.iload dX12_move_90 rfl ?_
            refine PW.if_eq 103 dX12_move_92 (by decide) (by first | assumption | (unfold inR; omega)) (fun h92 => ?_) (fun h92 => ?_)
            · refine PW.iload dX12_move_103 rfl ?_
              refine PW.callVr (c_X12_get hA hL hc (by omega)) cv_X12_get lk_X12_127 (by first | assumption | exact And.left (by assumption)) dX12_move_105 rfl rfl rfl rfl ?_
              refine PW.top (gtV (σ (m + 1)) L c _) (by rw [e1]) ?_
              refine PW.i2b dX12_move_108 ?_
              refine PW.bastore (by assumption) (by first | assumption | (unfold inR; omega)) (by omega) (by omega) (by rw [b8_id (by omega)]; exact narY (by omega)) dX12_move_109 ?_
              refine PW.st (upS σ (m + 2) (pfF (σ (m + 2)) (evG k (σ (m + 6)) c (clV (σ (m + 1)) L c)) 0 ((i + 1 + 40)))) (by
                rw [upS_upS, upS_same]
                refine congrArg (upS σ (m + 2)) ?_
                rw [show i + 1 + 40 = i + 40 + 1 by omega, ← pfF_s (by omega)]
                first
                  | (exfalso; omega)
                  | (have ev := evG_3 (C := σ (m + 1)) (L := L) (by rw [hk] at ho; exact ho) hc (show 0 ≤ i + 40 ∧ i + 40 < 80 by omega)
                     rw [if_pos (by rw [show i + 40 - 40 = i by omega]; omega), show i + 40 - 40 = i by omega] at ev
                     rw [hk, ev])
                  | (have ev := evG_3 (C := σ (m + 1)) (L := L) (by rw [hk] at ho; exact ho) hc (show 0 ≤ i + 40 ∧ i + 40 < 80 by omega)
                     rw [if_neg (by rw [show i + 40 - 40 = i by omega]; omega), show i + 40 - 40 = i by omega] at ev
                     rw [hk, ev])) ?_
              refine PW.iinc [(0, _), (1, _), (2, _), (3, _), (4, _), (5, _), (6, _)] dX12_move_110 rfl rfl (Nat.le_of_ble_eq_true rfl) ?_
              refine PW.goto 4 dX12_move_113 (by decide) ?_
              refine PW.take 5 ?_
              exact ih (i + 1) (by omega) (by omega) (by omega)
            · refine PW.iload dX12_move_95 rfl ?_
              refine PW.iload dX12_move_97 rfl ?_
              refine PW.isub dX12_move_99 ?_
              refine PW.goto 105 dX12_move_100 (by decide) ?_
              refine PW.callVr (c_X12_get hA hL hc (by omega)) cv_X12_get lk_X12_127 (by first | assumption | exact And.left (by assumption)) dX12_move_105 rfl rfl rfl rfl ?_
              refine PW.top (gtV (σ (m + 1)) L c _) (by rw [e1]) ?_
              refine PW.i2b dX12_move_108 ?_
              refine PW.bastore (by assumption) (by first | assumption | (unfold inR; omega)) (by omega) (by omega) (by rw [b8_id (by omega)]; exact narY (by omega)) dX12_move_109 ?_
              refine PW.st (upS σ (m + 2) (pfF (σ (m + 2)) (evG k (σ (m + 6)) c (clV (σ (m + 1)) L c)) 0 ((i + 1 + 40)))) (by
                rw [upS_upS, upS_same]
                refine congrArg (upS σ (m + 2)) ?_
                rw [show i + 1 + 40 = i + 40 + 1 by omega, ← pfF_s (by omega)]
                first
                  | (exfalso; omega)
                  | (have ev := evG_3 (C := σ (m + 1)) (L := L) (by rw [hk] at ho; exact ho) hc (show 0 ≤ i + 40 ∧ i + 40 < 80 by omega)
                     rw [if_pos (by rw [show i + 40 - 40 = i by omega]; omega), show i + 40 - 40 = i by omega] at ev
                     rw [hk, ev])
                  | (have ev := evG_3 (C := σ (m + 1)) (L := L) (by rw [hk] at ho; exact ho) hc (show 0 ≤ i + 40 ∧ i + 40 < 80 by omega)
                     rw [if_neg (by rw [show i + 40 - 40 = i by omega]; omega), show i + 40 - 40 = i by omega] at ev
                     rw [hk, ev])) ?_
              refine PW.iinc [(0, _), (1, _), (2, _), (3, _), (4, _), (5, _), (6, _)] dX12_move_110 rfl rfl (Nat.le_of_ble_eq_true rfl) ?_
              refine PW.goto 4 dX12_move_113 (by decide) ?_
              refine PW.take 5 ?_
              exact ih (i + 1) (by omega) (by omega) (by omega)
theorem c_X12_move {G : GT} {S : Shp} {σ : Sto} {m : Nat} {L k c : Int} (hA : IsMod S m) (hC : cOk (σ (m + 1)) 15360) (hL : 0 ≤ L ∧ L ≤ 2) (hc : 0 ≤ c ∧ c ≤ 63) (hk : 1 ≤ k ∧ k ≤ 3) (ho : okG k (σ (m + 6))) : PMet G mX12_move 2 0 0 [.ref m, .int (iI L), .int (iI k), .int (iI c)] S σ (isP none S (upS (upS σ (m + 2) (pfF (σ (m + 2)) (evG k (σ (m + 6)) c (clV (σ (m + 1)) L c)) 0 (80))) (m + 1) (ptF (σ (m + 1)) (5120 * L + 80 * c) (evG k (σ (m + 6)) c (clV (σ (m + 1)) L c))))) := by
  obtain ⟨hM0, hM1, hM2, hM3, hM4, hM5, hM6, hM7, hM8, hM9, hM10, hM11, hM12, hM13, hM14, hM15, hM16, hM17, hM18, hM19, hM20, hM21, hM22, hM23, hM24, hM25, hM26, hM27, hM28, hM29, hM30, hM31, hM32, hM33, hM34⟩ := id hA
  refine PMet.of [(0, .ref m), (1, .int (iI (L))), (2, .int (iI (k))), (3, .int (iI (c)))] (by decide +kernel) rfl (Nat.le_of_ble_eq_true rfl) ?_
  refine PW.bipush (by decide) dX12_move_0 ?_
  refine PW.istore [(0, _), (1, _), (2, _), (3, _), (4, _)] dX12_move_2 rfl (Nat.le_of_ble_eq_true rfl) ?_
  have hK : PW (fm G mX12_move 2 0 0 (isP none S (upS (upS σ (m + 2) (pfF (σ (m + 2)) (evG k (σ (m + 6)) c (clV (σ (m + 1)) L c)) 0 (80))) (m + 1) (ptF (σ (m + 1)) (5120 * L + 80 * c) (evG k (σ (m + 6)) c (clV (σ (m + 1)) L c)))))) G S (upS σ (m + 2) (pfF (σ (m + 2)) (evG k (σ (m + 6)) c (clV (σ (m + 1)) L c)) 0 (80))) 0 0 116 [(0, .ref m), (1, .int (iI L)), (2, .int (iI k)), (3, .int (iI c))] [] := by
    refine PW.bipush (by decide) dX12_move_116 ?_
    refine PW.istore [(0, _), (1, _), (2, _), (3, _), (4, _)] dX12_move_118 rfl (Nat.le_of_ble_eq_true rfl) ?_
    refine PW.st (upS (upS σ (m + 2) (pfF (σ (m + 2)) (evG k (σ (m + 6)) c (clV (σ (m + 1)) L c)) 0 (80))) (m + 1) (pfF (σ (m + 1)) (fun j => evG k (σ (m + 6)) c (clV (σ (m + 1)) L c) (j - (5120 * L + 80 * c))) (5120 * L + 80 * c) (5120 * L + 80 * c + -40 + 40))) (by
      rw [show 5120 * L + 80 * c + -40 + 40 = 5120 * L + 80 * c by omega, pfF_0]
      have e1 : (upS σ (m + 2) (pfF (σ (m + 2)) (evG k (σ (m + 6)) c (clV (σ (m + 1)) L c)) 0 (80))) (m + 1) = σ (m + 1) := upS_ne (by omega)
      have e2 := upS_self (upS σ (m + 2) (pfF (σ (m + 2)) (evG k (σ (m + 6)) c (clV (σ (m + 1)) L c)) 0 (80))) (m + 1)
      rw [e1] at e2
      exact e2.symm) ?_
    exact mo_move2_loop hA hC hL hc hk ho ⟨rfl, rfl, rfl⟩ 81 (-40) (by omega) (by omega) (by omega)
  refine PW.st (upS σ (m + 2) (pfF (σ (m + 2)) (evG k (σ (m + 6)) c (clV (σ (m + 1)) L c)) 0 ((-40 + 40)))) (by rw [show (-40 : Int) + 40 = 0 by omega, pfF_0, upS_self]) ?_
  by_cases h3 : k = 3
  · exact mo_move3_loop hA hC hL hc h3 ho hK 81 (-40) (by omega) (by omega) (by omega)
  · exact mo_move1_loop hA hC hL hc (by omega) ho hK 81 (-40) (by omega) (by omega) (by omega)
theorem okG_k {k k' : Int} {g : Int → Int} (h : okG k g) (e : k = k') : okG k' g := e ▸ h
/-- only the cells and two drafts may have changed -/
def mFr (σ τ : Sto) (m : Nat) : Prop := ∀ b, b ≠ m + 1 → b ≠ m + 2 → τ b = σ b
def mFg (σ τ : Sto) (m : Nat) : Prop := ∀ b, b ≠ m + 1 → b ≠ m + 2 → b ≠ m + 6 → τ b = σ b
theorem mo_befall_loop {G : GT} {S : Shp} {σ : Sto} {m : Nat} {L k : Int} {Q : Option Value → Shp → Sto → Prop} (hA : IsMod S m) (hC : cOk (σ (m + 1)) 15360) (hL : 0 ≤ L ∧ L ≤ 2) (ho : okG k (σ (m + 6))) (hQ : ∀ τ, mFr σ τ m → τ (m + 1) = evL (σ (m + 1)) L k (σ (m + 6)) 64 → Q none S τ) : ∀ (t : Nat) (i : Int) (τ : Sto), 0 ≤ i → i ≤ 64 → 64 - i < t → mFr σ τ m → τ (m + 1) = evL (σ (m + 1)) L k (σ (m + 6)) i → PW (fm G mX12_befall 4 0 0 Q) G S (τ) 0 0 2 [(0, .ref m), (1, .int (iI (L))), (2, .int (iI (k))), (3, .int (iI (i)))] [] := by
  obtain ⟨hM0, hM1, hM2, hM3, hM4, hM5, hM6, hM7, hM8, hM9, hM10, hM11, hM12, hM13, hM14, hM15, hM16, hM17, hM18, hM19, hM20, hM21, hM22, hM23, hM24, hM25, hM26, hM27, hM28, hM29, hM30, hM31, hM32, hM33, hM34⟩ := id hA
  have hkb := ho.1
  intro t
  induction t with
  | zero => intro i τ h1 h2 h3 g1 g2; omega
  | succ t ih =>
    intro i τ h1 h2 h3 g1 g2
    have e6 : τ (m + 6) = σ (m + 6) := g1 _ (by omega) (by omega)
    have hC2 : cOk (τ (m + 1)) 15360 := by rw [g2]; exact evL_ok hC hL (by omega) ho
    have ho2 : okG k (τ (m + 6)) := by rw [e6]; exact ho
    refine PW.iload_n dX12_befall_2 rfl ?_
    refine PW.bipush (by decide) dX12_befall_3 ?_
    refine PW.icmp_ge 62 dX12_befall_5 (by decide) (by first | assumption | (unfold inR; omega)) (by first | assumption | (unfold inR; omega)) (fun h5 => ?_) (fun h5 => ?_)
    · have hi : i = 64 := by omega
      subst hi
      exact PW.vret rfl dX12_befall_62 (hQ τ g1 g2)
    · refine PW.iload_n dX12_befall_8 rfl ?_
      refine PW.if_ne 21 dX12_befall_9 (by decide) (by first | assumption | (unfold inR; omega)) (fun h9 => ?_) (fun h9 => ?_)
      · refine PW.iload_n dX12_befall_21 rfl ?_
        refine PW.iconst dX12_befall_22 ?_
        refine PW.icmp_ne 35 dX12_befall_23 (by decide) (by first | assumption | (unfold inR; omega)) (by first | assumption | (unfold inR; omega)) (fun h23 => ?_) (fun h23 => ?_)
        · refine PW.iload_n dX12_befall_35 rfl ?_
          refine PW.iconst dX12_befall_36 ?_
          refine PW.icmp_ne 49 dX12_befall_37 (by decide) (by first | assumption | (unfold inR; omega)) (by first | assumption | (unfold inR; omega)) (fun h37 => ?_) (fun h37 => ?_)
          · refine PW.aload_n dX12_befall_49 rfl ?_
            refine PW.iload_n dX12_befall_50 rfl ?_
            refine PW.iload_n dX12_befall_51 rfl ?_
            refine PW.iload_n dX12_befall_52 rfl ?_
            refine PW.callVv (c_X12_move hA hC2 hL (by omega) (by omega) ho2) cv_X12_move lk_X12_171 (by first | assumption | exact And.left (by assumption)) dX12_befall_53 rfl rfl rfl rfl ?_
            refine PW.iinc [(0, _), (1, _), (2, _), (3, _)] dX12_befall_56 rfl rfl (Nat.le_of_ble_eq_true rfl) ?_
            refine PW.goto 2 dX12_befall_59 (by decide) ?_
            refine ih (i + 1) _ (by omega) (by omega) (by omega) ?_ ?_
            · intro b b1 b2
              first
                | (rw [upS_ne b1, upS_ne b2]; exact g1 b b1 b2)
                | (rw [upS_ne b1]; exact g1 b b1 b2)
            · rw [upS_same]
              first | rw [upS_ne (show m + 1 ≠ m + 2 by omega)] | skip
              rw [g2, e6]
              exact by
                have hh := evL_s (C := σ (m + 1)) (L := L) (k := k) (g := σ (m + 6)) (c := i) (by omega)
                first
                  | exact hh
                  | (rw [show k = 0 by omega] at hh ⊢; exact hh)
                  | (rw [show k = 4 by omega] at hh ⊢; exact hh)
                  | (rw [show k = 5 by omega] at hh ⊢; exact hh)
          · refine PW.aload_n dX12_befall_40 rfl ?_
            refine PW.iload_n dX12_befall_41 rfl ?_
            refine PW.iload_n dX12_befall_42 rfl ?_
            refine PW.callVv (c_X12_runThrough hA hC2 hL (by omega) (okG_k ho2 (by omega))) cv_X12_runThrough lk_X12_168 (by first | assumption | exact And.left (by assumption)) dX12_befall_43 rfl rfl rfl rfl ?_
            refine PW.goto 56 dX12_befall_46 (by decide) ?_
            refine PW.iinc [(0, _), (1, _), (2, _), (3, _)] dX12_befall_56 rfl rfl (Nat.le_of_ble_eq_true rfl) ?_
            refine PW.goto 2 dX12_befall_59 (by decide) ?_
            refine ih (i + 1) _ (by omega) (by omega) (by omega) ?_ ?_
            · intro b b1 b2
              first
                | (rw [upS_ne b1, upS_ne b2]; exact g1 b b1 b2)
                | (rw [upS_ne b1]; exact g1 b b1 b2)
            · rw [upS_same]
              first | rw [upS_ne (show m + 1 ≠ m + 2 by omega)] | skip
              rw [g2, e6]
              exact by
                have hh := evL_s (C := σ (m + 1)) (L := L) (k := k) (g := σ (m + 6)) (c := i) (by omega)
                first
                  | exact hh
                  | (rw [show k = 0 by omega] at hh ⊢; exact hh)
                  | (rw [show k = 4 by omega] at hh ⊢; exact hh)
                  | (rw [show k = 5 by omega] at hh ⊢; exact hh)
        · refine PW.aload_n dX12_befall_26 rfl ?_
          refine PW.iload_n dX12_befall_27 rfl ?_
          refine PW.iload_n dX12_befall_28 rfl ?_
          refine PW.callVv (c_X12_cutDown hA hC2 hL (by omega) (okG_k ho2 (by omega))) cv_X12_cutDown lk_X12_165 (by first | assumption | exact And.left (by assumption)) dX12_befall_29 rfl rfl rfl rfl ?_
          refine PW.goto 56 dX12_befall_32 (by decide) ?_
          refine PW.iinc [(0, _), (1, _), (2, _), (3, _)] dX12_befall_56 rfl rfl (Nat.le_of_ble_eq_true rfl) ?_
          refine PW.goto 2 dX12_befall_59 (by decide) ?_
          refine ih (i + 1) _ (by omega) (by omega) (by omega) ?_ ?_
          · intro b b1 b2
            first
              | (rw [upS_ne b1, upS_ne b2]; exact g1 b b1 b2)
              | (rw [upS_ne b1]; exact g1 b b1 b2)
          · rw [upS_same]
            first | rw [upS_ne (show m + 1 ≠ m + 2 by omega)] | skip
            rw [g2, e6]
            exact by
              have hh := evL_s (C := σ (m + 1)) (L := L) (k := k) (g := σ (m + 6)) (c := i) (by omega)
              first
                | exact hh
                | (rw [show k = 0 by omega] at hh ⊢; exact hh)
                | (rw [show k = 4 by omega] at hh ⊢; exact hh)
                | (rw [show k = 5 by omega] at hh ⊢; exact hh)
      · refine PW.aload_n dX12_befall_12 rfl ?_
        refine PW.iload_n dX12_befall_13 rfl ?_
        refine PW.iload_n dX12_befall_14 rfl ?_
        refine PW.callVv (c_X12_layBed hA hC2 hL (by omega) (okG_k ho2 (by omega))) cv_X12_layBed lk_X12_161 (by first | assumption | exact And.left (by assumption)) dX12_befall_15 rfl rfl rfl rfl ?_
        refine PW.goto 56 dX12_befall_18 (by decide) ?_
        refine PW.iinc [(0, _), (1, _), (2, _), (3, _)] dX12_befall_56 rfl rfl (Nat.le_of_ble_eq_true rfl) ?_
        refine PW.goto 2 dX12_befall_59 (by decide) ?_
        refine ih (i + 1) _ (by omega) (by omega) (by omega) ?_ ?_
        · intro b b1 b2
          first
            | (rw [upS_ne b1, upS_ne b2]; exact g1 b b1 b2)
            | (rw [upS_ne b1]; exact g1 b b1 b2)
        · rw [upS_same]
          first | rw [upS_ne (show m + 1 ≠ m + 2 by omega)] | skip
          rw [g2, e6]
          exact by
            have hh := evL_s (C := σ (m + 1)) (L := L) (k := k) (g := σ (m + 6)) (c := i) (by omega)
            first
              | exact hh
              | (rw [show k = 0 by omega] at hh ⊢; exact hh)
              | (rw [show k = 4 by omega] at hh ⊢; exact hh)
              | (rw [show k = 5 by omega] at hh ⊢; exact hh)
theorem c_X12_befall {G : GT} {S : Shp} {σ : Sto} {m : Nat} {L k : Int} (hA : IsMod S m) (hC : cOk (σ (m + 1)) 15360) (hL : 0 ≤ L ∧ L ≤ 2) (ho : okG k (σ (m + 6))) : PMet G mX12_befall 4 0 0 [.ref m, .int (iI L), .int (iI k)] S σ (fun r S' τ => r = none ∧ S' = S ∧ mFr σ τ m ∧ τ (m + 1) = evL (σ (m + 1)) L k (σ (m + 6)) 64) := by
  refine PMet.of [(0, .ref m), (1, .int (iI (L))), (2, .int (iI (k)))] (by decide +kernel) rfl (Nat.le_of_ble_eq_true rfl) ?_
  refine PW.iconst dX12_befall_0 ?_
  refine PW.istore_n [(0, _), (1, _), (2, _), (3, _)] dX12_befall_1 rfl (Nat.le_of_ble_eq_true rfl) ?_
  exact mo_befall_loop hA hC hL ho (fun τ q1 q2 => ⟨rfl, rfl, q1, q2⟩) 65 0 σ (by omega) (by omega) (by omega) (fun b _ _ => rfl) (evL_0 _ _ _ _).symm
theorem mo_giveEvent_loop {G : GT} {S : Shp} {σ : Sto} {m : Nat} {e : Int} {Q : Option Value → Shp → Sto → Prop} (hA : IsMod S m) (he : 0 ≤ e ∧ e ≤ 15) (hQ : Q none S (upS σ (m + 6) (pfF (σ (m + 6)) (fun j => σ (m + 4) (5 * e + j)) 0 5))) : ∀ (t : Nat) (i : Int), 0 ≤ i → i ≤ 5 → 5 - i < t → PW (fm G mX12_giveEvent 0 0 0 Q) G S (upS σ (m + 6) (pfF (σ (m + 6)) (fun j => σ (m + 4) (5 * e + j)) 0 i)) 0 0 2 [(0, .ref m), (1, .int (iI (e))), (2, .int (iI (i)))] [] := by
  obtain ⟨hM0, hM1, hM2, hM3, hM4, hM5, hM6, hM7, hM8, hM9, hM10, hM11, hM12, hM13, hM14, hM15, hM16, hM17, hM18, hM19, hM20, hM21, hM22, hM23, hM24, hM25, hM26, hM27, hM28, hM29, hM30, hM31, hM32, hM33, hM34⟩ := id hA
  intro t
  induction t with
  | zero => intro i h1 h2 h3; omega
  | succ t ih =>
    intro i h1 h2 h3
    refine PW.iload_n dX12_giveEvent_2 rfl ?_
    refine PW.iconst dX12_giveEvent_3 ?_
    refine PW.icmp_ge 29 dX12_giveEvent_4 (by decide) (by first | assumption | (unfold inR; omega)) (by first | assumption | (unfold inR; omega)) (fun h4 => ?_) (fun h4 => ?_)
    · have hi : i = 5 := by omega
      subst hi
      exact PW.vret rfl dX12_giveEvent_29 hQ
    · refine PW.aload_n dX12_giveEvent_7 rfl ?_
      refine PW.getR fl_X12_27 rfl (by assumption) rfl dX12_giveEvent_8 ?_
      refine PW.iload_n dX12_giveEvent_11 rfl ?_
      refine PW.aload_n dX12_giveEvent_12 rfl ?_
      refine PW.getR fl_X12_20 rfl (by assumption) rfl dX12_giveEvent_13 ?_
      refine PW.iconst dX12_giveEvent_16 ?_
      refine PW.iload_n dX12_giveEvent_17 rfl ?_
      refine PW.imul dX12_giveEvent_18 ?_
      refine PW.iload_n dX12_giveEvent_19 rfl ?_
      refine PW.iadd dX12_giveEvent_20 ?_
      refine PW.iaload (by assumption) (by unfold inR; omega) (by omega) (by omega) dX12_giveEvent_21 ?_
      refine PW.top (σ (m + 4) (5 * e + i)) (by rw [upS_ne (by omega)]) ?_
      refine PW.iastore (by assumption) (by first | assumption | (unfold inR; omega)) (by omega) (by omega) dX12_giveEvent_22 ?_
      refine PW.st (upS σ (m + 6) (pfF (σ (m + 6)) (fun j => σ (m + 4) (5 * e + j)) 0 (i + 1))) (by
        rw [upS_upS, upS_same]
        refine congrArg (upS σ (m + 6)) ?_
        rw [← pfF_s (by omega)]) ?_
      refine PW.iinc [(0, _), (1, _), (2, _)] dX12_giveEvent_23 rfl rfl (Nat.le_of_ble_eq_true rfl) ?_
      refine PW.goto 2 dX12_giveEvent_26 (by decide) ?_
      exact ih (i + 1) (by omega) (by omega) (by omega)
theorem c_X12_giveEvent {G : GT} {S : Shp} {σ : Sto} {m : Nat} {e : Int} (hA : IsMod S m) (he : 0 ≤ e ∧ e ≤ 15) : PMet G mX12_giveEvent 0 0 0 [.ref m, .int (iI (e))] S σ (isP none S (upS σ (m + 6) (pfF (σ (m + 6)) (fun j => σ (m + 4) (5 * e + j)) 0 5))) := by
  refine PMet.of [(0, .ref m), (1, .int (iI (e)))] (by decide +kernel) rfl (Nat.le_of_ble_eq_true rfl) ?_
  refine PW.iconst dX12_giveEvent_0 ?_
  refine PW.istore_n [(0, _), (1, _), (2, _)] dX12_giveEvent_1 rfl (Nat.le_of_ble_eq_true rfl) ?_
  refine PW.st (upS σ (m + 6) (pfF (σ (m + 6)) (fun j => σ (m + 4) (5 * e + j)) 0 0)) (by rw [pfF_0, upS_self]) ?_
  exact mo_giveEvent_loop hA he ⟨rfl, rfl, rfl⟩ 6 0 (by omega) (by omega) (by omega)
theorem mo_giveMaybe_loop {G : GT} {S : Shp} {σ : Sto} {m : Nat} {e : Int} {Q : Option Value → Shp → Sto → Prop} (hA : IsMod S m) (he : 0 ≤ e ∧ e ≤ 3) (hQ : Q none S (upS σ (m + 6) (pfF (σ (m + 6)) (fun j => σ (m + 30) (5 * e + j)) 0 5))) : ∀ (t : Nat) (i : Int), 0 ≤ i → i ≤ 5 → 5 - i < t → PW (fm G mX12_giveMaybe 0 0 0 Q) G S (upS σ (m + 6) (pfF (σ (m + 6)) (fun j => σ (m + 30) (5 * e + j)) 0 i)) 0 0 2 [(0, .ref m), (1, .int (iI (e))), (2, .int (iI (i)))] [] := by
  obtain ⟨hM0, hM1, hM2, hM3, hM4, hM5, hM6, hM7, hM8, hM9, hM10, hM11, hM12, hM13, hM14, hM15, hM16, hM17, hM18, hM19, hM20, hM21, hM22, hM23, hM24, hM25, hM26, hM27, hM28, hM29, hM30, hM31, hM32, hM33, hM34⟩ := id hA
  intro t
  induction t with
  | zero => intro i h1 h2 h3; omega
  | succ t ih =>
    intro i h1 h2 h3
    refine PW.iload_n dX12_giveMaybe_2 rfl ?_
    refine PW.iconst dX12_giveMaybe_3 ?_
    refine PW.icmp_ge 29 dX12_giveMaybe_4 (by decide) (by first | assumption | (unfold inR; omega)) (by first | assumption | (unfold inR; omega)) (fun h4 => ?_) (fun h4 => ?_)
    · have hi : i = 5 := by omega
      subst hi
      exact PW.vret rfl dX12_giveMaybe_29 hQ
    · refine PW.aload_n dX12_giveMaybe_7 rfl ?_
      refine PW.getR fl_X12_27 rfl (by assumption) rfl dX12_giveMaybe_8 ?_
      refine PW.iload_n dX12_giveMaybe_11 rfl ?_
      refine PW.aload_n dX12_giveMaybe_12 rfl ?_
      refine PW.getR fl_X12_103 rfl (by assumption) rfl dX12_giveMaybe_13 ?_
      refine PW.iconst dX12_giveMaybe_16 ?_
      refine PW.iload_n dX12_giveMaybe_17 rfl ?_
      refine PW.imul dX12_giveMaybe_18 ?_
      refine PW.iload_n dX12_giveMaybe_19 rfl ?_
      refine PW.iadd dX12_giveMaybe_20 ?_
      refine PW.iaload (by assumption) (by unfold inR; omega) (by omega) (by omega) dX12_giveMaybe_21 ?_
      refine PW.top (σ (m + 30) (5 * e + i)) (by rw [upS_ne (by omega)]) ?_
      refine PW.iastore (by assumption) (by first | assumption | (unfold inR; omega)) (by omega) (by omega) dX12_giveMaybe_22 ?_
      refine PW.st (upS σ (m + 6) (pfF (σ (m + 6)) (fun j => σ (m + 30) (5 * e + j)) 0 (i + 1))) (by
        rw [upS_upS, upS_same]
        refine congrArg (upS σ (m + 6)) ?_
        rw [← pfF_s (by omega)]) ?_
      refine PW.iinc [(0, _), (1, _), (2, _)] dX12_giveMaybe_23 rfl rfl (Nat.le_of_ble_eq_true rfl) ?_
      refine PW.goto 2 dX12_giveMaybe_26 (by decide) ?_
      exact ih (i + 1) (by omega) (by omega) (by omega)
theorem c_X12_giveMaybe {G : GT} {S : Shp} {σ : Sto} {m : Nat} {e : Int} (hA : IsMod S m) (he : 0 ≤ e ∧ e ≤ 3) : PMet G mX12_giveMaybe 0 0 0 [.ref m, .int (iI (e))] S σ (isP none S (upS σ (m + 6) (pfF (σ (m + 6)) (fun j => σ (m + 30) (5 * e + j)) 0 5))) := by
  refine PMet.of [(0, .ref m), (1, .int (iI (e)))] (by decide +kernel) rfl (Nat.le_of_ble_eq_true rfl) ?_
  refine PW.iconst dX12_giveMaybe_0 ?_
  refine PW.istore_n [(0, _), (1, _), (2, _)] dX12_giveMaybe_1 rfl (Nat.le_of_ble_eq_true rfl) ?_
  refine PW.st (upS σ (m + 6) (pfF (σ (m + 6)) (fun j => σ (m + 30) (5 * e + j)) 0 0)) (by rw [pfF_0, upS_self]) ?_
  exact mo_giveMaybe_loop hA he ⟨rfl, rfl, rfl⟩ 6 0 (by omega) (by omega) (by omega)
theorem mo_giveKept_loop {G : GT} {S : Shp} {σ : Sto} {m : Nat} {v e : Int} {Q : Option Value → Shp → Sto → Prop} (hA : IsMod S m) (he : 0 ≤ e ∧ e ≤ 15) (hv : 0 ≤ v ∧ v ≤ 3) (hQ : Q none S (upS σ (m + 6) (pfF (σ (m + 6)) (fun j => σ (m + 14) (5 * (16 * v + e) + j)) 0 5))) : ∀ (t : Nat) (i : Int), 0 ≤ i → i ≤ 5 → 5 - i < t → PW (fm G mX12_giveKept 0 0 0 Q) G S (upS σ (m + 6) (pfF (σ (m + 6)) (fun j => σ (m + 14) (5 * (16 * v + e) + j)) 0 i)) 0 0 2 [(0, .ref m), (1, .int (iI (v))), (2, .int (iI (e))), (3, .int (iI (i)))] [] := by
  obtain ⟨hM0, hM1, hM2, hM3, hM4, hM5, hM6, hM7, hM8, hM9, hM10, hM11, hM12, hM13, hM14, hM15, hM16, hM17, hM18, hM19, hM20, hM21, hM22, hM23, hM24, hM25, hM26, hM27, hM28, hM29, hM30, hM31, hM32, hM33, hM34⟩ := id hA
  intro t
  induction t with
  | zero => intro i h1 h2 h3; omega
  | succ t ih =>
    intro i h1 h2 h3
    refine PW.iload_n dX12_giveKept_2 rfl ?_
    refine PW.iconst dX12_giveKept_3 ?_
    refine PW.icmp_ge 34 dX12_giveKept_4 (by decide) (by first | assumption | (unfold inR; omega)) (by first | assumption | (unfold inR; omega)) (fun h4 => ?_) (fun h4 => ?_)
    · have hi : i = 5 := by omega
      subst hi
      exact PW.vret rfl dX12_giveKept_34 hQ
    · refine PW.aload_n dX12_giveKept_7 rfl ?_
      refine PW.getR fl_X12_27 rfl (by assumption) rfl dX12_giveKept_8 ?_
      refine PW.iload_n dX12_giveKept_11 rfl ?_
      refine PW.aload_n dX12_giveKept_12 rfl ?_
      refine PW.getR fl_X12_55 rfl (by assumption) rfl dX12_giveKept_13 ?_
      refine PW.iconst dX12_giveKept_16 ?_
      refine PW.bipush (by decide) dX12_giveKept_17 ?_
      refine PW.iload_n dX12_giveKept_19 rfl ?_
      refine PW.imul dX12_giveKept_20 ?_
      refine PW.iload_n dX12_giveKept_21 rfl ?_
      refine PW.iadd dX12_giveKept_22 ?_
      refine PW.imul dX12_giveKept_23 ?_
      refine PW.iload_n dX12_giveKept_24 rfl ?_
      refine PW.iadd dX12_giveKept_25 ?_
      refine PW.iaload (by assumption) (by unfold inR; omega) (by omega) (by omega) dX12_giveKept_26 ?_
      refine PW.top (σ (m + 14) (5 * (16 * v + e) + i)) (by rw [upS_ne (by omega)]) ?_
      refine PW.iastore (by assumption) (by first | assumption | (unfold inR; omega)) (by omega) (by omega) dX12_giveKept_27 ?_
      refine PW.st (upS σ (m + 6) (pfF (σ (m + 6)) (fun j => σ (m + 14) (5 * (16 * v + e) + j)) 0 (i + 1))) (by
        rw [upS_upS, upS_same]
        refine congrArg (upS σ (m + 6)) ?_
        rw [← pfF_s (by omega)]) ?_
      refine PW.iinc [(0, _), (1, _), (2, _), (3, _)] dX12_giveKept_28 rfl rfl (Nat.le_of_ble_eq_true rfl) ?_
      refine PW.goto 2 dX12_giveKept_31 (by decide) ?_
      exact ih (i + 1) (by omega) (by omega) (by omega)
theorem c_X12_giveKept {G : GT} {S : Shp} {σ : Sto} {m : Nat} {v e : Int} (hA : IsMod S m) (he : 0 ≤ e ∧ e ≤ 15) (hv : 0 ≤ v ∧ v ≤ 3) : PMet G mX12_giveKept 0 0 0 [.ref m, .int (iI (v)), .int (iI (e))] S σ (isP none S (upS σ (m + 6) (pfF (σ (m + 6)) (fun j => σ (m + 14) (5 * (16 * v + e) + j)) 0 5))) := by
  refine PMet.of [(0, .ref m), (1, .int (iI (v))), (2, .int (iI (e)))] (by decide +kernel) rfl (Nat.le_of_ble_eq_true rfl) ?_
  refine PW.iconst dX12_giveKept_0 ?_
  refine PW.istore_n [(0, _), (1, _), (2, _), (3, _)] dX12_giveKept_1 rfl (Nat.le_of_ble_eq_true rfl) ?_
  refine PW.st (upS σ (m + 6) (pfF (σ (m + 6)) (fun j => σ (m + 14) (5 * (16 * v + e) + j)) 0 0)) (by rw [pfF_0, upS_self]) ?_
  exact mo_giveKept_loop hA he hv ⟨rfl, rfl, rfl⟩ 6 0 (by omega) (by omega) (by omega)

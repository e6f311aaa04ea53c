theorem c_X12_rise {G : GT} {S : Shp} {σ : Sto} {m : Nat} {k c : Int} (hA : IsMod S m) (hk : k = 1 ∨ k = 2) (ho : okG k (σ (m + 6))) (hc : 0 ≤ c ∧ c ≤ 63) : PMet G mX12_rise 1 0 0 [.ref m, .int (iI (k)), .int (iI (c))] S σ (isP (some (.int (iI (rsF k (σ (m + 6)) c)))) S (σ)) := by
  obtain ⟨hM0, hM1, hM2, hM3, hM4, hM5, hM6, hM7, hM8, hM9, hM10, hM11, hM12, hM13, hM14, hM15, hM16, hM17, hM18, hM19, hM20, hM21, hM22, hM23, hM24, hM25, hM26, hM27, hM28, hM29, hM30, hM31, hM32, hM33, hM34⟩ := id hA
  have p1 : k = 1 → (-8 ≤ σ (m + 6) 0 ∧ σ (m + 6) 0 ≤ 8) ∧ (-8 ≤ σ (m + 6) 1 ∧ σ (m + 6) 1 ≤ 8) := fun e => by subst e; exact ok_1 ho
  have p2 : k = 2 → (0 ≤ σ (m + 6) 0 ∧ σ (m + 6) 0 ≤ 1) ∧ (-8 ≤ σ (m + 6) 1 ∧ σ (m + 6) 1 ≤ 8) ∧ (2 ≤ σ (m + 6) 2 ∧ σ (m + 6) 2 ≤ 8) ∧ (0 ≤ σ (m + 6) 3 ∧ σ (m + 6) 3 ≤ 7) := fun e => by subst e; exact ok_2 ho
  have hs := soF_b (ax := σ (m + 6) 0) hc
  have x0 : k = 1 → -7000 ≤ σ (m + 6) 0 * (c % 8) ∧ σ (m + 6) 0 * (c % 8) ≤ 7000 := fun e => mul7 (by have := p1 e; omega) (by omega)
  have x1 : k = 1 → -7000 ≤ σ (m + 6) 1 * (c / 8) ∧ σ (m + 6) 1 * (c / 8) ≤ 7000 := fun e => mul7 (by have := p1 e; omega) (by omega)
  have x2 : k = 2 → -64 ≤ σ (m + 6) 1 * min ((soF (σ (m + 6) 0) (c % 8) (c / 8) + σ (m + 6) 3) % σ (m + 6) 2) (σ (m + 6) 2 - (soF (σ (m + 6) 0) (c % 8) (c / 8) + σ (m + 6) 3) % σ (m + 6) 2) ∧ σ (m + 6) 1 * min ((soF (σ (m + 6) 0) (c % 8) (c / 8) + σ (m + 6) 3) % σ (m + 6) 2) (σ (m + 6) 2 - (soF (σ (m + 6) 0) (c % 8) (c / 8) + σ (m + 6) 3) % σ (m + 6) 2) ≤ 64 := fun e => by
    have := p2 e
    exact frF_m (by omega) (by omega) (by omega) (by omega)
  refine PMet.of [(0, .ref m), (1, .int (iI (k))), (2, .int (iI (c)))] (by decide +kernel) rfl (Nat.le_of_ble_eq_true rfl) ?_
  refine PW.iload_n dX12_rise_0 rfl ?_
  refine PW.iconst dX12_rise_1 ?_
  refine PW.icmp_ne 33 dX12_rise_2 (by decide) (by first | assumption | (unfold inR; omega)) (by first | assumption | (unfold inR; omega)) (fun h2 => ?_) (fun h2 => ?_)
  · refine PW.aload_n dX12_rise_33 rfl ?_
    refine PW.getR fl_X12_27 rfl (by assumption) rfl dX12_rise_34 ?_
    refine PW.iconst dX12_rise_37 ?_
    refine PW.iaload (by assumption) (by first | assumption | (unfold inR; omega)) (by omega) (by omega) dX12_rise_38 ?_
    refine PW.iload_n dX12_rise_39 rfl ?_
    refine PW.callSr (c_X12_step (by first | assumption | (unfold inR; omega)) (by omega)) cs_X12_step lk_X12_152 dX12_rise_40 rfl rfl rfl ?_
    refine PW.aload_n dX12_rise_43 rfl ?_
    refine PW.getR fl_X12_27 rfl (by assumption) rfl dX12_rise_44 ?_
    refine PW.iconst dX12_rise_47 ?_
    refine PW.iaload (by assumption) (by first | assumption | (unfold inR; omega)) (by omega) (by omega) dX12_rise_48 ?_
    refine PW.iadd dX12_rise_49 ?_
    refine PW.aload_n dX12_rise_50 rfl ?_
    refine PW.getR fl_X12_27 rfl (by assumption) rfl dX12_rise_51 ?_
    refine PW.iconst dX12_rise_54 ?_
    refine PW.iaload (by assumption) (by first | assumption | (unfold inR; omega)) (by omega) (by omega) dX12_rise_55 ?_
    have q2 := p2 (by omega)
    refine PW.irem (by unfold inR; omega) (by omega) dX12_rise_56 ?_
    refine PW.top ((soF (σ (m + 6) 0) (c % 8) (c / 8) + σ (m + 6) 3) % σ (m + 6) 2) (irem_nn (by omega) (by unfold inR; omega) (by unfold inR; omega)) ?_
    have r1 := Int.emod_nonneg (soF (σ (m + 6) 0) (c % 8) (c / 8) + σ (m + 6) 3) (show σ (m + 6) 2 ≠ 0 by omega)
    have r2 := Int.emod_lt_of_pos (soF (σ (m + 6) 0) (c % 8) (c / 8) + σ (m + 6) 3) (show 0 < σ (m + 6) 2 by omega)
    have r3 := x2 (by omega)
    refine PW.istore_n [(0, _), (1, _), (2, _), (3, _)] dX12_rise_57 rfl (Nat.le_of_ble_eq_true rfl) ?_
    refine PW.iload_n dX12_rise_58 rfl ?_
    refine PW.aload_n dX12_rise_59 rfl ?_
    refine PW.getR fl_X12_27 rfl (by assumption) rfl dX12_rise_60 ?_
    refine PW.iconst dX12_rise_63 ?_
    refine PW.iaload (by assumption) (by first | assumption | (unfold inR; omega)) (by omega) (by omega) dX12_rise_64 ?_
    refine PW.iload_n dX12_rise_65 rfl ?_
    refine PW.isub dX12_rise_66 ?_
    refine PW.icmp_ge 74 dX12_rise_67 (by decide) (by first | assumption | (unfold inR; omega)) (by first | assumption | (unfold inR; omega)) (fun h67 => ?_) (fun h67 => ?_)
    · refine PW.aload_n dX12_rise_74 rfl ?_
      refine PW.getR fl_X12_27 rfl (by assumption) rfl dX12_rise_75 ?_
      refine PW.iconst dX12_rise_78 ?_
      refine PW.iaload (by assumption) (by first | assumption | (unfold inR; omega)) (by omega) (by omega) dX12_rise_79 ?_
      refine PW.iload_n dX12_rise_80 rfl ?_
      refine PW.isub dX12_rise_81 ?_
      refine PW.istore [(0, _), (1, _), (2, _), (3, _), (4, _)] dX12_rise_82 rfl (Nat.le_of_ble_eq_true rfl) ?_
      refine PW.aload_n dX12_rise_84 rfl ?_
      refine PW.getR fl_X12_27 rfl (by assumption) rfl dX12_rise_85 ?_
      refine PW.iconst dX12_rise_88 ?_
      refine PW.iaload (by assumption) (by first | assumption | (unfold inR; omega)) (by omega) (by omega) dX12_rise_89 ?_
      refine PW.iload dX12_rise_90 rfl ?_
      refine PW.top (min ((soF (σ (m + 6) 0) (c % 8) (c / 8) + σ (m + 6) 3) % σ (m + 6) 2) (σ (m + 6) 2 - (soF (σ (m + 6) 0) (c % 8) (c / 8) + σ (m + 6) 3) % σ (m + 6) 2)) (by omega) ?_
      refine PW.imul dX12_rise_92 ?_
      refine PW.iconst dX12_rise_93 ?_
      refine PW.callSr (c_X12_floor (by omega) (by omega)) cs_X12_floor lk_X12_148 dX12_rise_94 rfl rfl rfl ?_
      exact PW.iret rfl rfl dX12_rise_97 ⟨ret_eq (by unfold rsF frF; rw [if_neg (by omega)]), rfl, rfl⟩
    · refine PW.iload_n dX12_rise_70 rfl ?_
      refine PW.goto 82 dX12_rise_71 (by decide) ?_
      refine PW.istore [(0, _), (1, _), (2, _), (3, _), (4, _)] dX12_rise_82 rfl (Nat.le_of_ble_eq_true rfl) ?_
      refine PW.aload_n dX12_rise_84 rfl ?_
      refine PW.getR fl_X12_27 rfl (by assumption) rfl dX12_rise_85 ?_
      refine PW.iconst dX12_rise_88 ?_
      refine PW.iaload (by assumption) (by first | assumption | (unfold inR; omega)) (by omega) (by omega) dX12_rise_89 ?_
      refine PW.iload dX12_rise_90 rfl ?_
      refine PW.top (min ((soF (σ (m + 6) 0) (c % 8) (c / 8) + σ (m + 6) 3) % σ (m + 6) 2) (σ (m + 6) 2 - (soF (σ (m + 6) 0) (c % 8) (c / 8) + σ (m + 6) 3) % σ (m + 6) 2)) (by omega) ?_
      refine PW.imul dX12_rise_92 ?_
      refine PW.iconst dX12_rise_93 ?_
      refine PW.callSr (c_X12_floor (by omega) (by omega)) cs_X12_floor lk_X12_148 dX12_rise_94 rfl rfl rfl ?_
      exact PW.iret rfl rfl dX12_rise_97 ⟨ret_eq (by unfold rsF frF; rw [if_neg (by omega)]), rfl, rfl⟩
  · refine PW.aload_n dX12_rise_5 rfl ?_
    refine PW.getR fl_X12_27 rfl (by assumption) rfl dX12_rise_6 ?_
    refine PW.iconst dX12_rise_9 ?_
    refine PW.iaload (by assumption) (by first | assumption | (unfold inR; omega)) (by omega) (by omega) dX12_rise_10 ?_
    refine PW.iload_n dX12_rise_11 rfl ?_
    refine PW.bipush (by decide) dX12_rise_12 ?_
    refine PW.irem (by unfold inR; omega) (by omega) dX12_rise_14 ?_
    refine PW.top (c % 8) (by rw [tdv_nn (by omega) (by unfold inR; omega) (by unfold inR; omega)]; omega) ?_
    refine PW.imul dX12_rise_15 ?_
    refine PW.aload_n dX12_rise_16 rfl ?_
    refine PW.getR fl_X12_27 rfl (by assumption) rfl dX12_rise_17 ?_
    refine PW.iconst dX12_rise_20 ?_
    refine PW.iaload (by assumption) (by first | assumption | (unfold inR; omega)) (by omega) (by omega) dX12_rise_21 ?_
    refine PW.iload_n dX12_rise_22 rfl ?_
    refine PW.bipush (by decide) dX12_rise_23 ?_
    refine PW.idiv (by unfold inR; omega) (by omega) dX12_rise_25 ?_
    refine PW.top (c / 8) (tdv_nn (by omega) (by unfold inR; omega) (by unfold inR; omega)) ?_
    have y0 := x0 (by omega)
    have y1 := x1 (by omega)
    refine PW.imul dX12_rise_26 ?_
    refine PW.iadd dX12_rise_27 ?_
    refine PW.iconst dX12_rise_28 ?_
    refine PW.callSr (c_X12_floor (by omega) (by omega)) cs_X12_floor lk_X12_148 dX12_rise_29 rfl rfl rfl ?_
    exact PW.iret rfl rfl dX12_rise_32 ⟨ret_eq (by unfold rsF slF; rw [if_pos (by omega)]), rfl, rfl⟩
theorem mo_lay_loop {G : GT} {S : Shp} {σ : Sto} {m : Nat} {L c z : Int} {Q : Option Value → Shp → Sto → Prop} (hA : IsMod S m) (hC : cOk (σ (m + 1)) 15360) (hL : 0 ≤ L ∧ L ≤ 2) (hc : 0 ≤ c ∧ c ≤ 63) (ho : okG 0 (σ (m + 6))) (hz : z = skF (clV (σ (m + 1)) L c) + 1) (hQ : Q none S (upS σ (m + 1) (ptF (σ (m + 1)) (5120 * L + 80 * c) (evG 0 (σ (m + 6)) c (clV (σ (m + 1)) L c))))) : ∀ (t : Nat) (i : Int), 0 ≤ i → i ≤ σ (m + 6) 1 → σ (m + 6) 1 - i < t → z + i ≤ 40 → PW (fm G mX12_layBed 3 0 0 Q) G S (upS σ (m + 1) (pfF (σ (m + 1)) (fun _ => σ (m + 6) 0) (5120 * L + 80 * c + z + 40) (5120 * L + 80 * c + z + 40 + i))) 0 0 12 [(0, .ref m), (1, .int (iI (L))), (2, .int (iI (c))), (3, .int (iI (z))), (4, .int (iI (i)))] [] := by
  obtain ⟨hM0, hM1, hM2, hM3, hM4, hM5, hM6, hM7, hM8, hM9, hM10, hM11, hM12, hM13, hM14, hM15, hM16, hM17, hM18, hM19, hM20, hM21, hM22, hM23, hM24, hM25, hM26, hM27, hM28, hM29, hM30, hM31, hM32, hM33, hM34⟩ := id hA
  have hg := ok_0 ho
  have hsk := skF_b (clV (σ (m + 1)) L c)
  intro t
  induction t with
  | zero => intro i h1 h2 h3 g1; omega
  | succ t ih =>
    intro i h1 h2 h3 g1
    have e6 : (upS σ (m + 1) (pfF (σ (m + 1)) (fun _ => σ (m + 6) 0) (5120 * L + 80 * c + z + 40) (5120 * L + 80 * c + z + 40 + i))) (m + 6) = σ (m + 6) := upS_ne (by omega)
    refine PW.iload dX12_layBed_12 rfl ?_
    refine PW.aload_n dX12_layBed_14 rfl ?_
    refine PW.getR fl_X12_27 rfl (by assumption) rfl dX12_layBed_15 ?_
    refine PW.iconst dX12_layBed_18 ?_
    refine PW.iaload (by assumption) (by unfold inR; omega) (by omega) (by omega) dX12_layBed_19 ?_
    refine PW.top (σ (m + 6) 1) (by rw [e6]) ?_
    refine PW.icmp_ge 59 dX12_layBed_20 (by decide) (by first | assumption | (unfold inR; omega)) (by first | assumption | (unfold inR; omega)) (fun h20 => ?_) (fun h20 => ?_)
    · refine PW.st (upS σ (m + 1) (ptF (σ (m + 1)) (5120 * L + 80 * c) (evG 0 (σ (m + 6)) c (clV (σ (m + 1)) L c)))) (congrArg (upS σ (m + 1)) (funext fun j => ?_)) (PW.vret rfl dX12_layBed_59 hQ)
      have ee : evG 0 (σ (m + 6)) c (clV (σ (m + 1)) L c) = lyF (clV (σ (m + 1)) L c) (σ (m + 6) 0) (σ (m + 6) 1) := if_pos rfl
      rw [ee]
      unfold ptF pfF lyF fhF
      by_cases q : 5120 * L + 80 * c ≤ j ∧ j < 5120 * L + 80 * c + 80
      · rw [if_pos q]
        by_cases r : 5120 * L + 80 * c + z + 40 ≤ j ∧ j < 5120 * L + 80 * c + z + 40 + i
        · rw [if_pos r, if_pos (by omega)]
        · rw [if_neg r, if_neg (by omega)]
          unfold clV
          congr 1
          omega
      · rw [if_neg q, if_neg (by omega)]
    · refine PW.iload_n dX12_layBed_23 rfl ?_
      refine PW.iload dX12_layBed_24 rfl ?_
      refine PW.iadd dX12_layBed_26 ?_
      refine PW.bipush (by decide) dX12_layBed_27 ?_
      refine PW.icmp_ge 59 dX12_layBed_29 (by decide) (by first | assumption | (unfold inR; omega)) (by first | assumption | (unfold inR; omega)) (fun h29 => ?_) (fun h29 => ?_)
      · refine PW.st (upS σ (m + 1) (ptF (σ (m + 1)) (5120 * L + 80 * c) (evG 0 (σ (m + 6)) c (clV (σ (m + 1)) L c)))) (congrArg (upS σ (m + 1)) (funext fun j => ?_)) (PW.vret rfl dX12_layBed_59 hQ)
        have ee : evG 0 (σ (m + 6)) c (clV (σ (m + 1)) L c) = lyF (clV (σ (m + 1)) L c) (σ (m + 6) 0) (σ (m + 6) 1) := if_pos rfl
        rw [ee]
        unfold ptF pfF lyF fhF
        by_cases q : 5120 * L + 80 * c ≤ j ∧ j < 5120 * L + 80 * c + 80
        · rw [if_pos q]
          by_cases r : 5120 * L + 80 * c + z + 40 ≤ j ∧ j < 5120 * L + 80 * c + z + 40 + i
          · rw [if_pos r, if_pos (by omega)]
          · rw [if_neg r, if_neg (by omega)]
            unfold clV
            congr 1
            omega
        · rw [if_neg q, if_neg (by omega)]
      · refine PW.aload_n dX12_layBed_32 rfl ?_
        refine PW.getR fl_X12_7 rfl (by assumption) rfl dX12_layBed_33 ?_
        refine PW.iload_n dX12_layBed_36 rfl ?_
        refine PW.iload_n dX12_layBed_37 rfl ?_
        refine PW.iload_n dX12_layBed_38 rfl ?_
        refine PW.iload dX12_layBed_39 rfl ?_
        refine PW.iadd dX12_layBed_41 ?_
        refine PW.callSr (c_X12_cellAt) cs_X12_cellAt lk_X12_123 dX12_layBed_42 rfl rfl rfl ?_
        refine PW.aload_n dX12_layBed_45 rfl ?_
        refine PW.getR fl_X12_27 rfl (by assumption) rfl dX12_layBed_46 ?_
        refine PW.iconst dX12_layBed_49 ?_
        refine PW.iaload (by assumption) (by unfold inR; omega) (by omega) (by omega) dX12_layBed_50 ?_
        refine PW.top (σ (m + 6) 0) (by rw [e6]) ?_
        refine PW.i2b dX12_layBed_51 ?_
        refine PW.bastore (by assumption) (by first | assumption | (unfold inR; omega)) (by omega) (by omega) (by rw [b8_id (by omega)]; exact narY (by omega)) dX12_layBed_52 ?_
        refine PW.st (upS σ (m + 1) (pfF (σ (m + 1)) (fun _ => σ (m + 6) 0) (5120 * L + 80 * c + z + 40) (5120 * L + 80 * c + z + 40 + (i + 1)))) (by
          rw [upS_upS, upS_same]
          refine congrArg (upS σ (m + 1)) ?_
          rw [show 5120 * L + 80 * c + z + 40 + (i + 1) = 5120 * L + 80 * c + z + 40 + i + 1 by omega, ← pfF_s (by omega)]
          congr 1
          omega) ?_
        refine PW.iinc [(0, _), (1, _), (2, _), (3, _), (4, _)] dX12_layBed_53 rfl rfl (Nat.le_of_ble_eq_true rfl) ?_
        refine PW.goto 12 dX12_layBed_56 (by decide) ?_
        exact ih (i + 1) (by omega) (by omega) (by omega) (by omega)
theorem c_X12_layBed {G : GT} {S : Shp} {σ : Sto} {m : Nat} {L c : Int} (hA : IsMod S m) (hC : cOk (σ (m + 1)) 15360) (hL : 0 ≤ L ∧ L ≤ 2) (hc : 0 ≤ c ∧ c ≤ 63) (ho : okG 0 (σ (m + 6))) : PMet G mX12_layBed 3 0 0 [.ref m, .int (iI L), .int (iI c)] S σ (isP none S (upS σ (m + 1) (ptF (σ (m + 1)) (5120 * L + 80 * c) (evG 0 (σ (m + 6)) c (clV (σ (m + 1)) L c))))) := by
  obtain ⟨hM0, hM1, hM2, hM3, hM4, hM5, hM6, hM7, hM8, hM9, hM10, hM11, hM12, hM13, hM14, hM15, hM16, hM17, hM18, hM19, hM20, hM21, hM22, hM23, hM24, hM25, hM26, hM27, hM28, hM29, hM30, hM31, hM32, hM33, hM34⟩ := id hA
  have hg := ok_0 ho
  have hsk := skF_b (clV (σ (m + 1)) L c)
  refine PMet.of [(0, .ref m), (1, .int (iI (L))), (2, .int (iI (c)))] (by decide +kernel) rfl (Nat.le_of_ble_eq_true rfl) ?_
  refine PW.aload_n dX12_layBed_0 rfl ?_
  refine PW.iload_n dX12_layBed_1 rfl ?_
  refine PW.iload_n dX12_layBed_2 rfl ?_
  refine PW.callVr (c_X12_skinOf hA (by assumption) (by omega) (by omega)) cv_X12_skinOf lk_X12_155 (by first | assumption | exact And.left (by assumption)) dX12_layBed_3 rfl rfl rfl rfl ?_
  refine PW.iconst dX12_layBed_6 ?_
  refine PW.iadd dX12_layBed_7 ?_
  refine PW.istore_n [(0, _), (1, _), (2, _), (3, _)] dX12_layBed_8 rfl (Nat.le_of_ble_eq_true rfl) ?_
  refine PW.iconst dX12_layBed_9 ?_
  refine PW.istore [(0, _), (1, _), (2, _), (3, _), (4, _)] dX12_layBed_10 rfl (Nat.le_of_ble_eq_true rfl) ?_
  refine PW.st (upS σ (m + 1) (pfF (σ (m + 1)) (fun _ => σ (m + 6) 0) (5120 * L + 80 * c + (skF (clV (σ (m + 1)) L c) + 1) + 40) (5120 * L + 80 * c + (skF (clV (σ (m + 1)) L c) + 1) + 40 + 0))) (by rw [Int.add_zero, pfF_0, upS_self]) ?_
  exact (mo_lay_loop hA hC hL hc ho rfl ⟨rfl, rfl, rfl⟩ 9 0 (by omega) (by omega) (by omega) (by omega))
theorem mo_cut_loop {G : GT} {S : Shp} {σ : Sto} {m : Nat} {L c w z : Int} {Q : Option Value → Shp → Sto → Prop} (hA : IsMod S m) (hC : cOk (σ (m + 1)) 15360) (hL : 0 ≤ L ∧ L ≤ 2) (hc : 0 ≤ c ∧ c ≤ 63) (ho : okG 4 (σ (m + 6))) (hw : w = max (-40) (σ (m + 6) 0 + slF (σ (m + 6) 1) (σ (m + 6) 2) (c % 8) (c / 8))) (hQ : Q none S (upS σ (m + 1) (ptF (σ (m + 1)) (5120 * L + 80 * c) (evG 4 (σ (m + 6)) c (clV (σ (m + 1)) L c))))) : ∀ (t : Nat) (i : Int), w ≤ i → i ≤ max w 40 → max w 40 - i < t → PW (fm G mX12_cutDown 3 0 0 Q) G S (upS σ (m + 1) (pfF (σ (m + 1)) (fun _ => -1) (5120 * L + 80 * c + w + 40) (5120 * L + 80 * c + i + 40))) 0 0 49 [(0, .ref m), (1, .int (iI (L))), (2, .int (iI (c))), (3, .int (iI (z))), (4, .int (iI (i)))] [] := by
  obtain ⟨hM0, hM1, hM2, hM3, hM4, hM5, hM6, hM7, hM8, hM9, hM10, hM11, hM12, hM13, hM14, hM15, hM16, hM17, hM18, hM19, hM20, hM21, hM22, hM23, hM24, hM25, hM26, hM27, hM28, hM29, hM30, hM31, hM32, hM33, hM34⟩ := id hA
  have hg := ok_4 ho
  have hsl := slF_b (a := σ (m + 6) 1) (c := σ (m + 6) 2) (x := c % 8) (y := c / 8) (by omega) (by omega) (by omega) (by omega)
  intro t
  induction t with
  | zero => intro i h1 h2 h3; omega
  | succ t ih =>
    intro i h1 h2 h3
    refine PW.iload dX12_cutDown_49 rfl ?_
    refine PW.bipush (by decide) dX12_cutDown_51 ?_
    refine PW.icmp_ge 75 dX12_cutDown_53 (by decide) (by first | assumption | (unfold inR; omega)) (by first | assumption | (unfold inR; omega)) (fun h53 => ?_) (fun h53 => ?_)
    · refine PW.st (upS σ (m + 1) (ptF (σ (m + 1)) (5120 * L + 80 * c) (evG 4 (σ (m + 6)) c (clV (σ (m + 1)) L c)))) (congrArg (upS σ (m + 1)) (funext fun j => ?_)) (PW.vret rfl dX12_cutDown_75 hQ)
      have ee : evG 4 (σ (m + 6)) c (clV (σ (m + 1)) L c) = fhF (clV (σ (m + 1)) L c) (σ (m + 6) 0 + slF (σ (m + 6) 1) (σ (m + 6) 2) (c % 8) (c / 8)) 39 (-1) := by
        unfold evG evC
        rw [if_neg (by decide), if_neg (by decide), if_neg (by decide), if_neg (by decide), if_pos rfl]
      rw [ee]
      unfold ptF pfF fhF
      by_cases q : 5120 * L + 80 * c ≤ j ∧ j < 5120 * L + 80 * c + 80
      · rw [if_pos q]
        by_cases r : 5120 * L + 80 * c + w + 40 ≤ j ∧ j < 5120 * L + 80 * c + i + 40
        · rw [if_pos r, if_pos (by omega)]
        · rw [if_neg r, if_neg (by omega)]
          unfold clV
          congr 1
          omega
      · rw [if_neg q, if_neg (by omega)]
    · refine PW.aload_n dX12_cutDown_56 rfl ?_
      refine PW.getR fl_X12_7 rfl (by assumption) rfl dX12_cutDown_57 ?_
      refine PW.iload_n dX12_cutDown_60 rfl ?_
      refine PW.iload_n dX12_cutDown_61 rfl ?_
      refine PW.iload dX12_cutDown_62 rfl ?_
      refine PW.callSr (c_X12_cellAt) cs_X12_cellAt lk_X12_123 dX12_cutDown_64 rfl rfl rfl ?_
      refine PW.iconst dX12_cutDown_67 ?_
      refine PW.bastore (by assumption) (by first | assumption | (unfold inR; omega)) (by omega) (by omega) (narY (by omega)) dX12_cutDown_68 ?_
      refine PW.st (upS σ (m + 1) (pfF (σ (m + 1)) (fun _ => -1) (5120 * L + 80 * c + w + 40) (5120 * L + 80 * c + (i + 1) + 40))) (by
        rw [upS_upS, upS_same]
        refine congrArg (upS σ (m + 1)) ?_
        rw [show 5120 * L + 80 * c + (i + 1) + 40 = 5120 * L + 80 * c + i + 40 + 1 by omega, ← pfF_s (by omega)]) ?_
      refine PW.iinc [(0, _), (1, _), (2, _), (3, _), (4, _)] dX12_cutDown_69 rfl rfl (Nat.le_of_ble_eq_true rfl) ?_
      refine PW.goto 49 dX12_cutDown_72 (by decide) ?_
      exact ih (i + 1) (by omega) (by omega) (by omega)
theorem c_X12_cutDown {G : GT} {S : Shp} {σ : Sto} {m : Nat} {L c : Int} (hA : IsMod S m) (hC : cOk (σ (m + 1)) 15360) (hL : 0 ≤ L ∧ L ≤ 2) (hc : 0 ≤ c ∧ c ≤ 63) (ho : okG 4 (σ (m + 6))) : PMet G mX12_cutDown 3 0 0 [.ref m, .int (iI L), .int (iI c)] S σ (isP none S (upS σ (m + 1) (ptF (σ (m + 1)) (5120 * L + 80 * c) (evG 4 (σ (m + 6)) c (clV (σ (m + 1)) L c))))) := by
  obtain ⟨hM0, hM1, hM2, hM3, hM4, hM5, hM6, hM7, hM8, hM9, hM10, hM11, hM12, hM13, hM14, hM15, hM16, hM17, hM18, hM19, hM20, hM21, hM22, hM23, hM24, hM25, hM26, hM27, hM28, hM29, hM30, hM31, hM32, hM33, hM34⟩ := id hA
  have hg := ok_4 ho
  have hsl := slF_b (a := σ (m + 6) 1) (c := σ (m + 6) 2) (x := c % 8) (y := c / 8) (by omega) (by omega) (by omega) (by omega)
  have x0 := mul7 (a := σ (m + 6) 1) (x := c % 8) (by omega) (by omega)
  have x1 := mul7 (a := σ (m + 6) 2) (x := c / 8) (by omega) (by omega)
  refine PMet.of [(0, .ref m), (1, .int (iI (L))), (2, .int (iI (c)))] (by decide +kernel) rfl (Nat.le_of_ble_eq_true rfl) ?_
  refine PW.aload_n dX12_cutDown_0 rfl ?_
  refine PW.getR fl_X12_27 rfl (by assumption) rfl dX12_cutDown_1 ?_
  refine PW.iconst dX12_cutDown_4 ?_
  refine PW.iaload (by assumption) (by first | assumption | (unfold inR; omega)) (by omega) (by omega) dX12_cutDown_5 ?_
  refine PW.aload_n dX12_cutDown_6 rfl ?_
  refine PW.getR fl_X12_27 rfl (by assumption) rfl dX12_cutDown_7 ?_
  refine PW.iconst dX12_cutDown_10 ?_
  refine PW.iaload (by assumption) (by first | assumption | (unfold inR; omega)) (by omega) (by omega) dX12_cutDown_11 ?_
  refine PW.iload_n dX12_cutDown_12 rfl ?_
  refine PW.bipush (by decide) dX12_cutDown_13 ?_
  refine PW.irem (by unfold inR; omega) (by omega) dX12_cutDown_15 ?_
  refine PW.top (c % 8) (by rw [tdv_nn (by omega) (by unfold inR; omega) (by unfold inR; omega)]; omega) ?_
  refine PW.imul dX12_cutDown_16 ?_
  refine PW.aload_n dX12_cutDown_17 rfl ?_
  refine PW.getR fl_X12_27 rfl (by assumption) rfl dX12_cutDown_18 ?_
  refine PW.iconst dX12_cutDown_21 ?_
  refine PW.iaload (by assumption) (by first | assumption | (unfold inR; omega)) (by omega) (by omega) dX12_cutDown_22 ?_
  refine PW.iload_n dX12_cutDown_23 rfl ?_
  refine PW.bipush (by decide) dX12_cutDown_24 ?_
  refine PW.idiv (by unfold inR; omega) (by omega) dX12_cutDown_26 ?_
  refine PW.top (c / 8) (tdv_nn (by omega) (by unfold inR; omega) (by unfold inR; omega)) ?_
  refine PW.imul dX12_cutDown_27 ?_
  refine PW.iadd dX12_cutDown_28 ?_
  refine PW.iconst dX12_cutDown_29 ?_
  refine PW.callSr (c_X12_floor (by omega) (by omega)) cs_X12_floor lk_X12_148 dX12_cutDown_30 rfl rfl rfl ?_
  refine PW.top (slF (σ (m + 6) 1) (σ (m + 6) 2) (c % 8) (c / 8)) rfl ?_
  refine PW.iadd dX12_cutDown_33 ?_
  refine PW.istore_n [(0, _), (1, _), (2, _), (3, _)] dX12_cutDown_34 rfl (Nat.le_of_ble_eq_true rfl) ?_
  refine PW.iload_n dX12_cutDown_35 rfl ?_
  refine PW.bipush (by decide) dX12_cutDown_36 ?_
  refine PW.icmp_ge 46 dX12_cutDown_38 (by decide) (by first | assumption | (unfold inR; omega)) (by first | assumption | (unfold inR; omega)) (fun h38 => ?_) (fun h38 => ?_)
  · refine PW.iload_n dX12_cutDown_46 rfl ?_
    refine PW.istore [(0, _), (1, _), (2, _), (3, _), (4, _)] dX12_cutDown_47 rfl (Nat.le_of_ble_eq_true rfl) ?_
    refine PW.st (upS σ (m + 1) (pfF (σ (m + 1)) (fun _ => -1) (5120 * L + 80 * c + max (-40) (σ (m + 6) 0 + slF (σ (m + 6) 1) (σ (m + 6) 2) (c % 8) (c / 8)) + 40) (5120 * L + 80 * c + max (-40) (σ (m + 6) 0 + slF (σ (m + 6) 1) (σ (m + 6) 2) (c % 8) (c / 8)) + 40))) (by rw [pfF_0, upS_self]) ?_
    first
      | (have hw : max (-40) (σ (m + 6) 0 + slF (σ (m + 6) 1) (σ (m + 6) 2) (c % 8) (c / 8)) = -40 := by omega
         have k := mo_cut_loop (G := G) (z := σ (m + 6) 0 + slF (σ (m + 6) 1) (σ (m + 6) 2) (c % 8) (c / 8)) hA hC hL hc ho rfl (Q := isP none S (upS σ (m + 1) (ptF (σ (m + 1)) (5120 * L + 80 * c) (evG 4 (σ (m + 6)) c (clV (σ (m + 1)) L c))))) ⟨rfl, rfl, rfl⟩ 20000 (max (-40) (σ (m + 6) 0 + slF (σ (m + 6) 1) (σ (m + 6) 2) (c % 8) (c / 8))) (by omega) (by omega) (by omega)
         rw [hw] at k ⊢
         exact k)
      | (have hw : max (-40) (σ (m + 6) 0 + slF (σ (m + 6) 1) (σ (m + 6) 2) (c % 8) (c / 8)) = σ (m + 6) 0 + slF (σ (m + 6) 1) (σ (m + 6) 2) (c % 8) (c / 8) := by omega
         have k := mo_cut_loop (G := G) (z := σ (m + 6) 0 + slF (σ (m + 6) 1) (σ (m + 6) 2) (c % 8) (c / 8)) hA hC hL hc ho rfl (Q := isP none S (upS σ (m + 1) (ptF (σ (m + 1)) (5120 * L + 80 * c) (evG 4 (σ (m + 6)) c (clV (σ (m + 1)) L c))))) ⟨rfl, rfl, rfl⟩ 20000 (max (-40) (σ (m + 6) 0 + slF (σ (m + 6) 1) (σ (m + 6) 2) (c % 8) (c / 8))) (by omega) (by omega) (by omega)
         rw [hw] at k ⊢
         exact k)
  · refine PW.bipush (by decide) dX12_cutDown_41 ?_
    refine PW.goto 47 dX12_cutDown_43 (by decide) ?_
    refine PW.istore [(0, _), (1, _), (2, _), (3, _), (4, _)] dX12_cutDown_47 rfl (Nat.le_of_ble_eq_true rfl) ?_
    refine PW.st (upS σ (m + 1) (pfF (σ (m + 1)) (fun _ => -1) (5120 * L + 80 * c + max (-40) (σ (m + 6) 0 + slF (σ (m + 6) 1) (σ (m + 6) 2) (c % 8) (c / 8)) + 40) (5120 * L + 80 * c + max (-40) (σ (m + 6) 0 + slF (σ (m + 6) 1) (σ (m + 6) 2) (c % 8) (c / 8)) + 40))) (by rw [pfF_0, upS_self]) ?_
    first
      | (have hw : max (-40) (σ (m + 6) 0 + slF (σ (m + 6) 1) (σ (m + 6) 2) (c % 8) (c / 8)) = -40 := by omega
         have k := mo_cut_loop (G := G) (z := σ (m + 6) 0 + slF (σ (m + 6) 1) (σ (m + 6) 2) (c % 8) (c / 8)) hA hC hL hc ho rfl (Q := isP none S (upS σ (m + 1) (ptF (σ (m + 1)) (5120 * L + 80 * c) (evG 4 (σ (m + 6)) c (clV (σ (m + 1)) L c))))) ⟨rfl, rfl, rfl⟩ 20000 (max (-40) (σ (m + 6) 0 + slF (σ (m + 6) 1) (σ (m + 6) 2) (c % 8) (c / 8))) (by omega) (by omega) (by omega)
         rw [hw] at k ⊢
         exact k)
      | (have hw : max (-40) (σ (m + 6) 0 + slF (σ (m + 6) 1) (σ (m + 6) 2) (c % 8) (c / 8)) = σ (m + 6) 0 + slF (σ (m + 6) 1) (σ (m + 6) 2) (c % 8) (c / 8) := by omega
         have k := mo_cut_loop (G := G) (z := σ (m + 6) 0 + slF (σ (m + 6) 1) (σ (m + 6) 2) (c % 8) (c / 8)) hA hC hL hc ho rfl (Q := isP none S (upS σ (m + 1) (ptF (σ (m + 1)) (5120 * L + 80 * c) (evG 4 (σ (m + 6)) c (clV (σ (m + 1)) L c))))) ⟨rfl, rfl, rfl⟩ 20000 (max (-40) (σ (m + 6) 0 + slF (σ (m + 6) 1) (σ (m + 6) 2) (c % 8) (c / 8))) (by omega) (by omega) (by omega)
         rw [hw] at k ⊢
         exact k)
theorem mo_run_loop {G : GT} {S : Shp} {σ : Sto} {m : Nat} {L c : Int} {Q : Option Value → Shp → Sto → Prop} (hA : IsMod S m) (hC : cOk (σ (m + 1)) 15360) (hL : 0 ≤ L ∧ L ≤ 2) (hc : 0 ≤ c ∧ c ≤ 63) (ho : okG 5 (σ (m + 6))) (hQ : Q none S (upS σ (m + 1) (ptF (σ (m + 1)) (5120 * L + 80 * c) (evG 5 (σ (m + 6)) c (clV (σ (m + 1)) L c))))) : ∀ (t : Nat) (i : Int), -40 ≤ i → i ≤ σ (m + 6) 4 + 1 → σ (m + 6) 4 + 1 - i < t → (σ (m + 6) 2 ≤ soF (σ (m + 6) 1) (c % 8) (c / 8) ∧ soF (σ (m + 6) 1) (c % 8) (c / 8) ≤ σ (m + 6) 3) ∨ i = -40 → PW (fm G mX12_runThrough 2 0 0 Q) G S (upS σ (m + 1) (pfF (σ (m + 1)) (fun j => if σ (m + 1) j = -1 then -1 else σ (m + 6) 0) (5120 * L + 80 * c) (5120 * L + 80 * c + i + 40))) 0 0 33 [(0, .ref m), (1, .int (iI (L))), (2, .int (iI (c))), (3, .int (iI (b01 (σ (m + 6) 2 ≤ soF (σ (m + 6) 1) (c % 8) (c / 8) ∧ soF (σ (m + 6) 1) (c % 8) (c / 8) ≤ σ (m + 6) 3)))), (4, .int (iI (i)))] [] := by
  obtain ⟨hM0, hM1, hM2, hM3, hM4, hM5, hM6, hM7, hM8, hM9, hM10, hM11, hM12, hM13, hM14, hM15, hM16, hM17, hM18, hM19, hM20, hM21, hM22, hM23, hM24, hM25, hM26, hM27, hM28, hM29, hM30, hM31, hM32, hM33, hM34⟩ := id hA
  have hg := ok_5 ho
  intro t
  induction t with
  | zero => intro i h1 h2 h3 g1; omega
  | succ t ih =>
    intro i h1 h2 h3 g1
    have e6 : (upS σ (m + 1) (pfF (σ (m + 1)) (fun j => if σ (m + 1) j = -1 then -1 else σ (m + 6) 0) (5120 * L + 80 * c) (5120 * L + 80 * c + i + 40))) (m + 6) = σ (m + 6) := upS_ne (by omega)
    have e1 : i ≤ 39 → (pfF (σ (m + 1)) (fun j => if σ (m + 1) j = -1 then -1 else σ (m + 6) 0) (5120 * L + 80 * c) (5120 * L + 80 * c + i + 40)) (5120 * L + 80 * c + i + 40) = σ (m + 1) (5120 * L + 80 * c + i + 40) := fun _ => by
      unfold pfF
      rw [if_neg (by omega)]
    have hv : i ≤ 39 → -1 ≤ σ (m + 1) (5120 * L + 80 * c + i + 40) ∧ σ (m + 1) (5120 * L + 80 * c + i + 40) ≤ 15 := fun _ => hC _ (by omega) (by omega)
    refine PW.iload dX12_runThrough_33 rfl ?_
    refine PW.aload_n dX12_runThrough_35 rfl ?_
    refine PW.getR fl_X12_27 rfl (by assumption) rfl dX12_runThrough_36 ?_
    refine PW.iconst dX12_runThrough_39 ?_
    refine PW.iaload (by assumption) (by unfold inR; omega) (by omega) (by omega) dX12_runThrough_40 ?_
    refine PW.top (σ (m + 6) 4) (by rw [e6]) ?_
    refine PW.icmp_gt 92 dX12_runThrough_41 (by decide) (by first | assumption | (unfold inR; omega) | (have := hv (by omega); unfold inR; omega)) (by first | assumption | (unfold inR; omega) | (have := hv (by omega); unfold inR; omega)) (fun h41 => ?_) (fun h41 => ?_)
    · refine PW.st (upS σ (m + 1) (ptF (σ (m + 1)) (5120 * L + 80 * c) (evG 5 (σ (m + 6)) c (clV (σ (m + 1)) L c)))) (congrArg (upS σ (m + 1)) (funext fun j => ?_)) (PW.vret rfl dX12_runThrough_92 hQ)
      have ee : evG 5 (σ (m + 6)) c (clV (σ (m + 1)) L c) = if σ (m + 6) 2 ≤ soF (σ (m + 6) 1) (c % 8) (c / 8) ∧ soF (σ (m + 6) 1) (c % 8) (c / 8) ≤ σ (m + 6) 3 then inF (clV (σ (m + 1)) L c) (σ (m + 6) 0) (σ (m + 6) 4) else clV (σ (m + 1)) L c := by
        unfold evG evC
        rw [if_neg (by decide), if_neg (by decide), if_neg (by decide), if_neg (by decide), if_neg (by decide)]
      rw [ee]
      unfold ptF pfF
      by_cases hp : σ (m + 6) 2 ≤ soF (σ (m + 6) 1) (c % 8) (c / 8) ∧ soF (σ (m + 6) 1) (c % 8) (c / 8) ≤ σ (m + 6) 3
      · rw [if_pos hp]
        have hi : i = σ (m + 6) 4 + 1 := by
          first
            | omega
            | (exfalso; apply h45; exact hp)
        unfold inF
        by_cases q : 5120 * L + 80 * c ≤ j ∧ j < 5120 * L + 80 * c + 80
        · rw [if_pos q]
          unfold clV
          rw [show 5120 * L + 80 * c + (j - (5120 * L + 80 * c)) = j by omega]
          by_cases r : 5120 * L + 80 * c ≤ j ∧ j < 5120 * L + 80 * c + i + 40
          · rw [if_pos r]
            dsimp only
            by_cases s : σ (m + 1) j = -1
            · rw [if_pos s, if_neg (fun t => t.2.2.2 s), s]
            · rw [if_neg s, if_pos ⟨by omega, by omega, by omega, s⟩]
          · rw [if_neg r, if_neg (by omega)]
        · rw [if_neg q, if_neg (by omega)]
      · rw [if_neg hp]
        have hi : i = -40 := by
          rcases g1 with g1 | g1
          · exact absurd g1 hp
          · exact g1
        rw [if_neg (by omega)]
        by_cases q : 5120 * L + 80 * c ≤ j ∧ j < 5120 * L + 80 * c + 80
        · rw [if_pos q]
          unfold clV
          congr 1
          omega
        · rw [if_neg q]
    · refine PW.iload_n dX12_runThrough_44 rfl ?_
      refine PW.if_eqB 92 dX12_runThrough_45 (by decide) (fun h45 => ?_) (fun h45 => ?_)
      · refine PW.st (upS σ (m + 1) (ptF (σ (m + 1)) (5120 * L + 80 * c) (evG 5 (σ (m + 6)) c (clV (σ (m + 1)) L c)))) (congrArg (upS σ (m + 1)) (funext fun j => ?_)) (PW.vret rfl dX12_runThrough_92 hQ)
        have ee : evG 5 (σ (m + 6)) c (clV (σ (m + 1)) L c) = if σ (m + 6) 2 ≤ soF (σ (m + 6) 1) (c % 8) (c / 8) ∧ soF (σ (m + 6) 1) (c % 8) (c / 8) ≤ σ (m + 6) 3 then inF (clV (σ (m + 1)) L c) (σ (m + 6) 0) (σ (m + 6) 4) else clV (σ (m + 1)) L c := by
          unfold evG evC
          rw [if_neg (by decide), if_neg (by decide), if_neg (by decide), if_neg (by decide), if_neg (by decide)]
        rw [ee]
        unfold ptF pfF
        by_cases hp : σ (m + 6) 2 ≤ soF (σ (m + 6) 1) (c % 8) (c / 8) ∧ soF (σ (m + 6) 1) (c % 8) (c / 8) ≤ σ (m + 6) 3
        · rw [if_pos hp]
          have hi : i = σ (m + 6) 4 + 1 := by
            first
              | omega
              | (exfalso; apply h45; exact hp)
          unfold inF
          by_cases q : 5120 * L + 80 * c ≤ j ∧ j < 5120 * L + 80 * c + 80
          · rw [if_pos q]
            unfold clV
            rw [show 5120 * L + 80 * c + (j - (5120 * L + 80 * c)) = j by omega]
            by_cases r : 5120 * L + 80 * c ≤ j ∧ j < 5120 * L + 80 * c + i + 40
            · rw [if_pos r]
              dsimp only
              by_cases s : σ (m + 1) j = -1
              · rw [if_pos s, if_neg (fun t => t.2.2.2 s), s]
              · rw [if_neg s, if_pos ⟨by omega, by omega, by omega, s⟩]
            · rw [if_neg r, if_neg (by omega)]
          · rw [if_neg q, if_neg (by omega)]
        · rw [if_neg hp]
          have hi : i = -40 := by
            rcases g1 with g1 | g1
            · exact absurd g1 hp
            · exact g1
          rw [if_neg (by omega)]
          by_cases q : 5120 * L + 80 * c ≤ j ∧ j < 5120 * L + 80 * c + 80
          · rw [if_pos q]
            unfold clV
            congr 1
            omega
          · rw [if_neg q]
      · refine PW.iload_n dX12_runThrough_48 rfl ?_
        refine PW.iload_n dX12_runThrough_49 rfl ?_
        refine PW.iload dX12_runThrough_50 rfl ?_
        refine PW.callSr (c_X12_cellAt) cs_X12_cellAt lk_X12_123 dX12_runThrough_52 rfl rfl rfl ?_
        refine PW.istore [(0, _), (1, _), (2, _), (3, _), (4, _), (5, _)] dX12_runThrough_55 rfl (Nat.le_of_ble_eq_true rfl) ?_
        refine PW.aload_n dX12_runThrough_57 rfl ?_
        refine PW.getR fl_X12_7 rfl (by assumption) rfl dX12_runThrough_58 ?_
        refine PW.iload dX12_runThrough_61 rfl ?_
        refine PW.aload_n dX12_runThrough_63 rfl ?_
        refine PW.getR fl_X12_7 rfl (by assumption) rfl dX12_runThrough_64 ?_
        refine PW.iload dX12_runThrough_67 rfl ?_
        refine PW.baload (by assumption) (by unfold inR; omega) (by omega) (by omega) dX12_runThrough_69 ?_
        refine PW.top (σ (m + 1) (5120 * L + 80 * c + i + 40)) (by rw [upS_same]; exact e1 (by omega)) ?_
        refine PW.iconst dX12_runThrough_70 ?_
        refine PW.icmp_ne 78 dX12_runThrough_71 (by decide) (by first | assumption | (unfold inR; omega) | (have := hv (by omega); unfold inR; omega)) (by first | assumption | (unfold inR; omega) | (have := hv (by omega); unfold inR; omega)) (fun h71 => ?_) (fun h71 => ?_)
        · refine PW.aload_n dX12_runThrough_78 rfl ?_
          refine PW.getR fl_X12_27 rfl (by assumption) rfl dX12_runThrough_79 ?_
          refine PW.iconst dX12_runThrough_82 ?_
          refine PW.iaload (by assumption) (by unfold inR; omega) (by omega) (by omega) dX12_runThrough_83 ?_
          refine PW.top (σ (m + 6) 0) (by rw [e6]) ?_
          refine PW.i2b dX12_runThrough_84 ?_
          refine PW.bastore (by assumption) (by first | assumption | (unfold inR; omega) | (have := hv (by omega); unfold inR; omega)) (by omega) (by omega) (by first | exact narY (by omega) | (rw [b8_id (by omega)]; exact narY (by omega))) dX12_runThrough_85 ?_
          refine PW.st (upS σ (m + 1) (pfF (σ (m + 1)) (fun j => if σ (m + 1) j = -1 then -1 else σ (m + 6) 0) (5120 * L + 80 * c) (5120 * L + 80 * c + (i + 1) + 40))) (by
            rw [upS_upS, upS_same]
            refine congrArg (upS σ (m + 1)) ?_
            rw [show 5120 * L + 80 * c + (i + 1) + 40 = 5120 * L + 80 * c + i + 40 + 1 by omega, ← pfF_s (by omega)]
            congr 1
            first | (rw [if_pos (by assumption)]; done) | (rw [if_neg (by assumption)]; done) | (rw [if_neg (by assumption)]; exact b8_id (by omega))) ?_
          refine PW.iinc [(0, _), (1, _), (2, _), (3, _), (4, _), (5, _)] dX12_runThrough_86 rfl rfl (Nat.le_of_ble_eq_true rfl) ?_
          refine PW.goto 33 dX12_runThrough_89 (by decide) ?_
          refine PW.take 5 ?_
          exact ih (i + 1) (by omega) (by omega) (by omega) (Or.inl (by assumption))
        · refine PW.iconst dX12_runThrough_74 ?_
          refine PW.goto 85 dX12_runThrough_75 (by decide) ?_
          refine PW.bastore (by assumption) (by first | assumption | (unfold inR; omega) | (have := hv (by omega); unfold inR; omega)) (by omega) (by omega) (by first | exact narY (by omega) | (rw [b8_id (by omega)]; exact narY (by omega))) dX12_runThrough_85 ?_
          refine PW.st (upS σ (m + 1) (pfF (σ (m + 1)) (fun j => if σ (m + 1) j = -1 then -1 else σ (m + 6) 0) (5120 * L + 80 * c) (5120 * L + 80 * c + (i + 1) + 40))) (by
            rw [upS_upS, upS_same]
            refine congrArg (upS σ (m + 1)) ?_
            rw [show 5120 * L + 80 * c + (i + 1) + 40 = 5120 * L + 80 * c + i + 40 + 1 by omega, ← pfF_s (by omega)]
            congr 1
            first | (rw [if_pos (by assumption)]; done) | (rw [if_neg (by assumption)]; done) | (rw [if_neg (by assumption)]; exact b8_id (by omega))) ?_
          refine PW.iinc [(0, _), (1, _), (2, _), (3, _), (4, _), (5, _)] dX12_runThrough_86 rfl rfl (Nat.le_of_ble_eq_true rfl) ?_
          refine PW.goto 33 dX12_runThrough_89 (by decide) ?_
          refine PW.take 5 ?_
          exact ih (i + 1) (by omega) (by omega) (by omega) (Or.inl (by assumption))
theorem c_X12_runThrough {G : GT} {S : Shp} {σ : Sto} {m : Nat} {L c : Int} (hA : IsMod S m) (hC : cOk (σ (m + 1)) 15360) (hL : 0 ≤ L ∧ L ≤ 2) (hc : 0 ≤ c ∧ c ≤ 63) (ho : okG 5 (σ (m + 6))) : PMet G mX12_runThrough 2 0 0 [.ref m, .int (iI L), .int (iI c)] S σ (isP none S (upS σ (m + 1) (ptF (σ (m + 1)) (5120 * L + 80 * c) (evG 5 (σ (m + 6)) c (clV (σ (m + 1)) L c))))) := by
  obtain ⟨hM0, hM1, hM2, hM3, hM4, hM5, hM6, hM7, hM8, hM9, hM10, hM11, hM12, hM13, hM14, hM15, hM16, hM17, hM18, hM19, hM20, hM21, hM22, hM23, hM24, hM25, hM26, hM27, hM28, hM29, hM30, hM31, hM32, hM33, hM34⟩ := id hA
  have hg := ok_5 ho
  have hs := soF_b (ax := σ (m + 6) 1) hc
  refine PMet.of [(0, .ref m), (1, .int (iI (L))), (2, .int (iI (c)))] (by decide +kernel) rfl (Nat.le_of_ble_eq_true rfl) ?_
  refine PW.aload_n dX12_runThrough_0 rfl ?_
  refine PW.getR fl_X12_27 rfl (by assumption) rfl dX12_runThrough_1 ?_
  refine PW.iconst dX12_runThrough_4 ?_
  refine PW.iaload (by assumption) (by first | assumption | (unfold inR; omega)) (by omega) (by omega) dX12_runThrough_5 ?_
  refine PW.iload_n dX12_runThrough_6 rfl ?_
  refine PW.callSr (c_X12_step (by first | assumption | (unfold inR; omega)) (by omega)) cs_X12_step lk_X12_152 dX12_runThrough_7 rfl rfl rfl ?_
  refine PW.i2l (by first | assumption | (unfold inR; omega)) dX12_runThrough_10 ?_
  refine PW.aload_n dX12_runThrough_11 rfl ?_
  refine PW.getR fl_X12_27 rfl (by assumption) rfl dX12_runThrough_12 ?_
  refine PW.iconst dX12_runThrough_15 ?_
  refine PW.iaload (by assumption) (by first | assumption | (unfold inR; omega)) (by omega) (by omega) dX12_runThrough_16 ?_
  refine PW.i2l (by first | assumption | (unfold inR; omega)) dX12_runThrough_17 ?_
  refine PW.aload_n dX12_runThrough_18 rfl ?_
  refine PW.getR fl_X12_27 rfl (by assumption) rfl dX12_runThrough_19 ?_
  refine PW.iconst dX12_runThrough_22 ?_
  refine PW.iaload (by assumption) (by first | assumption | (unfold inR; omega)) (by omega) (by omega) dX12_runThrough_23 ?_
  refine PW.i2l (by first | assumption | (unfold inR; omega)) dX12_runThrough_24 ?_
  refine PW.callSr (c_X12_in (by first | (unfold inL; omega) | exact inL_R (by assumption)) (by first | (unfold inL; omega) | exact inL_R (by assumption)) (by first | (unfold inL; omega) | exact inL_R (by assumption))) cs_X12_in lk_X12_134 dX12_runThrough_25 rfl rfl rfl ?_
  refine PW.istore_n [(0, _), (1, _), (2, _), (3, _)] dX12_runThrough_28 rfl (Nat.le_of_ble_eq_true rfl) ?_
  refine PW.bipush (by decide) dX12_runThrough_29 ?_
  refine PW.istore [(0, _), (1, _), (2, _), (3, _), (4, _)] dX12_runThrough_31 rfl (Nat.le_of_ble_eq_true rfl) ?_
  refine PW.st (upS σ (m + 1) (pfF (σ (m + 1)) (fun j => if σ (m + 1) j = -1 then -1 else σ (m + 6) 0) (5120 * L + 80 * c) (5120 * L + 80 * c + -40 + 40))) (by rw [show 5120 * L + 80 * c + -40 + 40 = 5120 * L + 80 * c by omega, pfF_0, upS_self]) ?_
  exact mo_run_loop hA hC hL hc ho ⟨rfl, rfl, rfl⟩ 100 (-40) (by omega) (by omega) (by omega) (Or.inr rfl)

theorem rnS_ne {σ : Sto} {h b : Nat} (hb : b < h + 20 ∨ (h + 147 ≤ b ∧ b ≠ h + 149 ∧ b ≠ h + 183)) : rnS σ h b = σ b := by
  unfold rnS
  rw [upS_ne (by omega), upS_ne (by omega), stC_ne (by omega)]
theorem taOk_up {σ : Sto} {t : Nat} {v : Int} (hT : taOk σ t) (h0 : 0 ≤ v) (h1 : v ≤ σ t 2) : taOk (upS σ t (up1 (σ t) 2 v)) t := by
  unfold taOk
  rw [upS_same, up1_same, upS_ne (show t + 1 ≠ t by omega)]
  exact ⟨⟨h0, by have := hT.1; omega⟩, fun i i0 i1 => hT.2 i i0 (by omega)⟩
theorem taOk_ad {σ : Sto} {t : Nat} {n k c0 c1 c2 c3 c4 : Int} (hT : taOk σ t) (hn : σ t 2 = n) (h1 : n < 16) (hk : okEv k c0 c1 c2 c3 c4) : taOk (upS (upS σ (t + 1) (adF (σ (t + 1)) n k c0 c1 c2 c3 c4)) t (up1 (σ t) 2 (n + 1))) t := by
  have hT1 := hT.1
  unfold taOk
  rw [upS_same, up1_same, upS_ne (show t + 1 ≠ t by omega), upS_same]
  refine ⟨by omega, fun i i0 i1 => ?_⟩
  by_cases e : i = n
  · rw [e]
    exact adF_new hk
  · exact adF_old (by omega) (hT.2 i i0 (by omega))
theorem taOk_lo {σ : Sto} {t : Nat} {i v : Int} (hT : taOk σ t) (hi : 0 ≤ i) (hv : 0 ≤ v ∧ v ≤ 1) : taOk (upS σ (t + 1) (up1 (σ (t + 1)) (7 * i + 6) v)) t := by
  unfold taOk
  rw [upS_ne (show t ≠ t + 1 by omega), upS_same]
  refine ⟨hT.1, fun j j0 j1 => ?_⟩
  have h := hT.2 j j0 j1
  unfold evOk
  rw [up1_ne (show 7 * j ≠ 7 * i + 6 by omega), up1_ne (show 7 * j + 1 + 0 ≠ 7 * i + 6 by omega), up1_ne (show 7 * j + 1 + 1 ≠ 7 * i + 6 by omega), up1_ne (show 7 * j + 1 + 2 ≠ 7 * i + 6 by omega), up1_ne (show 7 * j + 1 + 3 ≠ 7 * i + 6 by omega), up1_ne (show 7 * j + 1 + 4 ≠ 7 * i + 6 by omega)]
  refine ⟨h.1, fun p p0 p1 => ?_, ?_⟩
  · rw [up1_ne (by omega)]
    exact h.2.1 p p0 p1
  · by_cases e : j = i
    · rw [e, up1_same]
      exact hv
    · rw [up1_ne (by omega)]
      exact h.2.2
theorem exF_at (f : Int → Int) (i : Int) {q p : Int} (p0 : 0 ≤ p) (p1 : p ≤ 6) : exF f i (7 * q + p) = f (7 * (if q = i then i + 1 else if q = i + 1 then i else q) + p) := by
  unfold exF
  by_cases e : q = i
  · rw [if_pos (by omega), if_pos e, e]
    congr 1
    omega
  · rw [if_neg (by omega), if_neg e]
    by_cases e2 : q = i + 1
    · rw [if_pos (by omega), if_pos e2, e2]
      congr 1
      omega
    · rw [if_neg (by omega), if_neg e2]
theorem evOk_ex {f : Int → Int} {i q : Int} (h : evOk f (if q = i then i + 1 else if q = i + 1 then i else q)) : evOk (exF f i) q := by
  have e0 := exF_at f i (q := q) (p := 0) (by omega) (by omega)
  rw [Int.add_zero, Int.add_zero] at e0
  have e : ∀ p, 0 ≤ p → p ≤ 4 → exF f i (7 * q + 1 + p) = f (7 * (if q = i then i + 1 else if q = i + 1 then i else q) + 1 + p) := fun p p0 p1 => by
    have := exF_at f i (q := q) (p := 1 + p) (by omega) (by omega)
    rw [← Int.add_assoc, ← Int.add_assoc] at this
    exact this
  unfold evOk
  rw [e0, e 0 (by omega) (by omega), e 1 (by omega) (by omega), e 2 (by omega) (by omega), e 3 (by omega) (by omega), e 4 (by omega) (by omega), exF_at f i (q := q) (p := 6) (by omega) (by omega)]
  refine ⟨h.1, fun p p0 p1 => ?_, h.2.2⟩
  rw [e p p0 p1]
  exact h.2.1 p p0 p1
theorem taOk_ex {σ : Sto} {t : Nat} {i : Int} {g : Int → Int} (hT : taOk σ t) (hi : 0 ≤ i ∧ i < σ t 2 - 1) : taOk (upS (upS σ (t + 2) g) (t + 1) (exF (σ (t + 1)) i)) t := by
  unfold taOk
  rw [upS_ne (show t ≠ t + 1 by omega), upS_ne (show t ≠ t + 2 by omega), upS_same]
  refine ⟨hT.1, fun q q0 q1 => evOk_ex (hT.2 _ ?_ ?_)⟩
  · split
    · omega
    · split <;> omega
  · split
    · omega
    · split <;> omega
theorem c_X11_event {G : GT} {S : Shp} {σ : Sto} {h : Nat} {k c0 c1 c2 c3 c4 : Int} (hA : IsHill S h) (hT : taOk σ (h + 1)) (rk : inR k) (rc0 : inR c0) (rc1 : inR c1) (rc2 : inR c2) (rc3 : inR c3) (rc4 : inR c4) : PMet G mX11_event 7 0 0 [.ref h, .int (iI (k)), .int (iI (c0)), .int (iI (c1)), .int (iI (c2)), .int (iI (c3)), .int (iI (c4))] S σ (isP (some (.int (iI (if ¬ (okEv k c0 c1 c2 c3 c4) then -100002 else if 16 ≤ σ (h + 1) 2 then -100004 else σ (h + 1) 2)))) S (if (okEv k c0 c1 c2 c3 c4) ∧ σ (h + 1) 2 < 16 then rnS (upS (upS σ (h + 1 + 1) (adF (σ (h + 1 + 1)) (σ (h + 1) 2) k c0 c1 c2 c3 c4)) (h + 1) (up1 (σ (h + 1)) 2 (σ (h + 1) 2 + 1))) h else σ)) := by
  obtain ⟨hH0, hEv, hMi, hDf, hVr, hKp, hTx, hLd, hOt, hEn, hSg, hAg, hDw, hTe, hHo, hVs⟩ := id hA
  have hT1 := hT.1
  refine PMet.of [(0, .ref h), (1, .int (iI (k))), (2, .int (iI (c0))), (3, .int (iI (c1))), (4, .int (iI (c2))), (5, .int (iI (c3))), (6, .int (iI (c4)))] (by decide +kernel) rfl (Nat.le_of_ble_eq_true rfl) ?_
  refine PW.iload_n dX11_event_0 rfl ?_
  refine PW.iload_n dX11_event_1 rfl ?_
  refine PW.iload_n dX11_event_2 rfl ?_
  refine PW.iload dX11_event_3 rfl ?_
  refine PW.iload dX11_event_5 rfl ?_
  refine PW.iload dX11_event_7 rfl ?_
  refine PW.callSr (c_X5_allow (by first | assumption | (unfold inR; omega)) (by first | assumption | (unfold inR; omega)) (by first | assumption | (unfold inR; omega)) (by first | assumption | (unfold inR; omega)) (by first | assumption | (unfold inR; omega)) (by first | assumption | (unfold inR; omega))) cs_X5_allow lk_X11_95 dX11_event_9 rfl rfl rfl ?_
  refine PW.if_neB 18 dX11_event_12 (by decide) (fun h12 => ?_) (fun h12 => ?_)
  · refine PW.aload_n dX11_event_18 rfl ?_
    refine PW.getR fl_X11_10 rfl (by assumption) rfl dX11_event_19 ?_
    refine PW.callVr (c_X8_size (by assumption)) cv_X8_size lk_X11_102 (by first | assumption | exact And.left (by assumption)) dX11_event_22 rfl rfl rfl rfl ?_
    refine PW.bipush (by decide) dX11_event_25 ?_
    refine PW.icmp_lt 33 dX11_event_27 (by decide) (by first | (unfold inR; omega) | assumption) (by first | (unfold inR; omega) | assumption) (fun h27 => ?_) (fun h27 => ?_)
    · refine PW.aload_n dX11_event_33 rfl ?_
      refine PW.getR fl_X11_10 rfl (by assumption) rfl dX11_event_34 ?_
      refine PW.iload_n dX11_event_37 rfl ?_
      refine PW.iload_n dX11_event_38 rfl ?_
      refine PW.iload_n dX11_event_39 rfl ?_
      refine PW.iload dX11_event_40 rfl ?_
      refine PW.iload dX11_event_42 rfl ?_
      refine PW.iload dX11_event_44 rfl ?_
      refine PW.callVv (c_X8_add (n := σ (h + 1) 2) hEv rfl (by omega) (by have := (by assumption : okEv k c0 c1 c2 c3 c4); exact this.1)) cv_X8_add lk_X11_107 (by first | assumption | exact And.left (by assumption)) dX11_event_46 rfl rfl rfl rfl ?_
      refine PW.aload_n dX11_event_49 rfl ?_
      refine PW.callVv (c_X11_renew hA (taOk_ad hT rfl (by omega) (by assumption))) cv_X11_renew lk_X11_111 (by first | assumption | exact And.left (by assumption)) dX11_event_50 rfl rfl rfl rfl ?_
      refine PW.aload_n dX11_event_53 rfl ?_
      refine PW.getR fl_X11_10 rfl (by assumption) rfl dX11_event_54 ?_
      refine PW.callVr (c_X8_size (by assumption)) cv_X8_size lk_X11_102 (by first | assumption | exact And.left (by assumption)) dX11_event_57 rfl rfl rfl rfl ?_
      refine PW.top (σ (h + 1) 2 + 1) (by rw [rnS_ne (by omega), upS_same, up1_same]) ?_
      refine PW.iconst dX11_event_60 ?_
      refine PW.isub dX11_event_61 ?_
      refine PW.iret rfl rfl dX11_event_62 ⟨ret_eq ?_, rfl, ?_⟩
      · rw [if_neg (fun q => q (by assumption)), if_neg (by omega)]
        omega
      · rw [if_pos ⟨by assumption, by omega⟩]
    · refine PW.ldc (-100004) kc_X11_106 rfl rfl dX11_event_30 ?_
      refine PW.iret rfl rfl dX11_event_32 ⟨ret_eq ?_, rfl, ?_⟩
      · rw [if_neg (fun q => q (by assumption)), if_pos (by omega)]
      · rw [if_neg (by omega)]
  · refine PW.ldc (-100002) kc_X11_101 rfl rfl dX11_event_15 ?_
    refine PW.iret rfl rfl dX11_event_17 ⟨ret_eq ?_, rfl, ?_⟩
    · rw [if_pos (by assumption)]
    · rw [if_neg (fun q => absurd q.1 (by assumption))]
theorem c_X11_undo {G : GT} {S : Shp} {σ : Sto} {h : Nat}  (hA : IsHill S h) (hT : taOk σ (h + 1)) : PMet G mX11_undo 7 0 0 [.ref h] S σ (isP (some (.int (iI (if σ (h + 1) 2 = 0 then -100003 else σ (h + 1) 2 - 1)))) S (if σ (h + 1) 2 = 0 then σ else rnS (upS σ (h + 1) (up1 (σ (h + 1)) 2 (σ (h + 1) 2 - 1))) h)) := by
  obtain ⟨hH0, hEv, hMi, hDf, hVr, hKp, hTx, hLd, hOt, hEn, hSg, hAg, hDw, hTe, hHo, hVs⟩ := id hA
  have hT1 := hT.1
  refine PMet.of [(0, .ref h)] (by decide +kernel) rfl (Nat.le_of_ble_eq_true rfl) ?_
  refine PW.aload_n dX11_undo_0 rfl ?_
  refine PW.getR fl_X11_10 rfl (by assumption) rfl dX11_undo_1 ?_
  refine PW.callVr (c_X8_size (by assumption)) cv_X8_size lk_X11_102 (by first | assumption | exact And.left (by assumption)) dX11_undo_4 rfl rfl rfl rfl ?_
  refine PW.if_ne 13 dX11_undo_7 (by decide) (by first | (unfold inR; omega) | assumption) (fun h7 => ?_) (fun h7 => ?_)
  · refine PW.aload_n dX11_undo_13 rfl ?_
    refine PW.getR fl_X11_10 rfl (by assumption) rfl dX11_undo_14 ?_
    refine PW.callVv (c_X8_shorten (by assumption) (by assumption)) cv_X8_shorten lk_X11_115 (by first | assumption | exact And.left (by assumption)) dX11_undo_17 rfl rfl rfl rfl ?_
    refine PW.st (upS σ (h + 1) (up1 (σ (h + 1)) 2 (σ (h + 1) 2 - 1))) (by rw [if_pos (by omega)]) ?_
    refine PW.aload_n dX11_undo_20 rfl ?_
    refine PW.callVv (c_X11_renew hA (taOk_up hT (by omega) (by omega))) cv_X11_renew lk_X11_111 (by first | assumption | exact And.left (by assumption)) dX11_undo_21 rfl rfl rfl rfl ?_
    refine PW.aload_n dX11_undo_24 rfl ?_
    refine PW.getR fl_X11_10 rfl (by assumption) rfl dX11_undo_25 ?_
    refine PW.callVr (c_X8_size (by assumption)) cv_X8_size lk_X11_102 (by first | assumption | exact And.left (by assumption)) dX11_undo_28 rfl rfl rfl rfl ?_
    refine PW.top (σ (h + 1) 2 - 1) (by rw [rnS_ne (by omega), upS_same, up1_same]) ?_
    exact PW.iret rfl rfl dX11_undo_31 ⟨ret_eq (by rw [if_neg (by assumption)]), rfl, by rw [if_neg (by assumption)]⟩
  · refine PW.ldc (-100003) kc_X11_114 rfl rfl dX11_undo_10 ?_
    exact PW.iret rfl rfl dX11_undo_12 ⟨ret_eq (by rw [if_pos (by assumption)]), rfl, by rw [if_pos (by assumption)]⟩
theorem c_X11_clear {G : GT} {S : Shp} {σ : Sto} {h : Nat}  (hA : IsHill S h) (hT : taOk σ (h + 1)) : PMet G mX11_clear 7 0 0 [.ref h] S σ (isP (some (.int (iI (σ (h + 1) 2)))) S (rnS (upS σ (h + 1) (up1 (σ (h + 1)) 2 0)) h)) := by
  obtain ⟨hH0, hEv, hMi, hDf, hVr, hKp, hTx, hLd, hOt, hEn, hSg, hAg, hDw, hTe, hHo, hVs⟩ := id hA
  have hT1 := hT.1
  refine PMet.of [(0, .ref h)] (by decide +kernel) rfl (Nat.le_of_ble_eq_true rfl) ?_
  refine PW.aload_n dX11_clear_0 rfl ?_
  refine PW.getR fl_X11_10 rfl (by assumption) rfl dX11_clear_1 ?_
  refine PW.callVr (c_X8_size (by assumption)) cv_X8_size lk_X11_102 (by first | assumption | exact And.left (by assumption)) dX11_clear_4 rfl rfl rfl rfl ?_
  refine PW.istore_n [(0, _), (1, _)] dX11_clear_7 rfl (Nat.le_of_ble_eq_true rfl) ?_
  refine PW.aload_n dX11_clear_8 rfl ?_
  refine PW.getR fl_X11_10 rfl (by assumption) rfl dX11_clear_9 ?_
  refine PW.callVv (c_X8_empty (by assumption)) cv_X8_empty lk_X11_118 (by first | assumption | exact And.left (by assumption)) dX11_clear_12 rfl rfl rfl rfl ?_
  refine PW.aload_n dX11_clear_15 rfl ?_
  refine PW.callVv (c_X11_renew hA (taOk_up hT (by omega) (by omega))) cv_X11_renew lk_X11_111 (by first | assumption | exact And.left (by assumption)) dX11_clear_16 rfl rfl rfl rfl ?_
  refine PW.iload_n dX11_clear_19 rfl ?_
  exact PW.iret rfl (by first | rfl | exact narB _) dX11_clear_20 ⟨rfl, rfl, rfl⟩
theorem c_X11_told {G : GT} {S : Shp} {σ : Sto} {h : Nat} {i w : Int} (hA : IsHill S h) (hT : taOk σ (h + 1)) (ri : inR i) (rw : inR w) : PMet G mX11_told 2 0 0 [.ref h, .int (iI (i)), .int (iI (w))] S σ (isP (some (.int (iI (if ¬ (0 ≤ i ∧ i < σ (h + 1) 2) then -100001 else if ¬ (0 ≤ w ∧ w ≤ 6) then -100002 else if w = 6 then b01 (¬ (σ (h + 1 + 1)) (7 * i + 6) = 0) else (σ (h + 1 + 1)) (7 * i + w))))) S (σ)) := by
  obtain ⟨hH0, hEv, hMi, hDf, hVr, hKp, hTx, hLd, hOt, hEn, hSg, hAg, hDw, hTe, hHo, hVs⟩ := id hA
  have hT1 := hT.1
  refine PMet.of [(0, .ref h), (1, .int (iI (i))), (2, .int (iI (w)))] (by decide +kernel) rfl (Nat.le_of_ble_eq_true rfl) ?_
  refine PW.aload_n dX11_told_0 rfl ?_
  refine PW.getR fl_X11_10 rfl (by assumption) rfl dX11_told_1 ?_
  refine PW.iload_n dX11_told_4 rfl ?_
  refine PW.callVr (c_X8_has (by assumption) (by assumption) (by first | assumption | (unfold inR; omega))) cv_X8_has lk_X11_121 (by first | assumption | exact And.left (by assumption)) dX11_told_5 rfl rfl rfl rfl ?_
  refine PW.if_neB 14 dX11_told_8 (by decide) (fun h8 => ?_) (fun h8 => ?_)
  · have hE := hT.2 i (by omega) (by omega)
    refine PW.iload_n dX11_told_14 rfl ?_
    refine PW.if_lt 24 dX11_told_15 (by decide) (by first | (unfold inR; omega) | assumption) (fun h15 => ?_) (fun h15 => ?_)
    · refine PW.ldc (-100002) kc_X11_101 rfl rfl dX11_told_24 ?_
      exact PW.iret rfl (by first | rfl | exact narB _) dX11_told_26 ⟨ret_eq (by rw [if_neg (fun q => q (by assumption)), if_pos (by omega)]), rfl, rfl⟩
    · refine PW.iload_n dX11_told_18 rfl ?_
      refine PW.bipush (by decide) dX11_told_19 ?_
      refine PW.icmp_le 27 dX11_told_21 (by decide) (by first | (unfold inR; omega) | assumption) (by first | (unfold inR; omega) | assumption) (fun h21 => ?_) (fun h21 => ?_)
      · refine PW.iload_n dX11_told_27 rfl ?_
        refine PW.if_ne 40 dX11_told_28 (by decide) (by first | (unfold inR; omega) | assumption) (fun h28 => ?_) (fun h28 => ?_)
        · refine PW.iload_n dX11_told_40 rfl ?_
          refine PW.bipush (by decide) dX11_told_41 ?_
          refine PW.icmp_ne 60 dX11_told_43 (by decide) (by first | (unfold inR; omega) | assumption) (by first | (unfold inR; omega) | assumption) (fun h43 => ?_) (fun h43 => ?_)
          · refine PW.aload_n dX11_told_60 rfl ?_
            refine PW.getR fl_X11_10 rfl (by assumption) rfl dX11_told_61 ?_
            refine PW.iload_n dX11_told_64 rfl ?_
            refine PW.iload_n dX11_told_65 rfl ?_
            refine PW.iconst dX11_told_66 ?_
            refine PW.isub dX11_told_67 ?_
            refine PW.callVr (c_X8_number (by assumption) (by omega) (by omega)) cv_X8_number lk_X11_137 (by first | assumption | exact And.left (by assumption)) dX11_told_68 rfl rfl rfl rfl ?_
            first
              | (refine PW.iret rfl rfl dX11_told_71 ⟨ret_eq ?_, rfl, rfl⟩
                 rw [if_neg (fun q => q (by assumption)), if_neg (by omega), if_pos (by omega)]
                 done)
              | (refine PW.iret rfl rfl dX11_told_71 ⟨ret_eq ?_, rfl, rfl⟩
                 rw [if_neg (fun q => q (by assumption)), if_neg (by omega), if_neg (by omega)]
                 congr 1
                 omega)
          · refine PW.aload_n dX11_told_46 rfl ?_
            refine PW.getR fl_X11_10 rfl (by assumption) rfl dX11_told_47 ?_
            refine PW.iload_n dX11_told_50 rfl ?_
            refine PW.callVr (c_X8_isLoose hEv (by omega) hE.2.2) cv_X8_isLoose lk_X11_130 (by first | assumption | exact And.left (by assumption)) dX11_told_51 rfl rfl rfl rfl ?_
            refine PW.callSr (c_X11_flag) cs_X11_flag lk_X11_133 dX11_told_54 rfl rfl rfl ?_
            refine PW.goto 71 dX11_told_57 (by decide) ?_
            first
              | (refine PW.iret rfl rfl dX11_told_71 ⟨ret_eq ?_, rfl, rfl⟩
                 rw [if_neg (fun q => q (by assumption)), if_neg (by omega), if_pos (by omega)]
                 done)
              | (refine PW.iret rfl rfl dX11_told_71 ⟨ret_eq ?_, rfl, rfl⟩
                 rw [if_neg (fun q => q (by assumption)), if_neg (by omega), if_neg (by omega)]
                 congr 1
                 omega)
        · refine PW.aload_n dX11_told_31 rfl ?_
          refine PW.getR fl_X11_10 rfl (by assumption) rfl dX11_told_32 ?_
          refine PW.iload_n dX11_told_35 rfl ?_
          refine PW.callVr (c_X8_kind (by assumption) (by omega)) cv_X8_kind lk_X11_126 (by first | assumption | exact And.left (by assumption)) dX11_told_36 rfl rfl rfl rfl ?_
          refine PW.iret rfl rfl dX11_told_39 ⟨ret_eq ?_, rfl, rfl⟩
          rw [if_neg (fun q => q (by assumption)), if_neg (by omega), if_neg (by omega)]
          congr 1
          omega
      · refine PW.ldc (-100002) kc_X11_101 rfl rfl dX11_told_24 ?_
        exact PW.iret rfl (by first | rfl | exact narB _) dX11_told_26 ⟨ret_eq (by rw [if_neg (fun q => q (by assumption)), if_pos (by omega)]), rfl, rfl⟩
  · refine PW.ldc (-100001) kc_X11_125 rfl rfl dX11_told_11 ?_
    exact PW.iret rfl (by first | rfl | exact narB _) dX11_told_13 ⟨ret_eq (by rw [if_pos (by assumption)]), rfl, rfl⟩
theorem c_X11_loose {G : GT} {S : Shp} {σ : Sto} {h : Nat} {i : Int} {P : Prop} [Decidable P] (hA : IsHill S h) (hT : taOk σ (h + 1)) (ri : inR i) : PMet G mX11_loose 2 0 0 [.ref h, .int (iI i), .int (iI (b01 P))] S σ (isP (some (.int (iI (if ¬ (0 ≤ i ∧ i < σ (h + 1) 2) then -100001 else b01 (¬ (σ (h + 1 + 1)) (7 * i + 6) = 0))))) S (if 0 ≤ i ∧ i < σ (h + 1) 2 then (upS (upS σ (h + 1 + 1) (up1 (σ (h + 1 + 1)) (7 * i + 6) (b01 P))) (h + 149) (up1 (σ (h + 149)) 8 0)) else σ)) := by
  obtain ⟨hH0, hEv, hMi, hDf, hVr, hKp, hTx, hLd, hOt, hEn, hSg, hAg, hDw, hTe, hHo, hVs⟩ := id hA
  have hT1 := hT.1
  refine PMet.of [(0, .ref h), (1, .int (iI (i))), (2, .int (iI (b01 P)))] (by decide +kernel) rfl (Nat.le_of_ble_eq_true rfl) ?_
  refine PW.aload_n dX11_loose_0 rfl ?_
  refine PW.getR fl_X11_10 rfl (by assumption) rfl dX11_loose_1 ?_
  refine PW.iload_n dX11_loose_4 rfl ?_
  refine PW.callVr (c_X8_has (by assumption) (by assumption) (by first | assumption | (unfold inR; omega))) cv_X8_has lk_X11_121 (by first | assumption | exact And.left (by assumption)) dX11_loose_5 rfl rfl rfl rfl ?_
  refine PW.if_neB 14 dX11_loose_8 (by decide) (fun h8 => ?_) (fun h8 => ?_)
  · have hE := hT.2 i (by omega) (by omega)
    refine PW.aload_n dX11_loose_14 rfl ?_
    refine PW.getR fl_X11_10 rfl (by assumption) rfl dX11_loose_15 ?_
    refine PW.iload_n dX11_loose_18 rfl ?_
    refine PW.callVr (c_X8_isLoose hEv (by omega) hE.2.2) cv_X8_isLoose lk_X11_130 (by first | assumption | exact And.left (by assumption)) dX11_loose_19 rfl rfl rfl rfl ?_
    refine PW.callSr (c_X11_flag) cs_X11_flag lk_X11_133 dX11_loose_22 rfl rfl rfl ?_
    refine PW.istore_n [(0, _), (1, _), (2, _), (3, _)] dX11_loose_25 rfl (Nat.le_of_ble_eq_true rfl) ?_
    refine PW.aload_n dX11_loose_26 rfl ?_
    refine PW.getR fl_X11_10 rfl (by assumption) rfl dX11_loose_27 ?_
    refine PW.iload_n dX11_loose_30 rfl ?_
    refine PW.iload_n dX11_loose_31 rfl ?_
    refine PW.callVv (c_X8_setLoose hEv (by omega)) cv_X8_setLoose lk_X11_141 (by first | assumption | exact And.left (by assumption)) dX11_loose_32 rfl rfl rfl rfl ?_
    refine PW.aload_n dX11_loose_35 rfl ?_
    refine PW.getR fl_X11_56 rfl (by assumption) rfl dX11_loose_36 ?_
    refine PW.callVv (c_X4_doubt (by assumption)) cv_X4_doubt lk_X11_145 (by first | assumption | exact And.left (by assumption)) dX11_loose_39 rfl rfl rfl rfl ?_
    refine PW.st (upS (upS σ (h + 1 + 1) (up1 (σ (h + 1 + 1)) (7 * i + 6) (b01 P))) (h + 149) (up1 (σ (h + 149)) 8 0)) (by rw [upS_ne (show h + 149 ≠ h + 1 + 1 by omega)]) ?_
    refine PW.iload_n dX11_loose_42 rfl ?_
    exact PW.iret rfl rfl dX11_loose_43 ⟨ret_eq (by rw [if_neg (fun q => q (by assumption))]), rfl, by rw [if_pos (by assumption)]⟩
  · refine PW.ldc (-100001) kc_X11_125 rfl rfl dX11_loose_11 ?_
    exact PW.iret rfl rfl dX11_loose_13 ⟨ret_eq (by rw [if_pos (by assumption)]), rfl, by rw [if_neg (by assumption)]⟩
theorem c_X11_swap {G : GT} {S : Shp} {σ : Sto} {h : Nat} {i : Int} (hA : IsHill S h) (hT : taOk σ (h + 1)) (ri : inR i) (hlc : colsOk σ (h + 15) 64) : PMet G mX11_swap 7 0 0 [.ref h, .int (iI i)] S σ (fun r S' τ => S' = S ∧ r = some (.int (iI (if ¬ (0 ≤ i ∧ i < σ (h + 1) 2 - 1) then -100001 else smF (fun n => b01 (0 < ucF (upS (upS σ (h + 1 + 2) (cpF (σ (h + 1 + 1)) (σ (h + 1 + 2)) (7 * i) 0 7)) (h + 1 + 1) (exF (σ (h + 1 + 1)) i)) h (h + 1) n)) 64))) ∧ (¬ (0 ≤ i ∧ i < σ (h + 1) 2 - 1) → τ = σ) ∧ ((0 ≤ i ∧ i < σ (h + 1) 2 - 1) → ∃ f : Int → Int, τ = rnS (upS (upS (upS σ (h + 1 + 2) (cpF (σ (h + 1 + 1)) (σ (h + 1 + 2)) (7 * i) 0 7)) (h + 1 + 1) (exF (σ (h + 1 + 1)) i)) (h + 147 + 1) f) h)) := by
  obtain ⟨hH0, hEv, hMi, hDf, hVr, hKp, hTx, hLd, hOt, hEn, hSg, hAg, hDw, hTe, hHo, hVs⟩ := id hA
  have hT1 := hT.1
  refine PMet.of [(0, .ref h), (1, .int (iI (i)))] (by decide +kernel) rfl (Nat.le_of_ble_eq_true rfl) ?_
  refine PW.iload_n dX11_swap_0 rfl ?_
  refine PW.if_lt 17 dX11_swap_1 (by decide) (by first | (unfold inR; omega) | assumption) (fun h1 => ?_) (fun h1 => ?_)
  · refine PW.ldc (-100001) kc_X11_125 rfl rfl dX11_swap_17 ?_
    exact PW.iret rfl rfl dX11_swap_19 ⟨rfl, ret_eq (by rw [if_pos (by omega)]), fun _ => rfl, fun q => by omega⟩
  · refine PW.iload_n dX11_swap_4 rfl ?_
    refine PW.aload_n dX11_swap_5 rfl ?_
    refine PW.getR fl_X11_10 rfl (by assumption) rfl dX11_swap_6 ?_
    refine PW.callVr (c_X8_size (by assumption)) cv_X8_size lk_X11_102 (by first | assumption | exact And.left (by assumption)) dX11_swap_9 rfl rfl rfl rfl ?_
    refine PW.iconst dX11_swap_12 ?_
    refine PW.isub dX11_swap_13 ?_
    refine PW.icmp_lt 20 dX11_swap_14 (by decide) (by first | (unfold inR; omega) | assumption) (by first | (unfold inR; omega) | assumption) (fun h14 => ?_) (fun h14 => ?_)
    · refine PW.aload_n dX11_swap_20 rfl ?_
      refine PW.getR fl_X11_10 rfl (by assumption) rfl dX11_swap_21 ?_
      refine PW.iload_n dX11_swap_24 rfl ?_
      refine PW.callVv (c_X8_exchange hEv (by omega)) cv_X8_exchange lk_X11_148 (by first | assumption | exact And.left (by assumption)) dX11_swap_25 rfl rfl rfl rfl ?_
      refine PW.aload_n dX11_swap_28 rfl ?_
      refine PW.aload_n dX11_swap_29 rfl ?_
      refine PW.getR fl_X11_10 rfl (by assumption) rfl dX11_swap_30 ?_
      refine PW.callVg (c_X11_unlikeColumns hA hEv (taOk_ex hT (by omega)) (colsOk_congr (fun b b0 b1 => by rw [upS_ne (by omega), upS_ne (by omega)]) hlc) (by omega)) cv_X11_unlikeColumns lk_X11_151 (by first | assumption | exact And.left (by assumption)) dX11_swap_33 rfl rfl rfl rfl (fun r S' τ33 hq => ?_)
      obtain ⟨hS, rfl, f, rfl⟩ := hq
      have hS2 := hS.symm
      subst hS2
      refine PW.istore_n [(0, _), (1, _), (2, _)] dX11_swap_36 rfl (Nat.le_of_ble_eq_true rfl) ?_
      refine PW.aload_n dX11_swap_37 rfl ?_
      refine PW.callVv (c_X11_renew hA (taOk_congr (upS_ne (by omega)) (upS_ne (by omega)) (taOk_ex (g := cpF (σ (h + 1 + 1)) (σ (h + 1 + 2)) (7 * i) 0 7) hT (i := i) (by omega)))) cv_X11_renew lk_X11_111 (by first | assumption | exact And.left (by assumption)) dX11_swap_38 rfl rfl rfl rfl ?_
      refine PW.iload_n dX11_swap_41 rfl ?_
      exact PW.iret rfl rfl dX11_swap_42 ⟨rfl, ret_eq (by rw [if_neg (by omega)]), fun q => by omega, fun _ => ⟨f, rfl⟩⟩
    · refine PW.ldc (-100001) kc_X11_125 rfl rfl dX11_swap_17 ?_
      exact PW.iret rfl rfl dX11_swap_19 ⟨rfl, ret_eq (by rw [if_pos (by omega)]), fun _ => rfl, fun q => by omega⟩
theorem c_X11_count {G : GT} {S : Shp} {σ : Sto} {h : Nat} {w : Int} (hA : IsHill S h) (hT : taOk σ (h + 1)) (rw_ : inR w) (hMt : taOk σ (h + 4)) (hsg0 : 0 ≤ σ (h + 171) 1 ∧ σ (h + 171) 1 ≤ 30) (hss : sgsOk σ (h + 171)) (hlc : colsOk σ (h + 15) 64) (hkp : ∀ v, 0 ≤ v → v < 4 → 0 ≤ σ (h + 11) v ∧ σ (h + 11) v ≤ 1) : PMet G mX11_count 6 0 0 [.ref h, .int (iI (w))] S σ (isP (some (.int (iI (if w = 0 then σ (h + 1) 2 else if w = 1 then looF (σ (h + 1 + 1)) (σ (h + 1) 2) else if w = 2 then σ (h + 171) 1 else if w = 3 then σ (h + 173) 2 else if w = 4 then σ (h + 4) 2 else if w = 5 then smF (fun v => b01 (¬ σ (h + 11) v = 0)) 4 else if w = 6 then σ (h + 12) 2 else if w = 7 then smF (fun j => xcF (σ (cA (h + 15) j + 1)) (birF (σ (h + 1 + 1)) (σ (h + 1) 2))) 64 else if w = 8 then umC (σ (h + 171 + 1)) (ldF σ (h + 15)) (σ (h + 171) 1) else -100002)))) S (σ)) := by
  obtain ⟨hH0, hEv, hMi, hDf, hVr, hKp, hTx, hLd, hOt, hEn, hSg, hAg, hDw, hTe, hHo, hVs⟩ := id hA
  have hT1 := hT.1
  refine PMet.of [(0, .ref h), (1, .int (iI (w)))] (by decide +kernel) rfl (Nat.le_of_ble_eq_true rfl) ?_
  refine PW.iload_n dX11_count_0 rfl ?_
  rcases (show w = 0 ∨ w = 1 ∨ w = 2 ∨ w = 3 ∨ w = 4 ∨ w = 5 ∨ w = 6 ∨ w = 7 ∨ w = 8 ∨ (w < 0 ∨ 8 < w) by omega) with h1 | h1 | h1 | h1 | h1 | h1 | h1 | h1 | h1 | h1
  · refine PW.tsIn (51) 52 (by first | (unfold inR; omega) | assumption) dX11_count_1 (by omega) (by omega) (by rw [h1]; rfl) (by decide) ?_
    refine PW.aload_n dX11_count_52 rfl ?_
    refine PW.getR fl_X11_10 rfl (by assumption) rfl dX11_count_53 ?_
    refine PW.callVr (c_X8_size (by assumption)) cv_X8_size lk_X11_102 (by first | assumption | exact And.left (by assumption)) dX11_count_56 rfl rfl rfl rfl ?_
    refine PW.iret rfl rfl dX11_count_59 ⟨ret_eq ?_, rfl, rfl⟩
    rw [if_pos h1]
  · refine PW.tsIn (59) 60 (by first | (unfold inR; omega) | assumption) dX11_count_1 (by omega) (by omega) (by rw [h1]; rfl) (by decide) ?_
    refine PW.aload_n dX11_count_60 rfl ?_
    refine PW.getR fl_X11_10 rfl (by assumption) rfl dX11_count_61 ?_
    refine PW.callVr (c_X8_looseOnes (by assumption) (by assumption)) cv_X8_looseOnes lk_X11_155 (by first | assumption | exact And.left (by assumption)) dX11_count_64 rfl rfl rfl rfl ?_
    refine PW.iret rfl rfl dX11_count_67 ⟨ret_eq ?_, rfl, rfl⟩
    rw [if_neg (show ¬ w = 0 by omega), if_pos h1]
  · refine PW.tsIn (67) 68 (by first | (unfold inR; omega) | assumption) dX11_count_1 (by omega) (by omega) (by rw [h1]; rfl) (by decide) ?_
    refine PW.aload_n dX11_count_68 rfl ?_
    refine PW.getR fl_X11_63 rfl (by assumption) rfl dX11_count_69 ?_
    refine PW.callVr (c_X7_size (by assumption)) cv_X7_size lk_X11_158 (by first | assumption | exact And.left (by assumption)) dX11_count_72 rfl rfl rfl rfl ?_
    refine PW.iret rfl rfl dX11_count_75 ⟨ret_eq ?_, rfl, rfl⟩
    rw [if_neg (show ¬ w = 0 by omega), if_neg (show ¬ w = 1 by omega), if_pos h1]
  · refine PW.tsIn (75) 76 (by first | (unfold inR; omega) | assumption) dX11_count_1 (by omega) (by omega) (by rw [h1]; rfl) (by decide) ?_
    refine PW.aload_n dX11_count_76 rfl ?_
    refine PW.getR fl_X11_70 rfl (by assumption) rfl dX11_count_77 ?_
    refine PW.callVr (c_X0_claims (by assumption)) cv_X0_claims lk_X11_159 (by first | assumption | exact And.left (by assumption)) dX11_count_80 rfl rfl rfl rfl ?_
    refine PW.iret rfl rfl dX11_count_83 ⟨ret_eq ?_, rfl, rfl⟩
    rw [if_neg (show ¬ w = 0 by omega), if_neg (show ¬ w = 1 by omega), if_neg (show ¬ w = 2 by omega), if_pos h1]
  · refine PW.tsIn (83) 84 (by first | (unfold inR; omega) | assumption) dX11_count_1 (by omega) (by omega) (by rw [h1]; rfl) (by decide) ?_
    refine PW.aload_n dX11_count_84 rfl ?_
    refine PW.getR fl_X11_16 rfl (by assumption) rfl dX11_count_85 ?_
    refine PW.callVr (c_X8_size (by assumption)) cv_X8_size lk_X11_102 (by first | assumption | exact And.left (by assumption)) dX11_count_88 rfl rfl rfl rfl ?_
    refine PW.iret rfl rfl dX11_count_91 ⟨ret_eq ?_, rfl, rfl⟩
    rw [if_neg (show ¬ w = 0 by omega), if_neg (show ¬ w = 1 by omega), if_neg (show ¬ w = 2 by omega), if_neg (show ¬ w = 3 by omega), if_pos h1]
  · refine PW.tsIn (91) 92 (by first | (unfold inR; omega) | assumption) dX11_count_1 (by omega) (by omega) (by rw [h1]; rfl) (by decide) ?_
    refine PW.aload_n dX11_count_92 rfl ?_
    refine PW.callVr (c_X11_keptVersions hA hkp) cv_X11_keptVersions lk_X11_162 (by first | assumption | exact And.left (by assumption)) dX11_count_93 rfl rfl rfl rfl ?_
    refine PW.iret rfl rfl dX11_count_96 ⟨ret_eq ?_, rfl, rfl⟩
    rw [if_neg (show ¬ w = 0 by omega), if_neg (show ¬ w = 1 by omega), if_neg (show ¬ w = 2 by omega), if_neg (show ¬ w = 3 by omega), if_neg (show ¬ w = 4 by omega), if_pos h1]
  · refine PW.tsIn (96) 97 (by first | (unfold inR; omega) | assumption) dX11_count_1 (by omega) (by omega) (by rw [h1]; rfl) (by decide) ?_
    refine PW.aload_n dX11_count_97 rfl ?_
    refine PW.getR fl_X11_33 rfl (by assumption) rfl dX11_count_98 ?_
    refine PW.callVr (c_X10_size (by assumption)) cv_X10_size lk_X11_165 (by first | assumption | exact And.left (by assumption)) dX11_count_101 rfl rfl rfl rfl ?_
    refine PW.iret rfl rfl dX11_count_104 ⟨ret_eq ?_, rfl, rfl⟩
    rw [if_neg (show ¬ w = 0 by omega), if_neg (show ¬ w = 1 by omega), if_neg (show ¬ w = 2 by omega), if_neg (show ¬ w = 3 by omega), if_neg (show ¬ w = 4 by omega), if_neg (show ¬ w = 5 by omega), if_pos h1]
  · refine PW.tsIn (104) 105 (by first | (unfold inR; omega) | assumption) dX11_count_1 (by omega) (by omega) (by rw [h1]; rfl) (by decide) ?_
    refine PW.aload_n dX11_count_105 rfl ?_
    refine PW.getR fl_X11_42 rfl (by assumption) rfl dX11_count_106 ?_
    refine PW.aload_n dX11_count_109 rfl ?_
    refine PW.getR fl_X11_10 rfl (by assumption) rfl dX11_count_110 ?_
    refine PW.callVr (c_X2_crossings (by assumption) (by omega) (by assumption) (by assumption) (by assumption)) cv_X2_crossings lk_X11_166 (by first | assumption | exact And.left (by assumption)) dX11_count_113 rfl rfl rfl rfl ?_
    refine PW.iret rfl rfl dX11_count_116 ⟨ret_eq ?_, rfl, rfl⟩
    rw [if_neg (show ¬ w = 0 by omega), if_neg (show ¬ w = 1 by omega), if_neg (show ¬ w = 2 by omega), if_neg (show ¬ w = 3 by omega), if_neg (show ¬ w = 4 by omega), if_neg (show ¬ w = 5 by omega), if_neg (show ¬ w = 6 by omega), if_pos h1]
    rfl
  · refine PW.tsIn (116) 117 (by first | (unfold inR; omega) | assumption) dX11_count_1 (by omega) (by omega) (by rw [h1]; rfl) (by decide) ?_
    refine PW.aload_n dX11_count_117 rfl ?_
    refine PW.getR fl_X11_63 rfl (by assumption) rfl dX11_count_118 ?_
    refine PW.aload_n dX11_count_121 rfl ?_
    refine PW.getR fl_X11_42 rfl (by assumption) rfl dX11_count_122 ?_
    refine PW.callVr (c_X7_unmetOf (by assumption) (by assumption) (by assumption) (by assumption)) cv_X7_unmetOf lk_X11_169 (by first | assumption | exact And.left (by assumption)) dX11_count_125 rfl rfl rfl rfl ?_
    refine PW.iret rfl rfl dX11_count_128 ⟨ret_eq ?_, rfl, rfl⟩
    rw [if_neg (show ¬ w = 0 by omega), if_neg (show ¬ w = 1 by omega), if_neg (show ¬ w = 2 by omega), if_neg (show ¬ w = 3 by omega), if_neg (show ¬ w = 4 by omega), if_neg (show ¬ w = 5 by omega), if_neg (show ¬ w = 6 by omega), if_neg (show ¬ w = 7 by omega), if_pos h1]
  · refine PW.tsOut 129 (by first | (unfold inR; omega) | assumption) dX11_count_1 (by omega) (by decide) ?_
    refine PW.ldc (-100002) kc_X11_101 rfl rfl dX11_count_129 ?_
    refine PW.iret rfl rfl dX11_count_131 ⟨ret_eq ?_, rfl, rfl⟩
    rw [if_neg (show ¬ w = 0 by omega), if_neg (show ¬ w = 1 by omega), if_neg (show ¬ w = 2 by omega), if_neg (show ¬ w = 3 by omega), if_neg (show ¬ w = 4 by omega), if_neg (show ¬ w = 5 by omega), if_neg (show ¬ w = 6 by omega), if_neg (show ¬ w = 7 by omega), if_neg (show ¬ w = 8 by omega)]
theorem c_X11_at {G : GT} {S : Shp} {σ : Sto} {h : Nat} {x y z : Int} (hA : IsHill S h) (hlc : colsOk σ (h + 15) 64) (rx : inR x) (ry : inR y) (rz : inR z) : PMet G mX11_at 3 0 0 [.ref h, .int (iI (x)), .int (iI (y)), .int (iI (z))] S σ (isP (some (.int (iI (if ¬ ((0 ≤ x ∧ x < 8) ∧ (0 ≤ y ∧ y < 8) ∧ (-40 ≤ z ∧ z ≤ 39)) then -100002 else σ ((cA (h + 15) (8 * y + x)) + 1) (z + 40))))) S (σ)) := by
  obtain ⟨hH0, hEv, hMi, hDf, hVr, hKp, hTx, hLd, hOt, hEn, hSg, hAg, hDw, hTe, hHo, hVs⟩ := id hA
  refine PMet.of [(0, .ref h), (1, .int (iI (x))), (2, .int (iI (y))), (3, .int (iI (z)))] (by decide +kernel) rfl (Nat.le_of_ble_eq_true rfl) ?_
  refine PW.iload_n dX11_at_0 rfl ?_
  refine PW.callSr (c_X11_isStep (by first | assumption | (unfold inR; omega))) cs_X11_isStep lk_X11_186 dX11_at_1 rfl rfl rfl ?_
  refine PW.if_eqB 21 dX11_at_4 (by decide) (fun h4 => ?_) (fun h4 => ?_)
  · refine PW.ldc (-100002) kc_X11_101 rfl rfl dX11_at_21 ?_
    exact PW.iret rfl (by first | rfl | exact narB _) dX11_at_23 ⟨ret_eq (by first | rw [if_pos (by omega)] | rw [if_neg (by omega)]), rfl, rfl⟩
  · refine PW.iload_n dX11_at_7 rfl ?_
    refine PW.callSr (c_X11_isStep (by first | assumption | (unfold inR; omega))) cs_X11_isStep lk_X11_186 dX11_at_8 rfl rfl rfl ?_
    refine PW.if_eqB 21 dX11_at_11 (by decide) (fun h11 => ?_) (fun h11 => ?_)
    · refine PW.ldc (-100002) kc_X11_101 rfl rfl dX11_at_21 ?_
      exact PW.iret rfl (by first | rfl | exact narB _) dX11_at_23 ⟨ret_eq (by first | rw [if_pos (by omega)] | rw [if_neg (by omega)]), rfl, rfl⟩
    · refine PW.iload_n dX11_at_14 rfl ?_
      refine PW.callSr (c_X11_isHeight (by first | assumption | (unfold inR; omega))) cs_X11_isHeight lk_X11_189 dX11_at_15 rfl rfl rfl ?_
      refine PW.if_neB 24 dX11_at_18 (by decide) (fun h18 => ?_) (fun h18 => ?_)
      · have hc := hLd.2.2.2 (8 * y + x) (by omega) (by omega)
        have okl := hlc (8 * y + x) (by omega) (by omega)
        refine PW.aload_n dX11_at_24 rfl ?_
        refine PW.getR fl_X11_42 rfl (by assumption) rfl dX11_at_25 ?_
        refine PW.iload_n dX11_at_28 rfl ?_
        refine PW.iload_n dX11_at_29 rfl ?_
        refine PW.callSr (c_X11_columnNumber) cs_X11_columnNumber lk_X11_192 dX11_at_30 rfl rfl rfl ?_
        refine PW.callVr (c_X2_of (by assumption) (by omega) (by omega) (by omega)) cv_X2_of lk_X11_195 (by first | assumption | exact And.left (by assumption)) dX11_at_33 rfl rfl rfl rfl ?_
        refine PW.iload_n dX11_at_36 rfl ?_
        refine PW.callVr (c_X1_bedAt hc (by omega)) cv_X1_bedAt lk_X11_199 (by first | assumption | exact And.left (by assumption)) dX11_at_37 rfl rfl rfl rfl ?_
        exact PW.iret rfl (by first | rfl | exact narB _) dX11_at_40 ⟨ret_eq (by first | rw [if_pos (by omega)] | rw [if_neg (by omega)]), rfl, rfl⟩
      · refine PW.ldc (-100002) kc_X11_101 rfl rfl dX11_at_21 ?_
        exact PW.iret rfl (by first | rfl | exact narB _) dX11_at_23 ⟨ret_eq (by first | rw [if_pos (by omega)] | rw [if_neg (by omega)]), rfl, rfl⟩
theorem c_X11_skin {G : GT} {S : Shp} {σ : Sto} {h : Nat} {x y w : Int} (hA : IsHill S h) (hlc : colsOk σ (h + 15) 64) (rx : inR x) (ry : inR y) (rw : inR w) : PMet G mX11_skin 3 0 0 [.ref h, .int (iI (x)), .int (iI (y)), .int (iI (w))] S σ (isP (some (.int (iI (if ¬ ((0 ≤ x ∧ x < 8) ∧ (0 ≤ y ∧ y < 8) ∧ (0 ≤ w ∧ w ≤ 1)) then -100002 else if w = 0 then skF (σ ((cA (h + 15) (8 * y + x)) + 1)) else sbF (σ ((cA (h + 15) (8 * y + x)) + 1)))))) S (σ)) := by
  obtain ⟨hH0, hEv, hMi, hDf, hVr, hKp, hTx, hLd, hOt, hEn, hSg, hAg, hDw, hTe, hHo, hVs⟩ := id hA
  refine PMet.of [(0, .ref h), (1, .int (iI (x))), (2, .int (iI (y))), (3, .int (iI (w)))] (by decide +kernel) rfl (Nat.le_of_ble_eq_true rfl) ?_
  refine PW.iload_n dX11_skin_0 rfl ?_
  refine PW.callSr (c_X11_isStep (by first | assumption | (unfold inR; omega))) cs_X11_isStep lk_X11_186 dX11_skin_1 rfl rfl rfl ?_
  refine PW.if_eqB 23 dX11_skin_4 (by decide) (fun h4 => ?_) (fun h4 => ?_)
  · refine PW.ldc (-100002) kc_X11_101 rfl rfl dX11_skin_23 ?_
    exact PW.iret rfl (by first | rfl | exact narB _) dX11_skin_25 ⟨ret_eq (by first | rw [if_pos (by omega)] | (rw [if_neg (by omega)]; first | rw [if_pos (by omega)] | rw [if_neg (by omega)])), rfl, rfl⟩
  · refine PW.iload_n dX11_skin_7 rfl ?_
    refine PW.callSr (c_X11_isStep (by first | assumption | (unfold inR; omega))) cs_X11_isStep lk_X11_186 dX11_skin_8 rfl rfl rfl ?_
    refine PW.if_eqB 23 dX11_skin_11 (by decide) (fun h11 => ?_) (fun h11 => ?_)
    · refine PW.ldc (-100002) kc_X11_101 rfl rfl dX11_skin_23 ?_
      exact PW.iret rfl (by first | rfl | exact narB _) dX11_skin_25 ⟨ret_eq (by first | rw [if_pos (by omega)] | (rw [if_neg (by omega)]; first | rw [if_pos (by omega)] | rw [if_neg (by omega)])), rfl, rfl⟩
    · refine PW.iload_n dX11_skin_14 rfl ?_
      refine PW.if_lt 23 dX11_skin_15 (by decide) (by first | (unfold inR; omega) | assumption) (fun h15 => ?_) (fun h15 => ?_)
      · refine PW.ldc (-100002) kc_X11_101 rfl rfl dX11_skin_23 ?_
        exact PW.iret rfl (by first | rfl | exact narB _) dX11_skin_25 ⟨ret_eq (by first | rw [if_pos (by omega)] | (rw [if_neg (by omega)]; first | rw [if_pos (by omega)] | rw [if_neg (by omega)])), rfl, rfl⟩
      · refine PW.iload_n dX11_skin_18 rfl ?_
        refine PW.iconst dX11_skin_19 ?_
        refine PW.icmp_le 26 dX11_skin_20 (by decide) (by first | (unfold inR; omega) | assumption) (by first | (unfold inR; omega) | assumption) (fun h20 => ?_) (fun h20 => ?_)
        · have hc := hLd.2.2.2 (8 * y + x) (by omega) (by omega)
          have okl := hlc (8 * y + x) (by omega) (by omega)
          refine PW.aload_n dX11_skin_26 rfl ?_
          refine PW.getR fl_X11_42 rfl (by assumption) rfl dX11_skin_27 ?_
          refine PW.iload_n dX11_skin_30 rfl ?_
          refine PW.iload_n dX11_skin_31 rfl ?_
          refine PW.callSr (c_X11_columnNumber) cs_X11_columnNumber lk_X11_192 dX11_skin_32 rfl rfl rfl ?_
          refine PW.callVr (c_X2_of (by assumption) (by omega) (by omega) (by omega)) cv_X2_of lk_X11_195 (by first | assumption | exact And.left (by assumption)) dX11_skin_35 rfl rfl rfl rfl ?_
          refine PW.astore [(0, _), (1, _), (2, _), (3, _), (4, _)] dX11_skin_38 rfl (Nat.le_of_ble_eq_true rfl) ?_
          refine PW.iload_n dX11_skin_40 rfl ?_
          refine PW.if_ne 52 dX11_skin_41 (by decide) (by first | (unfold inR; omega) | assumption) (fun h41 => ?_) (fun h41 => ?_)
          · refine PW.aload dX11_skin_52 rfl ?_
            refine PW.callVr (c_X1_skinBed hc okl) cv_X1_skinBed lk_X11_205 (by first | assumption | exact And.left (by assumption)) dX11_skin_54 rfl rfl rfl rfl ?_
            exact PW.iret rfl (by first | rfl | exact narB _) dX11_skin_57 ⟨ret_eq (by first | rw [if_pos (by omega)] | (rw [if_neg (by omega)]; first | rw [if_pos (by omega)] | rw [if_neg (by omega)])), rfl, rfl⟩
          · refine PW.aload dX11_skin_44 rfl ?_
            refine PW.callVr (c_X1_skinHeight hc okl) cv_X1_skinHeight lk_X11_202 (by first | assumption | exact And.left (by assumption)) dX11_skin_46 rfl rfl rfl rfl ?_
            refine PW.goto 57 dX11_skin_49 (by decide) ?_
            exact PW.iret rfl (by first | rfl | exact narB _) dX11_skin_57 ⟨ret_eq (by first | rw [if_pos (by omega)] | (rw [if_neg (by omega)]; first | rw [if_pos (by omega)] | rw [if_neg (by omega)])), rfl, rfl⟩
        · refine PW.ldc (-100002) kc_X11_101 rfl rfl dX11_skin_23 ?_
          exact PW.iret rfl (by first | rfl | exact narB _) dX11_skin_25 ⟨ret_eq (by first | rw [if_pos (by omega)] | (rw [if_neg (by omega)]; first | rw [if_pos (by omega)] | rw [if_neg (by omega)])), rfl, rfl⟩
theorem c_X11_top {G : GT} {S : Shp} {σ : Sto} {h : Nat} {b x y w : Int} (hA : IsHill S h) (hlc : colsOk σ (h + 15) 64) (rb : inR b) (rx : inR x) (ry : inR y) (rw : inR w) : PMet G mX11_top 3 0 0 [.ref h, .int (iI (b)), .int (iI (x)), .int (iI (y)), .int (iI (w))] S σ (isP (some (.int (iI (if ¬ ((0 ≤ b ∧ b < 16) ∧ (0 ≤ x ∧ x < 8) ∧ (0 ≤ y ∧ y < 8) ∧ (0 ≤ w ∧ w ≤ 1)) then -100002 else if w = 0 then toF (σ ((cA (h + 15) (8 * y + x)) + 1)) b else clF (σ ((cA (h + 15) (8 * y + x)) + 1)) b)))) S (σ)) := by
  obtain ⟨hH0, hEv, hMi, hDf, hVr, hKp, hTx, hLd, hOt, hEn, hSg, hAg, hDw, hTe, hHo, hVs⟩ := id hA
  refine PMet.of [(0, .ref h), (1, .int (iI (b))), (2, .int (iI (x))), (3, .int (iI (y))), (4, .int (iI (w)))] (by decide +kernel) rfl (Nat.le_of_ble_eq_true rfl) ?_
  refine PW.iload_n dX11_top_0 rfl ?_
  refine PW.callSr (c_X11_isBed (by first | assumption | (unfold inR; omega))) cs_X11_isBed lk_X11_208 dX11_top_1 rfl rfl rfl ?_
  refine PW.if_eqB 32 dX11_top_4 (by decide) (fun h4 => ?_) (fun h4 => ?_)
  · refine PW.ldc (-100002) kc_X11_101 rfl rfl dX11_top_32 ?_
    exact PW.iret rfl (by first | rfl | exact narB _) dX11_top_34 ⟨ret_eq (by first | rw [if_pos (by omega)] | (rw [if_neg (by omega)]; first | rw [if_pos (by omega)] | rw [if_neg (by omega)])), rfl, rfl⟩
  · refine PW.iload_n dX11_top_7 rfl ?_
    refine PW.callSr (c_X11_isStep (by first | assumption | (unfold inR; omega))) cs_X11_isStep lk_X11_186 dX11_top_8 rfl rfl rfl ?_
    refine PW.if_eqB 32 dX11_top_11 (by decide) (fun h11 => ?_) (fun h11 => ?_)
    · refine PW.ldc (-100002) kc_X11_101 rfl rfl dX11_top_32 ?_
      exact PW.iret rfl (by first | rfl | exact narB _) dX11_top_34 ⟨ret_eq (by first | rw [if_pos (by omega)] | (rw [if_neg (by omega)]; first | rw [if_pos (by omega)] | rw [if_neg (by omega)])), rfl, rfl⟩
    · refine PW.iload_n dX11_top_14 rfl ?_
      refine PW.callSr (c_X11_isStep (by first | assumption | (unfold inR; omega))) cs_X11_isStep lk_X11_186 dX11_top_15 rfl rfl rfl ?_
      refine PW.if_eqB 32 dX11_top_18 (by decide) (fun h18 => ?_) (fun h18 => ?_)
      · refine PW.ldc (-100002) kc_X11_101 rfl rfl dX11_top_32 ?_
        exact PW.iret rfl (by first | rfl | exact narB _) dX11_top_34 ⟨ret_eq (by first | rw [if_pos (by omega)] | (rw [if_neg (by omega)]; first | rw [if_pos (by omega)] | rw [if_neg (by omega)])), rfl, rfl⟩
      · refine PW.iload dX11_top_21 rfl ?_
        refine PW.if_lt 32 dX11_top_23 (by decide) (by first | (unfold inR; omega) | assumption) (fun h23 => ?_) (fun h23 => ?_)
        · refine PW.ldc (-100002) kc_X11_101 rfl rfl dX11_top_32 ?_
          exact PW.iret rfl (by first | rfl | exact narB _) dX11_top_34 ⟨ret_eq (by first | rw [if_pos (by omega)] | (rw [if_neg (by omega)]; first | rw [if_pos (by omega)] | rw [if_neg (by omega)])), rfl, rfl⟩
        · refine PW.iload dX11_top_26 rfl ?_
          refine PW.iconst dX11_top_28 ?_
          refine PW.icmp_le 35 dX11_top_29 (by decide) (by first | (unfold inR; omega) | assumption) (by first | (unfold inR; omega) | assumption) (fun h29 => ?_) (fun h29 => ?_)
          · have hc := hLd.2.2.2 (8 * y + x) (by omega) (by omega)
            have okl := hlc (8 * y + x) (by omega) (by omega)
            refine PW.aload_n dX11_top_35 rfl ?_
            refine PW.getR fl_X11_42 rfl (by assumption) rfl dX11_top_36 ?_
            refine PW.iload_n dX11_top_39 rfl ?_
            refine PW.iload_n dX11_top_40 rfl ?_
            refine PW.callSr (c_X11_columnNumber) cs_X11_columnNumber lk_X11_192 dX11_top_41 rfl rfl rfl ?_
            refine PW.callVr (c_X2_of (by assumption) (by omega) (by omega) (by omega)) cv_X2_of lk_X11_195 (by first | assumption | exact And.left (by assumption)) dX11_top_44 rfl rfl rfl rfl ?_
            refine PW.astore [(0, _), (1, _), (2, _), (3, _), (4, _), (5, _)] dX11_top_47 rfl (Nat.le_of_ble_eq_true rfl) ?_
            refine PW.iload dX11_top_49 rfl ?_
            refine PW.if_ne 63 dX11_top_51 (by decide) (by first | (unfold inR; omega) | assumption) (fun h51 => ?_) (fun h51 => ?_)
            · refine PW.aload dX11_top_63 rfl ?_
              refine PW.iload_n dX11_top_65 rfl ?_
              refine PW.callVr (c_X1_cellsOf hc okl rb) cv_X1_cellsOf lk_X11_214 (by first | assumption | exact And.left (by assumption)) dX11_top_66 rfl rfl rfl rfl ?_
              exact PW.iret rfl (by first | rfl | exact narB _) dX11_top_69 ⟨ret_eq (by first | rw [if_pos (by omega)] | (rw [if_neg (by omega)]; first | rw [if_pos (by omega)] | rw [if_neg (by omega)])), rfl, rfl⟩
            · refine PW.aload dX11_top_54 rfl ?_
              refine PW.iload_n dX11_top_56 rfl ?_
              refine PW.callVr (c_X1_topOf hc okl rb) cv_X1_topOf lk_X11_211 (by first | assumption | exact And.left (by assumption)) dX11_top_57 rfl rfl rfl rfl ?_
              refine PW.goto 69 dX11_top_60 (by decide) ?_
              exact PW.iret rfl (by first | rfl | exact narB _) dX11_top_69 ⟨ret_eq (by first | rw [if_pos (by omega)] | (rw [if_neg (by omega)]; first | rw [if_pos (by omega)] | rw [if_neg (by omega)])), rfl, rfl⟩
          · refine PW.ldc (-100002) kc_X11_101 rfl rfl dX11_top_32 ?_
            exact PW.iret rfl (by first | rfl | exact narB _) dX11_top_34 ⟨ret_eq (by first | rw [if_pos (by omega)] | (rw [if_neg (by omega)]; first | rw [if_pos (by omega)] | rw [if_neg (by omega)])), rfl, rfl⟩
theorem c_X11_was {G : GT} {S : Shp} {σ : Sto} {h : Nat} {k x y z : Int} (hA : IsHill S h) (hT : taOk σ (h + 1)) (rk : inR k) (rx : inR x) (ry : inR y) (rz : inR z) : PMet G mX11_was 5 0 0 [.ref h, .int (iI (k)), .int (iI (x)), .int (iI (y)), .int (iI (z))] S σ (isP (some (.int (iI (if ¬ ((0 ≤ k ∧ k ≤ σ (h + 1) 2) ∧ (0 ≤ x ∧ x < 8) ∧ (0 ≤ y ∧ y < 8) ∧ (-40 ≤ z ∧ z ≤ 39)) then -100002 else tlF (σ (h + 1 + 1)) (8 * y + x) zF k.toNat (z + 40))))) S (if ((0 ≤ k ∧ k ≤ σ (h + 1) 2) ∧ (0 ≤ x ∧ x < 8) ∧ (0 ≤ y ∧ y < 8) ∧ (-40 ≤ z ∧ z ≤ 39)) then upS σ (h + 147 + 1) (tlF (σ (h + 1 + 1)) (8 * y + x) (σ (h + 147 + 1)) k.toNat) else σ)) := by
  obtain ⟨hH0, hEv, hMi, hDf, hVr, hKp, hTx, hLd, hOt, hEn, hSg, hAg, hDw, hTe, hHo, hVs⟩ := id hA
  have hT1 := hT.1
  refine PMet.of [(0, .ref h), (1, .int (iI (k))), (2, .int (iI (x))), (3, .int (iI (y))), (4, .int (iI (z)))] (by decide +kernel) rfl (Nat.le_of_ble_eq_true rfl) ?_
  refine PW.iload_n dX11_was_0 rfl ?_
  refine PW.if_lt 37 dX11_was_1 (by decide) (by first | (unfold inR; omega) | assumption) (fun h1 => ?_) (fun h1 => ?_)
  · refine PW.ldc (-100002) kc_X11_101 rfl rfl dX11_was_37 ?_
    exact PW.iret rfl rfl dX11_was_39 ⟨ret_eq (by rw [if_pos (by omega)]), rfl, by rw [if_neg (by omega)]⟩
  · refine PW.iload_n dX11_was_4 rfl ?_
    refine PW.aload_n dX11_was_5 rfl ?_
    refine PW.getR fl_X11_10 rfl (by assumption) rfl dX11_was_6 ?_
    refine PW.callVr (c_X8_size (by assumption)) cv_X8_size lk_X11_102 (by first | assumption | exact And.left (by assumption)) dX11_was_9 rfl rfl rfl rfl ?_
    refine PW.icmp_gt 37 dX11_was_12 (by decide) (by first | (unfold inR; omega) | assumption) (by first | (unfold inR; omega) | assumption) (fun h12 => ?_) (fun h12 => ?_)
    · refine PW.ldc (-100002) kc_X11_101 rfl rfl dX11_was_37 ?_
      exact PW.iret rfl rfl dX11_was_39 ⟨ret_eq (by rw [if_pos (by omega)]), rfl, by rw [if_neg (by omega)]⟩
    · refine PW.iload_n dX11_was_15 rfl ?_
      refine PW.callSr (c_X11_isStep (by first | assumption | (unfold inR; omega))) cs_X11_isStep lk_X11_186 dX11_was_16 rfl rfl rfl ?_
      refine PW.if_eqB 37 dX11_was_19 (by decide) (fun h19 => ?_) (fun h19 => ?_)
      · refine PW.ldc (-100002) kc_X11_101 rfl rfl dX11_was_37 ?_
        exact PW.iret rfl rfl dX11_was_39 ⟨ret_eq (by rw [if_pos (by omega)]), rfl, by rw [if_neg (by omega)]⟩
      · refine PW.iload_n dX11_was_22 rfl ?_
        refine PW.callSr (c_X11_isStep (by first | assumption | (unfold inR; omega))) cs_X11_isStep lk_X11_186 dX11_was_23 rfl rfl rfl ?_
        refine PW.if_eqB 37 dX11_was_26 (by decide) (fun h26 => ?_) (fun h26 => ?_)
        · refine PW.ldc (-100002) kc_X11_101 rfl rfl dX11_was_37 ?_
          exact PW.iret rfl rfl dX11_was_39 ⟨ret_eq (by rw [if_pos (by omega)]), rfl, by rw [if_neg (by omega)]⟩
        · refine PW.iload dX11_was_29 rfl ?_
          refine PW.callSr (c_X11_isHeight (by first | assumption | (unfold inR; omega))) cs_X11_isHeight lk_X11_189 dX11_was_31 rfl rfl rfl ?_
          refine PW.if_neB 40 dX11_was_34 (by decide) (fun h34 => ?_) (fun h34 => ?_)
          · refine PW.aload_n dX11_was_40 rfl ?_
            refine PW.getR fl_X11_49 rfl (by assumption) rfl dX11_was_41 ?_
            refine PW.aload_n dX11_was_44 rfl ?_
            refine PW.getR fl_X11_10 rfl (by assumption) rfl dX11_was_45 ?_
            refine PW.iload_n dX11_was_48 rfl ?_
            refine PW.iload_n dX11_was_49 rfl ?_
            refine PW.iload_n dX11_was_50 rfl ?_
            refine PW.callSr (c_X11_columnNumber) cs_X11_columnNumber lk_X11_192 dX11_was_51 rfl rfl rfl ?_
            refine PW.callVv (c_X1_tell hOt hEv (by omega) (by omega) hT (by omega) (by omega)) cv_X1_tell lk_X11_217 (by first | assumption | exact And.left (by assumption)) dX11_was_54 rfl rfl rfl rfl ?_
            refine PW.aload_n dX11_was_57 rfl ?_
            refine PW.getR fl_X11_49 rfl (by assumption) rfl dX11_was_58 ?_
            refine PW.iload dX11_was_61 rfl ?_
            refine PW.callVr (c_X1_bedAt hOt (by omega)) cv_X1_bedAt lk_X11_199 (by first | assumption | exact And.left (by assumption)) dX11_was_63 rfl rfl rfl rfl ?_
            refine PW.iret rfl rfl dX11_was_66 ⟨ret_eq ?_, rfl, by rw [if_pos (by omega)]⟩
            rw [if_neg (by omega), upS_same]
            exact tlF_eq _ _ _ _ _ _ (by omega) (by omega)
          · refine PW.ldc (-100002) kc_X11_101 rfl rfl dX11_was_37 ?_
            exact PW.iret rfl rfl dX11_was_39 ⟨ret_eq (by rw [if_pos (by omega)]), rfl, by rw [if_neg (by omega)]⟩
theorem c_X11_youth {G : GT} {S : Shp} {σ : Sto} {h : Nat} {b : Int} (hA : IsHill S h) (hT : taOk σ (h + 1)) (rb : inR b) : PMet G mX11_youth 3 0 0 [.ref h, .int (iI (b))] S σ (isP (some (.int (iI (if ¬ (0 ≤ b ∧ b < 15) then -100002 else birF (σ (h + 1 + 1)) (σ (h + 1) 2) b)))) S (σ)) := by
  obtain ⟨hH0, hEv, hMi, hDf, hVr, hKp, hTx, hLd, hOt, hEn, hSg, hAg, hDw, hTe, hHo, hVs⟩ := id hA
  have hT1 := hT.1
  refine PMet.of [(0, .ref h), (1, .int (iI (b)))] (by decide +kernel) rfl (Nat.le_of_ble_eq_true rfl) ?_
  refine PW.iload_n dX11_youth_0 rfl ?_
  refine PW.if_lt 10 dX11_youth_1 (by decide) (by first | (unfold inR; omega) | assumption) (fun h1 => ?_) (fun h1 => ?_)
  · refine PW.ldc (-100002) kc_X11_101 rfl rfl dX11_youth_10 ?_
    exact PW.iret rfl (by first | rfl | exact narB _) dX11_youth_12 ⟨ret_eq (by first | rw [if_pos (by omega)] | rw [if_neg (by omega)]), rfl, rfl⟩
  · refine PW.iload_n dX11_youth_4 rfl ?_
    refine PW.bipush (by decide) dX11_youth_5 ?_
    refine PW.icmp_lt 13 dX11_youth_7 (by decide) (by first | (unfold inR; omega) | assumption) (by first | (unfold inR; omega) | assumption) (fun h7 => ?_) (fun h7 => ?_)
    · refine PW.aload_n dX11_youth_13 rfl ?_
      refine PW.getR fl_X11_10 rfl (by assumption) rfl dX11_youth_14 ?_
      refine PW.iload_n dX11_youth_17 rfl ?_
      refine PW.callVr (c_X8_birthOf hEv hT rb) cv_X8_birthOf lk_X11_232 (by first | assumption | exact And.left (by assumption)) dX11_youth_18 rfl rfl rfl rfl ?_
      exact PW.iret rfl (by first | rfl | exact narB _) dX11_youth_21 ⟨ret_eq (by first | rw [if_pos (by omega)] | rw [if_neg (by omega)]), rfl, rfl⟩
    · refine PW.ldc (-100002) kc_X11_101 rfl rfl dX11_youth_10 ?_
      exact PW.iret rfl (by first | rfl | exact narB _) dX11_youth_12 ⟨ret_eq (by first | rw [if_pos (by omega)] | rw [if_neg (by omega)]), rfl, rfl⟩
theorem c_X11_fault {G : GT} {S : Shp} {σ : Sto} {h : Nat}  (hA : IsHill S h)  : PMet G mX11_fault 1 0 0 [.ref h] S σ (isP (some (.int (iI (σ (h + 12) 4)))) S (σ)) := by
  obtain ⟨hH0, hEv, hMi, hDf, hVr, hKp, hTx, hLd, hOt, hEn, hSg, hAg, hDw, hTe, hHo, hVs⟩ := id hA
  refine PMet.of [(0, .ref h)] (by decide +kernel) rfl (Nat.le_of_ble_eq_true rfl) ?_
  refine PW.aload_n dX11_fault_0 rfl ?_
  refine PW.getR fl_X11_33 rfl (by assumption) rfl dX11_fault_1 ?_
  refine PW.callVr (c_X10_faultAt (by assumption)) cv_X10_faultAt lk_X11_183 (by first | assumption | exact And.left (by assumption)) dX11_fault_4 rfl rfl rfl rfl ?_
  exact PW.iret rfl (by first | rfl | exact narB _) dX11_fault_7 ⟨rfl, rfl, rfl⟩

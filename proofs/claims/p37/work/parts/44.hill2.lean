theorem rnS_ne {σ : Sto} {h b : Nat} (hb : b < h + 20 ∨ (h + 147 ≤ b ∧ b ≠ h + 149 ∧ b ≠ h + 183)) : rnS σ h b = σ b := by
  unfold rnS
  rw [upS_ne (by omega), upS_ne (by omega), stC_ne (by omega)]
theorem taOk_up {σ : Sto} {t : Nat} {v : Int} (hT : taOk σ t) (h0 : 0 ≤ v) (h1 : v ≤ σ t 2) : taOk (upS σ t (up1 (σ t) 2 v)) t := by
  unfold taOk
  rw [upS_same, up1_same, upS_ne (show t + 1 ≠ t by omega)]
  exact ⟨⟨h0, by have := hT.1; omega⟩, fun i i0 i1 => hT.2 i i0 (by omega)⟩
theorem taOk_ad {σ : Sto} {t : Nat} {n k c0 c1 c2 c3 c4 : Int} (hT : taOk σ t) (hn : σ t 2 = n) (h1 : n < 16) (hk : okEv k c0 c1 c2 c3 c4) : taOk (upS (upS σ (t + 1) (adF (σ (t + 1)) n k c0 c1 c2 c3 c4)) t (up1 (σ t) 2 (n + 1))) t := by
  have hT1 := hT.1
  unfold taOk
  rw [upS_same, up1_same, upS_ne (show t + 1 ≠ t by omega), upS_same]
  refine ⟨by omega, fun i i0 i1 => ?_⟩
  by_cases e : i = n
  · rw [e]
    exact adF_new hk
  · exact adF_old (by omega) (hT.2 i i0 (by omega))
theorem taOk_lo {σ : Sto} {t : Nat} {i v : Int} (hT : taOk σ t) (hi : 0 ≤ i) (hv : 0 ≤ v ∧ v ≤ 1) : taOk (upS σ (t + 1) (up1 (σ (t + 1)) (7 * i + 6) v)) t := by
  unfold taOk
  rw [upS_ne (show t ≠ t + 1 by omega), upS_same]
  refine ⟨hT.1, fun j j0 j1 => ?_⟩
  have h := hT.2 j j0 j1
  unfold evOk
  rw [up1_ne (show 7 * j ≠ 7 * i + 6 by omega), up1_ne (show 7 * j + 1 + 0 ≠ 7 * i + 6 by omega), up1_ne (show 7 * j + 1 + 1 ≠ 7 * i + 6 by omega), up1_ne (show 7 * j + 1 + 2 ≠ 7 * i + 6 by omega), up1_ne (show 7 * j + 1 + 3 ≠ 7 * i + 6 by omega), up1_ne (show 7 * j + 1 + 4 ≠ 7 * i + 6 by omega)]
  refine ⟨h.1, fun p p0 p1 => ?_, ?_⟩
  · rw [up1_ne (by omega)]
    exact h.2.1 p p0 p1
  · by_cases e : j = i
    · rw [e, up1_same]
      exact hv
    · rw [up1_ne (by omega)]
      exact h.2.2
theorem exF_at (f : Int → Int) (i : Int) {q p : Int} (p0 : 0 ≤ p) (p1 : p ≤ 6) : exF f i (7 * q + p) = f (7 * (if q = i then i + 1 else if q = i + 1 then i else q) + p) := by
  unfold exF
  by_cases e : q = i
  · rw [if_pos (by omega), if_pos e, e]
    congr 1
    omega
  · rw [if_neg (by omega), if_neg e]
    by_cases e2 : q = i + 1
    · rw [if_pos (by omega), if_pos e2, e2]
      congr 1
      omega
    · rw [if_neg (by omega), if_neg e2]
theorem evOk_ex {f : Int → Int} {i q : Int} (h : evOk f (if q = i then i + 1 else if q = i + 1 then i else q)) : evOk (exF f i) q := by
  have e0 := exF_at f i (q := q) (p := 0) (by omega) (by omega)
  rw [Int.add_zero, Int.add_zero] at e0
  have e : ∀ p, 0 ≤ p → p ≤ 4 → exF f i (7 * q + 1 + p) = f (7 * (if q = i then i + 1 else if q = i + 1 then i else q) + 1 + p) := fun p p0 p1 => by
    have := exF_at f i (q := q) (p := 1 + p) (by omega) (by omega)
    rw [← Int.add_assoc, ← Int.add_assoc] at this
    exact this
  unfold evOk
  rw [e0, e 0 (by omega) (by omega), e 1 (by omega) (by omega), e 2 (by omega) (by omega), e 3 (by omega) (by omega), e 4 (by omega) (by omega), exF_at f i (q := q) (p := 6) (by omega) (by omega)]
  refine ⟨h.1, fun p p0 p1 => ?_, h.2.2⟩
  rw [e p p0 p1]
  exact h.2.1 p p0 p1
theorem taOk_ex {σ : Sto} {t : Nat} {i : Int} {g : Int → Int} (hT : taOk σ t) (hi : 0 ≤ i ∧ i < σ t 2 - 1) : taOk (upS (upS σ (t + 2) g) (t + 1) (exF (σ (t + 1)) i)) t := by
  unfold taOk
  rw [upS_ne (show t ≠ t + 1 by omega), upS_ne (show t ≠ t + 2 by omega), upS_same]
  refine ⟨hT.1, fun q q0 q1 => evOk_ex (hT.2 _ ?_ ?_)⟩
  · split
    · omega
    · split <;> omega
  · split
    · omega
    · split <;> omega
theorem c_X11_event {G : GT} {S : Shp} {σ : Sto} {h : Nat} {k c0 c1 c2 c3 c4 : Int} (hA : IsHill S h) (hT : taOk σ (h + 1)) (rk : inR k) (rc0 : inR c0) (rc1 : inR c1) (rc2 : inR c2) (rc3 : inR c3) (rc4 : inR c4) : PMet G mX11_event 7 0 0 [.ref h, .int (iI (k)), .int (iI (c0)), .int (iI (c1)), .int (iI (c2)), .int (iI (c3)), .int (iI (c4))] S σ (isP (some (.int (iI (if ¬ (okEv k c0 c1 c2 c3 c4) then -100002 else if 16 ≤ σ (h + 1) 2 then -100004 else σ (h + 1) 2)))) S (if (okEv k c0 c1 c2 c3 c4) ∧ σ (h + 1) 2 < 16 then rnS (upS (upS σ (h + 1 + 1) (adF (σ (h + 1 + 1)) (σ (h + 1) 2) k c0 c1 c2 c3 c4)) (h + 1) (up1 (σ (h + 1)) 2 (σ (h + 1) 2 + 1))) h else σ)) := by
  obtain ⟨hH0, hEv, hMi, hDf, hVr, hKp, hTx, hLd, hOt, hEn, hSg, hAg, hDw, hTe, hHo, hVs⟩ := id hA
  have hT1 := hT.1
  refine PMet.of [(0, .ref h), (1, .int (iI (k))), (2, .int (iI (c0))), (3, .int (iI (c1))), (4, .int (iI (c2))), (5, .int (iI (c3))), (6, .int (iI (c4)))] (by decide +kernel) rfl (Nat.le_of_ble_eq_true rfl) ?_
  refine PW.iload_n dX11_event_0 rfl ?_
  refine PW.iload_n dX11_event_1 rfl ?_
  refine PW.iload_n dX11_event_2 rfl ?_
  refine PW.iload dX11_event_3 rfl ?_
  refine PW.iload dX11_event_5 rfl ?_
  refine PW.iload dX11_event_7 rfl ?_
  refine PW.callSr (c_X5_allow (by first | assumption | (unfold inR; omega)) (by first | assumption | (unfold inR; omega)) (by first | assumption | (unfold inR; omega)) (by first | assumption | (unfold inR; omega)) (by first | assumption | (unfold inR; omega)) (by first | assumption | (unfold inR; omega))) cs_X5_allow lk_X11_95 dX11_event_9 rfl rfl rfl ?_
  refine PW.if_neB 18 dX11_event_12 (by decide) (fun h12 => ?_) (fun h12 => ?_)
  · refine PW.aload_n dX11_event_18 rfl ?_
    refine PW.getR fl_X11_10 rfl (by assumption) rfl dX11_event_19 ?_
    refine PW.callVr (c_X8_size (by assumption)) cv_X8_size lk_X11_102 (by first | assumption | exact And.left (by assumption)) dX11_event_22 rfl rfl rfl rfl ?_
    refine PW.bipush (by decide) dX11_event_25 ?_
    refine PW.icmp_lt 33 dX11_event_27 (by decide) (by first | (unfold inR; omega) | assumption) (by first | (unfold inR; omega) | assumption) (fun h27 => ?_) (fun h27 => ?_)
    · refine PW.aload_n dX11_event_33 rfl ?_
      refine PW.getR fl_X11_10 rfl (by assumption) rfl dX11_event_34 ?_
      refine PW.iload_n dX11_event_37 rfl ?_
      refine PW.iload_n dX11_event_38 rfl ?_
      refine PW.iload_n dX11_event_39 rfl ?_
      refine PW.iload dX11_event_40 rfl ?_
      refine PW.iload dX11_event_42 rfl ?_
      refine PW.iload dX11_event_44 rfl ?_
      refine PW.callVv (c_X8_add (n := σ (h + 1) 2) hEv rfl (by omega) (by have := (by assumption : okEv k c0 c1 c2 c3 c4); exact this.1)) cv_X8_add lk_X11_107 (by first | assumption | exact And.left (by assumption)) dX11_event_46 rfl rfl rfl rfl ?_
      refine PW.aload_n dX11_event_49 rfl ?_
      refine PW.callVv (c_X11_renew hA (taOk_ad hT rfl (by omega) (by assumption))) cv_X11_renew lk_X11_111 (by first | assumption | exact And.left (by assumption)) dX11_event_50 rfl rfl rfl rfl ?_
      refine PW.aload_n dX11_event_53 rfl ?_
      refine PW.getR fl_X11_10 rfl (by assumption) rfl dX11_event_54 ?_
      refine PW.callVr (c_X8_size (by assumption)) cv_X8_size lk_X11_102 (by first | assumption | exact And.left (by assumption)) dX11_event_57 rfl rfl rfl rfl ?_
      refine PW.top (σ (h + 1) 2 + 1) (by rw [rnS_ne (by omega), upS_same, up1_same]) ?_
      refine PW.iconst dX11_event_60 ?_
      refine PW.isub dX11_event_61 ?_
      refine PW.iret rfl rfl dX11_event_62 ⟨ret_eq ?_, rfl, ?_⟩
      · rw [if_neg (fun q => q (by assumption)), if_neg (by omega)]
        omega
      · rw [if_pos ⟨by assumption, by omega⟩]
    · refine PW.ldc (-100004) kc_X11_106 rfl rfl dX11_event_30 ?_
      refine PW.iret rfl rfl dX11_event_32 ⟨ret_eq ?_, rfl, ?_⟩
      · rw [if_neg (fun q => q (by assumption)), if_pos (by omega)]
      · rw [if_neg (by omega)]
  · refine PW.ldc (-100002) kc_X11_101 rfl rfl dX11_event_15 ?_
    refine PW.iret rfl rfl dX11_event_17 ⟨ret_eq ?_, rfl, ?_⟩
    · rw [if_pos (by assumption)]
    · rw [if_neg (fun q => absurd q.1 (by assumption))]
-- (not here: c_X11_undo)
theorem c_X11_clear {G : GT} {S : Shp} {σ : Sto} {h : Nat}  (hA : IsHill S h) (hT : taOk σ (h + 1)) : PMet G mX11_clear 7 0 0 [.ref h] S σ (isP (some (.int (iI (σ (h + 1) 2)))) S (rnS (upS σ (h + 1) (up1 (σ (h + 1)) 2 0)) h)) := by
  obtain ⟨hH0, hEv, hMi, hDf, hVr, hKp, hTx, hLd, hOt, hEn, hSg, hAg, hDw, hTe, hHo, hVs⟩ := id hA
  have hT1 := hT.1
  refine PMet.of [(0, .ref h)] (by decide +kernel) rfl (Nat.le_of_ble_eq_true rfl) ?_
  refine PW.aload_n dX11_clear_0 rfl ?_
  refine PW.getR fl_X11_10 rfl (by assumption) rfl dX11_clear_1 ?_
  refine PW.callVr (c_X8_size (by assumption)) cv_X8_size lk_X11_102 (by first | assumption | exact And.left (by assumption)) dX11_clear_4 rfl rfl rfl rfl ?_
  refine PW.istore_n [(0, _), (1, _)] dX11_clear_7 rfl (Nat.le_of_ble_eq_true rfl) ?_
  refine PW.aload_n dX11_clear_8 rfl ?_
  refine PW.getR fl_X11_10 rfl (by assumption) rfl dX11_clear_9 ?_
  refine PW.callVv (c_X8_empty (by assumption)) cv_X8_empty lk_X11_118 (by first | assumption | exact And.left (by assumption)) dX11_clear_12 rfl rfl rfl rfl ?_
  refine PW.aload_n dX11_clear_15 rfl ?_
  refine PW.callVv (c_X11_renew hA (taOk_up hT (by omega) (by omega))) cv_X11_renew lk_X11_111 (by first | assumption | exact And.left (by assumption)) dX11_clear_16 rfl rfl rfl rfl ?_
  refine PW.iload_n dX11_clear_19 rfl ?_
  exact PW.iret rfl (by first | rfl | exact narB _) dX11_clear_20 ⟨rfl, rfl, rfl⟩
theorem c_X11_told {G : GT} {S : Shp} {σ : Sto} {h : Nat} {i w : Int} (hA : IsHill S h) (hT : taOk σ (h + 1)) (ri : inR i) (rw : inR w) : PMet G mX11_told 2 0 0 [.ref h, .int (iI (i)), .int (iI (w))] S σ (isP (some (.int (iI (if ¬ (0 ≤ i ∧ i < σ (h + 1) 2) then -100001 else if ¬ (0 ≤ w ∧ w ≤ 6) then -100002 else if w = 6 then b01 (¬ (σ (h + 1 + 1)) (7 * i + 6) = 0) else (σ (h + 1 + 1)) (7 * i + w))))) S (σ)) := by
  obtain ⟨hH0, hEv, hMi, hDf, hVr, hKp, hTx, hLd, hOt, hEn, hSg, hAg, hDw, hTe, hHo, hVs⟩ := id hA
  have hT1 := hT.1
  refine PMet.of [(0, .ref h), (1, .int (iI (i))), (2, .int (iI (w)))] (by decide +kernel) rfl (Nat.le_of_ble_eq_true rfl) ?_
  refine PW.aload_n dX11_told_0 rfl ?_
  refine PW.getR fl_X11_10 rfl (by assumption) rfl dX11_told_1 ?_
  refine PW.iload_n dX11_told_4 rfl ?_
  refine PW.callVr (c_X8_has (by assumption) (by assumption) (by first | assumption | (unfold inR; omega))) cv_X8_has lk_X11_121 (by first | assumption | exact And.left (by assumption)) dX11_told_5 rfl rfl rfl rfl ?_
  refine PW.if_neB 14 dX11_told_8 (by decide) (fun h8 => ?_) (fun h8 => ?_)
  · have hE := hT.2 i (by omega) (by omega)
    refine PW.iload_n dX11_told_14 rfl ?_
    refine PW.if_lt 24 dX11_told_15 (by decide) (by first | (unfold inR; omega) | assumption) (fun h15 => ?_) (fun h15 => ?_)
    · refine PW.ldc (-100002) kc_X11_101 rfl rfl dX11_told_24 ?_
      exact PW.iret rfl (by first | rfl | exact narB _) dX11_told_26 ⟨ret_eq (by rw [if_neg (fun q => q (by assumption)), if_pos (by omega)]), rfl, rfl⟩
    · refine PW.iload_n dX11_told_18 rfl ?_
      refine PW.bipush (by decide) dX11_told_19 ?_
      refine PW.icmp_le 27 dX11_told_21 (by decide) (by first | (unfold inR; omega) | assumption) (by first | (unfold inR; omega) | assumption) (fun h21 => ?_) (fun h21 => ?_)
      · refine PW.iload_n dX11_told_27 rfl ?_
        refine PW.if_ne 40 dX11_told_28 (by decide) (by first | (unfold inR; omega) | assumption) (fun h28 => ?_) (fun h28 => ?_)
        · refine PW.iload_n dX11_told_40 rfl ?_
          refine PW.bipush (by decide) dX11_told_41 ?_
          refine PW.icmp_ne 60 dX11_told_43 (by decide) (by first | (unfold inR; omega) | assumption) (by first | (unfold inR; omega) | assumption) (fun h43 => ?_) (fun h43 => ?_)
          · refine PW.aload_n dX11_told_60 rfl ?_
            refine PW.getR fl_X11_10 rfl (by assumption) rfl dX11_told_61 ?_
            refine PW.iload_n dX11_told_64 rfl ?_
            refine PW.iload_n dX11_told_65 rfl ?_
            refine PW.iconst dX11_told_66 ?_
            refine PW.isub dX11_told_67 ?_
            refine PW.callVr (c_X8_number (by assumption) (by omega) (by omega)) cv_X8_number lk_X11_137 (by first | assumption | exact And.left (by assumption)) dX11_told_68 rfl rfl rfl rfl ?_
            first
              | (refine PW.iret rfl rfl dX11_told_71 ⟨ret_eq ?_, rfl, rfl⟩
                 rw [if_neg (fun q => q (by assumption)), if_neg (by omega), if_pos (by omega)]
                 done)
              | (refine PW.iret rfl rfl dX11_told_71 ⟨ret_eq ?_, rfl, rfl⟩
                 rw [if_neg (fun q => q (by assumption)), if_neg (by omega), if_neg (by omega)]
                 congr 1
                 omega)
          · refine PW.aload_n dX11_told_46 rfl ?_
            refine PW.getR fl_X11_10 rfl (by assumption) rfl dX11_told_47 ?_
            refine PW.iload_n dX11_told_50 rfl ?_
            refine PW.callVr (c_X8_isLoose hEv (by omega) hE.2.2) cv_X8_isLoose lk_X11_130 (by first | assumption | exact And.left (by assumption)) dX11_told_51 rfl rfl rfl rfl ?_
            refine PW.callSr (c_X11_flag) cs_X11_flag lk_X11_133 dX11_told_54 rfl rfl rfl ?_
            refine PW.goto 71 dX11_told_57 (by decide) ?_
            first
              | (refine PW.iret rfl rfl dX11_told_71 ⟨ret_eq ?_, rfl, rfl⟩
                 rw [if_neg (fun q => q (by assumption)), if_neg (by omega), if_pos (by omega)]
                 done)
              | (refine PW.iret rfl rfl dX11_told_71 ⟨ret_eq ?_, rfl, rfl⟩
                 rw [if_neg (fun q => q (by assumption)), if_neg (by omega), if_neg (by omega)]
                 congr 1
                 omega)
        · refine PW.aload_n dX11_told_31 rfl ?_
          refine PW.getR fl_X11_10 rfl (by assumption) rfl dX11_told_32 ?_
          refine PW.iload_n dX11_told_35 rfl ?_
          refine PW.callVr (c_X8_kind (by assumption) (by omega)) cv_X8_kind lk_X11_126 (by first | assumption | exact And.left (by assumption)) dX11_told_36 rfl rfl rfl rfl ?_
          refine PW.iret rfl rfl dX11_told_39 ⟨ret_eq ?_, rfl, rfl⟩
          rw [if_neg (fun q => q (by assumption)), if_neg (by omega), if_neg (by omega)]
          congr 1
          omega
      · refine PW.ldc (-100002) kc_X11_101 rfl rfl dX11_told_24 ?_
        exact PW.iret rfl (by first | rfl | exact narB _) dX11_told_26 ⟨ret_eq (by rw [if_neg (fun q => q (by assumption)), if_pos (by omega)]), rfl, rfl⟩
  · refine PW.ldc (-100001) kc_X11_125 rfl rfl dX11_told_11 ?_
    exact PW.iret rfl (by first | rfl | exact narB _) dX11_told_13 ⟨ret_eq (by rw [if_pos (by assumption)]), rfl, rfl⟩
theorem c_X11_loose {G : GT} {S : Shp} {σ : Sto} {h : Nat} {i : Int} {P : Prop} [Decidable P] (hA : IsHill S h) (hT : taOk σ (h + 1)) (ri : inR i) : PMet G mX11_loose 2 0 0 [.ref h, .int (iI i), .int (iI (b01 P))] S σ (isP (some (.int (iI (if ¬ (0 ≤ i ∧ i < σ (h + 1) 2) then -100001 else b01 (¬ (σ (h + 1 + 1)) (7 * i + 6) = 0))))) S (if 0 ≤ i ∧ i < σ (h + 1) 2 then (upS (upS σ (h + 1 + 1) (up1 (σ (h + 1 + 1)) (7 * i + 6) (b01 P))) (h + 149) (up1 (σ (h + 149)) 8 0)) else σ)) := by
  obtain ⟨hH0, hEv, hMi, hDf, hVr, hKp, hTx, hLd, hOt, hEn, hSg, hAg, hDw, hTe, hHo, hVs⟩ := id hA
  have hT1 := hT.1
  refine PMet.of [(0, .ref h), (1, .int (iI (i))), (2, .int (iI (b01 P)))] (by decide +kernel) rfl (Nat.le_of_ble_eq_true rfl) ?_
  refine PW.aload_n dX11_loose_0 rfl ?_
  refine PW.getR fl_X11_10 rfl (by assumption) rfl dX11_loose_1 ?_
  refine PW.iload_n dX11_loose_4 rfl ?_
  refine PW.callVr (c_X8_has (by assumption) (by assumption) (by first | assumption | (unfold inR; omega))) cv_X8_has lk_X11_121 (by first | assumption | exact And.left (by assumption)) dX11_loose_5 rfl rfl rfl rfl ?_
  refine PW.if_neB 14 dX11_loose_8 (by decide) (fun h8 => ?_) (fun h8 => ?_)
  · have hE := hT.2 i (by omega) (by omega)
    refine PW.aload_n dX11_loose_14 rfl ?_
    refine PW.getR fl_X11_10 rfl (by assumption) rfl dX11_loose_15 ?_
    refine PW.iload_n dX11_loose_18 rfl ?_
    refine PW.callVr (c_X8_isLoose hEv (by omega) hE.2.2) cv_X8_isLoose lk_X11_130 (by first | assumption | exact And.left (by assumption)) dX11_loose_19 rfl rfl rfl rfl ?_
    refine PW.callSr (c_X11_flag) cs_X11_flag lk_X11_133 dX11_loose_22 rfl rfl rfl ?_
    refine PW.istore_n [(0, _), (1, _), (2, _), (3, _)] dX11_loose_25 rfl (Nat.le_of_ble_eq_true rfl) ?_
    refine PW.aload_n dX11_loose_26 rfl ?_
    refine PW.getR fl_X11_10 rfl (by assumption) rfl dX11_loose_27 ?_
    refine PW.iload_n dX11_loose_30 rfl ?_
    refine PW.iload_n dX11_loose_31 rfl ?_
    refine PW.callVv (c_X8_setLoose hEv (by omega)) cv_X8_setLoose lk_X11_141 (by first | assumption | exact And.left (by assumption)) dX11_loose_32 rfl rfl rfl rfl ?_
    refine PW.aload_n dX11_loose_35 rfl ?_
    refine PW.getR fl_X11_56 rfl (by assumption) rfl dX11_loose_36 ?_
    refine PW.callVv (c_X4_doubt (by assumption)) cv_X4_doubt lk_X11_145 (by first | assumption | exact And.left (by assumption)) dX11_loose_39 rfl rfl rfl rfl ?_
    refine PW.st (upS (upS σ (h + 1 + 1) (up1 (σ (h + 1 + 1)) (7 * i + 6) (b01 P))) (h + 149) (up1 (σ (h + 149)) 8 0)) (by rw [upS_ne (show h + 149 ≠ h + 1 + 1 by omega)]) ?_
    refine PW.iload_n dX11_loose_42 rfl ?_
    exact PW.iret rfl rfl dX11_loose_43 ⟨ret_eq (by rw [if_neg (fun q => q (by assumption))]), rfl, by rw [if_pos (by assumption)]⟩
  · refine PW.ldc (-100001) kc_X11_125 rfl rfl dX11_loose_11 ?_
    exact PW.iret rfl rfl dX11_loose_13 ⟨ret_eq (by rw [if_pos (by assumption)]), rfl, by rw [if_neg (by assumption)]⟩
-- (not here: c_X11_swap)
theorem c_X11_count {G : GT} {S : Shp} {σ : Sto} {h : Nat} {w : Int} (hA : IsHill S h) (hT : taOk σ (h + 1)) (rw_ : inR w) (hMt : taOk σ (h + 4)) (hsg0 : 0 ≤ σ (h + 171) 1 ∧ σ (h + 171) 1 ≤ 30) (hss : sgsOk σ (h + 171)) (hlc : colsOk σ (h + 15) 64) (hkp : ∀ v, 0 ≤ v → v < 4 → 0 ≤ σ (h + 11) v ∧ σ (h + 11) v ≤ 1) : PMet G mX11_count 6 0 0 [.ref h, .int (iI (w))] S σ (isP (some (.int (iI (if w = 0 then σ (h + 1) 2 else if w = 1 then looF (σ (h + 1 + 1)) (σ (h + 1) 2) else if w = 2 then σ (h + 171) 1 else if w = 3 then σ (h + 173) 2 else if w = 4 then σ (h + 4) 2 else if w = 5 then smF (fun v => b01 (¬ σ (h + 11) v = 0)) 4 else if w = 6 then σ (h + 12) 2 else if w = 7 then smF (fun j => xcF (σ (cA (h + 15) j + 1)) (birF (σ (h + 1 + 1)) (σ (h + 1) 2))) 64 else if w = 8 then umC (σ (h + 171 + 1)) (ldF σ (h + 15)) (σ (h + 171) 1) else -100002)))) S (σ)) := by
  obtain ⟨hH0, hEv, hMi, hDf, hVr, hKp, hTx, hLd, hOt, hEn, hSg, hAg, hDw, hTe, hHo, hVs⟩ := id hA
  have hT1 := hT.1
  refine PMet.of [(0, .ref h), (1, .int (iI (w)))] (by decide +kernel) rfl (Nat.le_of_ble_eq_true rfl) ?_
  refine PW.iload_n dX11_count_0 rfl ?_
  rcases (show w = 0 ∨ w = 1 ∨ w = 2 ∨ w = 3 ∨ w = 4 ∨ w = 5 ∨ w = 6 ∨ w = 7 ∨ w = 8 ∨ (w < 0 ∨ 8 < w) by omega) with h1 | h1 | h1 | h1 | h1 | h1 | h1 | h1 | h1 | h1
  · refine PW.tsIn (51) 52 (by first | (unfold inR; omega) | assumption) dX11_count_1 (by omega) (by omega) (by rw [h1]; rfl) (by decide) ?_
    refine PW.aload_n dX11_count_52 rfl ?_
    refine PW.getR fl_X11_10 rfl (by assumption) rfl dX11_count_53 ?_
    refine PW.callVr (c_X8_size (by assumption)) cv_X8_size lk_X11_102 (by first | assumption | exact And.left (by assumption)) dX11_count_56 rfl rfl rfl rfl ?_
    refine PW.iret rfl rfl dX11_count_59 ⟨ret_eq ?_, rfl, rfl⟩
    rw [if_pos h1]
  · refine PW.tsIn (59) 60 (by first | (unfold inR; omega) | assumption) dX11_count_1 (by omega) (by omega) (by rw [h1]; rfl) (by decide) ?_
    refine PW.aload_n dX11_count_60 rfl ?_
    refine PW.getR fl_X11_10 rfl (by assumption) rfl dX11_count_61 ?_
    refine PW.callVr (c_X8_looseOnes (by assumption) (by assumption)) cv_X8_looseOnes lk_X11_155 (by first | assumption | exact And.left (by assumption)) dX11_count_64 rfl rfl rfl rfl ?_
    refine PW.iret rfl rfl dX11_count_67 ⟨ret_eq ?_, rfl, rfl⟩
    rw [if_neg (show ¬ w = 0 by omega), if_pos h1]
  · refine PW.tsIn (67) 68 (by first | (unfold inR; omega) | assumption) dX11_count_1 (by omega) (by omega) (by rw [h1]; rfl) (by decide) ?_
    refine PW.aload_n dX11_count_68 rfl ?_
    refine PW.getR fl_X11_63 rfl (by assumption) rfl dX11_count_69 ?_
    refine PW.callVr (c_X7_size (by assumption)) cv_X7_size lk_X11_158 (by first | assumption | exact And.left (by assumption)) dX11_count_72 rfl rfl rfl rfl ?_
    refine PW.iret rfl rfl dX11_count_75 ⟨ret_eq ?_, rfl, rfl⟩
    rw [if_neg (show ¬ w = 0 by omega), if_neg (show ¬ w = 1 by omega), if_pos h1]
  · refine PW.tsIn (75) 76 (by first | (unfold inR; omega) | assumption) dX11_count_1 (by omega) (by omega) (by rw [h1]; rfl) (by decide) ?_
    refine PW.aload_n dX11_count_76 rfl ?_
    refine PW.getR fl_X11_70 rfl (by assumption) rfl dX11_count_77 ?_
    refine PW.callVr (c_X0_claims (by assumption)) cv_X0_claims lk_X11_159 (by first | assumption | exact And.left (by assumption)) dX11_count_80 rfl rfl rfl rfl ?_
    refine PW.iret rfl rfl dX11_count_83 ⟨ret_eq ?_, rfl, rfl⟩
    rw [if_neg (show ¬ w = 0 by omega), if_neg (show ¬ w = 1 by omega), if_neg (show ¬ w = 2 by omega), if_pos h1]
  · refine PW.tsIn (83) 84 (by first | (unfold inR; omega) | assumption) dX11_count_1 (by omega) (by omega) (by rw [h1]; rfl) (by decide) ?_
    refine PW.aload_n dX11_count_84 rfl ?_
    refine PW.getR fl_X11_16 rfl (by assumption) rfl dX11_count_85 ?_
    refine PW.callVr (c_X8_size (by assumption)) cv_X8_size lk_X11_102 (by first | assumption | exact And.left (by assumption)) dX11_count_88 rfl rfl rfl rfl ?_
    refine PW.iret rfl rfl dX11_count_91 ⟨ret_eq ?_, rfl, rfl⟩
    rw [if_neg (show ¬ w = 0 by omega), if_neg (show ¬ w = 1 by omega), if_neg (show ¬ w = 2 by omega), if_neg (show ¬ w = 3 by omega), if_pos h1]
  · refine PW.tsIn (91) 92 (by first | (unfold inR; omega) | assumption) dX11_count_1 (by omega) (by omega) (by rw [h1]; rfl) (by decide) ?_
    refine PW.aload_n dX11_count_92 rfl ?_
    refine PW.callVr (c_X11_keptVersions hA hkp) cv_X11_keptVersions lk_X11_162 (by first | assumption | exact And.left (by assumption)) dX11_count_93 rfl rfl rfl rfl ?_
    refine PW.iret rfl rfl dX11_count_96 ⟨ret_eq ?_, rfl, rfl⟩
    rw [if_neg (show ¬ w = 0 by omega), if_neg (show ¬ w = 1 by omega), if_neg (show ¬ w = 2 by omega), if_neg (show ¬ w = 3 by omega), if_neg (show ¬ w = 4 by omega), if_pos h1]
  · refine PW.tsIn (96) 97 (by first | (unfold inR; omega) | assumption) dX11_count_1 (by omega) (by omega) (by rw [h1]; rfl) (by decide) ?_
    refine PW.aload_n dX11_count_97 rfl ?_
    refine PW.getR fl_X11_33 rfl (by assumption) rfl dX11_count_98 ?_
    refine PW.callVr (c_X10_size (by assumption)) cv_X10_size lk_X11_165 (by first | assumption | exact And.left (by assumption)) dX11_count_101 rfl rfl rfl rfl ?_
    refine PW.iret rfl rfl dX11_count_104 ⟨ret_eq ?_, rfl, rfl⟩
    rw [if_neg (show ¬ w = 0 by omega), if_neg (show ¬ w = 1 by omega), if_neg (show ¬ w = 2 by omega), if_neg (show ¬ w = 3 by omega), if_neg (show ¬ w = 4 by omega), if_neg (show ¬ w = 5 by omega), if_pos h1]
  · refine PW.tsIn (104) 105 (by first | (unfold inR; omega) | assumption) dX11_count_1 (by omega) (by omega) (by rw [h1]; rfl) (by decide) ?_
    refine PW.aload_n dX11_count_105 rfl ?_
    refine PW.getR fl_X11_42 rfl (by assumption) rfl dX11_count_106 ?_
    refine PW.aload_n dX11_count_109 rfl ?_
    refine PW.getR fl_X11_10 rfl (by assumption) rfl dX11_count_110 ?_
    refine PW.callVr (c_X2_crossings (by assumption) (by omega) (by assumption) (by assumption) (by assumption)) cv_X2_crossings lk_X11_166 (by first | assumption | exact And.left (by assumption)) dX11_count_113 rfl rfl rfl rfl ?_
    refine PW.iret rfl rfl dX11_count_116 ⟨ret_eq ?_, rfl, rfl⟩
    rw [if_neg (show ¬ w = 0 by omega), if_neg (show ¬ w = 1 by omega), if_neg (show ¬ w = 2 by omega), if_neg (show ¬ w = 3 by omega), if_neg (show ¬ w = 4 by omega), if_neg (show ¬ w = 5 by omega), if_neg (show ¬ w = 6 by omega), if_pos h1]
    rfl
  · refine PW.tsIn (116) 117 (by first | (unfold inR; omega) | assumption) dX11_count_1 (by omega) (by omega) (by rw [h1]; rfl) (by decide) ?_
    refine PW.aload_n dX11_count_117 rfl ?_
    refine PW.getR fl_X11_63 rfl (by assumption) rfl dX11_count_118 ?_
    refine PW.aload_n dX11_count_121 rfl ?_
    refine PW.getR fl_X11_42 rfl (by assumption) rfl dX11_count_122 ?_
    refine PW.callVr (c_X7_unmetOf (by assumption) (by assumption) (by assumption) (by assumption)) cv_X7_unmetOf lk_X11_169 (by first | assumption | exact And.left (by assumption)) dX11_count_125 rfl rfl rfl rfl ?_
    refine PW.iret rfl rfl dX11_count_128 ⟨ret_eq ?_, rfl, rfl⟩
    rw [if_neg (show ¬ w = 0 by omega), if_neg (show ¬ w = 1 by omega), if_neg (show ¬ w = 2 by omega), if_neg (show ¬ w = 3 by omega), if_neg (show ¬ w = 4 by omega), if_neg (show ¬ w = 5 by omega), if_neg (show ¬ w = 6 by omega), if_neg (show ¬ w = 7 by omega), if_pos h1]
  · refine PW.tsOut 129 (by first | (unfold inR; omega) | assumption) dX11_count_1 (by omega) (by decide) ?_
    refine PW.ldc (-100002) kc_X11_101 rfl rfl dX11_count_129 ?_
    refine PW.iret rfl rfl dX11_count_131 ⟨ret_eq ?_, rfl, rfl⟩
    rw [if_neg (show ¬ w = 0 by omega), if_neg (show ¬ w = 1 by omega), if_neg (show ¬ w = 2 by omega), if_neg (show ¬ w = 3 by omega), if_neg (show ¬ w = 4 by omega), if_neg (show ¬ w = 5 by omega), if_neg (show ¬ w = 6 by omega), if_neg (show ¬ w = 7 by omega), if_neg (show ¬ w = 8 by omega)]
-- (not here: c_X11_at)
theorem c_X11_skin {G : GT} {S : Shp} {σ : Sto} {h : Nat} {x y w : Int} (hA : IsHill S h) (hlc : colsOk σ (h + 15) 64) (rx : inR x) (ry : inR y) (rw : inR w) : PMet G mX11_skin 3 0 0 [.ref h, .int (iI (x)), .int (iI (y)), .int (iI (w))] S σ (isP (some (.int (iI (if ¬ ((0 ≤ x ∧ x < 8) ∧ (0 ≤ y ∧ y < 8) ∧ (0 ≤ w ∧ w ≤ 1)) then -100002 else if w = 0 then skF (σ ((cA (h + 15) (8 * y + x)) + 1)) else sbF (σ ((cA (h + 15) (8 * y + x)) + 1)))))) S (σ)) := by
  obtain ⟨hH0, hEv, hMi, hDf, hVr, hKp, hTx, hLd, hOt, hEn, hSg, hAg, hDw, hTe, hHo, hVs⟩ := id hA
  refine PMet.of [(0, .ref h), (1, .int (iI (x))), (2, .int (iI (y))), (3, .int (iI (w)))] (by decide +kernel) rfl (Nat.le_of_ble_eq_true rfl) ?_
  refine PW.iload_n dX11_skin_0 rfl ?_
  refine PW.callSr (c_X11_isStep (by first | assumption | (unfold inR; omega))) cs_X11_isStep lk_X11_186 dX11_skin_1 rfl rfl rfl ?_
  refine PW.if_eqB 23 dX11_skin_4 (by decide) (fun h4 => ?_) (fun h4 => ?_)
  · refine PW.ldc (-100002) kc_X11_101 rfl rfl dX11_skin_23 ?_
    exact PW.iret rfl (by first | rfl | exact narB _) dX11_skin_25 ⟨ret_eq (by first | rw [if_pos (by omega)] | (rw [if_neg (by omega)]; first | rw [if_pos (by omega)] | rw [if_neg (by omega)])), rfl, rfl⟩
  · refine PW.iload_n dX11_skin_7 rfl ?_
    refine PW.callSr (c_X11_isStep (by first | assumption | (unfold inR; omega))) cs_X11_isStep lk_X11_186 dX11_skin_8 rfl rfl rfl ?_
    refine PW.if_eqB 23 dX11_skin_11 (by decide) (fun h11 => ?_) (fun h11 => ?_)
    · refine PW.ldc (-100002) kc_X11_101 rfl rfl dX11_skin_23 ?_
      exact PW.iret rfl (by first | rfl | exact narB _) dX11_skin_25 ⟨ret_eq (by first | rw [if_pos (by omega)] | (rw [if_neg (by omega)]; first | rw [if_pos (by omega)] | rw [if_neg (by omega)])), rfl, rfl⟩
    · refine PW.iload_n dX11_skin_14 rfl ?_
      refine PW.if_lt 23 dX11_skin_15 (by decide) (by first | (unfold inR; omega) | assumption) (fun h15 => ?_) (fun h15 => ?_)
      · refine PW.ldc (-100002) kc_X11_101 rfl rfl dX11_skin_23 ?_
        exact PW.iret rfl (by first | rfl | exact narB _) dX11_skin_25 ⟨ret_eq (by first | rw [if_pos (by omega)] | (rw [if_neg (by omega)]; first | rw [if_pos (by omega)] | rw [if_neg (by omega)])), rfl, rfl⟩
      · refine PW.iload_n dX11_skin_18 rfl ?_
        refine PW.iconst dX11_skin_19 ?_
        refine PW.icmp_le 26 dX11_skin_20 (by decide) (by first | (unfold inR; omega) | assumption) (by first | (unfold inR; omega) | assumption) (fun h20 => ?_) (fun h20 => ?_)
        · have hc := hLd.2.2.2 (8 * y + x) (by omega) (by omega)
          have okl := hlc (8 * y + x) (by omega) (by omega)
          refine PW.aload_n dX11_skin_26 rfl ?_
          refine PW.getR fl_X11_42 rfl (by assumption) rfl dX11_skin_27 ?_
          refine PW.iload_n dX11_skin_30 rfl ?_
          refine PW.iload_n dX11_skin_31 rfl ?_
          refine PW.callSr (c_X11_columnNumber) cs_X11_columnNumber lk_X11_192 dX11_skin_32 rfl rfl rfl ?_
          refine PW.callVr (c_X2_of (by assumption) (by omega) (by omega) (by omega)) cv_X2_of lk_X11_195 (by first | assumption | exact And.left (by assumption)) dX11_skin_35 rfl rfl rfl rfl ?_
          refine PW.astore [(0, _), (1, _), (2, _), (3, _), (4, _)] dX11_skin_38 rfl (Nat.le_of_ble_eq_true rfl) ?_
          refine PW.iload_n dX11_skin_40 rfl ?_
          refine PW.if_ne 52 dX11_skin_41 (by decide) (by first | (unfold inR; omega) | assumption) (fun h41 => ?_) (fun h41 => ?_)
          · refine PW.aload dX11_skin_52 rfl ?_
            refine PW.callVr (c_X1_skinBed hc okl) cv_X1_skinBed lk_X11_205 (by first | assumption | exact And.left (by assumption)) dX11_skin_54 rfl rfl rfl rfl ?_
            exact PW.iret rfl (by first | rfl | exact narB _) dX11_skin_57 ⟨ret_eq (by first | rw [if_pos (by omega)] | (rw [if_neg (by omega)]; first | rw [if_pos (by omega)] | rw [if_neg (by omega)])), rfl, rfl⟩
          · refine PW.aload dX11_skin_44 rfl ?_
            refine PW.callVr (c_X1_skinHeight hc okl) cv_X1_skinHeight lk_X11_202 (by first | assumption | exact And.left (by assumption)) dX11_skin_46 rfl rfl rfl rfl ?_
            refine PW.goto 57 dX11_skin_49 (by decide) ?_
            exact PW.iret rfl (by first | rfl | exact narB _) dX11_skin_57 ⟨ret_eq (by first | rw [if_pos (by omega)] | (rw [if_neg (by omega)]; first | rw [if_pos (by omega)] | rw [if_neg (by omega)])), rfl, rfl⟩
        · refine PW.ldc (-100002) kc_X11_101 rfl rfl dX11_skin_23 ?_
          exact PW.iret rfl (by first | rfl | exact narB _) dX11_skin_25 ⟨ret_eq (by first | rw [if_pos (by omega)] | (rw [if_neg (by omega)]; first | rw [if_pos (by omega)] | rw [if_neg (by omega)])), rfl, rfl⟩
-- (not here: c_X11_top)
-- (not here: c_X11_was)
-- (not here: c_X11_youth)
-- (not here: c_X11_fault)

/-- what the telling of stories as known by k answers first -/
def tsR (σ : Sto) (h : Nat) (k : Int) : Int := if ¬ (-1 ≤ k ∧ k ≤ σ (h + 171) 1) then -100002 else if 16 < σ (h + 1) 2 + σ (h + 4) 2 then -100004 else 0
/-- the store when the stories are known -/
def tsG (σ τ : Sto) (h : Nat) (k : Int) : Prop := (∀ b, b < h + 183 ∨ h + 183 + 275 ≤ b → τ b = σ b) ∧ colsOk τ (h + 183 + 7) 65 ∧ colsOk τ (h + 183 + 141) 65 ∧ telGood τ (h + 183) (σ (h + 4) 2) (σ (h + 171 + 1)) (σ (h + 4 + 1)) (ldF σ (h + 15)) k ∧ ((σ (h + 183) 12 = 1 ∧ τ = σ) ∨ τ (h + 183) 11 = σ (h + 183) 11 + 1)
/-- what the telling's own cells are worth -/
def teOk (σ : Sto) (h : Nat) : Prop := colsOk σ (h + 183 + 7) 65 ∧ colsOk σ (h + 183 + 141) 65 ∧ inR (σ (h + 183) 10) ∧ (σ (h + 183) 12 = 0 ∨ (σ (h + 183) 12 = 1 ∧ telGood σ (h + 183) (σ (h + 4) 2) (σ (h + 171 + 1)) (σ (h + 4 + 1)) (ldF σ (h + 15)) (σ (h + 183) 10)))
theorem c_X11_tellStories {G : GT} {S : Shp} {σ : Sto} {h : Nat} {k : Int} (hA : IsHill S h) (hT : taOk σ (h + 1)) (hmt : taOk σ (h + 4)) (hmm : σ (h + 4) 2 ≤ 4) (hlc : colsOk σ (h + 15) 64) (hss : sgsOk σ (h + 171)) (hte : teOk σ h) (rk : inR k) : PMet G mX11_tellStories 7 0 0 [.ref h, .int (iI k)] S σ (fun r S' τ => S' = S ∧ r = some (.int (iI (tsR σ h k))) ∧ (tsR σ h k = 0 → tsG σ τ h (knF (σ (h + 171) 1) k)) ∧ (¬ tsR σ h k = 0 → τ = σ)) := by
  obtain ⟨hH0, hEv, hMi, hDf, hVr, hKp, hTx, hLd, hOt, hEn, hSg, hAg, hDw, hTe, hHo, hVs⟩ := id hA
  have hs1 := hss.1
  have hm1 := hmt.1
  have hT1 := hT.1
  obtain ⟨hc1, hc2, r10, hok⟩ := hte
  refine PMet.of [(0, .ref h), (1, .int (iI (k)))] (by decide +kernel) rfl (Nat.le_of_ble_eq_true rfl) ?_
  refine PW.aload_n dX11_tellStories_0 rfl ?_
  refine PW.iload_n dX11_tellStories_1 rfl ?_
  refine PW.callVr (c_X11_isKnown hA hs1 rk) cv_X11_isKnown lk_X11_259 (by first | assumption | exact And.left (by assumption)) dX11_tellStories_2 rfl rfl rfl rfl ?_
  refine PW.if_neB 11 dX11_tellStories_5 (by decide) (fun h5 => ?_) (fun h5 => ?_)
  · refine PW.aload_n dX11_tellStories_11 rfl ?_
    refine PW.getR fl_X11_10 rfl (by assumption) rfl dX11_tellStories_12 ?_
    refine PW.callVr (c_X8_size (by assumption)) cv_X8_size lk_X11_102 (by first | assumption | exact And.left (by assumption)) dX11_tellStories_15 rfl rfl rfl rfl ?_
    refine PW.aload_n dX11_tellStories_18 rfl ?_
    refine PW.getR fl_X11_16 rfl (by assumption) rfl dX11_tellStories_19 ?_
    refine PW.callVr (c_X8_size (by assumption)) cv_X8_size lk_X11_102 (by first | assumption | exact And.left (by assumption)) dX11_tellStories_22 rfl rfl rfl rfl ?_
    refine PW.iadd dX11_tellStories_25 ?_
    refine PW.bipush (by decide) dX11_tellStories_26 ?_
    refine PW.icmp_le 34 dX11_tellStories_28 (by decide) (by first | (unfold inR; omega) | assumption) (by first | (unfold inR; omega) | assumption) (fun h28 => ?_) (fun h28 => ?_)
    · refine PW.aload_n dX11_tellStories_34 rfl ?_
      refine PW.getR fl_X11_84 rfl (by assumption) rfl dX11_tellStories_35 ?_
      refine PW.aload_n dX11_tellStories_38 rfl ?_
      refine PW.getR fl_X11_42 rfl (by assumption) rfl dX11_tellStories_39 ?_
      refine PW.aload_n dX11_tellStories_42 rfl ?_
      refine PW.getR fl_X11_16 rfl (by assumption) rfl dX11_tellStories_43 ?_
      refine PW.aload_n dX11_tellStories_46 rfl ?_
      refine PW.getR fl_X11_63 rfl (by assumption) rfl dX11_tellStories_47 ?_
      refine PW.aload_n dX11_tellStories_50 rfl ?_
      refine PW.iload_n dX11_tellStories_51 rfl ?_
      refine PW.callVr (c_X11_knownOf hA rk) cv_X11_knownOf lk_X11_262 (by first | assumption | exact And.left (by assumption)) dX11_tellStories_52 rfl rfl rfl rfl ?_
      refine PW.callVg (c_X9_know hTe hLd hlc hMi hmt rfl (by omega) hSg hss (by unfold knF; split <;> omega) (by omega) (by omega) (by omega) hc1 hc2 r10 hok) cv_X9_know lk_X11_344 (by first | assumption | exact And.left (by assumption)) dX11_tellStories_55 rfl rfl rfl rfl (fun r S' τ55 hq => ?_)
      obtain ⟨rfl, hS, y1, y2, y3, y4, y5⟩ := hq
      have hS2 := hS.symm
      subst hS2
      refine PW.iconst dX11_tellStories_58 ?_
      have e0 : tsR σ h k = 0 := by
        unfold tsR
        rw [if_neg (fun q => q (by assumption)), if_neg (by omega)]
      exact PW.iret rfl rfl dX11_tellStories_59 ⟨rfl, ret_eq e0.symm, fun _ => ⟨y1, y2, y3, y4, y5⟩, fun q => absurd e0 q⟩
    · refine PW.ldc (-100004) kc_X11_106 rfl rfl dX11_tellStories_31 ?_
      refine PW.iret rfl rfl dX11_tellStories_33 ⟨rfl, ret_eq ?_, fun q => absurd q ?_, fun _ => rfl⟩
      · unfold tsR
        rw [if_neg (fun q => q (by assumption)), if_pos (by omega)]
      · unfold tsR
        rw [if_neg (fun q => q (by assumption)), if_pos (by omega)]
        decide
  · refine PW.ldc (-100002) kc_X11_101 rfl rfl dX11_tellStories_8 ?_
    refine PW.iret rfl rfl dX11_tellStories_10 ⟨rfl, ret_eq ?_, fun q => absurd q ?_, fun _ => rfl⟩
    · unfold tsR
      rw [if_pos (by assumption)]
    · unfold tsR
      rw [if_pos (by assumption)]
      decide
set_option maxRecDepth 20000 in
theorem c_X11_stories {G : GT} {S : Shp} {σ : Sto} {h : Nat} {k : Int} (hA : IsHill S h) (hT : taOk σ (h + 1)) (hmt : taOk σ (h + 4)) (hmm : σ (h + 4) 2 ≤ 4) (hlc : colsOk σ (h + 15) 64) (hss : sgsOk σ (h + 171)) (hte : teOk σ h) (rk : inR k) : PMet G mX11_stories 8 0 0 [.ref h, .int (iI k)] S σ (fun r S' τ => S' = S ∧ ∃ v : Int, r = some (.int (iI v)) ∧ (¬ tsR σ h k = 0 → v = tsR σ h k ∧ τ = σ) ∧ (tsR σ h k = 0 → tsG σ τ h (knF (σ (h + 171) 1) k) ∧ v = τ (h + 183) 9)) := by
  obtain ⟨hH0, hEv, hMi, hDf, hVr, hKp, hTx, hLd, hOt, hEn, hSg, hAg, hDw, hTe, hHo, hVs⟩ := id hA
  have hs1 := hss.1
  have hm1 := hmt.1
  have hT1 := hT.1
  have rt : inR (tsR σ h k) := by unfold tsR; unfold inR; split; omega; split <;> omega
  refine PMet.of [(0, .ref h), (1, .int (iI (k)))] (by decide +kernel) rfl (Nat.le_of_ble_eq_true rfl) ?_
  refine PW.aload_n dX11_stories_0 rfl ?_
  refine PW.iload_n dX11_stories_1 rfl ?_
  refine PW.callVg (c_X11_tellStories hA hT hmt hmm hlc hss hte rk) cv_X11_tellStories lk_X11_312 (by first | assumption | exact And.left (by assumption)) dX11_stories_2 rfl rfl rfl rfl (fun r S' τ2 hq => ?_)
  obtain ⟨hS, rfl, g1, g2⟩ := hq
  have hS2 := hS.symm
  subst hS2
  refine PW.istore_n [(0, _), (1, _), (2, _)] dX11_stories_5 rfl (Nat.le_of_ble_eq_true rfl) ?_
  refine PW.iload_n dX11_stories_6 rfl ?_
  refine PW.if_eq 14 dX11_stories_7 (by decide) (by first | (unfold inR; omega) | assumption) (fun h7 => ?_) (fun h7 => ?_)
  · refine PW.aload_n dX11_stories_14 rfl ?_
    refine PW.getR fl_X11_84 rfl (by assumption) rfl dX11_stories_15 ?_
    refine PW.callVr (c_X9_fits hTe) cv_X9_fits lk_X11_315 (by first | assumption | exact And.left (by assumption)) dX11_stories_18 rfl rfl rfl rfl ?_
    first
      | (refine PW.iret rfl rfl dX11_stories_21 ⟨rfl, _, rfl, fun q => ⟨rfl, g2 q⟩, fun q => absurd q (by assumption)⟩
         done)
      | (refine PW.iret rfl rfl dX11_stories_21 ⟨rfl, _, rfl, fun q => absurd (by assumption) q, fun q => ⟨g1 q, rfl⟩⟩
         done)
  · refine PW.iload_n dX11_stories_10 rfl ?_
    refine PW.goto 21 dX11_stories_11 (by decide) ?_
    first
      | (refine PW.iret rfl rfl dX11_stories_21 ⟨rfl, _, rfl, fun q => ⟨rfl, g2 q⟩, fun q => absurd q (by assumption)⟩
         done)
      | (refine PW.iret rfl rfl dX11_stories_21 ⟨rfl, _, rfl, fun q => absurd (by assumption) q, fun q => ⟨g1 q, rfl⟩⟩
         done)
theorem c_X11_maybe {G : GT} {S : Shp} {σ : Sto} {h : Nat} {k c0 c1 c2 c3 c4 : Int} (hA : IsHill S h) (hmt : taOk σ (h + 4)) (hmm : σ (h + 4) 2 ≤ 4) (rk : inR k) (rc0 : inR c0) (rc1 : inR c1) (rc2 : inR c2) (rc3 : inR c3) (rc4 : inR c4) : PMet G mX11_maybe 7 0 0 [.ref h, .int (iI (k)), .int (iI (c0)), .int (iI (c1)), .int (iI (c2)), .int (iI (c3)), .int (iI (c4))] S σ (isP (some (.int (iI (if ¬ (okEv k c0 c1 c2 c3 c4) then -100002 else if 4 ≤ σ (h + 4) 2 then -100004 else σ (h + 4) 2)))) S (if (okEv k c0 c1 c2 c3 c4) ∧ σ (h + 4) 2 < 4 then upS (upS (upS σ (h + 4 + 1) (adF (σ (h + 4 + 1)) (σ (h + 4) 2) k c0 c1 c2 c3 c4)) (h + 4) (up1 (σ (h + 4)) 2 (σ (h + 4) 2 + 1))) (h + 183) (up1 (σ (h + 183)) 12 0) else σ)) := by
  obtain ⟨hH0, hEv, hMi, hDf, hVr, hKp, hTx, hLd, hOt, hEn, hSg, hAg, hDw, hTe, hHo, hVs⟩ := id hA
  have hm1 := hmt.1
  refine PMet.of [(0, .ref h), (1, .int (iI (k))), (2, .int (iI (c0))), (3, .int (iI (c1))), (4, .int (iI (c2))), (5, .int (iI (c3))), (6, .int (iI (c4)))] (by decide +kernel) rfl (Nat.le_of_ble_eq_true rfl) ?_
  refine PW.iload_n dX11_maybe_0 rfl ?_
  refine PW.iload_n dX11_maybe_1 rfl ?_
  refine PW.iload_n dX11_maybe_2 rfl ?_
  refine PW.iload dX11_maybe_3 rfl ?_
  refine PW.iload dX11_maybe_5 rfl ?_
  refine PW.iload dX11_maybe_7 rfl ?_
  refine PW.callSr (c_X5_allow (by first | assumption | (unfold inR; omega)) (by first | assumption | (unfold inR; omega)) (by first | assumption | (unfold inR; omega)) (by first | assumption | (unfold inR; omega)) (by first | assumption | (unfold inR; omega)) (by first | assumption | (unfold inR; omega))) cs_X5_allow lk_X11_95 dX11_maybe_9 rfl rfl rfl ?_
  refine PW.if_neB 18 dX11_maybe_12 (by decide) (fun h12 => ?_) (fun h12 => ?_)
  · refine PW.aload_n dX11_maybe_18 rfl ?_
    refine PW.getR fl_X11_16 rfl (by assumption) rfl dX11_maybe_19 ?_
    refine PW.callVr (c_X8_size (by assumption)) cv_X8_size lk_X11_102 (by first | assumption | exact And.left (by assumption)) dX11_maybe_22 rfl rfl rfl rfl ?_
    refine PW.iconst dX11_maybe_25 ?_
    refine PW.icmp_lt 32 dX11_maybe_26 (by decide) (by first | (unfold inR; omega) | assumption) (by first | (unfold inR; omega) | assumption) (fun h26 => ?_) (fun h26 => ?_)
    · refine PW.aload_n dX11_maybe_32 rfl ?_
      refine PW.getR fl_X11_16 rfl (by assumption) rfl dX11_maybe_33 ?_
      refine PW.iload_n dX11_maybe_36 rfl ?_
      refine PW.iload_n dX11_maybe_37 rfl ?_
      refine PW.iload_n dX11_maybe_38 rfl ?_
      refine PW.iload dX11_maybe_39 rfl ?_
      refine PW.iload dX11_maybe_41 rfl ?_
      refine PW.iload dX11_maybe_43 rfl ?_
      refine PW.callVv (c_X8_add (n := σ (h + 4) 2) hMi rfl (by omega) (by have := (by assumption : okEv k c0 c1 c2 c3 c4); exact this.1)) cv_X8_add lk_X11_107 (by first | assumption | exact And.left (by assumption)) dX11_maybe_45 rfl rfl rfl rfl ?_
      refine PW.aload_n dX11_maybe_48 rfl ?_
      refine PW.getR fl_X11_84 rfl (by assumption) rfl dX11_maybe_49 ?_
      refine PW.callVv (c_X9_doubt hTe) cv_X9_doubt lk_X11_253 (by first | assumption | exact And.left (by assumption)) dX11_maybe_52 rfl rfl rfl rfl ?_
      refine PW.st (upS (upS (upS σ (h + 4 + 1) (adF (σ (h + 4 + 1)) (σ (h + 4) 2) k c0 c1 c2 c3 c4)) (h + 4) (up1 (σ (h + 4)) 2 (σ (h + 4) 2 + 1))) (h + 183) (up1 (σ (h + 183)) 12 0)) (by rw [upS_ne (show h + 183 ≠ h + 4 by omega), upS_ne (show h + 183 ≠ h + 4 + 1 by omega)]) ?_
      refine PW.aload_n dX11_maybe_55 rfl ?_
      refine PW.getR fl_X11_16 rfl (by assumption) rfl dX11_maybe_56 ?_
      refine PW.callVr (c_X8_size (by assumption)) cv_X8_size lk_X11_102 (by first | assumption | exact And.left (by assumption)) dX11_maybe_59 rfl rfl rfl rfl ?_
      refine PW.top (σ (h + 4) 2 + 1) (by rw [upS_ne (show h + 4 ≠ h + 183 by omega), upS_same, up1_same]) ?_
      refine PW.iconst dX11_maybe_62 ?_
      refine PW.isub dX11_maybe_63 ?_
      refine PW.iret rfl rfl dX11_maybe_64 ⟨ret_eq ?_, rfl, ?_⟩
      · rw [if_neg (fun q => q (by assumption)), if_neg (by omega)]
        omega
      · rw [if_pos ⟨by assumption, by omega⟩]
    · refine PW.ldc (-100004) kc_X11_106 rfl rfl dX11_maybe_29 ?_
      refine PW.iret rfl rfl dX11_maybe_31 ⟨ret_eq ?_, rfl, ?_⟩
      · rw [if_neg (fun q => q (by assumption)), if_pos (by omega)]
      · rw [if_neg (by omega)]
  · refine PW.ldc (-100002) kc_X11_101 rfl rfl dX11_maybe_15 ?_
    refine PW.iret rfl rfl dX11_maybe_17 ⟨ret_eq ?_, rfl, ?_⟩
    · rw [if_pos (by assumption)]
    · rw [if_neg (fun q => absurd q.1 (by assumption))]
theorem c_X11_never {G : GT} {S : Shp} {σ : Sto} {h : Nat}  (hA : IsHill S h) (hmt : taOk σ (h + 4)) (hmm : σ (h + 4) 2 ≤ 4) : PMet G mX11_never 2 0 0 [.ref h] S σ (isP (some (.int (iI (σ (h + 4) 2)))) S (upS (upS σ (h + 4) (up1 (σ (h + 4)) 2 0)) (h + 183) (up1 (σ (h + 183)) 12 0))) := by
  obtain ⟨hH0, hEv, hMi, hDf, hVr, hKp, hTx, hLd, hOt, hEn, hSg, hAg, hDw, hTe, hHo, hVs⟩ := id hA
  refine PMet.of [(0, .ref h)] (by decide +kernel) rfl (Nat.le_of_ble_eq_true rfl) ?_
  refine PW.aload_n dX11_never_0 rfl ?_
  refine PW.getR fl_X11_16 rfl (by assumption) rfl dX11_never_1 ?_
  refine PW.callVr (c_X8_size (by assumption)) cv_X8_size lk_X11_102 (by first | assumption | exact And.left (by assumption)) dX11_never_4 rfl rfl rfl rfl ?_
  refine PW.istore_n [(0, _), (1, _)] dX11_never_7 rfl (Nat.le_of_ble_eq_true rfl) ?_
  refine PW.aload_n dX11_never_8 rfl ?_
  refine PW.getR fl_X11_16 rfl (by assumption) rfl dX11_never_9 ?_
  refine PW.callVv (c_X8_empty hMi) cv_X8_empty lk_X11_118 (by first | assumption | exact And.left (by assumption)) dX11_never_12 rfl rfl rfl rfl ?_
  refine PW.aload_n dX11_never_15 rfl ?_
  refine PW.getR fl_X11_84 rfl (by assumption) rfl dX11_never_16 ?_
  refine PW.callVv (c_X9_doubt hTe) cv_X9_doubt lk_X11_253 (by first | assumption | exact And.left (by assumption)) dX11_never_19 rfl rfl rfl rfl ?_
  refine PW.st (upS (upS σ (h + 4) (up1 (σ (h + 4)) 2 0)) (h + 183) (up1 (σ (h + 183)) 12 0)) (by rw [upS_ne (show h + 183 ≠ h + 4 by omega)]) ?_
  refine PW.iload_n dX11_never_22 rfl ?_
  exact PW.iret rfl (by first | rfl | exact narB _) dX11_never_23 ⟨rfl, rfl, rfl⟩

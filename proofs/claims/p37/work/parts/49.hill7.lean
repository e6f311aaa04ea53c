set_option maxRecDepth 20000 in
theorem c_X11_take {G : GT} {S : Shp} {σ : Sto} {h : Nat} {k i : Int} (hA : IsHill S h) (hT : taOk σ (h + 1)) (hmt : taOk σ (h + 4)) (hmm : σ (h + 4) 2 ≤ 4) (hlc : colsOk σ (h + 15) 64) (hss : sgsOk σ (h + 171)) (hte : teOk σ h) (rk : inR k) (ri : inR i) : PMet G mX11_take 8 0 0 [.ref h, .int (iI k), .int (iI i)] S σ (fun r S' τ => S' = S ∧ ∃ v : Int, r = some (.int (iI v)) ∧ (¬ tsR σ h k = 0 → v = tsR σ h k ∧ τ = σ) ∧ (tsR σ h k = 0 → ∃ μ : Sto, tsG σ μ h (knF (σ (h + 171) 1) k) ∧ (¬ (0 ≤ i ∧ i < μ (h + 183) 9) → v = -100003 ∧ τ = μ) ∧ ((0 ≤ i ∧ i < μ (h + 183) 9) → v = σ (h + 1) 2 + lnE (σ (h + 4) 2) (μ (h + 183 + 6) i) ∧ τ = rnS (tkS μ h (prt (σ (h + 4) 2) (μ (h + 183 + 6) i)) (lnE (σ (h + 4) 2) (μ (h + 183 + 6) i)).toNat) h))) := by
  obtain ⟨hH0, hEv, hMi, hDf, hVr, hKp, hTx, hLd, hOt, hEn, hSg, hAg, hDw, hTe, hHo, hVs⟩ := id hA
  have hs1 := hss.1
  have hm1 := hmt.1
  have hT1 := hT.1
  have rt : inR (tsR σ h k) := by unfold tsR; unfold inR; split; omega; split <;> omega
  refine PMet.of [(0, .ref h), (1, .int (iI (k))), (2, .int (iI (i)))] (by decide +kernel) rfl (Nat.le_of_ble_eq_true rfl) ?_
  refine PW.aload_n dX11_take_0 rfl ?_
  refine PW.iload_n dX11_take_1 rfl ?_
  refine PW.callVg (c_X11_tellStories hA hT hmt hmm hlc hss hte rk) cv_X11_tellStories lk_X11_312 (by first | assumption | exact And.left (by assumption)) dX11_take_2 rfl rfl rfl rfl (fun r S' τ2 hq => ?_)
  obtain ⟨hS, rfl, g1, g2⟩ := hq
  have hS2 := hS.symm
  subst hS2
  refine PW.istore_n [(0, _), (1, _), (2, _), (3, _)] dX11_take_5 rfl (Nat.le_of_ble_eq_true rfl) ?_
  refine PW.iload_n dX11_take_6 rfl ?_
  refine PW.if_eq 12 dX11_take_7 (by decide) (by first | (unfold inR; omega) | assumption) (fun h7 => ?_) (fun h7 => ?_)
  · have hq0 := g1 (by assumption)
    obtain ⟨y1, y2, y3, y4, y5⟩ := id hq0
    have ht9 := telGood_9 y4 (by omega)
    have htt := y4.2.2.1
    have h16 : σ (h + 1) 2 + σ (h + 4) 2 ≤ 16 := by
      have q : tsR σ h k = 0 := by assumption
      unfold tsR at q
      split at q
      · omega
      · split at q <;> omega
    have e40 : τ2 (h + 4) = σ (h + 4) := y1 _ (by omega)
    have e10 : τ2 (h + 1) = σ (h + 1) := y1 _ (by omega)
    refine PW.iload_n dX11_take_12 rfl ?_
    refine PW.aload_n dX11_take_13 rfl ?_
    refine PW.getR fl_X11_84 rfl (by assumption) rfl dX11_take_14 ?_
    refine PW.callVr (c_X9_fits hTe) cv_X9_fits lk_X11_315 (by first | assumption | exact And.left (by assumption)) dX11_take_17 rfl rfl rfl rfl ?_
    refine PW.callSr (c_X11_isBelow (by first | assumption | (unfold inR; omega)) (by first | assumption | (unfold inR; omega))) cs_X11_isBelow lk_X11_270 dX11_take_20 rfl rfl rfl ?_
    refine PW.if_neB 29 dX11_take_23 (by decide) (fun h23 => ?_) (fun h23 => ?_)
    · have hfi := telGood_fit y4 (by omega) (i := i) (by omega) (by omega)
      refine PW.aload_n dX11_take_29 rfl ?_
      refine PW.getR fl_X11_84 rfl (by assumption) rfl dX11_take_30 ?_
      refine PW.iload_n dX11_take_33 rfl ?_
      refine PW.callVr (c_X9_fitting hTe (by omega)) cv_X9_fitting lk_X11_318 (by first | assumption | exact And.left (by assumption)) dX11_take_34 rfl rfl rfl rfl ?_
      refine PW.istore [(0, _), (1, _), (2, _), (3, _), (4, _)] dX11_take_37 rfl (Nat.le_of_ble_eq_true rfl) ?_
      refine PW.iconst dX11_take_39 ?_
      refine PW.istore [(0, _), (1, _), (2, _), (3, _), (4, _), (5, _)] dX11_take_40 rfl (Nat.le_of_ble_eq_true rfl) ?_
      refine take_loop (σ := σ) (μ := τ2) (m := σ (h + 4) 2) hA (taOk_congr e10 (y1 _ (by omega)) hT) (taOk_congr e40 (y1 _ (by omega)) hmt) (by rw [e40]) (by omega) htt hfi (by rw [e10]; exact h16) ?_ 6 0 (by omega) (lnE_0 _ _) (by have := lnE_m (m := σ (h + 4) 2) (by omega) hfi; omega)
      rw [e10]
      exact ⟨rfl, _, rfl, fun q => absurd (by assumption) q, fun _ => ⟨τ2, hq0, fun q => absurd (show 0 ≤ i ∧ i < τ2 (h + 183) 9 by omega) q, fun _ => ⟨rfl, rfl⟩⟩⟩
    · refine PW.ldc (-100003) kc_X11_114 rfl rfl dX11_take_26 ?_
      exact PW.iret rfl rfl dX11_take_28 ⟨rfl, _, rfl, fun q => absurd (by assumption) q, fun _ => ⟨τ2, hq0, fun _ => ⟨rfl, rfl⟩, fun q => absurd q (by omega)⟩⟩
  · refine PW.iload_n dX11_take_10 rfl ?_
    exact PW.iret rfl rfl dX11_take_11 ⟨rfl, _, rfl, fun q => ⟨rfl, g2 q⟩, fun q => absurd q (by assumption)⟩
theorem upS_4 {σ : Sto} {A B : Nat} {f g lo hi : Int → Int} (h : A ≠ B) : upS (upS (upS (upS σ A f) B g) A lo) B hi = upS (upS σ A lo) B hi := by
  rw [upS_comm (σ := upS σ A f) h.symm, upS_upS, upS_upS]
theorem drOk_congr {σ τ : Sto} {a : Nat} (e0 : τ a = σ a) (e3 : τ (a + 3) = σ (a + 3)) (e4 : τ (a + 4) = σ (a + 4)) (e6 : τ (a + 6) = σ (a + 6)) (h : drOk σ a) : drOk τ a := by
  unfold drOk
  rw [e0, e3, e4, e6]
  exact h
theorem pos_bnd {lo hi : Int → Int} (h : posP lo hi) (h1 : ∀ s, 0 ≤ s → s < 8 → -20 ≤ lo s ∧ hi s ≤ 20) : bndOk lo hi := by
  intro s s0 s1
  have e := firI_spec (P := posB lo hi) (n := 8)
  have e2 := e.1 h s s0 (by omega)
  have e3 := of_decide_eq_false e2
  have := h1 s s0 s1
  omega
-- (not here: c_X11_draw)

set_option maxHeartbeats 4000000 in
set_option maxRecDepth 20000 in
theorem law_loop {G : GT} {S : Shp} {b L h m : Nat} {xs : Nat → Int32} (hr : ra G 1000021 = b) (hb : b < gB G) (hL : L ≤ 3584) : ∀ (t : Nat) (i R : Int) (σ : Sto), 0 ≤ i → i ≤ L + 6 → L + 7 - i < t → 0 ≤ R → R ≤ i → Rel S σ h m R → PW (xL b L (gB G) xs) G S σ 508 397468 18 [(0, .ref 1000021), (1, .ref h), (2, .ref m), (3, .int (iI i))] [] := by
  intro t
  induction t with
  | zero => intro i R σ h1 h2 h3; omega
  | succ t ih =>
    intro i R σ h1 h2 h3 h4 h5 hR
    have hv := bAnd63 (sc xs i)
    refine PW.iload_n (eL dL_law_18) rfl ?_
    refine PW.aload_n (eL dL_law_19) rfl ?_
    refine PW.slen hr hb dL_law_20 ?_
    refine PW.bipush (by decide) (eL dL_law_21) ?_
    refine PW.isub (eL dL_law_23) ?_
    refine PW.icmp_gt 1394 (eL dL_law_24) (by decide) (by first | exact sc_R _ _ | (unfold inR; omega) | assumption) (by first | exact sc_R _ _ | (unfold inR; omega) | assumption) (fun h24 => ?_) (fun h24 => ?_)
    · refine PW.iconst (eL dL_law_1394) ?_
      exact PW.lend (Nat.le_of_ble_eq_true rfl) (Nat.le_of_ble_eq_true rfl)
    · refine PW.aload_n (eL dL_law_27) rfl ?_
      refine PW.iload_n (eL dL_law_28) rfl ?_
      refine PW.sld hr hb (by unfold inR; omega) (by omega) (by omega) dL_law_29 ?_
      refine PW.bipush (by decide) (eL dL_law_30) ?_
      refine PW.iand (eL dL_law_32) ?_
      have hK : ∀ μ, Rel S μ h m (R + 1) → PW (xL b L (gB G) xs) G S μ 508 397468 1388 [(0, .ref 1000021), (1, .ref h), (2, .ref m), (3, .int (iI i))] [] := fun μ hμ => by
        refine PW.iinc [(0, _), (1, _), (2, _), (3, _)] (eL dL_law_1388) rfl rfl (Nat.le_of_ble_eq_true rfl) ?_
        refine PW.goto 18 (eL dL_law_1391) (by decide) ?_
        exact ih (i + 7) (R + 1) μ (by omega) (by omega) (by omega) (by omega) (by omega) hμ
      rcases (show bAnd (sc xs i) 63 = 0 ∨ bAnd (sc xs i) 63 = 1 ∨ bAnd (sc xs i) 63 = 2 ∨ bAnd (sc xs i) 63 = 3 ∨ bAnd (sc xs i) 63 = 4 ∨ bAnd (sc xs i) 63 = 5 ∨ bAnd (sc xs i) 63 = 6 ∨ bAnd (sc xs i) 63 = 7 ∨ bAnd (sc xs i) 63 = 8 ∨ bAnd (sc xs i) 63 = 9 ∨ bAnd (sc xs i) 63 = 10 ∨ bAnd (sc xs i) 63 = 11 ∨ bAnd (sc xs i) 63 = 12 ∨ bAnd (sc xs i) 63 = 13 ∨ bAnd (sc xs i) 63 = 14 ∨ bAnd (sc xs i) 63 = 15 ∨ bAnd (sc xs i) 63 = 16 ∨ bAnd (sc xs i) 63 = 17 ∨ bAnd (sc xs i) 63 = 18 ∨ bAnd (sc xs i) 63 = 19 ∨ bAnd (sc xs i) 63 = 20 ∨ bAnd (sc xs i) 63 = 21 ∨ bAnd (sc xs i) 63 = 22 ∨ bAnd (sc xs i) 63 = 23 ∨ bAnd (sc xs i) 63 = 24 ∨ bAnd (sc xs i) 63 = 25 ∨ bAnd (sc xs i) 63 = 26 ∨ bAnd (sc xs i) 63 = 27 ∨ bAnd (sc xs i) 63 = 28 ∨ bAnd (sc xs i) 63 = 29 ∨ bAnd (sc xs i) 63 = 30 ∨ bAnd (sc xs i) 63 = 31 ∨ bAnd (sc xs i) 63 = 32 ∨ bAnd (sc xs i) 63 = 33 ∨ 33 < bAnd (sc xs i) 63 by omega) with h33 | h33 | h33 | h33 | h33 | h33 | h33 | h33 | h33 | h33 | h33 | h33 | h33 | h33 | h33 | h33 | h33 | h33 | h33 | h33 | h33 | h33 | h33 | h33 | h33 | h33 | h33 | h33 | h33 | h33 | h33 | h33 | h33 | h33 | h33
      · refine PW.tsIn (151) 184 (by unfold inR; omega) (eL dL_law_33) (by omega) (by omega) (by rw [h33]; rfl) (by decide) ?_
        exact law_0 hr hb hL h1 (by omega) hR (by omega) hK
      · refine PW.tsIn (226) 259 (by unfold inR; omega) (eL dL_law_33) (by omega) (by omega) (by rw [h33]; rfl) (by decide) ?_
        exact law_1 hr hb hL h1 (by omega) hR (by omega) hK
      · refine PW.tsIn (239) 272 (by unfold inR; omega) (eL dL_law_33) (by omega) (by omega) (by rw [h33]; rfl) (by decide) ?_
        exact law_2 hr hb hL h1 (by omega) hR (by omega) hK
      · refine PW.tsIn (252) 285 (by unfold inR; omega) (eL dL_law_33) (by omega) (by omega) (by rw [h33]; rfl) (by decide) ?_
        exact law_3 hr hb hL h1 (by omega) hR (by omega) hK
      · refine PW.tsIn (285) 318 (by unfold inR; omega) (eL dL_law_33) (by omega) (by omega) (by rw [h33]; rfl) (by decide) ?_
        exact law_4 hr hb hL h1 (by omega) hR (by omega) hK
      · refine PW.tsIn (334) 367 (by unfold inR; omega) (eL dL_law_33) (by omega) (by omega) (by rw [h33]; rfl) (by decide) ?_
        exact law_5 hr hb hL h1 (by omega) hR (by omega) hK
      · refine PW.tsIn (357) 390 (by unfold inR; omega) (eL dL_law_33) (by omega) (by omega) (by rw [h33]; rfl) (by decide) ?_
        exact law_6 hr hb hL h1 (by omega) hR (by omega) hK
      · refine PW.tsIn (380) 413 (by unfold inR; omega) (eL dL_law_33) (by omega) (by omega) (by rw [h33]; rfl) (by decide) ?_
        exact law_7 hr hb hL h1 (by omega) hR (by omega) hK
      · refine PW.tsIn (443) 476 (by unfold inR; omega) (eL dL_law_33) (by omega) (by omega) (by rw [h33]; rfl) (by decide) ?_
        exact law_8 hr hb hL h1 (by omega) hR (by omega) hK
      · refine PW.tsIn (456) 489 (by unfold inR; omega) (eL dL_law_33) (by omega) (by omega) (by rw [h33]; rfl) (by decide) ?_
        exact law_9 hr hb hL h1 (by omega) hR (by omega) hK
      · refine PW.tsIn (469) 502 (by unfold inR; omega) (eL dL_law_33) (by omega) (by omega) (by rw [h33]; rfl) (by decide) ?_
        exact law_10 hr hb hL h1 (by omega) hR (by omega) hK
      · refine PW.tsIn (512) 545 (by unfold inR; omega) (eL dL_law_33) (by omega) (by omega) (by rw [h33]; rfl) (by decide) ?_
        exact law_11 hr hb hL h1 (by omega) hR (by omega) hK
      · refine PW.tsIn (555) 588 (by unfold inR; omega) (eL dL_law_33) (by omega) (by omega) (by rw [h33]; rfl) (by decide) ?_
        exact law_12 hr hb hL h1 (by omega) hR (by omega) hK
      · refine PW.tsIn (608) 641 (by unfold inR; omega) (eL dL_law_33) (by omega) (by omega) (by rw [h33]; rfl) (by decide) ?_
        exact law_13 hr hb hL h1 (by omega) hR (by omega) hK
      · refine PW.tsIn (661) 694 (by unfold inR; omega) (eL dL_law_33) (by omega) (by omega) (by rw [h33]; rfl) (by decide) ?_
        exact law_14 hr hb hL h1 (by omega) hR (by omega) hK
      · refine PW.tsIn (694) 727 (by unfold inR; omega) (eL dL_law_33) (by omega) (by omega) (by rw [h33]; rfl) (by decide) ?_
        exact law_15 hr hb hL h1 (by omega) hR (by omega) hK
      · refine PW.tsIn (717) 750 (by unfold inR; omega) (eL dL_law_33) (by omega) (by omega) (by rw [h33]; rfl) (by decide) ?_
        exact law_16 hr hb hL h1 (by omega) hR (by omega) hK
      · refine PW.tsIn (740) 773 (by unfold inR; omega) (eL dL_law_33) (by omega) (by omega) (by rw [h33]; rfl) (by decide) ?_
        exact law_17 hr hb hL h1 (by omega) hR (by omega) hK
      · refine PW.tsIn (763) 796 (by unfold inR; omega) (eL dL_law_33) (by omega) (by omega) (by rw [h33]; rfl) (by decide) ?_
        exact law_18 hr hb hL h1 (by omega) hR (by omega) hK
      · refine PW.tsIn (796) 829 (by unfold inR; omega) (eL dL_law_33) (by omega) (by omega) (by rw [h33]; rfl) (by decide) ?_
        exact law_19 hr hb hL h1 (by omega) hR (by omega) hK
      · refine PW.tsIn (871) 904 (by unfold inR; omega) (eL dL_law_33) (by omega) (by omega) (by rw [h33]; rfl) (by decide) ?_
        exact law_20 hr hb hL h1 (by omega) hR (by omega) hK
      · refine PW.tsIn (894) 927 (by unfold inR; omega) (eL dL_law_33) (by omega) (by omega) (by rw [h33]; rfl) (by decide) ?_
        exact law_21 hr hb hL h1 (by omega) hR (by omega) hK
      · refine PW.tsIn (927) 960 (by unfold inR; omega) (eL dL_law_33) (by omega) (by omega) (by rw [h33]; rfl) (by decide) ?_
        exact law_22 hr hb hL h1 (by omega) hR (by omega) hK
      · refine PW.tsIn (940) 973 (by unfold inR; omega) (eL dL_law_33) (by omega) (by omega) (by rw [h33]; rfl) (by decide) ?_
        exact law_23 hr hb hL h1 (by omega) hR (by omega) hK
      · refine PW.tsIn (983) 1016 (by unfold inR; omega) (eL dL_law_33) (by omega) (by omega) (by rw [h33]; rfl) (by decide) ?_
        exact law_24 hr hb hL h1 (by omega) hR (by omega) hK
      · refine PW.tsIn (1016) 1049 (by unfold inR; omega) (eL dL_law_33) (by omega) (by omega) (by rw [h33]; rfl) (by decide) ?_
        exact law_25 hr hb hL h1 (by omega) hR (by omega) hK
      · refine PW.tsIn (1059) 1092 (by unfold inR; omega) (eL dL_law_33) (by omega) (by omega) (by rw [h33]; rfl) (by decide) ?_
        exact law_26 hr hb hL h1 (by omega) hR (by omega) hK
      · refine PW.tsIn (1072) 1105 (by unfold inR; omega) (eL dL_law_33) (by omega) (by omega) (by rw [h33]; rfl) (by decide) ?_
        exact law_27 hr hb hL h1 (by omega) hR (by omega) hK
      · refine PW.tsIn (1135) 1168 (by unfold inR; omega) (eL dL_law_33) (by omega) (by omega) (by rw [h33]; rfl) (by decide) ?_
        exact law_28 hr hb hL h1 (by omega) hR (by omega) hK
      · refine PW.tsIn (1210) 1243 (by unfold inR; omega) (eL dL_law_33) (by omega) (by omega) (by rw [h33]; rfl) (by decide) ?_
        exact law_29 hr hb hL h1 (by omega) hR (by omega) hK
      · refine PW.tsIn (1223) 1256 (by unfold inR; omega) (eL dL_law_33) (by omega) (by omega) (by rw [h33]; rfl) (by decide) ?_
        exact law_30 hr hb hL h1 (by omega) hR (by omega) hK
      · refine PW.tsIn (1246) 1279 (by unfold inR; omega) (eL dL_law_33) (by omega) (by omega) (by rw [h33]; rfl) (by decide) ?_
        exact law_31 hr hb hL h1 (by omega) hR (by omega) hK
      · refine PW.tsIn (1289) 1322 (by unfold inR; omega) (eL dL_law_33) (by omega) (by omega) (by rw [h33]; rfl) (by decide) ?_
        exact law_32 hr hb hL h1 (by omega) hR (by omega) hK
      · refine PW.tsIn (1322) 1355 (by unfold inR; omega) (eL dL_law_33) (by omega) (by omega) (by rw [h33]; rfl) (by decide) ?_
        exact law_33 hr hb hL h1 (by omega) hR (by omega) hK
      · refine PW.tsOut 1388 (by unfold inR; omega) (eL dL_law_33) (by omega) (by decide) ?_
        exact hK σ ⟨hR.1, hR.2.1, hR.2.2.1, hR.2.2.2.1.mono (by omega), hR.2.2.2.2⟩
theorem IsHill.fr {S S' : Shp} {h : Nat} (H : IsHill S h) (e : ∀ b, h ≤ b → b < h + 473 → S'.2 b = S.2 b) (h3 : h + 473 ≤ S'.1) : IsHill S' h := by
  obtain ⟨hH0, hEv, hMi, hDf, hVr, hKp, hTx, hLd, hOt, hEn, hSg, hAg, hDw, hTe, hHo, hVs⟩ := H
  refine ⟨hH0.fr (e _ (by omega) (by omega)) (by omega), hEv.fr (fun b b0 b1 => e b (by omega) (by omega)) (by omega), hMi.fr (fun b b0 b1 => e b (by omega) (by omega)) (by omega), hDf.fr (fun b b0 b1 => e b (by omega) (by omega)) (by omega), hVr.fr (e _ (by omega) (by omega)) (by omega), hKp.fr (e _ (by omega) (by omega)) (by omega), hTx.fr (fun b b0 b1 => e b (by omega) (by omega)) (by omega), hLd.fr (fun b b0 b1 => e b (by omega) (by omega)) (by omega), hOt.fr (e _ (by omega) (by omega)) (e _ (by omega) (by omega)) (by omega), hEn.fr (fun b b0 b1 => e b (by omega) (by omega)) (by omega), hSg.fr (fun b b0 b1 => e b (by omega) (by omega)) (by omega), hAg.fr (fun b b0 b1 => e b (by omega) (by omega)) (by omega), hDw.fr (fun b b0 b1 => e b (by omega) (by omega)) (by omega), hTe.fr (fun b b0 b1 => e b (by omega) (by omega)) (by omega), hHo.fr (fun b b0 b1 => e b (by omega) (by omega)) (by omega), fun v v0 v1 => (hVs v v0 v1).fr (fun b b0 b1 => e b (by unfold veA at b0; omega) (by unfold veA at b1; omega)) (by unfold veA; omega)⟩
/-- a new HillLand and a new model are alike -/
theorem Rel_new {S : Shp} {τ μ : Sto} {m : Nat} (hA : IsHill S 0) (hM : IsMod S m) (hm : 473 ≤ m) (H : hill0 τ 0) (e : ∀ b, b < 473 → μ b = τ b) (g0 : μ m = up1 zF 11 (-1)) (g1 : ∀ i, 3 ≤ i → i < 35 → i ≠ 6 → μ (m + i) = zF) (g2 : ∀ f : Int → Int, mCore μ m f 0) : Rel S μ 0 m 0 := by
  have hk : hkO τ 0 0 := by
    refine ⟨hill0_ok H, fun q => ?_, ?_⟩
    · obtain ⟨-, -, -, -, -, -, -, -, -, -, -, -, a183, -⟩ := H
      rw [a183] at q
      exact absurd q (by decide)
    · obtain ⟨-, -, -, -, -, -, -, -, -, -, -, -, a183, -⟩ := H
      rw [a183]
      decide
  obtain ⟨a1, a4, a7, a11, a12, a13, a148, a149, a171, a173, a174, a176, a183, -⟩ := H
  refine ⟨hA, hM, by omega, hk_loc hk (fun b hb => e b (by omega)), ?_, ⟨⟨?_, ?_, ?_⟩, ?_⟩, ?_, ⟨?_, ?_, ?_⟩, ⟨?_, ?_, ?_⟩, ⟨?_, ?_, ?_, ?_⟩⟩
  · unfold qE
    rw [e (0 + 1) (by omega), a1]
    exact g2 _
  · rw [g0, e (0 + 4) (by omega), a4]
    decide
  · rw [e (0 + 4) (by omega), a4]
    decide
  · rw [e (0 + 4) (by omega), a4]
    intro i i0 i1
    exact absurd (show i < (0 : Int) from i1) (by omega)
  · rw [e (0 + 4) (by omega), a4]
    intro i i0 i1
    exact absurd (show i < (0 : Int) from i1) (by omega)
  · intro v v0 v1
    have e1 : μ (0 + 11) = zF := by rw [e (0 + 11) (by omega), a11]
    rw [e1, g1 11 (by omega) (by omega) (by omega)]
    exact ⟨rfl, (show (0 : Int) ≤ 0 ∧ (0 : Int) ≤ 1 by decide), fun q => absurd rfl q⟩
  · rw [g0, e (0 + 12) (by omega), a12]
    decide
  · rw [g1 7 (by omega) (by omega) (by omega), e (0 + 12 + 1) (by omega), a13]
  · rw [g0, e (0 + 12) (by omega), a12]
    decide
  · rw [g0, e (0 + 171) (by omega), a171]
    decide
  · rw [e (0 + 171) (by omega), a171]
    decide
  · rw [e (0 + 171) (by omega), a171]
    intro i i0 i1
    exact absurd (show i < (0 : Int) from i1) (by omega)
  · rw [g0, e (0 + 173) (by omega), a173]
    decide
  · rw [e (0 + 173) (by omega), a173]
    decide
  · rw [e (0 + 173) (by omega), a173]
    intro i i0 i1
    exact absurd (show i < (0 : Int) from i1) (by omega)
  · rw [e (0 + 173) (by omega), a173, e (0 + 173 + 1) (by omega), a174]
    intro a b _ _ _ _
    rfl
set_option maxRecDepth 20000 in
theorem law_run {G : GT} {S : Shp} {σ : Sto} {b L : Nat} {xs : Nat → Int32} (hr : ra G 1000021 = b) (hb : b < gB G) (hL : L ≤ 3584) (hS : S.1 = 0) : PW (xL b L (gB G) xs) G S σ 0 0 0 [(0, .ref 1000021)] [] := by
  refine PW.newOA 0 (ci := 10) (ty := tyX11) [fN, fN, fN, fN, fN, fN, fN, fN, fN, fN, fN, fN, fN, fN] hS rfl iw_X11 kl_L_7 ki_X11 kn_X11 tyX11_ok (by decide) rfl (by omega) (Nat.le_of_ble_eq_true rfl) (Nat.le_of_ble_eq_true rfl) (eL dL_law_0) (fun S1 p1 q1 r1 => ?_)
  refine PW.gst (fun τ1 e1 => ?_)
  refine PW.dup rfl (eL dL_law_3) ?_
  refine PW.callI (c_X11_init p1 r1 (by rw [e1]; exact upS_same _ _ _) (by omega)) ci_X11_init lk_L_9 rfl r1.2 rfl rfl (Nat.le_of_ble_eq_true rfl) ⟨(Nat.le_of_ble_eq_true rfl), (Nat.le_of_ble_eq_true rfl)⟩ ⟨(Nat.le_of_ble_eq_true rfl), (Nat.le_of_ble_eq_true rfl)⟩ (eL dL_law_4) (fun r S2 τ2 hq => ?_)
  obtain ⟨rfl, p2, f2, hH, z2⟩ := hq
  refine PW.room (k' := 473) (n' := 33892) rfl rfl ?_
  refine PW.astore_n [(0, _), (1, _)] (eL dL_law_7) rfl (Nat.le_of_ble_eq_true rfl) ?_
  refine PW.newOA 473 (ci := 11) (ty := tyX12) [fN, fN, fI, fN, fN, fN, fN, fN, fI, fI, fI, fI, fI, fI, fN, fN, fI, fN, fN, fN, fN, fN, fN, fI, fN, fN, fN, fN, fN, fI, fN, fN, fN, fN, fN, fN, fN, fN, fI, fN, fN, fI, fN, fN, fN, fN, fI, fI] (by omega) rfl iw_X12 kl_L_10 ki_X12 kn_X12 tyX12_ok (by decide) rfl (by omega) (Nat.le_of_ble_eq_true rfl) (Nat.le_of_ble_eq_true rfl) (eL dL_law_8) (fun S3 p3 q3 r3 => ?_)
  refine PW.gst (fun τ3 e3 => ?_)
  refine PW.dup rfl (eL dL_law_11) ?_
  refine PW.callI (c_X12_init p3 r3 (by rw [e3]; exact upS_same _ _ _) (by omega)) ci_X12_init lk_L_12 rfl r3.2 rfl rfl (Nat.le_of_ble_eq_true rfl) ⟨(Nat.le_of_ble_eq_true rfl), (Nat.le_of_ble_eq_true rfl)⟩ ⟨(Nat.le_of_ble_eq_true rfl), (Nat.le_of_ble_eq_true rfl)⟩ (eL dL_law_12) (fun r S4 τ4 hq => ?_)
  obtain ⟨rfl, p4, f4, hM, g0, g1, g2⟩ := hq
  refine PW.room (k' := 508) (n' := 397468) rfl rfl ?_
  refine PW.astore_n [(0, _), (1, _), (2, _)] (eL dL_law_15) rfl (Nat.le_of_ble_eq_true rfl) ?_
  refine PW.iconst (eL dL_law_16) ?_
  refine PW.istore_n [(0, _), (1, _), (2, _), (3, _)] (eL dL_law_17) rfl (Nat.le_of_ble_eq_true rfl) ?_
  have hH4 : IsHill S4 0 := hH.fr (fun b b0 b1 => ((f4 b (by omega)).1).trans (q3 b (by omega))) (by omega)
  have eτ : ∀ b, b < 473 → τ4 b = τ2 b := fun b hb => ((f4 b (by omega)).2).trans (by rw [e3, upS_ne (by omega)])
  exact law_loop hr hb hL (L + 8) 0 0 τ4 (by omega) (by omega) (by omega) (by omega) (by omega) (Rel_new hH4 hM (by omega) z2 eτ g0 g1 g2)


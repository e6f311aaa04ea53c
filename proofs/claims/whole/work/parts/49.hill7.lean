set_option maxRecDepth 20000 in
theorem c_X11_take {G : GT} {S : Shp} {σ : Sto} {h : Nat} {k i : Int} (hA : IsHill S h) (hT : taOk σ (h + 1)) (hmt : taOk σ (h + 4)) (hmm : σ (h + 4) 2 ≤ 4) (hlc : colsOk σ (h + 15) 64) (hss : sgsOk σ (h + 171)) (hte : teOk σ h) (rk : inR k) (ri : inR i) : PMet G mX11_take 8 0 0 [.ref h, .int (iI k), .int (iI i)] S σ (fun r S' τ => S' = S ∧ ∃ v : Int, r = some (.int (iI v)) ∧ (¬ tsR σ h k = 0 → v = tsR σ h k ∧ τ = σ) ∧ (tsR σ h k = 0 → ∃ μ : Sto, tsG σ μ h (knF (σ (h + 171) 1) k) ∧ (¬ (0 ≤ i ∧ i < μ (h + 183) 9) → v = -100003 ∧ τ = μ) ∧ ((0 ≤ i ∧ i < μ (h + 183) 9) → v = σ (h + 1) 2 + lnE (σ (h + 4) 2) (μ (h + 183 + 6) i) ∧ τ = rnS (tkS μ h (prt (σ (h + 4) 2) (μ (h + 183 + 6) i)) (lnE (σ (h + 4) 2) (μ (h + 183 + 6) i)).toNat) h))) := by
  obtain ⟨hH0, hEv, hMi, hDf, hVr, hKp, hTx, hLd, hOt, hEn, hSg, hAg, hDw, hTe, hHo, hVs⟩ := id hA
  have hs1 := hss.1
  have hm1 := hmt.1
  have hT1 := hT.1
  have rt : inR (tsR σ h k) := by unfold tsR; unfold inR; split; omega; split <;> omega
  refine PMet.of [(0, .ref h), (1, .int (iI (k))), (2, .int (iI (i)))] (by decide +kernel) rfl (Nat.le_of_ble_eq_true rfl) ?_
  refine PW.aload_n dX11_take_0 rfl ?_
  refine PW.iload_n dX11_take_1 rfl ?_
  refine PW.callVg (c_X11_tellStories hA hT hmt hmm hlc hss hte rk) cv_X11_tellStories lk_X11_312 (by first | assumption | exact And.left (by assumption)) dX11_take_2 rfl rfl rfl rfl (fun r S' τ2 hq => ?_)
  obtain ⟨hS, rfl, g1, g2⟩ := hq
  have hS2 := hS.symm
  subst hS2
  refine PW.istore_n [(0, _), (1, _), (2, _), (3, _)] dX11_take_5 rfl (Nat.le_of_ble_eq_true rfl) ?_
  refine PW.iload_n dX11_take_6 rfl ?_
  refine PW.if_eq 12 dX11_take_7 (by decide) (by first | (unfold inR; omega) | assumption) (fun h7 => ?_) (fun h7 => ?_)
  · have hq0 := g1 (by assumption)
    obtain ⟨y1, y2, y3, y4, y5⟩ := id hq0
    have ht9 := telGood_9 y4 (by omega)
    have htt := y4.2.2.1
    have h16 : σ (h + 1) 2 + σ (h + 4) 2 ≤ 16 := by
      have q : tsR σ h k = 0 := by assumption
      unfold tsR at q
      split at q
      · omega
      · split at q <;> omega
    have e40 : τ2 (h + 4) = σ (h + 4) := y1 _ (by omega)
    have e10 : τ2 (h + 1) = σ (h + 1) := y1 _ (by omega)
    refine PW.iload_n dX11_take_12 rfl ?_
    refine PW.aload_n dX11_take_13 rfl ?_
    refine PW.getR fl_X11_84 rfl (by assumption) rfl dX11_take_14 ?_
    refine PW.callVr (c_X9_fits hTe) cv_X9_fits lk_X11_315 (by first | assumption | exact And.left (by assumption)) dX11_take_17 rfl rfl rfl rfl ?_
    refine PW.callSr (c_X11_isBelow (by first | assumption | (unfold inR; omega)) (by first | assumption | (unfold inR; omega))) cs_X11_isBelow lk_X11_270 dX11_take_20 rfl rfl rfl ?_
    refine PW.if_neB 29 dX11_take_23 (by decide) (fun h23 => ?_) (fun h23 => ?_)
    · have hfi := telGood_fit y4 (by omega) (i := i) (by omega) (by omega)
      refine PW.aload_n dX11_take_29 rfl ?_
      refine PW.getR fl_X11_84 rfl (by assumption) rfl dX11_take_30 ?_
      refine PW.iload_n dX11_take_33 rfl ?_
      refine PW.callVr (c_X9_fitting hTe (by omega)) cv_X9_fitting lk_X11_318 (by first | assumption | exact And.left (by assumption)) dX11_take_34 rfl rfl rfl rfl ?_
      refine PW.istore [(0, _), (1, _), (2, _), (3, _), (4, _)] dX11_take_37 rfl (Nat.le_of_ble_eq_true rfl) ?_
      refine PW.iconst dX11_take_39 ?_
      refine PW.istore [(0, _), (1, _), (2, _), (3, _), (4, _), (5, _)] dX11_take_40 rfl (Nat.le_of_ble_eq_true rfl) ?_
      refine take_loop (σ := σ) (μ := τ2) (m := σ (h + 4) 2) hA (taOk_congr e10 (y1 _ (by omega)) hT) (taOk_congr e40 (y1 _ (by omega)) hmt) (by rw [e40]) (by omega) htt hfi (by rw [e10]; exact h16) ?_ 6 0 (by omega) (lnE_0 _ _) (by have := lnE_m (m := σ (h + 4) 2) (by omega) hfi; omega)
      rw [e10]
      exact ⟨rfl, _, rfl, fun q => absurd (by assumption) q, fun _ => ⟨τ2, hq0, fun q => absurd (show 0 ≤ i ∧ i < τ2 (h + 183) 9 by omega) q, fun _ => ⟨rfl, rfl⟩⟩⟩
    · refine PW.ldc (-100003) kc_X11_114 rfl rfl dX11_take_26 ?_
      exact PW.iret rfl rfl dX11_take_28 ⟨rfl, _, rfl, fun q => absurd (by assumption) q, fun _ => ⟨τ2, hq0, fun _ => ⟨rfl, rfl⟩, fun q => absurd q (by omega)⟩⟩
  · refine PW.iload_n dX11_take_10 rfl ?_
    exact PW.iret rfl rfl dX11_take_11 ⟨rfl, _, rfl, fun q => ⟨rfl, g2 q⟩, fun q => absurd q (by assumption)⟩
theorem upS_4 {σ : Sto} {A B : Nat} {f g lo hi : Int → Int} (h : A ≠ B) : upS (upS (upS (upS σ A f) B g) A lo) B hi = upS (upS σ A lo) B hi := by
  rw [upS_comm (σ := upS σ A f) h.symm, upS_upS, upS_upS]
theorem drOk_congr {σ τ : Sto} {a : Nat} (e0 : τ a = σ a) (e3 : τ (a + 3) = σ (a + 3)) (e4 : τ (a + 4) = σ (a + 4)) (e6 : τ (a + 6) = σ (a + 6)) (h : drOk σ a) : drOk τ a := by
  unfold drOk
  rw [e0, e3, e4, e6]
  exact h
theorem pos_bnd {lo hi : Int → Int} (h : posP lo hi) (h1 : ∀ s, 0 ≤ s → s < 8 → -20 ≤ lo s ∧ hi s ≤ 20) : bndOk lo hi := by
  intro s s0 s1
  have e := firI_spec (P := posB lo hi) (n := 8)
  have e2 := e.1 h s s0 (by omega)
  have e3 := of_decide_eq_false e2
  have := h1 s s0 s1
  omega
set_option maxRecDepth 20000 in
theorem c_X11_draw {G : GT} {S : Shp} {σ : Sto} {h : Nat} {b a l k i : Int} (hA : IsHill S h) (hss : sgsOk σ (h + 171)) (hdr : drOk σ (h + 176)) (rb : inR b) (ra : inR a) (rl : inR l) (rk : inR k) (ri : inR i) : PMet G mX11_draw 6 0 0 [.ref h, .int (iI b), .int (iI a), .int (iI l), .int (iI k), .int (iI i)] S σ (fun r S' τ => S' = S ∧ ∃ v : Int, r = some (.int (iI v)) ∧ (¬ ((0 ≤ b ∧ b < 16) ∧ (a = 0 ∨ a = 1) ∧ (0 ≤ l ∧ l < 8) ∧ (-1 ≤ k ∧ k ≤ σ (h + 171) 1) ∧ (i = -1 ∨ (0 ≤ i ∧ i < 8))) → v = -100002 ∧ τ = σ) ∧ (((0 ≤ b ∧ b < 16) ∧ (a = 0 ∨ a = 1) ∧ (0 ≤ l ∧ l < 8) ∧ (-1 ≤ k ∧ k ≤ σ (h + 171) 1) ∧ (i = -1 ∨ (0 ≤ i ∧ i < 8))) → ∃ lo hi : Int → Int, (∀ s, 0 ≤ s → s < 8 → lo s = bdL (σ (h + 171 + 1)) b a l s (knF (σ (h + 171) 1) k).toNat ∧ hi s = bdH (σ (h + 171 + 1)) b a l s (knF (σ (h + 171) 1) k).toNat) ∧ (∀ q, q < h + 176 ∨ h + 176 + 6 < q → τ q = σ q) ∧ drOk τ (h + 176) ∧ (¬ posP lo hi → v = -100003) ∧ (posP lo hi → ∃ (bd : Int) (ht : Int → Int), Drawn lo hi bd ht ∧ v = if i = -1 then bd else ht i))) := by
  obtain ⟨hH0, hEv, hMi, hDf, hVr, hKp, hTx, hLd, hOt, hEn, hSg, hAg, hDw, hTe, hHo, hVs⟩ := id hA
  have hs1 := hss.1
  refine PMet.of [(0, .ref h), (1, .int (iI (b))), (2, .int (iI (a))), (3, .int (iI (l))), (4, .int (iI (k))), (5, .int (iI (i)))] (by decide +kernel) rfl (Nat.le_of_ble_eq_true rfl) ?_
  refine PW.iload_n dX11_draw_0 rfl ?_
  refine PW.callSr (c_X11_isBed (by first | assumption | (unfold inR; omega))) cs_X11_isBed lk_X11_208 dX11_draw_1 rfl rfl rfl ?_
  refine PW.if_eqB 30 dX11_draw_4 (by decide) (fun h4 => ?_) (fun h4 => ?_)
  · refine PW.ldc (-100002) kc_X11_101 rfl rfl dX11_draw_30 ?_
    exact PW.iret rfl rfl dX11_draw_32 ⟨rfl, _, rfl, fun _ => ⟨rfl, rfl⟩, fun q => by omega⟩
  · refine PW.iload_n dX11_draw_7 rfl ?_
    refine PW.callSr (c_X11_isAxis (by first | assumption | (unfold inR; omega))) cs_X11_isAxis lk_X11_290 dX11_draw_8 rfl rfl rfl ?_
    refine PW.if_eqB 30 dX11_draw_11 (by decide) (fun h11 => ?_) (fun h11 => ?_)
    · refine PW.ldc (-100002) kc_X11_101 rfl rfl dX11_draw_30 ?_
      exact PW.iret rfl rfl dX11_draw_32 ⟨rfl, _, rfl, fun _ => ⟨rfl, rfl⟩, fun q => by omega⟩
    · refine PW.iload_n dX11_draw_14 rfl ?_
      refine PW.callSr (c_X11_isStep (by first | assumption | (unfold inR; omega))) cs_X11_isStep lk_X11_186 dX11_draw_15 rfl rfl rfl ?_
      refine PW.if_eqB 30 dX11_draw_18 (by decide) (fun h18 => ?_) (fun h18 => ?_)
      · refine PW.ldc (-100002) kc_X11_101 rfl rfl dX11_draw_30 ?_
        exact PW.iret rfl rfl dX11_draw_32 ⟨rfl, _, rfl, fun _ => ⟨rfl, rfl⟩, fun q => by omega⟩
      · refine PW.aload_n dX11_draw_21 rfl ?_
        refine PW.iload dX11_draw_22 rfl ?_
        refine PW.callVr (c_X11_isKnown hA hs1 rk) cv_X11_isKnown lk_X11_259 (by first | assumption | exact And.left (by assumption)) dX11_draw_24 rfl rfl rfl rfl ?_
        refine PW.if_neB 33 dX11_draw_27 (by decide) (fun h27 => ?_) (fun h27 => ?_)
        · refine PW.iload dX11_draw_33 rfl ?_
          refine PW.iconst dX11_draw_35 ?_
          refine PW.icmp_eq 50 dX11_draw_36 (by decide) (by first | (unfold inR; omega) | assumption) (by first | (unfold inR; omega) | assumption) (fun h36 => ?_) (fun h36 => ?_)
          · refine PW.aload_n dX11_draw_50 rfl ?_
            refine PW.getR fl_X11_77 rfl (by assumption) rfl dX11_draw_51 ?_
            refine PW.callVv (c_X3_open hDw) cv_X3_open lk_X11_293 (by first | assumption | exact And.left (by assumption)) dX11_draw_54 rfl rfl rfl rfl ?_
            have o1 : (upS (upS σ (h + 176 + 1) (flI (σ (h + 176 + 1)) 0 8 8 (-20))) (h + 176 + 2) (flI (σ (h + 176 + 2)) 0 8 8 20)) (h + 171) = σ (h + 171) := by rw [upS_ne (by omega), upS_ne (by omega)]
            have o2 : (upS (upS σ (h + 176 + 1) (flI (σ (h + 176 + 1)) 0 8 8 (-20))) (h + 176 + 2) (flI (σ (h + 176 + 2)) 0 8 8 20)) (h + 171 + 1) = σ (h + 171 + 1) := by rw [upS_ne (by omega), upS_ne (by omega)]
            refine PW.aload_n dX11_draw_57 rfl ?_
            refine PW.getR fl_X11_63 rfl (by assumption) rfl dX11_draw_58 ?_
            refine PW.aload_n dX11_draw_61 rfl ?_
            refine PW.getR fl_X11_77 rfl (by assumption) rfl dX11_draw_62 ?_
            refine PW.iload_n dX11_draw_65 rfl ?_
            refine PW.iload_n dX11_draw_66 rfl ?_
            refine PW.iload_n dX11_draw_67 rfl ?_
            refine PW.aload_n dX11_draw_68 rfl ?_
            refine PW.iload dX11_draw_69 rfl ?_
            refine PW.callVr (c_X11_knownOf hA rk) cv_X11_knownOf lk_X11_262 (by first | assumption | exact And.left (by assumption)) dX11_draw_71 rfl rfl rfl rfl ?_
            refine PW.top (knF (σ (h + 171) 1) k) (by rw [o1]) ?_
            refine PW.callVg (c_X7_narrow hSg hDw (sgsOk_congr o1 o2 hss) (by rw [o1]; unfold knF; split <;> omega) (by omega) (by omega) (by omega) (by omega) (fun s s0 s1 => ⟨by rw [upS_ne (by omega), upS_same]; unfold flI; rw [if_pos (by omega)], by rw [upS_same]; unfold flI; rw [if_pos (by omega)]⟩)) cv_X7_narrow lk_X11_296 (by first | assumption | exact And.left (by assumption)) dX11_draw_74 rfl rfl rfl rfl (fun r S' τ74 hq => ?_)
            obtain ⟨rfl, hS, lo, hi, rfl, hb⟩ := hq
            have hS2 := hS.symm
            subst hS2
            rw [o2] at hb
            have hbv := fun s => bd_b (f := (σ (h + 171 + 1))) (bed := b) (ax := a) (line := l) (s := s) (k := (knF (σ (h + 171) 1) k).toNat) (fun j j0 j1 => hss.2 j j0 (by unfold knF at j1; split at j1 <;> omega))
            have hbb : ∀ s, 0 ≤ s → s < 8 → -20 ≤ lo s ∧ hi s ≤ 20 := fun s s0 s1 => by
              have := hb s s0 s1
              have := hbv s
              omega
            refine PW.st (upS (upS σ (h + 176 + 1) lo) (h + 176 + 2) hi) (upS_4 (by omega)) ?_
            have s1 : (upS (upS σ (h + 176 + 1) lo) (h + 176 + 2) hi) (h + 176 + 1) = lo := by rw [upS_ne (by omega), upS_same]
            have s2 : (upS (upS σ (h + 176 + 1) lo) (h + 176 + 2) hi) (h + 176 + 2) = hi := upS_same _ _ _
            refine PW.aload_n dX11_draw_77 rfl ?_
            refine PW.getR fl_X11_77 rfl (by assumption) rfl dX11_draw_78 ?_
            refine PW.callVr (c_X3_isPossible hDw (fun s q0 q1 => by rw [s1, s2]; have := hb s q0 q1; have := hbv s; omega)) cv_X3_isPossible lk_X11_300 (by first | assumption | exact And.left (by assumption)) dX11_draw_81 rfl rfl rfl rfl ?_
            refine PW.if_neB 90 dX11_draw_84 (by decide) (fun h84 => ?_) (fun h84 => ?_)
            · have hpp : posP lo hi := by
                have q : posP ((upS (upS σ (h + 176 + 1) lo) (h + 176 + 2) hi) (h + 176 + 1)) ((upS (upS σ (h + 176 + 1) lo) (h + 176 + 2) hi) (h + 176 + 2)) := by assumption
                rw [s1, s2] at q
                exact q
              have hbn := pos_bnd hpp hbb
              refine PW.aload_n dX11_draw_90 rfl ?_
              refine PW.getR fl_X11_77 rfl (by assumption) rfl dX11_draw_91 ?_
              refine PW.callVg (c_X3_know hDw (by rw [s1, s2]; exact hbn) (drOk_congr (by rw [upS_ne (by omega), upS_ne (by omega)]) (by rw [upS_ne (by omega), upS_ne (by omega)]) (by rw [upS_ne (by omega), upS_ne (by omega)]) (by rw [upS_ne (by omega), upS_ne (by omega)]) hdr)) cv_X3_know lk_X11_304 (by first | assumption | exact And.left (by assumption)) dX11_draw_94 rfl rfl rfl rfl (fun r S' τ94 hq => ?_)
              obtain ⟨rfl, hS, k1, k2, k3⟩ := hq
              have hS2 := hS.symm
              subst hS2
              rw [s1, s2] at k2
              refine PW.iload dX11_draw_97 rfl ?_
              refine PW.iconst dX11_draw_99 ?_
              refine PW.icmp_ne 113 dX11_draw_100 (by decide) (by first | (unfold inR; omega) | assumption) (by first | (unfold inR; omega) | assumption) (fun h100 => ?_) (fun h100 => ?_)
              · refine PW.aload_n dX11_draw_113 rfl ?_
                refine PW.getR fl_X11_77 rfl (by assumption) rfl dX11_draw_114 ?_
                refine PW.iload dX11_draw_117 rfl ?_
                refine PW.callVr (c_X3_height hDw (by omega)) cv_X3_height lk_X11_309 (by first | assumption | exact And.left (by assumption)) dX11_draw_119 rfl rfl rfl rfl ?_
                refine PW.iret rfl rfl dX11_draw_122 ⟨rfl, _, rfl, fun q => absurd (show ((0 ≤ b ∧ b < 16) ∧ (a = 0 ∨ a = 1) ∧ (0 ≤ l ∧ l < 8) ∧ (-1 ≤ k ∧ k ≤ σ (h + 171) 1) ∧ (i = -1 ∨ (0 ≤ i ∧ i < 8))) by omega) q, fun _ => ⟨lo, hi, hb, fun q hq => ?_, k3, fun q => absurd hpp q, fun _ => ⟨_, _, k2, ?_⟩⟩⟩
                · rw [k1 q (by omega) (by omega), upS_ne (by omega), upS_ne (by omega)]
                · first
                    | (rw [if_pos (by assumption)]; done)
                    | (rw [if_neg (by assumption)]; done)
              · refine PW.aload_n dX11_draw_103 rfl ?_
                refine PW.getR fl_X11_77 rfl (by assumption) rfl dX11_draw_104 ?_
                refine PW.callVr (c_X3_bend hDw) cv_X3_bend lk_X11_306 (by first | assumption | exact And.left (by assumption)) dX11_draw_107 rfl rfl rfl rfl ?_
                refine PW.goto 122 dX11_draw_110 (by decide) ?_
                refine PW.iret rfl rfl dX11_draw_122 ⟨rfl, _, rfl, fun q => absurd (show ((0 ≤ b ∧ b < 16) ∧ (a = 0 ∨ a = 1) ∧ (0 ≤ l ∧ l < 8) ∧ (-1 ≤ k ∧ k ≤ σ (h + 171) 1) ∧ (i = -1 ∨ (0 ≤ i ∧ i < 8))) by omega) q, fun _ => ⟨lo, hi, hb, fun q hq => ?_, k3, fun q => absurd hpp q, fun _ => ⟨_, _, k2, ?_⟩⟩⟩
                · rw [k1 q (by omega) (by omega), upS_ne (by omega), upS_ne (by omega)]
                · first
                    | (rw [if_pos (by assumption)]; done)
                    | (rw [if_neg (by assumption)]; done)
            · refine PW.ldc (-100003) kc_X11_114 rfl rfl dX11_draw_87 ?_
              refine PW.iret rfl rfl dX11_draw_89 ⟨rfl, _, rfl, fun q => absurd (show ((0 ≤ b ∧ b < 16) ∧ (a = 0 ∨ a = 1) ∧ (0 ≤ l ∧ l < 8) ∧ (-1 ≤ k ∧ k ≤ σ (h + 171) 1) ∧ (i = -1 ∨ (0 ≤ i ∧ i < 8))) by omega) q, fun _ => ⟨lo, hi, hb, fun q hq => ?_, drOk_congr (by rw [upS_ne (by omega), upS_ne (by omega)]) (by rw [upS_ne (by omega), upS_ne (by omega)]) (by rw [upS_ne (by omega), upS_ne (by omega)]) (by rw [upS_ne (by omega), upS_ne (by omega)]) hdr, fun _ => rfl, fun q => absurd ?_ (by assumption)⟩⟩
              · rw [upS_ne (by omega), upS_ne (by omega)]
              · rw [s1, s2]
                exact q
          · refine PW.iload dX11_draw_39 rfl ?_
            refine PW.callSr (c_X11_isStep (by first | assumption | (unfold inR; omega))) cs_X11_isStep lk_X11_186 dX11_draw_41 rfl rfl rfl ?_
            refine PW.if_neB 50 dX11_draw_44 (by decide) (fun h44 => ?_) (fun h44 => ?_)
            · refine PW.aload_n dX11_draw_50 rfl ?_
              refine PW.getR fl_X11_77 rfl (by assumption) rfl dX11_draw_51 ?_
              refine PW.callVv (c_X3_open hDw) cv_X3_open lk_X11_293 (by first | assumption | exact And.left (by assumption)) dX11_draw_54 rfl rfl rfl rfl ?_
              have o1 : (upS (upS σ (h + 176 + 1) (flI (σ (h + 176 + 1)) 0 8 8 (-20))) (h + 176 + 2) (flI (σ (h + 176 + 2)) 0 8 8 20)) (h + 171) = σ (h + 171) := by rw [upS_ne (by omega), upS_ne (by omega)]
              have o2 : (upS (upS σ (h + 176 + 1) (flI (σ (h + 176 + 1)) 0 8 8 (-20))) (h + 176 + 2) (flI (σ (h + 176 + 2)) 0 8 8 20)) (h + 171 + 1) = σ (h + 171 + 1) := by rw [upS_ne (by omega), upS_ne (by omega)]
              refine PW.aload_n dX11_draw_57 rfl ?_
              refine PW.getR fl_X11_63 rfl (by assumption) rfl dX11_draw_58 ?_
              refine PW.aload_n dX11_draw_61 rfl ?_
              refine PW.getR fl_X11_77 rfl (by assumption) rfl dX11_draw_62 ?_
              refine PW.iload_n dX11_draw_65 rfl ?_
              refine PW.iload_n dX11_draw_66 rfl ?_
              refine PW.iload_n dX11_draw_67 rfl ?_
              refine PW.aload_n dX11_draw_68 rfl ?_
              refine PW.iload dX11_draw_69 rfl ?_
              refine PW.callVr (c_X11_knownOf hA rk) cv_X11_knownOf lk_X11_262 (by first | assumption | exact And.left (by assumption)) dX11_draw_71 rfl rfl rfl rfl ?_
              refine PW.top (knF (σ (h + 171) 1) k) (by rw [o1]) ?_
              refine PW.callVg (c_X7_narrow hSg hDw (sgsOk_congr o1 o2 hss) (by rw [o1]; unfold knF; split <;> omega) (by omega) (by omega) (by omega) (by omega) (fun s s0 s1 => ⟨by rw [upS_ne (by omega), upS_same]; unfold flI; rw [if_pos (by omega)], by rw [upS_same]; unfold flI; rw [if_pos (by omega)]⟩)) cv_X7_narrow lk_X11_296 (by first | assumption | exact And.left (by assumption)) dX11_draw_74 rfl rfl rfl rfl (fun r S' τ74 hq => ?_)
              obtain ⟨rfl, hS, lo, hi, rfl, hb⟩ := hq
              have hS2 := hS.symm
              subst hS2
              rw [o2] at hb
              have hbv := fun s => bd_b (f := (σ (h + 171 + 1))) (bed := b) (ax := a) (line := l) (s := s) (k := (knF (σ (h + 171) 1) k).toNat) (fun j j0 j1 => hss.2 j j0 (by unfold knF at j1; split at j1 <;> omega))
              have hbb : ∀ s, 0 ≤ s → s < 8 → -20 ≤ lo s ∧ hi s ≤ 20 := fun s s0 s1 => by
                have := hb s s0 s1
                have := hbv s
                omega
              refine PW.st (upS (upS σ (h + 176 + 1) lo) (h + 176 + 2) hi) (upS_4 (by omega)) ?_
              have s1 : (upS (upS σ (h + 176 + 1) lo) (h + 176 + 2) hi) (h + 176 + 1) = lo := by rw [upS_ne (by omega), upS_same]
              have s2 : (upS (upS σ (h + 176 + 1) lo) (h + 176 + 2) hi) (h + 176 + 2) = hi := upS_same _ _ _
              refine PW.aload_n dX11_draw_77 rfl ?_
              refine PW.getR fl_X11_77 rfl (by assumption) rfl dX11_draw_78 ?_
              refine PW.callVr (c_X3_isPossible hDw (fun s q0 q1 => by rw [s1, s2]; have := hb s q0 q1; have := hbv s; omega)) cv_X3_isPossible lk_X11_300 (by first | assumption | exact And.left (by assumption)) dX11_draw_81 rfl rfl rfl rfl ?_
              refine PW.if_neB 90 dX11_draw_84 (by decide) (fun h84 => ?_) (fun h84 => ?_)
              · have hpp : posP lo hi := by
                  have q : posP ((upS (upS σ (h + 176 + 1) lo) (h + 176 + 2) hi) (h + 176 + 1)) ((upS (upS σ (h + 176 + 1) lo) (h + 176 + 2) hi) (h + 176 + 2)) := by assumption
                  rw [s1, s2] at q
                  exact q
                have hbn := pos_bnd hpp hbb
                refine PW.aload_n dX11_draw_90 rfl ?_
                refine PW.getR fl_X11_77 rfl (by assumption) rfl dX11_draw_91 ?_
                refine PW.callVg (c_X3_know hDw (by rw [s1, s2]; exact hbn) (drOk_congr (by rw [upS_ne (by omega), upS_ne (by omega)]) (by rw [upS_ne (by omega), upS_ne (by omega)]) (by rw [upS_ne (by omega), upS_ne (by omega)]) (by rw [upS_ne (by omega), upS_ne (by omega)]) hdr)) cv_X3_know lk_X11_304 (by first | assumption | exact And.left (by assumption)) dX11_draw_94 rfl rfl rfl rfl (fun r S' τ94 hq => ?_)
                obtain ⟨rfl, hS, k1, k2, k3⟩ := hq
                have hS2 := hS.symm
                subst hS2
                rw [s1, s2] at k2
                refine PW.iload dX11_draw_97 rfl ?_
                refine PW.iconst dX11_draw_99 ?_
                refine PW.icmp_ne 113 dX11_draw_100 (by decide) (by first | (unfold inR; omega) | assumption) (by first | (unfold inR; omega) | assumption) (fun h100 => ?_) (fun h100 => ?_)
                · refine PW.aload_n dX11_draw_113 rfl ?_
                  refine PW.getR fl_X11_77 rfl (by assumption) rfl dX11_draw_114 ?_
                  refine PW.iload dX11_draw_117 rfl ?_
                  refine PW.callVr (c_X3_height hDw (by omega)) cv_X3_height lk_X11_309 (by first | assumption | exact And.left (by assumption)) dX11_draw_119 rfl rfl rfl rfl ?_
                  refine PW.iret rfl rfl dX11_draw_122 ⟨rfl, _, rfl, fun q => absurd (show ((0 ≤ b ∧ b < 16) ∧ (a = 0 ∨ a = 1) ∧ (0 ≤ l ∧ l < 8) ∧ (-1 ≤ k ∧ k ≤ σ (h + 171) 1) ∧ (i = -1 ∨ (0 ≤ i ∧ i < 8))) by omega) q, fun _ => ⟨lo, hi, hb, fun q hq => ?_, k3, fun q => absurd hpp q, fun _ => ⟨_, _, k2, ?_⟩⟩⟩
                  · rw [k1 q (by omega) (by omega), upS_ne (by omega), upS_ne (by omega)]
                  · first
                      | (rw [if_pos (by assumption)]; done)
                      | (rw [if_neg (by assumption)]; done)
                · refine PW.aload_n dX11_draw_103 rfl ?_
                  refine PW.getR fl_X11_77 rfl (by assumption) rfl dX11_draw_104 ?_
                  refine PW.callVr (c_X3_bend hDw) cv_X3_bend lk_X11_306 (by first | assumption | exact And.left (by assumption)) dX11_draw_107 rfl rfl rfl rfl ?_
                  refine PW.goto 122 dX11_draw_110 (by decide) ?_
                  refine PW.iret rfl rfl dX11_draw_122 ⟨rfl, _, rfl, fun q => absurd (show ((0 ≤ b ∧ b < 16) ∧ (a = 0 ∨ a = 1) ∧ (0 ≤ l ∧ l < 8) ∧ (-1 ≤ k ∧ k ≤ σ (h + 171) 1) ∧ (i = -1 ∨ (0 ≤ i ∧ i < 8))) by omega) q, fun _ => ⟨lo, hi, hb, fun q hq => ?_, k3, fun q => absurd hpp q, fun _ => ⟨_, _, k2, ?_⟩⟩⟩
                  · rw [k1 q (by omega) (by omega), upS_ne (by omega), upS_ne (by omega)]
                  · first
                      | (rw [if_pos (by assumption)]; done)
                      | (rw [if_neg (by assumption)]; done)
              · refine PW.ldc (-100003) kc_X11_114 rfl rfl dX11_draw_87 ?_
                refine PW.iret rfl rfl dX11_draw_89 ⟨rfl, _, rfl, fun q => absurd (show ((0 ≤ b ∧ b < 16) ∧ (a = 0 ∨ a = 1) ∧ (0 ≤ l ∧ l < 8) ∧ (-1 ≤ k ∧ k ≤ σ (h + 171) 1) ∧ (i = -1 ∨ (0 ≤ i ∧ i < 8))) by omega) q, fun _ => ⟨lo, hi, hb, fun q hq => ?_, drOk_congr (by rw [upS_ne (by omega), upS_ne (by omega)]) (by rw [upS_ne (by omega), upS_ne (by omega)]) (by rw [upS_ne (by omega), upS_ne (by omega)]) (by rw [upS_ne (by omega), upS_ne (by omega)]) hdr, fun _ => rfl, fun q => absurd ?_ (by assumption)⟩⟩
                · rw [upS_ne (by omega), upS_ne (by omega)]
                · rw [s1, s2]
                  exact q
            · refine PW.ldc (-100002) kc_X11_101 rfl rfl dX11_draw_47 ?_
              exact PW.iret rfl rfl dX11_draw_49 ⟨rfl, _, rfl, fun _ => ⟨rfl, rfl⟩, fun q => by omega⟩
        · refine PW.ldc (-100002) kc_X11_101 rfl rfl dX11_draw_30 ?_
          exact PW.iret rfl rfl dX11_draw_32 ⟨rfl, _, rfl, fun _ => ⟨rfl, rfl⟩, fun q => by omega⟩

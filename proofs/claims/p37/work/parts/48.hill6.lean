theorem tb_M0 : ∀ m : Fin 5, ∀ s : Fin 65, (s.val : Int) < nSN m.val → lenN m.val s.val ≤ (m.val : Int) := by decide +kernel
theorem lnE_m {m s : Int} (hm : 0 ≤ m ∧ m ≤ 4) (hs : 0 ≤ s ∧ s < nS m) : lnE m s ≤ m := by
  have hb := nS_b hm
  have h := tb_M0 ⟨m.toNat, by omega⟩ ⟨s.toNat, by omega⟩ (by show ((s.toNat : Nat) : Int) < nS m; omega)
  dsimp only at h
  rw [show ((m.toNat : Nat) : Int) = m by omega] at h
  exact h
theorem telGood_fit {τ : Sto} {a : Nat} {m k i : Int} {sg f : Int → Int} {ld : Int → Int → Int} (h : telGood τ a m sg f ld k) (hm : 0 ≤ m ∧ m ≤ 4) (h0 : 0 ≤ i) (h1 : i < τ a 9) : 0 ≤ τ (a + 6) i ∧ τ (a + 6) i < nS m := by
  have nb := nS_b hm
  obtain ⟨-, -, -, h9, hg⟩ := h
  rw [h9] at h1
  obtain ⟨s, s0, s1, s2, s3⟩ := ftC_at (umS sg f ld m k) (n := (nS m).toNat) (k := i) h0 (by rw [show (((nS m).toNat : Nat) : Int) = nS m by omega]; exact h1)
  have e := hg s s0 (by omega) s2
  rw [s3] at e
  rw [e]
  exact ⟨s0, by omega⟩
theorem telGood_9 {τ : Sto} {a : Nat} {m k : Int} {sg f : Int → Int} {ld : Int → Int → Int} (h : telGood τ a m sg f ld k) (hm : 0 ≤ m ∧ m ≤ 4) : 0 ≤ τ a 9 ∧ τ a 9 ≤ 65 := by
  have nb := nS_b hm
  obtain ⟨-, -, -, h9, -⟩ := h
  have := ftC_b (umS sg f ld m k) (i := nS m) (by omega)
  rw [h9]
  omega
theorem sgsOk_congr {σ τ : Sto} {a : Nat} (e0 : τ a = σ a) (e1 : τ (a + 1) = σ (a + 1)) (h : sgsOk σ a) : sgsOk τ a := by
  unfold sgsOk
  rw [e0, e1]
  exact h
/-- what the fitting stories look like -/
def kapp (τ : Sto) (h : Nat) : Int → Int → Int → Int := fun n p => lndS (τ (h + 4 + 1)) (ldF τ (h + 15)) (τ (h + 4) 2) (τ (h + 183 + 6) p) n
/-- what the next hole's own cells are worth -/
def hoOk (σ : Sto) (h : Nat) : Prop := (-1 ≤ σ (h + 458) 6 ∧ σ (h + 458) 6 ≤ σ (h + 183) 11 ∧ 0 ≤ σ (h + 183) 11 ∧ σ (h + 183) 11 < 2147483647) ∧ (σ (h + 183) 12 = 1 → σ (h + 183) 11 = σ (h + 458) 6 → holV σ (h + 458) (nhF (kapp σ h) (σ (h + 183) 9) (64 : Int).toNat))
/-- the store behind the taking of one event of the mights -/
def adS (ν : Sto) (h : Nat) (i : Int) : Sto := upS (upS ν (h + 1 + 1) (adF (ν (h + 1 + 1)) (ν (h + 1) 2) (ν (h + 4 + 1) (7 * i)) (ν (h + 4 + 1) (7 * i + 1 + 0)) (ν (h + 4 + 1) (7 * i + 1 + 1)) (ν (h + 4 + 1) (7 * i + 1 + 2)) (ν (h + 4 + 1) (7 * i + 1 + 3)) (ν (h + 4 + 1) (7 * i + 1 + 4)))) (h + 1) (up1 (ν (h + 1)) 2 (ν (h + 1) 2 + 1))
def tkS (μ : Sto) (h : Nat) (p : Int → Int) : Nat → Sto
  | 0 => μ
  | k + 1 => adS (tkS μ h p k) h (p (k : Int))
theorem tkS_ne {μ : Sto} {h b : Nat} {p : Int → Int} (h1 : b ≠ h + 1) (h2 : b ≠ h + 1 + 1) : ∀ {k : Nat}, tkS μ h p k b = μ b
  | 0 => rfl
  | k + 1 => by
    unfold tkS adS
    rw [upS_ne h1, upS_ne h2]
    exact tkS_ne h1 h2
theorem tkS_n {μ : Sto} {h : Nat} {p : Int → Int} : ∀ {k : Nat}, tkS μ h p k (h + 1) 2 = μ (h + 1) 2 + (k : Int)
  | 0 => by unfold tkS; omega
  | k + 1 => by
    unfold tkS adS
    rw [upS_same, up1_same, tkS_n]
    omega
theorem tkS_ok {μ : Sto} {h : Nat} {p : Int → Int} (hT : taOk μ (h + 1)) (hM : taOk μ (h + 4)) : ∀ {k : Nat}, (∀ q : Int, 0 ≤ q → q < k → 0 ≤ p q ∧ p q < μ (h + 4) 2) → μ (h + 1) 2 + (k : Int) ≤ 16 → taOk (tkS μ h p k) (h + 1)
  | 0, _, _ => hT
  | k + 1, hp, hn => by
    have ih := tkS_ok hT hM (k := k) (fun q q0 q1 => hp q q0 (by omega)) (by omega)
    have hk := hp (k : Int) (by omega) (by omega)
    have en := tkS_n (μ := μ) (h := h) (p := p) (k := k)
    have e4 : tkS μ h p k (h + 4 + 1) = μ (h + 4 + 1) := tkS_ne (by omega) (by omega)
    unfold tkS adS
    refine taOk_ad ih rfl (by omega) ?_
    rw [e4]
    exact (hM.2 _ hk.1 hk.2).1
theorem tkS_s {μ : Sto} {h : Nat} {p : Int → Int} {i : Int} (h0 : 0 ≤ i) : adS (tkS μ h p i.toNat) h (p i) = tkS μ h p (i + 1).toNat := by
  rw [show (i + 1).toNat = i.toNat + 1 by omega]
  show _ = adS (tkS μ h p i.toNat) h (p ((i.toNat : Nat) : Int))
  rw [show ((i.toNat : Nat) : Int) = i by omega]
set_option maxRecDepth 20000 in
theorem c_X11_story {G : GT} {S : Shp} {σ : Sto} {h : Nat} {k i j : Int} (hA : IsHill S h) (hT : taOk σ (h + 1)) (hmt : taOk σ (h + 4)) (hmm : σ (h + 4) 2 ≤ 4) (hlc : colsOk σ (h + 15) 64) (hss : sgsOk σ (h + 171)) (hte : teOk σ h) (rk : inR k) (ri : inR i) (rj : inR j) : PMet G mX11_story 8 0 0 [.ref h, .int (iI k), .int (iI i), .int (iI j)] S σ (fun r S' τ => S' = S ∧ ∃ v : Int, r = some (.int (iI v)) ∧ (¬ tsR σ h k = 0 → v = tsR σ h k ∧ τ = σ) ∧ (tsR σ h k = 0 → tsG σ τ h (knF (σ (h + 171) 1) k) ∧ v = if ¬ (0 ≤ i ∧ i < τ (h + 183) 9) then -1 else if j = -1 then lnE (σ (h + 4) 2) (τ (h + 183 + 6) i) else prt (σ (h + 4) 2) (τ (h + 183 + 6) i) j)) := by
  obtain ⟨hH0, hEv, hMi, hDf, hVr, hKp, hTx, hLd, hOt, hEn, hSg, hAg, hDw, hTe, hHo, hVs⟩ := id hA
  have hs1 := hss.1
  have hm1 := hmt.1
  have hT1 := hT.1
  have rt : inR (tsR σ h k) := by unfold tsR; unfold inR; split; omega; split <;> omega
  refine PMet.of [(0, .ref h), (1, .int (iI (k))), (2, .int (iI (i))), (3, .int (iI (j)))] (by decide +kernel) rfl (Nat.le_of_ble_eq_true rfl) ?_
  refine PW.aload_n dX11_story_0 rfl ?_
  refine PW.iload_n dX11_story_1 rfl ?_
  refine PW.callVg (c_X11_tellStories hA hT hmt hmm hlc hss hte rk) cv_X11_tellStories lk_X11_312 (by first | assumption | exact And.left (by assumption)) dX11_story_2 rfl rfl rfl rfl (fun r S' τ2 hq => ?_)
  obtain ⟨hS, rfl, g1, g2⟩ := hq
  have hS2 := hS.symm
  subst hS2
  refine PW.istore [(0, _), (1, _), (2, _), (3, _), (4, _)] dX11_story_5 rfl (Nat.le_of_ble_eq_true rfl) ?_
  refine PW.iload dX11_story_7 rfl ?_
  refine PW.if_eq 15 dX11_story_9 (by decide) (by first | (unfold inR; omega) | assumption) (fun h9 => ?_) (fun h9 => ?_)
  · have hq0 := g1 (by assumption)
    obtain ⟨y1, y2, y3, y4, y5⟩ := id hq0
    have ht9 := telGood_9 y4 (by omega)
    have htt := y4.2.2.1
    refine PW.iload_n dX11_story_15 rfl ?_
    refine PW.aload_n dX11_story_16 rfl ?_
    refine PW.getR fl_X11_84 rfl (by assumption) rfl dX11_story_17 ?_
    refine PW.callVr (c_X9_fits hTe) cv_X9_fits lk_X11_315 (by first | assumption | exact And.left (by assumption)) dX11_story_20 rfl rfl rfl rfl ?_
    refine PW.callSr (c_X11_isBelow (by first | assumption | (unfold inR; omega)) (by first | assumption | (unfold inR; omega))) cs_X11_isBelow lk_X11_270 dX11_story_23 rfl rfl rfl ?_
    refine PW.if_neB 31 dX11_story_26 (by decide) (fun h26 => ?_) (fun h26 => ?_)
    · have hfi := telGood_fit y4 (by omega) (i := i) (by omega) (by omega)
      have nb := nS_b (m := σ (h + 4) 2) (by omega)
      refine PW.iload_n dX11_story_31 rfl ?_
      refine PW.iconst dX11_story_32 ?_
      refine PW.icmp_ne 54 dX11_story_33 (by decide) (by first | (unfold inR; omega) | assumption) (by first | (unfold inR; omega) | assumption) (fun h33 => ?_) (fun h33 => ?_)
      · refine PW.aload_n dX11_story_54 rfl ?_
        refine PW.getR fl_X11_84 rfl (by assumption) rfl dX11_story_55 ?_
        refine PW.aload_n dX11_story_58 rfl ?_
        refine PW.getR fl_X11_84 rfl (by assumption) rfl dX11_story_59 ?_
        refine PW.iload_n dX11_story_62 rfl ?_
        refine PW.callVr (c_X9_fitting hTe (by omega)) cv_X9_fitting lk_X11_318 (by first | assumption | exact And.left (by assumption)) dX11_story_63 rfl rfl rfl rfl ?_
        refine PW.iload_n dX11_story_66 rfl ?_
        refine PW.callVr (c_X9_part (m := σ (h + 4) 2) hTe htt (by omega) hfi rj) cv_X9_part lk_X11_324 (by first | assumption | exact And.left (by assumption)) dX11_story_67 rfl rfl rfl rfl ?_
        first
          | exact PW.iret rfl rfl dX11_story_70 ⟨rfl, _, rfl, fun q => absurd (by assumption) q, fun q => ⟨hq0, by rw [if_neg (by omega), if_pos (by assumption)]⟩⟩
          | exact PW.iret rfl rfl dX11_story_70 ⟨rfl, _, rfl, fun q => absurd (by assumption) q, fun q => ⟨hq0, by rw [if_neg (by omega), if_neg (by assumption)]⟩⟩
      · refine PW.aload_n dX11_story_36 rfl ?_
        refine PW.getR fl_X11_84 rfl (by assumption) rfl dX11_story_37 ?_
        refine PW.aload_n dX11_story_40 rfl ?_
        refine PW.getR fl_X11_84 rfl (by assumption) rfl dX11_story_41 ?_
        refine PW.iload_n dX11_story_44 rfl ?_
        refine PW.callVr (c_X9_fitting hTe (by omega)) cv_X9_fitting lk_X11_318 (by first | assumption | exact And.left (by assumption)) dX11_story_45 rfl rfl rfl rfl ?_
        skip
        refine PW.callVr (c_X9_length hTe (by omega)) cv_X9_length lk_X11_321 (by first | assumption | exact And.left (by assumption)) dX11_story_48 rfl rfl rfl rfl ?_
        refine PW.top (lnE (σ (h + 4) 2) (τ2 (h + 183 + 6) i)) ((htt.2 _ hfi.1 hfi.2).2.2.2) ?_
        refine PW.goto 70 dX11_story_51 (by decide) ?_
        first
          | exact PW.iret rfl rfl dX11_story_70 ⟨rfl, _, rfl, fun q => absurd (by assumption) q, fun q => ⟨hq0, by rw [if_neg (by omega), if_pos (by assumption)]⟩⟩
          | exact PW.iret rfl rfl dX11_story_70 ⟨rfl, _, rfl, fun q => absurd (by assumption) q, fun q => ⟨hq0, by rw [if_neg (by omega), if_neg (by assumption)]⟩⟩
    · refine PW.iconst dX11_story_29 ?_
      exact PW.iret rfl rfl dX11_story_30 ⟨rfl, _, rfl, fun q => absurd (by assumption) q, fun q => ⟨hq0, by rw [if_pos (by omega)]⟩⟩
  · refine PW.iload dX11_story_12 rfl ?_
    exact PW.iret rfl rfl dX11_story_14 ⟨rfl, _, rfl, fun q => ⟨rfl, g2 q⟩, fun q => absurd q (by assumption)⟩
set_option maxRecDepth 20000 in
theorem c_X11_next {G : GT} {S : Shp} {σ : Sto} {h : Nat} {k w : Int} (hA : IsHill S h) (hT : taOk σ (h + 1)) (hmt : taOk σ (h + 4)) (hmm : σ (h + 4) 2 ≤ 4) (hlc : colsOk σ (h + 15) 64) (hss : sgsOk σ (h + 171)) (hte : teOk σ h) (hho : hoOk σ h) (rk : inR k) (rw_ : inR w) : PMet G mX11_next 8 0 0 [.ref h, .int (iI k), .int (iI w)] S σ (fun r S' τ => S' = S ∧ ∃ v : Int, r = some (.int (iI v)) ∧ (¬ (0 ≤ w ∧ w ≤ 2) → v = -100002 ∧ τ = σ) ∧ ((0 ≤ w ∧ w ≤ 2) → ¬ tsR σ h k = 0 → v = tsR σ h k ∧ τ = σ) ∧ ((0 ≤ w ∧ w ≤ 2) → tsR σ h k = 0 → ∃ μ : Sto, tsG σ μ h (knF (σ (h + 171) 1) k) ∧ (μ (h + 183) 9 = 0 → v = -100003 ∧ τ = μ) ∧ (¬ μ (h + 183) 9 = 0 → hoFr μ τ (h + 458) (h + 183) ∧ colsOk τ (h + 183 + 7) 65 ∧ holV τ (h + 458) (nhF (kapp μ h) (μ (h + 183) 9) (64 : Int).toNat) ∧ τ (h + 458) 6 = μ (h + 183) 11 ∧ v = if w = 0 then (nhF (kapp μ h) (μ (h + 183) 9) (64 : Int).toNat).1 else if w = 1 then (nhF (kapp μ h) (μ (h + 183) 9) (64 : Int).toNat).2.1 else (nhF (kapp μ h) (μ (h + 183) 9) (64 : Int).toNat).2.2))) := by
  obtain ⟨hH0, hEv, hMi, hDf, hVr, hKp, hTx, hLd, hOt, hEn, hSg, hAg, hDw, hTe, hHo, hVs⟩ := id hA
  have hs1 := hss.1
  have hm1 := hmt.1
  have hT1 := hT.1
  have rt : inR (tsR σ h k) := by unfold tsR; unfold inR; split; omega; split <;> omega
  refine PMet.of [(0, .ref h), (1, .int (iI (k))), (2, .int (iI (w)))] (by decide +kernel) rfl (Nat.le_of_ble_eq_true rfl) ?_
  refine PW.iload_n dX11_next_0 rfl ?_
  refine PW.if_lt 9 dX11_next_1 (by decide) (by first | (unfold inR; omega) | assumption) (fun h1 => ?_) (fun h1 => ?_)
  · refine PW.ldc (-100002) kc_X11_101 rfl rfl dX11_next_9 ?_
    exact PW.iret rfl rfl dX11_next_11 ⟨rfl, _, rfl, fun _ => ⟨rfl, rfl⟩, fun q => by omega, fun q => by omega⟩
  · refine PW.iload_n dX11_next_4 rfl ?_
    refine PW.iconst dX11_next_5 ?_
    refine PW.icmp_le 12 dX11_next_6 (by decide) (by first | (unfold inR; omega) | assumption) (by first | (unfold inR; omega) | assumption) (fun h6 => ?_) (fun h6 => ?_)
    · refine PW.aload_n dX11_next_12 rfl ?_
      refine PW.iload_n dX11_next_13 rfl ?_
      refine PW.callVg (c_X11_tellStories hA hT hmt hmm hlc hss hte rk) cv_X11_tellStories lk_X11_312 (by first | assumption | exact And.left (by assumption)) dX11_next_14 rfl rfl rfl rfl (fun r S' τ14 hq => ?_)
      obtain ⟨hS, rfl, g1, g2⟩ := hq
      have hS2 := hS.symm
      subst hS2
      refine PW.istore_n [(0, _), (1, _), (2, _), (3, _)] dX11_next_17 rfl (Nat.le_of_ble_eq_true rfl) ?_
      refine PW.iload_n dX11_next_18 rfl ?_
      refine PW.if_eq 24 dX11_next_19 (by decide) (by first | (unfold inR; omega) | assumption) (fun h19 => ?_) (fun h19 => ?_)
      · have hq0 := g1 (by assumption)
        obtain ⟨y1, y2, y3, y4, y5⟩ := id hq0
        have ht9 := telGood_9 y4 (by omega)
        have htt := y4.2.2.1
        have e6 : τ14 (h + 458) 6 = σ (h + 458) 6 := by rw [y1 _ (by omega)]
        have hf := hho.1
        have r11 : 0 ≤ τ14 (h + 183) 11 ∧ τ14 (h + 183) 11 ≤ 2147483647 := by
          rcases y5 with ⟨_, q⟩ | q
          · rw [q]; omega
          · rw [q]; omega
        have hh : τ14 (h + 183) 11 = τ14 (h + 458) 6 → holV τ14 (h + 458) (nhF (kapp τ14 h) (τ14 (h + 183) 9) (64 : Int).toNat) := fun q => by
          rcases y5 with ⟨q1, q2⟩ | q2
          · rw [q2] at q ⊢
            exact hho.2 q1 q
          · rw [q2, e6] at q
            omega
        have e40 : τ14 (h + 4) = σ (h + 4) := y1 _ (by omega)
        refine PW.aload_n dX11_next_24 rfl ?_
        refine PW.getR fl_X11_84 rfl (by assumption) rfl dX11_next_25 ?_
        refine PW.callVr (c_X9_fits hTe) cv_X9_fits lk_X11_315 (by first | assumption | exact And.left (by assumption)) dX11_next_28 rfl rfl rfl rfl ?_
        refine PW.if_ne 37 dX11_next_31 (by decide) (by first | (unfold inR; omega) | assumption) (fun h31 => ?_) (fun h31 => ?_)
        · refine PW.aload_n dX11_next_37 rfl ?_
          refine PW.getR fl_X11_91 rfl (by assumption) rfl dX11_next_38 ?_
          refine PW.aload_n dX11_next_41 rfl ?_
          refine PW.getR fl_X11_84 rfl (by assumption) rfl dX11_next_42 ?_
          refine PW.aload_n dX11_next_45 rfl ?_
          refine PW.getR fl_X11_42 rfl (by assumption) rfl dX11_next_46 ?_
          refine PW.aload_n dX11_next_49 rfl ?_
          refine PW.getR fl_X11_16 rfl (by assumption) rfl dX11_next_50 ?_
          refine PW.callVg (c_X6_know (m := σ (h + 4) 2) (F := τ14 (h + 183) 9) (κ := kapp τ14 h) hHo hTe hLd (colsOk_congr (fun b b0 b1 => y1 b (by omega)) hlc) hMi (taOk_congr e40 (y1 _ (by omega)) hmt) (by rw [e40]) (by omega) htt rfl ht9 (fun p p0 p1 => telGood_fit y4 (by omega) p0 p1) (by omega) (by omega) (by omega) (by omega) (by omega) (by unfold inR; omega) (fun n p => by unfold kapp; rw [e40]) y2 (by rw [e6]; unfold inR; omega) hh) cv_X6_know lk_X11_327 (by first | assumption | exact And.left (by assumption)) dX11_next_53 rfl rfl rfl rfl (fun r S' τ53 hq => ?_)
          obtain ⟨rfl, hS, z1, z2, z3, z4⟩ := hq
          have hS2 := hS.symm
          subst hS2
          refine PW.iload_n dX11_next_56 rfl ?_
          refine PW.if_ne 68 dX11_next_57 (by decide) (by first | (unfold inR; omega) | assumption) (fun h57 => ?_) (fun h57 => ?_)
          · refine PW.iload_n dX11_next_68 rfl ?_
            refine PW.iconst dX11_next_69 ?_
            refine PW.icmp_ne 83 dX11_next_70 (by decide) (by first | (unfold inR; omega) | assumption) (by first | (unfold inR; omega) | assumption) (fun h70 => ?_) (fun h70 => ?_)
            · refine PW.aload_n dX11_next_83 rfl ?_
              refine PW.getR fl_X11_91 rfl (by assumption) rfl dX11_next_84 ?_
              refine PW.callVr (c_X6_greatest hHo) cv_X6_greatest lk_X11_336 (by first | assumption | exact And.left (by assumption)) dX11_next_87 rfl rfl rfl rfl ?_
              first
                | exact PW.iret rfl rfl dX11_next_90 ⟨rfl, _, rfl, fun q => by omega, fun _ q => absurd (by assumption) q, fun _ _ => ⟨_, hq0, fun q => absurd q (by assumption), fun _ => ⟨z1, z2, z3, z4, by rw [if_neg (by omega), if_pos (by omega)]; exact z3.2.1⟩⟩⟩
                | exact PW.iret rfl rfl dX11_next_90 ⟨rfl, _, rfl, fun q => by omega, fun _ q => absurd (by assumption) q, fun _ _ => ⟨_, hq0, fun q => absurd q (by assumption), fun _ => ⟨z1, z2, z3, z4, by rw [if_neg (by omega), if_neg (by omega)]; exact z3.2.2⟩⟩⟩
            · refine PW.aload_n dX11_next_73 rfl ?_
              refine PW.getR fl_X11_91 rfl (by assumption) rfl dX11_next_74 ?_
              refine PW.callVr (c_X6_unlike hHo) cv_X6_unlike lk_X11_333 (by first | assumption | exact And.left (by assumption)) dX11_next_77 rfl rfl rfl rfl ?_
              refine PW.goto 90 dX11_next_80 (by decide) ?_
              first
                | exact PW.iret rfl rfl dX11_next_90 ⟨rfl, _, rfl, fun q => by omega, fun _ q => absurd (by assumption) q, fun _ _ => ⟨_, hq0, fun q => absurd q (by assumption), fun _ => ⟨z1, z2, z3, z4, by rw [if_neg (by omega), if_pos (by omega)]; exact z3.2.1⟩⟩⟩
                | exact PW.iret rfl rfl dX11_next_90 ⟨rfl, _, rfl, fun q => by omega, fun _ q => absurd (by assumption) q, fun _ _ => ⟨_, hq0, fun q => absurd q (by assumption), fun _ => ⟨z1, z2, z3, z4, by rw [if_neg (by omega), if_neg (by omega)]; exact z3.2.2⟩⟩⟩
          · refine PW.aload_n dX11_next_60 rfl ?_
            refine PW.getR fl_X11_91 rfl (by assumption) rfl dX11_next_61 ?_
            refine PW.callVr (c_X6_column hHo) cv_X6_column lk_X11_330 (by first | assumption | exact And.left (by assumption)) dX11_next_64 rfl rfl rfl rfl ?_
            exact PW.iret rfl rfl dX11_next_67 ⟨rfl, _, rfl, fun q => by omega, fun _ q => absurd (by assumption) q, fun _ _ => ⟨_, hq0, fun q => absurd q (by assumption), fun _ => ⟨z1, z2, z3, z4, by rw [if_pos (by omega)]; exact z3.1⟩⟩⟩
        · refine PW.ldc (-100003) kc_X11_114 rfl rfl dX11_next_34 ?_
          exact PW.iret rfl rfl dX11_next_36 ⟨rfl, _, rfl, fun q => by omega, fun _ q => absurd (by assumption) q, fun _ _ => ⟨_, hq0, fun _ => ⟨rfl, rfl⟩, fun q => absurd (by assumption) q⟩⟩
      · refine PW.iload_n dX11_next_22 rfl ?_
        exact PW.iret rfl rfl dX11_next_23 ⟨rfl, _, rfl, fun q => by omega, fun _ q => ⟨rfl, g2 q⟩, fun _ q => absurd q (by assumption)⟩
    · refine PW.ldc (-100002) kc_X11_101 rfl rfl dX11_next_9 ?_
      exact PW.iret rfl rfl dX11_next_11 ⟨rfl, _, rfl, fun _ => ⟨rfl, rfl⟩, fun q => by omega, fun q => by omega⟩
theorem take_loop {G : GT} {S : Shp} {σ : Sto} {h : Nat} {k p z m s : Int} {μ : Sto} {Q : Option Value → Shp → Sto → Prop} (hA : IsHill S h) (hT : taOk μ (h + 1)) (hM : taOk μ (h + 4)) (hm0 : μ (h + 4) 2 = m) (hm : 0 ≤ m ∧ m ≤ 4) (ht : telTab μ (h + 183) m) (hs : 0 ≤ s ∧ s < nS m) (hn : μ (h + 1) 2 + m ≤ 16) (hQ : Q (some (.int (iI (μ (h + 1) 2 + lnE m s)))) S (rnS (tkS μ h (prt m s) (lnE m s).toNat) h)) : ∀ (t : Nat) (i : Int), 0 ≤ i → i ≤ lnE m s → lnE m s - i < t → PW (fm G mX11_take 8 0 0 Q) G S ((tkS μ h (prt m s) i.toNat)) 0 0 42 [(0, .ref h), (1, .int (iI (k))), (2, .int (iI (p))), (3, .int (iI (z))), (4, .int (iI (s))), (5, .int (iI (i)))] [] := by
  obtain ⟨hH0, hEv, hMi, hDf, hVr, hKp, hTx, hLd, hOt, hEn, hSg, hAg, hDw, hTe, hHo, hVs⟩ := id hA
  have hT1 := hT.1
  have nb := nS_b hm
  have hl := lnE_m hm hs
  have hl0 := lnE_0 m s
  have hpp : ∀ q : Int, 0 ≤ q → q < lnE m s → 0 ≤ prt m s q ∧ prt m s q < m := fun q q0 q1 => by
    have := prt_b (s := s) hm q0 s.toNat (by omega) (by rw [show ((s.toNat : Nat) : Int) = s by omega]; exact q1)
    rw [show ((s.toNat : Nat) : Int) = s by omega] at this
    exact this
  intro t
  induction t with
  | zero => intro i h1 h2 h3; omega
  | succ t ih =>
    intro i h1 h2 h3
    have e9 : telTab (tkS μ h (prt m s) i.toNat) (h + 183) m := telTab_congr ht (by rw [tkS_ne (by omega) (by omega)]) (fun b b0 b1 => tkS_ne (by omega) (by omega))
    have eM : taOk (tkS μ h (prt m s) i.toNat) (h + 4) := taOk_congr (tkS_ne (by omega) (by omega)) (tkS_ne (by omega) (by omega)) hM
    have eT : taOk (tkS μ h (prt m s) i.toNat) (h + 1) := tkS_ok hT hM (fun q q0 q1 => by rw [hm0]; exact hpp q q0 (by omega)) (by omega)
    have en := tkS_n (μ := μ) (h := h) (p := prt m s) (k := i.toNat)
    have em : (tkS μ h (prt m s) i.toNat) (h + 4) 2 = m := by rw [tkS_ne (by omega) (by omega)]; exact hm0
    refine PW.iload dX11_take_42 rfl ?_
    refine PW.aload_n dX11_take_44 rfl ?_
    refine PW.getR fl_X11_84 rfl (by assumption) rfl dX11_take_45 ?_
    refine PW.iload dX11_take_48 rfl ?_
    refine PW.callVr (c_X9_length hTe (by omega)) cv_X9_length lk_X11_321 (by first | assumption | exact And.left (by assumption)) dX11_take_50 rfl rfl rfl rfl ?_
    refine PW.top (lnE m s) ((e9.2 _ hs.1 hs.2).2.2.2) ?_
    skip
    refine PW.icmp_ge 84 dX11_take_53 (by decide) (by first | (unfold inR; omega) | assumption) (by first | (unfold inR; omega) | assumption) (fun h53 => ?_) (fun h53 => ?_)
    · refine PW.aload_n dX11_take_84 rfl ?_
      refine PW.callVv (c_X11_renew hA eT) cv_X11_renew lk_X11_111 (by first | assumption | exact And.left (by assumption)) dX11_take_85 rfl rfl rfl rfl ?_
      refine PW.aload_n dX11_take_88 rfl ?_
      refine PW.getR fl_X11_10 rfl (by assumption) rfl dX11_take_89 ?_
      refine PW.callVr (c_X8_size (by assumption)) cv_X8_size lk_X11_102 (by first | assumption | exact And.left (by assumption)) dX11_take_92 rfl rfl rfl rfl ?_
      have hi : i = lnE m s := by omega
      subst hi
      refine PW.top (μ (h + 1) 2 + lnE m s) (by rw [rnS_ne (by omega), en]; omega) ?_
      exact PW.iret rfl rfl dX11_take_95 hQ
    · refine PW.aload_n dX11_take_56 rfl ?_
      refine PW.getR fl_X11_10 rfl (by assumption) rfl dX11_take_57 ?_
      refine PW.aload_n dX11_take_60 rfl ?_
      refine PW.getR fl_X11_16 rfl (by assumption) rfl dX11_take_61 ?_
      refine PW.aload_n dX11_take_64 rfl ?_
      refine PW.getR fl_X11_84 rfl (by assumption) rfl dX11_take_65 ?_
      refine PW.iload dX11_take_68 rfl ?_
      refine PW.iload dX11_take_70 rfl ?_
      refine PW.callVr (c_X9_part (m := m) hTe e9 hm hs (by unfold inR; omega)) cv_X9_part lk_X11_324 (by first | assumption | exact And.left (by assumption)) dX11_take_72 rfl rfl rfl rfl ?_
      have hpi := hpp i (by omega) (by omega)
      refine PW.callVv (c_X8_addFrom (n := (tkS μ h (prt m s) i.toNat) (h + 1) 2) hEv hMi rfl (by omega) eM (by rw [em]; exact hpi)) cv_X8_addFrom lk_X11_338 (by first | assumption | exact And.left (by assumption)) dX11_take_75 rfl rfl rfl rfl ?_
      refine PW.st (tkS μ h (prt m s) (i + 1).toNat) (tkS_s h1) ?_
      refine PW.iinc [(0, _), (1, _), (2, _), (3, _), (4, _), (5, _)] dX11_take_78 rfl rfl (Nat.le_of_ble_eq_true rfl) ?_
      refine PW.goto 42 dX11_take_81 (by decide) ?_
      exact ih (i + 1) (by omega) (by omega) (by omega)

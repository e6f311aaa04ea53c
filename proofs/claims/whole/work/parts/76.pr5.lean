theorem umS_ld {sf gf : Int → Int} {A B : Int → Int → Int} {gn k sn : Int} (w : ∀ i, 0 ≤ i → i < sn → sgWf sf i) (hk : k ≤ sn) (h : ∀ c, 0 ≤ c → c ≤ 63 → eq8 (A c) (B c)) : umS sf gf A gn k = umS sf gf B gn k := funext fun s => by
  show umC sf (lndS gf A gn s) k = umC sf (lndS gf B gn s) k
  exact umC_ld w (fun c c0 c1 => colS_eq (h c c0 c1)) hk
theorem sJ_MR {τ μ σ : Sto} {m h : Nat} (H : MR τ m σ h) (c : sJn τ μ m) (g : ∀ b, b < h + 183 ∨ h + 461 ≤ b → τ b = σ b) : (∀ b, b < m → μ b = τ b) ∧ MR μ m τ h :=
  ⟨fun b hb => c.1 b (by omega), MR_E H (fun b hb => c.1 b (by omega)) (fun j hj => c.2.1 j (by omega) (by omega) (by omega)) (fun b hb => g b (by omega)) (qE_of (F := σ (h + 1 + 1)) (N := σ (h + 1) 2) ⟨mEv_congr H.1.1 (c.2.1 2 (by decide) (by decide) (by decide)) (c.1 _ (by omega)) (c.1 _ (by omega)) (c.1 _ (by omega)), c.2.2.1, mLd_o H.1.2.2 (fun j j0 j1 => c.2.2.2 j (by omega))⟩ (g _ (by omega)) (by rw [g _ (by omega)]))⟩
theorem tsR_0 {σ : Sto} {h : Nat} {k : Int} (hz : tsR σ h k = 0) : (-1 ≤ k ∧ k ≤ σ (h + 171) 1) ∧ ¬ 16 < σ (h + 1) 2 + σ (h + 4) 2 := by
  unfold tsR at hz
  split at hz
  · omega
  · split at hz
    · omega
    · exact ⟨by omega, by omega⟩
theorem tsR_n {σ : Sto} {h : Nat} {k : Int} (hz : ¬ tsR σ h k = 0) : ¬ ((-1 ≤ k ∧ k ≤ σ (h + 171) 1) ∧ ¬ 16 < σ (h + 1) 2 + σ (h + 4) 2) ∧ tsR σ h k = (if ¬ (-1 ≤ k ∧ k ≤ σ (h + 171) 1) then -100002 else if 16 < σ (h + 1) 2 + σ (h + 4) 2 then -100004 else 0) := by
  refine ⟨fun q => hz ?_, rfl⟩
  unfold tsR
  rw [if_neg (fun x => x q.1), if_neg q.2]
theorem pr_stories {G : GT} {S : Shp} {σ : Sto} {h m : Nat} {R : Int} {k : Int} (hR : Rel S σ h m R) (hRb : 0 ≤ R ∧ R < 2147483000) (rk : inR k) : Pr G S σ h m R mX11_stories mX12_stories 8 7 [.int (iI k)] := by
  have hR0 := hR
  obtain ⟨hA, hM, hm, hK, hMR⟩ := hR
  obtain ⟨⟨hT, hMt, hmm, hlc, hld, hes, hek⟩, hss, hg, hdr, hte, hho, hbs, hvk⟩ := (hillOk_iff σ h).mp hK.1
  obtain ⟨qe, qb, qv, qt, qs, qa⟩ := id hMR
  have hs1 := hss.1
  have hm1 := hMt.1
  have hkn : (knF (σ (h + 171) 1) k) ≤ σ (h + 171) 1 ∨ ¬ (-1 ≤ k ∧ k ≤ σ (h + 171) 1) := by unfold knF; split <;> omega
  have eU : ∀ q : (knF (σ (h + 171) 1) k) ≤ σ (h + 171) 1, umS (σ (h + 171 + 1)) (σ (h + 4 + 1)) (ldF σ (h + 15)) (σ (h + 4) 2) (knF (σ (h + 171) 1) k) = umS (σ (h + 171 + 1)) (σ (h + 4 + 1)) (ldT (σ (h + 1 + 1)) (σ (h + 1) 2)) (σ (h + 4) 2) (knF (σ (h + 171) 1) k) := fun q => umS_ld (sn := σ (h + 171) 1) (fun i i0 i1 => hss.2 i i0 i1) q (fun c c0 c1 => hld c c0 (by omega))
  refine Pr_mk hR0 (c_X11_stories hA hT hMt hmm hlc hss hte rk) fun r S' τ q => ?_
  obtain ⟨hS, v, rfl, q1, q2⟩ := q
  have hS2 := hS.symm
  subst hS2
  by_cases hz : tsR σ h k = 0
  · obtain ⟨g, e⟩ := q2 hz
    have hk := tsR_0 hz
    have hk2 : (knF (σ (h + 171) 1) k) ≤ σ (h + 171) 1 := hkn.resolve_right (fun x => x hk.1)
    refine ⟨rfl, v, rfl, hk_tell hK (by omega) hk.1 g, fun b hb => g.1 b (by omega), fun H => ⟨_, c_X12_stories hM H.1 H.2.1.1 H.2.2.2.2.1 rk, fun r S'' μ q' => ?_⟩⟩
    obtain ⟨c1, c2, c3⟩ := q'
    obtain ⟨z1, z2⟩ := sJ_MR H c2.j (fun b hb => g.1 b (by omega))
    refine ⟨c1, ?_, z1, z2⟩
    rw [c3, if_neg (fun x => x hk.1), if_neg hk.2, e, g.2.2.2.1.2.2.2.1, eU hk2]
  · obtain ⟨e1, e2⟩ := q1 hz
    have e2s := e2.symm
    subst e2s
    refine ⟨rfl, v, rfl, hK.mono (by omega), fun _ _ => rfl, fun H => ⟨_, c_X12_stories hM H.1 H.2.1.1 H.2.2.2.2.1 rk, fun r S'' μ q' => ?_⟩⟩
    obtain ⟨c1, c2, c3⟩ := q'
    obtain ⟨z1, z2⟩ := sJ_MR H c2.j (fun _ _ => rfl)
    refine ⟨c1, ?_, z1, z2⟩
    obtain ⟨n1, n2⟩ := tsR_n hz
    rw [c3, e1, n2]
    by_cases hk : ¬ (-1 ≤ k ∧ k ≤ σ (h + 171) 1)
    · rw [if_pos hk, if_pos hk]
    · rw [if_neg hk, if_neg hk, if_pos (by omega), if_pos (by omega)]

theorem pr_story {G : GT} {S : Shp} {σ : Sto} {h m : Nat} {R : Int} {k i j : Int} (hR : Rel S σ h m R) (hRb : 0 ≤ R ∧ R < 2147483000) (rk : inR k) (ri : inR i) (rj : inR j) : Pr G S σ h m R mX11_story mX12_story 8 7 [.int (iI k), .int (iI i), .int (iI j)] := by
  have hR0 := hR
  obtain ⟨hA, hM, hm, hK, hMR⟩ := hR
  obtain ⟨⟨hT, hMt, hmm, hlc, hld, hes, hek⟩, hss, hg, hdr, hte, hho, hbs, hvk⟩ := (hillOk_iff σ h).mp hK.1
  obtain ⟨qe, qb, qv, qt, qs, qa⟩ := id hMR
  have hs1 := hss.1
  have hm1 := hMt.1
  have hkn : (knF (σ (h + 171) 1) k) ≤ σ (h + 171) 1 ∨ ¬ (-1 ≤ k ∧ k ≤ σ (h + 171) 1) := by unfold knF; split <;> omega
  have eU : ∀ q : (knF (σ (h + 171) 1) k) ≤ σ (h + 171) 1, umS (σ (h + 171 + 1)) (σ (h + 4 + 1)) (ldF σ (h + 15)) (σ (h + 4) 2) (knF (σ (h + 171) 1) k) = umS (σ (h + 171 + 1)) (σ (h + 4 + 1)) (ldT (σ (h + 1 + 1)) (σ (h + 1) 2)) (σ (h + 4) 2) (knF (σ (h + 171) 1) k) := fun q => umS_ld (sn := σ (h + 171) 1) (fun i i0 i1 => hss.2 i i0 i1) q (fun c c0 c1 => hld c c0 (by omega))
  refine Pr_mk hR0 (c_X11_story hA hT hMt hmm hlc hss hte rk ri rj) fun r S' τ q => ?_
  obtain ⟨hS, v, rfl, q1, q2⟩ := q
  have hS2 := hS.symm
  subst hS2
  by_cases hz : tsR σ h k = 0
  · obtain ⟨g, e⟩ := q2 hz
    have hk := tsR_0 hz
    have hk2 : (knF (σ (h + 171) 1) k) ≤ σ (h + 171) 1 := hkn.resolve_right (fun x => x hk.1)
    refine ⟨rfl, v, rfl, hk_tell hK (by omega) hk.1 g, fun b hb => g.1 b (by omega), fun H => ⟨_, c_X12_story hM H.1 H.2.1.1 H.2.2.2.2.1 rk ri rj, fun r S'' μ q' => ?_⟩⟩
    obtain ⟨c1, c2, v', c3, -, c4⟩ := q'
    obtain ⟨z1, z2⟩ := sJ_MR H c2.j (fun b hb => g.1 b (by omega))
    have g9 := g.2.2.2.1.2.2.2.1
    have g6 := g.2.2.2.1.2.2.2.2
    rw [eU hk2] at g9 g6
    refine ⟨c1, ?_, z1, z2⟩
    rw [c3, c4 hk _ g6, e, g9]
  · obtain ⟨e1, e2⟩ := q1 hz
    have e2s := e2.symm
    subst e2s
    refine ⟨rfl, v, rfl, hK.mono (by omega), fun _ _ => rfl, fun H => ⟨_, c_X12_story hM H.1 H.2.1.1 H.2.2.2.2.1 rk ri rj, fun r S'' μ q' => ?_⟩⟩
    obtain ⟨c1, c2, v', c3, c4, -⟩ := q'
    obtain ⟨z1, z2⟩ := sJ_MR H c2.j (fun _ _ => rfl)
    obtain ⟨n1, n2⟩ := tsR_n hz
    exact ⟨c1, by rw [c3, c4 n1, e1, n2], z1, z2⟩

theorem pr_next {G : GT} {S : Shp} {σ : Sto} {h m : Nat} {R : Int} {k w : Int} (hR : Rel S σ h m R) (hRb : 0 ≤ R ∧ R < 2147483000) (rk : inR k) (rw_ : inR w) : Pr G S σ h m R mX11_next mX12_next 8 7 [.int (iI k), .int (iI w)] := by
  have hR0 := hR
  obtain ⟨hA, hM, hm, hK, hMR⟩ := hR
  obtain ⟨⟨hT, hMt, hmm, hlc, hld, hes, hek⟩, hss, hg, hdr, hte, hho, hbs, hvk⟩ := (hillOk_iff σ h).mp hK.1
  obtain ⟨qe, qb, qv, qt, qs, qa⟩ := id hMR
  have hs1 := hss.1
  have hm1 := hMt.1
  have hkn : (knF (σ (h + 171) 1) k) ≤ σ (h + 171) 1 ∨ ¬ (-1 ≤ k ∧ k ≤ σ (h + 171) 1) := by unfold knF; split <;> omega
  have eU : ∀ q : (knF (σ (h + 171) 1) k) ≤ σ (h + 171) 1, umS (σ (h + 171 + 1)) (σ (h + 4 + 1)) (ldF σ (h + 15)) (σ (h + 4) 2) (knF (σ (h + 171) 1) k) = umS (σ (h + 171 + 1)) (σ (h + 4 + 1)) (ldT (σ (h + 1 + 1)) (σ (h + 1) 2)) (σ (h + 4) 2) (knF (σ (h + 171) 1) k) := fun q => umS_ld (sn := σ (h + 171) 1) (fun i i0 i1 => hss.2 i i0 i1) q (fun c c0 c1 => hld c c0 (by omega))
  refine Pr_mk hR0 (c_X11_next hA hT hMt hmm hlc hss hte hho rk rw_) fun r S' τ q => ?_
  obtain ⟨hS, v, rfl, q0, q1, q2⟩ := q
  have hS2 := hS.symm
  subst hS2
  by_cases hw : 0 ≤ w ∧ w ≤ 2
  · by_cases hz : tsR σ h k = 0
    · obtain ⟨ν, g, e0, e1⟩ := q2 hw hz
      clear q0 q1 q2
      have hk := tsR_0 hz
      have hk2 : (knF (σ (h + 171) 1) k) ≤ σ (h + 171) 1 := hkn.resolve_right (fun x => x hk.1)
      have ht := hk_tell hK (by omega) hk.1 g
      have g9 := g.2.2.2.1.2.2.2.1
      have g6 := g.2.2.2.1.2.2.2.2
      rw [eU hk2] at g9 g6
      by_cases h9 : ν (h + 183) 9 = 0
      · obtain ⟨e2, e3⟩ := e0 h9
        subst e3
        refine ⟨rfl, v, rfl, ht, fun b hb => g.1 b (by omega), fun H => ⟨_, c_X12_next hM H.1 H.2.1.1 H.2.2.2.2.1 rk rw_, fun r S'' μ q' => ?_⟩⟩
        obtain ⟨c1, c2, v', c3, -, -, c4⟩ := q'
        obtain ⟨z1, z2⟩ := sJ_MR H c2 (fun b hb => g.1 b (by omega))
        refine ⟨c1, ?_, z1, z2⟩
        rw [c3, (c4 ⟨hk.1, hw⟩ hk.2).1 (by rw [← g9]; exact h9), e2]
      · obtain ⟨f1, f2, f3, f4, f5⟩ := e1 h9
        have eg : ∀ b, b < h + 183 ∨ h + 461 ≤ b → τ b = σ b := fun b hb => (f1 b (by omega) (by omega)).trans (g.1 b (by omega))
        refine ⟨rfl, v, rfl, hk_hole ht f1 f2 f3 f4, fun b hb => eg b (by omega), fun H => ⟨_, c_X12_next hM H.1 H.2.1.1 H.2.2.2.2.1 rk rw_, fun r S'' μ q' => ?_⟩⟩
        obtain ⟨c1, c2, v', c3, -, -, c4⟩ := q'
        obtain ⟨z1, z2⟩ := sJ_MR H c2 eg
        refine ⟨c1, ?_, z1, z2⟩
        have e5 := (c4 ⟨hk.1, hw⟩ hk.2).2 (by rw [← g9]; exact h9) _ g6
        have hn : nhF (kapp ν h) (ν (h + 183) 9) (64 : Int).toNat = nhF (fun c p => lndS (σ (h + 4 + 1)) (ldT (σ (h + 1 + 1)) (σ (h + 1) 2)) (σ (h + 4) 2) (ν (h + 183 + 6) p) c) (ν (h + 183) 9) (64 : Int).toNat := nhF_congr fun c c0 c1 p p0 p1 => by
          unfold kapp lndS
          rw [g.1 (h + 4 + 1) (by omega), g.1 (h + 4) (by omega)]
          have hc : ldF ν (h + 15) c = ldF σ (h + 15) c := ldF_congr (fun b b0 b1 => g.1 b (by omega)) c0 (by omega)
          rw [hc]
          exact colS_eq (hld c c0 (by omega))
        rw [c3, e5, f5, hn, g9]
    · obtain ⟨e1, e2⟩ := q1 hw hz
      have e2s := e2.symm
      subst e2s
      refine ⟨rfl, v, rfl, hK.mono (by omega), fun _ _ => rfl, fun H => ⟨_, c_X12_next hM H.1 H.2.1.1 H.2.2.2.2.1 rk rw_, fun r S'' μ q' => ?_⟩⟩
      obtain ⟨c1, c2, v', c3, c4, c5, -⟩ := q'
      obtain ⟨z1, z2⟩ := sJ_MR H c2 (fun _ _ => rfl)
      obtain ⟨n1, n2⟩ := tsR_n hz
      refine ⟨c1, ?_, z1, z2⟩
      rw [c3, e1, n2]
      by_cases hk : -1 ≤ k ∧ k ≤ σ (h + 171) 1
      · rw [if_neg (fun x => x hk), if_pos (by omega), c5 ⟨hk, hw⟩ (by omega)]
      · rw [if_pos hk, c4 (fun x => hk x.1)]
  · obtain ⟨e1, e2⟩ := q0 hw
    have e2s := e2.symm
    subst e2s
    refine ⟨rfl, v, rfl, hK.mono (by omega), fun _ _ => rfl, fun H => ⟨_, c_X12_next hM H.1 H.2.1.1 H.2.2.2.2.1 rk rw_, fun r S'' μ q' => ?_⟩⟩
    obtain ⟨c1, c2, v', c3, c4, -⟩ := q'
    obtain ⟨z1, z2⟩ := sJ_MR H c2 (fun _ _ => rfl)
    exact ⟨c1, by rw [c3, e1, c4 (fun x => hw x.2)], z1, z2⟩

theorem tkS_f {μ : Sto} {h : Nat} {p : Int → Int} : ∀ {k : Nat}, tkS μ h p k (h + 1 + 1) = tkF (μ (h + 1 + 1)) (μ (h + 1) 2) (μ (h + 4 + 1)) p k
  | 0 => rfl
  | k + 1 => by
    have ih := tkS_f (μ := μ) (h := h) (p := p) (k := k)
    have en := tkS_n (μ := μ) (h := h) (p := p) (k := k)
    have e4 : tkS μ h p k (h + 4 + 1) = μ (h + 4 + 1) := tkS_ne (by omega) (by omega)
    show adS (tkS μ h p k) h (p (k : Int)) (h + 1 + 1) = _
    unfold adS
    rw [upS_ne (by omega), upS_same, ih, en, e4]
    rfl
theorem tFr_MR {τ μ σ : Sto} {m h : Nat} (H : MR τ m σ h) (c : tFr τ μ m) (g : kf τ σ h) (x : qE μ m τ h) : (∀ b, b < m → μ b = τ b) ∧ MR μ m τ h :=
  ⟨fun b hb => c.1 b (by omega), MR_E H (fun b hb => c.1 b (by omega)) (fun j hj => c.2 j (by omega) (by omega)) (fun b hb => g b (by omega)) x⟩
theorem pr_take {G : GT} {S : Shp} {σ : Sto} {h m : Nat} {R : Int} {k i : Int} (hR : Rel S σ h m R) (hRb : 0 ≤ R ∧ R < 2147483000) (rk : inR k) (ri : inR i) : Pr G S σ h m R mX11_take mX12_take 8 7 [.int (iI k), .int (iI i)] := by
  have hR0 := hR
  obtain ⟨hA, hM, hm, hK, hMR⟩ := hR
  obtain ⟨⟨hT, hMt, hmm, hlc, hld, hes, hek⟩, hss, hg, hdr, hte, hho, hbs, hvk⟩ := (hillOk_iff σ h).mp hK.1
  obtain ⟨qe, qb, qv, qt, qs, qa⟩ := id hMR
  have hs1 := hss.1
  have hm1 := hMt.1
  have hkn : (knF (σ (h + 171) 1) k) ≤ σ (h + 171) 1 ∨ ¬ (-1 ≤ k ∧ k ≤ σ (h + 171) 1) := by unfold knF; split <;> omega
  have eU : ∀ q : (knF (σ (h + 171) 1) k) ≤ σ (h + 171) 1, umS (σ (h + 171 + 1)) (σ (h + 4 + 1)) (ldF σ (h + 15)) (σ (h + 4) 2) (knF (σ (h + 171) 1) k) = umS (σ (h + 171 + 1)) (σ (h + 4 + 1)) (ldT (σ (h + 1 + 1)) (σ (h + 1) 2)) (σ (h + 4) 2) (knF (σ (h + 171) 1) k) := fun q => umS_ld (sn := σ (h + 171) 1) (fun i i0 i1 => hss.2 i i0 i1) q (fun c c0 c1 => hld c c0 (by omega))
  refine Pr_mk hR0 (c_X11_take hA hT hMt hmm hlc hss hte rk ri) fun r S' τ q => ?_
  obtain ⟨hS, v, rfl, q1, q2⟩ := q
  have hS2 := hS.symm
  subst hS2
  by_cases hz : tsR σ h k = 0
  · obtain ⟨ν, g, e0, e1⟩ := q2 hz
    clear q1 q2
    have hk := tsR_0 hz
    have hk2 : (knF (σ (h + 171) 1) k) ≤ σ (h + 171) 1 := hkn.resolve_right (fun x => x hk.1)
    have ht := hk_tell hK (by omega) hk.1 g
    have g9 := g.2.2.2.1.2.2.2.1
    have g6 := g.2.2.2.1.2.2.2.2
    by_cases hi : 0 ≤ i ∧ i < ν (h + 183) 9
    · obtain ⟨f1, f2⟩ := e1 hi
      have hfi := telGood_fit g.2.2.2.1 (by omega) (i := i) (by omega) (by omega)
      have hf0 : 0 ≤ ν (h + 183 + 6) i ∧ ν (h + 183 + 6) i < nS (σ (h + 4) 2) := by omega
      have hl0 := lnE_0 (σ (h + 4) 2) (ν (h + 183 + 6) i)
      have hlm := lnE_m (m := σ (h + 4) 2) (s := ν (h + 183 + 6) i) (by omega) hf0
      have e40 : ν (h + 4) = σ (h + 4) := g.1 _ (by omega)
      have e10 : ν (h + 1) = σ (h + 1) := g.1 _ (by omega)
      have hPb : ∀ q : Int, 0 ≤ q → q < ((lnE (σ (h + 4) 2) (ν (h + 183 + 6) i)).toNat : Nat) → 0 ≤ prt (σ (h + 4) 2) (ν (h + 183 + 6) i) q ∧ prt (σ (h + 4) 2) (ν (h + 183 + 6) i) q < ν (h + 4) 2 := fun q q0 q1 => by
        have hc : (((ν (h + 183 + 6) i).toNat : Nat) : Int) = ν (h + 183 + 6) i := by omega
        have hp := prt_b (m := σ (h + 4) 2) (s := 0) (j := q) (by omega) q0 (ν (h + 183 + 6) i).toNat (by omega) (by rw [hc]; omega)
        rw [hc] at hp
        rw [e40]
        exact hp
      have hTk : taOk (tkS ν h (prt (σ (h + 4) 2) (ν (h + 183 + 6) i)) (lnE (σ (h + 4) 2) (ν (h + 183 + 6) i)).toNat) (h + 1) := tkS_ok (taOk_congr e10 (g.1 _ (by omega)) hT) (taOk_congr e40 (g.1 _ (by omega)) hMt) hPb (by rw [e10]; omega)
      have eg : ∀ b, b ≠ h + 1 → b ≠ h + 1 + 1 → tkS ν h (prt (σ (h + 4) 2) (ν (h + 183 + 6) i)) (lnE (σ (h + 4) 2) (ν (h + 183 + 6) i)).toNat b = ν b := fun b b1 b2 => tkS_ne b1 b2
      obtain ⟨k1, k2, k3⟩ := rn_step ht hTk (fun b b1 b2 _ _ => eg b b1 (by omega))
      have k4 : kf τ σ h := fun b hb => by
        rw [f2, k3 b hb]
        exact g.1 b (by omega)
      refine ⟨rfl, v, rfl, by rw [f2]; exact k1, fun b hb => by rw [f2, k2 b hb]; exact g.1 b (by omega), fun H => ⟨_, c_X12_take hM H.1 H.2.1.1 H.2.2.2.2.1 rk H.2.1.2 ri, fun r S'' μ q' => ?_⟩⟩
      rw [eU hk2] at g9 g6
      obtain ⟨c1, c2, v', F, N, c3, c4, -, -, c5⟩ := q'
      obtain ⟨d1, d2, d3⟩ := c5 hk (by rw [← g9]; exact hi) _ g6
      have x : qE μ m τ h := by
        refine qE_of c4 ?_ ?_
        · rw [f2, rnS_ne (by omega), tkS_f, e10, g.1 _ (by omega), g.1 _ (by omega), d2]
        · rw [f2, rnS_ne (by omega), tkS_n, e10, d3]
          omega
      obtain ⟨z1, z2⟩ := tFr_MR H c2 k4 x
      exact ⟨c1, by rw [c3, d1, f1], z1, z2⟩
    · obtain ⟨f1, f2⟩ := e0 hi
      subst f2
      refine ⟨rfl, v, rfl, ht, fun b hb => g.1 b (by omega), fun H => ⟨_, c_X12_take hM H.1 H.2.1.1 H.2.2.2.2.1 rk H.2.1.2 ri, fun r S'' μ q' => ?_⟩⟩
      rw [eU hk2] at g9 g6
      obtain ⟨c1, c2, v', F, N, c3, c4, -, c5, -⟩ := q'
      obtain ⟨d1, d2, d3⟩ := c5 hk (by rw [← g9]; exact hi)
      obtain ⟨z1, z2⟩ := tFr_MR H c2 (fun b hb => g.1 b (by omega)) (qE_of c4 (by rw [d2]; exact g.1 _ (by omega)) (by rw [d3, g.1 _ (by omega)]))
      exact ⟨c1, by rw [c3, d1, f1], z1, z2⟩
  · obtain ⟨e1, e2⟩ := q1 hz
    have e2s := e2.symm
    subst e2s
    refine ⟨rfl, v, rfl, hK.mono (by omega), fun _ _ => rfl, fun H => ⟨_, c_X12_take hM H.1 H.2.1.1 H.2.2.2.2.1 rk H.2.1.2 ri, fun r S'' μ q' => ?_⟩⟩
    obtain ⟨c1, c2, v', F, N, c3, c4, c5, -⟩ := q'
    obtain ⟨n1, n2⟩ := tsR_n hz
    obtain ⟨d1, d2, d3⟩ := c5 n1
    obtain ⟨z1, z2⟩ := tFr_MR H c2 (fun _ _ => rfl) (qE_of c4 d2.symm d3.symm)
    exact ⟨c1, by rw [c3, d1, e1, n2], z1, z2⟩


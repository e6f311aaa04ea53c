theorem bAnd255 (a : Int) : 0 ≤ bAnd a 255 ∧ bAnd a 255 ≤ 255 := by
  unfold bAnd
  have h : (iI a &&& iI 255).toBitVec.toNat ≤ 255 := by
    rw [Int32.toBitVec_and, BitVec.toNat_and]
    exact Nat.le_trans Nat.and_le_right (by decide)
  rw [show (iI a &&& iI 255).toInt = (iI a &&& iI 255).toBitVec.toInt from rfl, BitVec.toInt_eq_toNat_of_lt (by omega)]
  omega
theorem bsOk_fd {B : Int → Int} {z n : Int} {b : Int64} (H : bsOk B z) (h0 : 1 ≤ n) (h1 : z + n ≤ 300) : bsOk (fdF B z n (n - 1) b) (z + n) := by
  obtain ⟨⟨z0, z1⟩, H2⟩ := H
  refine ⟨⟨by omega, h1⟩, fun i i0 i1 => ?_⟩
  unfold fdF
  by_cases q : z ≤ i ∧ i < z + n
  · rw [if_pos q]
    exact bAnd255 _
  · rw [if_neg q]
    exact H2 i i0 (by omega)
theorem Pr_g {G : GT} {S : Shp} {σ : Sto} {h m : Nat} {R : Int} {y y' : MY} {d d' : Nat} {as : List Value} (hR : Rel S σ h m R) {v : Int} {C : Prop} {T : Sto → Prop} (Hc : PMet G y d 0 0 (.ref h :: as) S σ (cP v S σ C T)) (hT : ∀ τ, C → T τ → hkO τ h R ∧ hFr σ τ h)
    (H1 : ∀ τ, C → T τ → MR τ m σ h → ∃ Qm : Option Value → Shp → Sto → Prop, PMet G y' d' 0 0 (.ref m :: as) S τ Qm ∧ ∀ r S' μ, Qm r S' μ → S' = S ∧ r = some (.int (iI v)) ∧ (∀ b, b < m → μ b = τ b) ∧ MR μ m τ h)
    (H0 : ¬ C → MR σ m σ h → ∃ Qm : Option Value → Shp → Sto → Prop, PMet G y' d' 0 0 (.ref m :: as) S σ Qm ∧ ∀ r S' μ, Qm r S' μ → S' = S ∧ r = some (.int (iI v)) ∧ (∀ b, b < m → μ b = σ b) ∧ MR μ m σ h) : Pr G S σ h m R y y' d d' as := by
  refine Pr_mk hR Hc fun r S' τ q => ?_
  obtain ⟨hS, rfl, q1, q2⟩ := q
  have hS2 := hS.symm
  subst hS2
  by_cases hc : C
  · obtain ⟨a1, a2⟩ := hT τ hc (q1 hc)
    exact ⟨rfl, v, rfl, a1.mono (by omega), a2, fun H => H1 τ hc (q1 hc) H⟩
  · have e := (q2 hc).symm
    subst e
    exact ⟨rfl, v, rfl, hR.2.2.2.1.mono (by omega), fun _ _ => rfl, fun H => H0 hc H⟩
theorem pr_sight {G : GT} {S : Shp} {σ : Sto} {h m : Nat} {R : Int} {k x y b p q : Int} (hR : Rel S σ h m R) (hRb : 0 ≤ R ∧ R < 2147483000) (rk : inR k) (rx : inR x) (ry : inR y) (rb : inR b) (rp : inR p) (rq : inR q) : Pr G S σ h m R mX11_sight mX12_sight 4 3 [.int (iI k), .int (iI x), .int (iI y), .int (iI b), .int (iI p), .int (iI q)] := by
  have hR0 := hR
  obtain ⟨hA, hM, hm, hK, hMR⟩ := hR
  obtain ⟨⟨hT, hMt, hmm, hlc, hld, hes, hek⟩, hss, hg, hdr, hte, hho, hbs, hvk⟩ := (hillOk_iff σ h).mp hK.1
  obtain ⟨qe, qb, qv, qt, qs, qa⟩ := id hMR
  refine Pr_g hR0 (PMet.weaken (c_X11_sight hA hss rk rx ry rb rp rq) cP_if) (fun τ hc e => ?_) (fun τ hc e H => ⟨_, c_X12_sight hM H.2.2.2.2.1 rk rx ry rb rp rq, fun r S' μ q => ?_⟩) (fun hc H => ⟨_, c_X12_sight hM H.2.2.2.2.1 rk rx ry rb rp rq, fun r S' μ q => ?_⟩)
  · have hw := fun f => sgWf_new (f := f) (n := σ (h + 171) 1) hc.1 rp rq
    have hc2 := hc.2
    clear hc
    refine ⟨hk_doubt hK (fun b _ _ b3 b4 b5 => by rw [e, upS_ne (by omega), upS_ne (by omega), upS_ne (by omega)]) (by rw [e, upS_same]) (taOk_congr (by rw [e, upS_ne (by omega), upS_ne (by omega), upS_ne (by omega)]) (by rw [e, upS_ne (by omega), upS_ne (by omega), upS_ne (by omega)]) hMt) (by rw [e, upS_ne (by omega), upS_ne (by omega), upS_ne (by omega)]; exact hmm) ?_, fun b hb => by rw [e, upS_ne (by omega), upS_ne (by omega), upS_ne (by omega)]⟩
    have hs1 := hss.1
    unfold hlS sgsOk
    rw [e, upS_ne (show h + 171 ≠ h + 183 by omega), upS_same, up1_same, upS_ne (show h + 171 + 1 ≠ h + 183 by omega), upS_ne (show h + 171 + 1 ≠ h + 171 by omega), upS_same]
    refine ⟨by omega, fun i i0 i1 => ?_⟩
    by_cases ei : i = σ (h + 171) 1
    · rw [ei]
      exact hw _
    · exact sgWf_old (by omega) (hss.2 i i0 (by omega))
  · obtain ⟨q1, q2, q3, q4, q5⟩ := q
    rw [if_pos hc, if_pos hc] at q5
    clear hc
    refine ⟨q1, q2, fun b hb => q3 b (by omega), MR_S H (fun b hb => q3 b (by omega)) (fun j hj => q4 j (by omega)) (fun b hb => by rw [e, upS_ne (by omega), upS_ne (by omega), upS_ne (by omega)]) ?_⟩
    unfold qS
    rw [e, upS_ne (show h + 171 ≠ h + 183 by omega), upS_same, up1_same, upS_ne (show h + 171 + 1 ≠ h + 183 by omega), upS_ne (show h + 171 + 1 ≠ h + 171 by omega), upS_same]
    exact q5
  · obtain ⟨q1, q2, q3, q4, q5⟩ := q
    rw [if_neg hc, if_neg hc] at q5
    clear hc
    exact ⟨q1, q2, fun b hb => q3 b (by omega), MR_S H (fun b hb => q3 b (by omega)) (fun j hj => q4 j (by omega)) (fun _ _ => rfl) q5⟩

theorem pr_forget {G : GT} {S : Shp} {σ : Sto} {h m : Nat} {R : Int}  (hR : Rel S σ h m R) (hRb : 0 ≤ R ∧ R < 2147483000)  : Pr G S σ h m R mX11_forget mX12_forget 2 0 [] := by
  have hR0 := hR
  obtain ⟨hA, hM, hm, hK, hMR⟩ := hR
  obtain ⟨⟨hT, hMt, hmm, hlc, hld, hes, hek⟩, hss, hg, hdr, hte, hho, hbs, hvk⟩ := (hillOk_iff σ h).mp hK.1
  obtain ⟨qe, qb, qv, qt, qs, qa⟩ := id hMR
  have hs1 := hss.1
  refine Pr_g hR0 (PMet.weaken (c_X11_forget hA hss) cP_ifn) (fun τ hc e => ?_) (fun τ hc e H => ⟨_, c_X12_forget hM H.2.2.2.2.1, fun r S' μ q => ?_⟩) (fun hc H => ⟨_, c_X12_forget hM H.2.2.2.2.1, fun r S' μ q => ?_⟩)
  · refine ⟨hk_doubt hK (fun b _ _ b3 b4 b5 => by rw [e, upS_ne (by omega), upS_ne (by omega)]) (by rw [e, upS_same]) (taOk_congr (by rw [e, upS_ne (by omega), upS_ne (by omega)]) (by rw [e, upS_ne (by omega), upS_ne (by omega)]) hMt) (by rw [e, upS_ne (by omega), upS_ne (by omega)]; exact hmm) ?_, fun b hb => by rw [e, upS_ne (by omega), upS_ne (by omega)]⟩
    unfold hlS sgsOk
    rw [e, upS_ne (show h + 171 ≠ h + 183 by omega), upS_same, up1_same, upS_ne (show h + 171 + 1 ≠ h + 183 by omega), upS_ne (show h + 171 + 1 ≠ h + 171 by omega)]
    exact ⟨by omega, fun i i0 i1 => hss.2 i i0 (by omega)⟩
  · obtain ⟨q1, q2, q3, q4, q5⟩ := q
    rw [if_neg hc] at q5
    refine ⟨q1, q2, fun b hb => q3 b (by omega), MR_S H (fun b hb => q3 b (by omega)) (fun j hj => q4 j (by omega)) (fun b hb => by rw [e, upS_ne (by omega), upS_ne (by omega)]) ?_⟩
    unfold qS
    rw [e, upS_ne (show h + 171 ≠ h + 183 by omega), upS_same, up1_same, upS_ne (show h + 171 + 1 ≠ h + 183 by omega), upS_ne (show h + 171 + 1 ≠ h + 171 by omega)]
    exact q5
  · obtain ⟨q1, q2, q3, q4, q5⟩ := q
    rw [if_pos (Classical.byContradiction fun x => hc x)] at q5
    exact ⟨q1, q2, fun b hb => q3 b (by omega), MR_S H (fun b hb => q3 b (by omega)) (fun j hj => q4 j (by omega)) (fun _ _ => rfl) q5⟩

theorem pr_maybe {G : GT} {S : Shp} {σ : Sto} {h m : Nat} {R : Int} {k c0 c1 c2 c3 c4 : Int} (hR : Rel S σ h m R) (hRb : 0 ≤ R ∧ R < 2147483000) (rk : inR k) (rc0 : inR c0) (rc1 : inR c1) (rc2 : inR c2) (rc3 : inR c3) (rc4 : inR c4) : Pr G S σ h m R mX11_maybe mX12_maybe 7 3 [.int (iI k), .int (iI c0), .int (iI c1), .int (iI c2), .int (iI c3), .int (iI c4)] := by
  have hR0 := hR
  obtain ⟨hA, hM, hm, hK, hMR⟩ := hR
  obtain ⟨⟨hT, hMt, hmm, hlc, hld, hes, hek⟩, hss, hg, hdr, hte, hho, hbs, hvk⟩ := (hillOk_iff σ h).mp hK.1
  obtain ⟨qe, qb, qv, qt, qs, qa⟩ := id hMR
  refine Pr_g hR0 (PMet.weaken (c_X11_maybe hA hMt hmm rk rc0 rc1 rc2 rc3 rc4) cP_if) (fun τ hc e => ?_) (fun τ hc e H => ⟨_, c_X12_maybe hM H.2.1.1 rk rc0 rc1 rc2 rc3 rc4, fun r S' μ q => ?_⟩) (fun hc H => ⟨_, c_X12_maybe hM H.2.1.1 rk rc0 rc1 rc2 rc3 rc4, fun r S' μ q => ?_⟩)
  · have hM1 := hMt.1
    have hc1 := taOk_ad hMt rfl (by have := hc.2; clear hc; omega) hc.1
    have hc2 := hc.2
    clear hc
    refine ⟨hk_doubt hK (fun b b1 b2 _ _ b5 => by rw [e, upS_ne (by omega), upS_ne (by omega), upS_ne (by omega)]) (by rw [e, upS_same]) (taOk_congr (σ := upS (upS σ (h + 4 + 1) (adF (σ (h + 4 + 1)) (σ (h + 4) 2) k c0 c1 c2 c3 c4)) (h + 4) (up1 (σ (h + 4)) 2 (σ (h + 4) 2 + 1))) (by rw [e, upS_ne (by omega)]) (by rw [e, upS_ne (by omega)]) hc1) ?_ (hlS_congr (by rw [e, upS_ne (by omega), upS_ne (by omega), upS_ne (by omega)]) (by rw [e, upS_ne (by omega), upS_ne (by omega), upS_ne (by omega)]) hss), fun b hb => by rw [e, upS_ne (by omega), upS_ne (by omega), upS_ne (by omega)]⟩
    rw [e, upS_ne (show h + 4 ≠ h + 183 by omega), upS_same, up1_same]
    omega
  · obtain ⟨q1, q2, q3, q4, q5⟩ := q
    rw [if_pos hc, if_pos hc] at q5
    clear hc
    refine ⟨q1, q2, fun b hb => q3 b (by omega), MR_B H (fun b hb => q3 b (by omega)) (fun j hj => q4 j (by omega)) (fun b hb => by rw [e, upS_ne (by omega), upS_ne (by omega), upS_ne (by omega)]) ?_⟩
    unfold qB
    rw [e, upS_ne (show h + 4 ≠ h + 183 by omega), upS_same, up1_same, upS_ne (show h + 4 + 1 ≠ h + 183 by omega), upS_ne (show h + 4 + 1 ≠ h + 4 by omega), upS_same]
    exact ⟨q5, nzR_ad H.2.1.2⟩
  · obtain ⟨q1, q2, q3, q4, q5⟩ := q
    rw [if_neg hc, if_neg hc] at q5
    clear hc
    exact ⟨q1, q2, fun b hb => q3 b (by omega), MR_B H (fun b hb => q3 b (by omega)) (fun j hj => q4 j (by omega)) (fun _ _ => rfl) ⟨q5, H.2.1.2⟩⟩

theorem pr_never {G : GT} {S : Shp} {σ : Sto} {h m : Nat} {R : Int}  (hR : Rel S σ h m R) (hRb : 0 ≤ R ∧ R < 2147483000)  : Pr G S σ h m R mX11_never mX12_never 2 0 [] := by
  have hR0 := hR
  obtain ⟨hA, hM, hm, hK, hMR⟩ := hR
  obtain ⟨⟨hT, hMt, hmm, hlc, hld, hes, hek⟩, hss, hg, hdr, hte, hho, hbs, hvk⟩ := (hillOk_iff σ h).mp hK.1
  obtain ⟨qe, qb, qv, qt, qs, qa⟩ := id hMR
  have hM1 := hMt.1
  refine Pr_g hR0 (PMet.weaken (c_X11_never hA hMt hmm) cP_1) (fun τ hc e => ?_) (fun τ hc e H => ⟨_, c_X12_never hM H.2.1.1, fun r S' μ q => ?_⟩) (fun hc => absurd trivial hc)
  · refine ⟨hk_doubt hK (fun b b1 b2 _ _ b5 => by rw [e, upS_ne (by omega), upS_ne (by omega)]) (by rw [e, upS_same]) (taOk_congr (σ := upS σ (h + 4) (up1 (σ (h + 4)) 2 0)) (by rw [e, upS_ne (by omega)]) (by rw [e, upS_ne (by omega)]) (taOk_up hMt (by omega) (by omega))) ?_ (hlS_congr (by rw [e, upS_ne (by omega), upS_ne (by omega)]) (by rw [e, upS_ne (by omega), upS_ne (by omega)]) hss), fun b hb => by rw [e, upS_ne (by omega), upS_ne (by omega)]⟩
    rw [e, upS_ne (show h + 4 ≠ h + 183 by omega), upS_same, up1_same]
    omega
  · obtain ⟨q1, q2, q3, q4, q5⟩ := q
    refine ⟨q1, q2, fun b hb => q3 b (by omega), MR_B H (fun b hb => q3 b (by omega)) (fun j hj => q4 j (by omega)) (fun b hb => by rw [e, upS_ne (by omega), upS_ne (by omega)]) ?_⟩
    unfold qB
    rw [e, upS_ne (show h + 4 ≠ h + 183 by omega), upS_same, up1_same, upS_ne (show h + 4 + 1 ≠ h + 183 by omega), upS_ne (show h + 4 + 1 ≠ h + 4 by omega)]
    exact ⟨q5, fun i i0 i1 => by omega⟩

theorem pr_claim {G : GT} {S : Shp} {σ : Sto} {h m : Nat} {R : Int} {a b w : Int} (hR : Rel S σ h m R) (hRb : 0 ≤ R ∧ R < 2147483000) (ra : inR a) (rb : inR b) (rw : inR w) : Pr G S σ h m R mX11_claim mX12_claim 2 1 [.int (iI a), .int (iI b), .int (iI w)] := by
  have hR0 := hR
  obtain ⟨hA, hM, hm, hK, hMR⟩ := hR
  obtain ⟨⟨hT, hMt, hmm, hlc, hld, hes, hek⟩, hss, hg, hdr, hte, hho, hbs, hvk⟩ := (hillOk_iff σ h).mp hK.1
  obtain ⟨qe, qb, qv, qt, qs, qa⟩ := id hMR
  refine Pr_g hR0 (PMet.weaken (c_X11_claim hA hg.1 ra rb rw) cP_if) (fun τ hc e => ?_) (fun τ hc e H => ⟨_, c_X12_claim hM H.2.2.2.2.2 ra rb rw, fun r S' μ q => ?_⟩) (fun hc H => ⟨_, c_X12_claim hM H.2.2.2.2.2 ra rb rw, fun r S' μ q => ?_⟩)
  · have eg : ∀ b, b ≠ h + 173 → b ≠ h + 173 + 1 → τ b = σ b := fun b b1 b2 => by rw [e, upS_ne b1, upS_ne b2]
    refine ⟨hk_cg hK (fun b hb => eg b (by omega) (by omega)) (hE_congr hK fun b b0 b1 => eg b (by omega) (by omega)) ?_ (drOk_congr (eg _ (by omega) (by omega)) (eg _ (by omega) (by omega)) (eg _ (by omega) (by omega)) (eg _ (by omega) (by omega)) hdr) (by rw [eg _ (by omega) (by omega), eg _ (by omega) (by omega)]; exact hbs) (hlV_congr (eg _ (by omega) (by omega)) (fun b b0 b1 => eg b (by omega) (by omega)) hvk), fun b hb => eg b (by omega) (by omega)⟩
    have hg1 := hg.1
    unfold hlG
    rw [e, upS_same, up1_same, upS_ne (show h + 173 + 1 ≠ h + 173 by omega), upS_same]
    refine ⟨by omega, fun j j0 j1 => ?_⟩
    have hj := hg.2 j j0 j1
    by_cases q : j = 8 * a + b
    · rw [q, up1_same]
      rw [q] at hj
      omega
    · rw [up1_ne q]
      omega
  · obtain ⟨q1, q2, q3, q4, q5⟩ := q
    rw [if_pos hc, if_pos hc] at q5
    clear hc
    refine ⟨q1, q2, fun b hb => q3 b (by omega), MR_A H (fun b hb => q3 b (by omega)) (fun j hj => q4 j (by omega)) (fun b hb => by rw [e, upS_ne (by omega), upS_ne (by omega)]) ?_⟩
    unfold qA
    rw [e, upS_same, up1_same, upS_ne (show h + 173 + 1 ≠ h + 173 by omega), upS_same]
    exact q5
  · obtain ⟨q1, q2, q3, q4, q5⟩ := q
    rw [if_neg hc, if_neg hc] at q5
    clear hc
    exact ⟨q1, q2, fun b hb => q3 b (by omega), MR_A H (fun b hb => q3 b (by omega)) (fun j hj => q4 j (by omega)) (fun _ _ => rfl) q5⟩

theorem pr_row {G : GT} {S : Shp} {σ : Sto} {h m : Nat} {R : Int} {n i : Int} (hR : Rel S σ h m R) (hRb : 0 ≤ R ∧ R < 2147483000) (rn : inR n) (ri : inR i) : Pr G S σ h m R mX11_row mX12_row 5 2 [.int (iI n), .int (iI i)] := by
  have hR0 := hR
  obtain ⟨hA, hM, hm, hK, hMR⟩ := hR
  obtain ⟨⟨hT, hMt, hmm, hlc, hld, hes, hek⟩, hss, hg, hdr, hte, hho, hbs, hvk⟩ := (hillOk_iff σ h).mp hK.1
  obtain ⟨qe, qb, qv, qt, qs, qa⟩ := id hMR
  refine Pr_g hR0 (C := True) (T := fun τ => ∃ f : Int → Int, τ = upS σ (h + 173 + 2) f) (PMet.weaken (c_X11_row hA (hwk hg) rn ri) fun r S' τ q => ⟨q.1, q.2.1, fun _ => q.2.2, fun x => absurd trivial x⟩) (fun τ hc e => ?_) (fun τ hc e H => ⟨_, c_X12_row hM H.2.2.2.2.2 rn ri, fun r S' μ q => ?_⟩) (fun hc => absurd trivial hc)
  · obtain ⟨f, e⟩ := e
    rw [e]
    exact ⟨hk_same hK (fun b _ _ _ _ _ _ _ _ b7 => upS_ne (by omega)), fun b hb => upS_ne (by omega)⟩
  · obtain ⟨q1, q2, g, q3⟩ := q
    obtain ⟨f, e⟩ := e
    exact ⟨q1, q2, fun b hb => by rw [q3, upS_ne (by omega)], MR_0 H (fun b hb => by rw [q3, upS_ne (by omega)]) (fun j _ => by rw [q3, upS_ne (by omega)]) (fun b hb => by rw [e, upS_ne (by omega)])⟩

theorem pr_sure {G : GT} {S : Shp} {σ : Sto} {h m : Nat} {R : Int} {n a b : Int} (hR : Rel S σ h m R) (hRb : 0 ≤ R ∧ R < 2147483000) (rn : inR n) (ra : inR a) (rb : inR b) : Pr G S σ h m R mX11_sure mX12_sure 5 2 [.int (iI n), .int (iI a), .int (iI b)] := by
  have hR0 := hR
  obtain ⟨hA, hM, hm, hK, hMR⟩ := hR
  obtain ⟨⟨hT, hMt, hmm, hlc, hld, hes, hek⟩, hss, hg, hdr, hte, hho, hbs, hvk⟩ := (hillOk_iff σ h).mp hK.1
  obtain ⟨qe, qb, qv, qt, qs, qa⟩ := id hMR
  refine Pr_g hR0 (C := True) (T := fun τ => ∃ f : Int → Int, τ = upS σ (h + 173 + 2) f) (PMet.weaken (c_X11_sure hA (hwk hg) rn ra rb) fun r S' τ q => ⟨q.1, q.2.1, fun _ => q.2.2, fun x => absurd trivial x⟩) (fun τ hc e => ?_) (fun τ hc e H => ⟨_, c_X12_sure hM H.2.2.2.2.2 rn ra rb, fun r S' μ q => ?_⟩) (fun hc => absurd trivial hc)
  · obtain ⟨f, e⟩ := e
    rw [e]
    exact ⟨hk_same hK (fun b _ _ _ _ _ _ _ _ b7 => upS_ne (by omega)), fun b hb => upS_ne (by omega)⟩
  · obtain ⟨q1, q2, g, q3⟩ := q
    obtain ⟨f, e⟩ := e
    exact ⟨q1, q2, fun b hb => by rw [q3, upS_ne (by omega)], MR_0 H (fun b hb => by rw [q3, upS_ne (by omega)]) (fun j _ => by rw [q3, upS_ne (by omega)]) (fun b hb => by rw [e, upS_ne (by omega)])⟩


/-- a class's call that does something, or nothing -/
def cP (v : Int) (S : Shp) (σ : Sto) (C : Prop) (T : Sto → Prop) : Option Value → Shp → Sto → Prop := fun r S' τ => S' = S ∧ r = some (.int (iI v)) ∧ (C → T τ) ∧ (¬ C → τ = σ)
theorem cP_if {v : Int} {S : Shp} {σ T : Sto} {C : Prop} [Decidable C] : ∀ r S' τ, isP (some (.int (iI v))) S (if C then T else σ) r S' τ → cP v S σ C (fun τ => τ = T) r S' τ := fun r S' τ q => by
  obtain ⟨rfl, rfl, rfl⟩ := q
  exact ⟨rfl, rfl, fun hc => if_pos hc, fun hc => if_neg hc⟩
theorem cP_ifn {v : Int} {S : Shp} {σ T : Sto} {C : Prop} [Decidable C] : ∀ r S' τ, isP (some (.int (iI v))) S (if C then σ else T) r S' τ → cP v S σ (¬ C) (fun τ => τ = T) r S' τ := fun r S' τ q => by
  obtain ⟨rfl, rfl, rfl⟩ := q
  exact ⟨rfl, rfl, fun hc => if_neg hc, fun hc => if_pos (Classical.byContradiction fun x => hc x)⟩
theorem cP_1 {v : Int} {S : Shp} {σ T : Sto} : ∀ r S' τ, isP (some (.int (iI v))) S T r S' τ → cP v S σ True (fun τ => τ = T) r S' τ := fun r S' τ q => by
  obtain ⟨rfl, rfl, rfl⟩ := q
  exact ⟨rfl, rfl, fun _ => rfl, fun hc => absurd trivial hc⟩
/-- what a call of the events leaves as it is -/
def kf (τ σ : Sto) (h : Nat) : Prop := ∀ b, b = h + 4 ∨ b = h + 5 ∨ b = h + 11 ∨ (h + 461 ≤ b ∧ b < h + 473) ∨ b = h + 12 ∨ b = h + 13 ∨ b = h + 171 ∨ b = h + 172 ∨ b = h + 173 ∨ b = h + 174 → τ b = σ b
theorem Pr_e {G : GT} {S : Shp} {σ : Sto} {h m : Nat} {R : Int} {y y' : MY} {d d' : Nat} {as : List Value} (hR : Rel S σ h m R) {v : Int} {C : Prop} {T : Sto → Prop} (Hc : PMet G y d 0 0 (.ref h :: as) S σ (cP v S σ C T)) (hT : ∀ τ, C → T τ → hkO τ h R ∧ hFr σ τ h ∧ kf τ σ h)
    (Hm : ∀ τ, qE τ m σ h → MR τ m σ h → ∃ Qm : Option Value → Shp → Sto → Prop, PMet G y' d' 0 0 (.ref m :: as) S τ Qm ∧ ∀ r S' μ, Qm r S' μ → S' = S ∧ r = some (.int (iI v)) ∧ eFr τ μ m ∧ (∀ τ', C → T τ' → qE μ m τ' h) ∧ (¬ C → qE μ m σ h)) : Pr G S σ h m R y y' d d' as := by
  refine Pr_mk hR Hc fun r S' τ q => ?_
  obtain ⟨hS, rfl, q1, q2⟩ := q
  have hS2 := hS.symm
  subst hS2
  by_cases hc : C
  · obtain ⟨a1, a2, a3⟩ := hT τ hc (q1 hc)
    refine ⟨rfl, v, rfl, a1.mono (by omega), a2, fun H => ?_⟩
    obtain ⟨Qm, b1, b2⟩ := Hm τ H.1 H
    refine ⟨Qm, b1, fun r' S'' μ q' => ?_⟩
    obtain ⟨c1, c2, c3, c4, -⟩ := b2 r' S'' μ q'
    exact ⟨c1, c2, fun b hb => c3.1 b (by omega), MR_E H (fun b hb => c3.1 b (by omega)) (fun j hj => c3.2 j (by omega)) (fun b hb => a3 b (by omega)) (c4 τ hc (q1 hc))⟩
  · have e := (q2 hc).symm
    subst e
    refine ⟨rfl, v, rfl, hR.2.2.2.1.mono (by omega), fun _ _ => rfl, fun H => ?_⟩
    obtain ⟨Qm, b1, b2⟩ := Hm σ H.1 H
    refine ⟨Qm, b1, fun r' S'' μ q' => ?_⟩
    obtain ⟨c1, c2, c3, -, c5⟩ := b2 r' S'' μ q'
    exact ⟨c1, c2, fun b hb => c3.1 b (by omega), MR_E H (fun b hb => c3.1 b (by omega)) (fun j hj => c3.2 j (by omega)) (fun _ _ => rfl) (c5 hc)⟩
/-- other events -/
theorem rn_step {σ μ : Sto} {h : Nat} {R : Int} (H : hkO σ h R) (hT : taOk μ (h + 1)) (e : ∀ b, b ≠ h + 1 → b ≠ h + 2 → b ≠ h + 3 → b ≠ h + 148 → μ b = σ b) : hkO (rnS μ h) h R ∧ hFr σ (rnS μ h) h ∧ kf (rnS μ h) σ h := by
  refine ⟨hk_rn H hT ?_ (fun b b0 _ _ _ _ _ _ b7 _ => e b (by omega) (by omega) (by omega) b7), fun b hb => ?_, fun b hb => ?_⟩
  · rw [e _ (by omega) (by omega) (by omega) (by omega), e _ (by omega) (by omega) (by omega) (by omega)]
    obtain ⟨-, -, -, -, -, -, hB, -⟩ := (hillOk_iff σ h).mp H.1
    exact hB
  · rw [rnS_ne (by omega)]
    exact e b (by omega) (by omega) (by omega) (by omega)
  · rw [rnS_ne (by omega)]
    exact e b (by omega) (by omega) (by omega) (by omega)
theorem qE_of {μ τ : Sto} {m h : Nat} {F : Int → Int} {N : Int} (H : mCore μ m F N) (e1 : τ (h + 1 + 1) = F) (e2 : τ (h + 1) 2 = N) : qE μ m τ h := by
  unfold qE
  rw [e1, e2]
  exact H
theorem pr_event {G : GT} {S : Shp} {σ : Sto} {h m : Nat} {R : Int} {k c0 c1 c2 c3 c4 : Int} (hR : Rel S σ h m R) (hRb : 0 ≤ R ∧ R < 2147483000) (rk : inR k) (rc0 : inR c0) (rc1 : inR c1) (rc2 : inR c2) (rc3 : inR c3) (rc4 : inR c4) : Pr G S σ h m R mX11_event mX12_event 7 7 [.int (iI k), .int (iI c0), .int (iI c1), .int (iI c2), .int (iI c3), .int (iI c4)] := by
  have hR0 := hR
  obtain ⟨hA, hM, hm, hK, hMR⟩ := hR
  obtain ⟨⟨hT, hMt, hmm, hlc, hld, hes, hek⟩, hss, hg, hdr, hte, hho, hbs, hvk⟩ := (hillOk_iff σ h).mp hK.1
  obtain ⟨qe, qb, qv, qt, qs, qa⟩ := id hMR
  have hTa : ∀ hc : (okEv k c0 c1 c2 c3 c4) ∧ (σ (h + 1) 2) < 16, taOk (upS (upS σ (h + 1 + 1) (adF (σ (h + 1 + 1)) (σ (h + 1) 2) k c0 c1 c2 c3 c4)) (h + 1) (up1 (σ (h + 1)) 2 ((σ (h + 1) 2) + 1))) (h + 1) := fun hc => taOk_ad hT rfl hc.2 hc.1
  refine Pr_e hR0 (PMet.weaken (c_X11_event hA hT rk rc0 rc1 rc2 rc3 rc4) cP_if) (fun τ hc e => ?_) (fun τ H _ => ⟨_, c_X12_event hM H rk rc0 rc1 rc2 rc3 rc4, fun r S' μ q => ?_⟩)
  · have f1 := hTa hc
    clear hc
    rw [e]
    exact rn_step hK f1 (fun b b1 b2 _ _ => by rw [upS_ne (by omega), upS_ne (by omega)])
  · obtain ⟨q1, q2, q3, q4⟩ := q
    refine ⟨q1, q2, q3, fun τ' hc e => ?_, fun hc => ?_⟩
    · rw [if_pos hc, if_pos hc] at q4
      clear hc
      refine qE_of q4 ?_ ?_
      · rw [e, rnS_ne (by omega), upS_ne (by omega), upS_same]
      · rw [e, rnS_ne (by omega), upS_same, up1_same]
    · rw [if_neg hc, if_neg hc] at q4
      exact q4

theorem pr_undo {G : GT} {S : Shp} {σ : Sto} {h m : Nat} {R : Int}  (hR : Rel S σ h m R) (hRb : 0 ≤ R ∧ R < 2147483000)  : Pr G S σ h m R mX11_undo mX12_undo 7 6 [] := by
  have hR0 := hR
  obtain ⟨hA, hM, hm, hK, hMR⟩ := hR
  obtain ⟨⟨hT, hMt, hmm, hlc, hld, hes, hek⟩, hss, hg, hdr, hte, hho, hbs, hvk⟩ := (hillOk_iff σ h).mp hK.1
  obtain ⟨qe, qb, qv, qt, qs, qa⟩ := id hMR
  have hT1 := hT.1
  refine Pr_e hR0 (PMet.weaken (c_X11_undo hA hT) cP_ifn) (fun τ hc e => ?_) (fun τ H _ => ⟨_, c_X12_undo hM H, fun r S' μ q => ?_⟩)
  · rw [e]
    exact rn_step hK (taOk_up hT (by omega) (by omega)) (fun b b1 b2 _ _ => by rw [upS_ne (by omega)])
  · obtain ⟨q1, q2, q3, q4⟩ := q
    refine ⟨q1, q2, q3, fun τ' hc e => ?_, fun hc => ?_⟩
    · rw [if_neg hc] at q4
      refine qE_of q4 ?_ ?_
      · rw [e, rnS_ne (by omega), upS_ne (by omega)]
      · rw [e, rnS_ne (by omega), upS_same, up1_same]
    · rw [if_pos (Classical.byContradiction fun x => hc x)] at q4
      exact q4

theorem pr_clear {G : GT} {S : Shp} {σ : Sto} {h m : Nat} {R : Int}  (hR : Rel S σ h m R) (hRb : 0 ≤ R ∧ R < 2147483000)  : Pr G S σ h m R mX11_clear mX12_clear 7 6 [] := by
  have hR0 := hR
  obtain ⟨hA, hM, hm, hK, hMR⟩ := hR
  obtain ⟨⟨hT, hMt, hmm, hlc, hld, hes, hek⟩, hss, hg, hdr, hte, hho, hbs, hvk⟩ := (hillOk_iff σ h).mp hK.1
  obtain ⟨qe, qb, qv, qt, qs, qa⟩ := id hMR
  have hT1 := hT.1
  refine Pr_e hR0 (PMet.weaken (c_X11_clear hA hT) cP_1) (fun τ hc e => ?_) (fun τ H _ => ⟨_, c_X12_clear hM H, fun r S' μ q => ?_⟩)
  · rw [e]
    exact rn_step hK (taOk_up hT (by omega) (by omega)) (fun b b1 b2 _ _ => by rw [upS_ne (by omega)])
  · obtain ⟨q1, q2, q3, q4⟩ := q
    refine ⟨q1, q2, q3, fun τ' hc e => ?_, fun hc => absurd trivial hc⟩
    refine qE_of q4 ?_ ?_
    · rw [e, rnS_ne (by omega), upS_ne (by omega)]
    · rw [e, rnS_ne (by omega), upS_same, up1_same]

theorem pr_loose {G : GT} {S : Shp} {σ : Sto} {h m : Nat} {R : Int} {i : Int} {P : Prop} [Decidable P] (hR : Rel S σ h m R) (hRb : 0 ≤ R ∧ R < 2147483000) (ri : inR i) : Pr G S σ h m R mX11_loose mX12_loose 2 3 [.int (iI i), .int (iI (b01 P))] := by
  have hR0 := hR
  obtain ⟨hA, hM, hm, hK, hMR⟩ := hR
  obtain ⟨⟨hT, hMt, hmm, hlc, hld, hes, hek⟩, hss, hg, hdr, hte, hho, hbs, hvk⟩ := (hillOk_iff σ h).mp hK.1
  obtain ⟨qe, qb, qv, qt, qs, qa⟩ := id hMR
  refine Pr_e hR0 (PMet.weaken (c_X11_loose (P := P) hA hT ri) cP_if) (fun τ hc e => ?_) (fun τ H _ => ⟨_, c_X12_loose (P := P) hM H ri, fun r S' μ q => ?_⟩)
  · rw [e]
    exact ⟨hk_loose hK hc.1 (b01_b P), fun b hb => by rw [upS_ne (by omega), upS_ne (by omega)], fun b hb => by rw [upS_ne (by omega), upS_ne (by omega)]⟩
  · obtain ⟨q1, q2, q3, q4⟩ := q
    refine ⟨q1, q2, q3, fun τ' hc e => ?_, fun hc => ?_⟩
    · rw [if_pos hc] at q4
      refine qE_of q4 ?_ ?_
      · rw [e, upS_ne (by omega), upS_same]
      · rw [e, upS_ne (by omega), upS_ne (by omega)]
    · rw [if_neg hc] at q4
      exact q4

theorem pr_swap {G : GT} {S : Shp} {σ : Sto} {h m : Nat} {R : Int} {i : Int} (hR : Rel S σ h m R) (hRb : 0 ≤ R ∧ R < 2147483000) (ri : inR i) : Pr G S σ h m R mX11_swap mX12_swap 7 6 [.int (iI i)] := by
  have hR0 := hR
  obtain ⟨hA, hM, hm, hK, hMR⟩ := hR
  obtain ⟨⟨hT, hMt, hmm, hlc, hld, hes, hek⟩, hss, hg, hdr, hte, hho, hbs, hvk⟩ := (hillOk_iff σ h).mp hK.1
  obtain ⟨qe, qb, qv, qt, qs, qa⟩ := id hMR
  have hT1 := hT.1
  have hv : (if ¬ (0 ≤ i ∧ i < (σ (h + 1) 2) - 1) then -100001 else smF (fun c => b01 (¬ likP (tlF (exF (σ (h + 1 + 1)) i) c zF (σ (h + 1) 2).toNat) (tlF (σ (h + 1 + 1)) c zF (σ (h + 1) 2).toNat))) 64) = (if ¬ (0 ≤ i ∧ i < (σ (h + 1) 2) - 1) then -100001 else smF (fun n => b01 (0 < ucF (upS (upS σ (h + 1 + 2) (cpF (σ (h + 1 + 1)) (σ (h + 1 + 2)) (7 * i) 0 7)) (h + 1 + 1) (exF (σ (h + 1 + 1)) i)) h (h + 1) n)) 64) := by
    refine congrArg (fun z : Int => if ¬ (0 ≤ i ∧ i < (σ (h + 1) 2) - 1) then -100001 else z) ?_
    refine smF_congr fun c c0 c1 => b01_congr ?_
    unfold ucF
    rw [ulF_pos, upS_same, upS_ne (show h + 1 ≠ h + 1 + 1 by omega), upS_ne (show h + 1 ≠ h + 1 + 2 by omega), upS_ne (show cA (h + 15) c + 1 ≠ h + 1 + 1 by unfold cA; omega), upS_ne (show cA (h + 15) c + 1 ≠ h + 1 + 2 by unfold cA; omega)]
    exact not_congr (likP_eq (eq8.rfl' _) (eq8.symm (hld c c0 c1)))
  refine Pr_e hR0 (C := (0 ≤ i ∧ i < (σ (h + 1) 2) - 1)) (T := fun τ => ∃ f : Int → Int, τ = rnS (upS (upS (upS σ (h + 1 + 2) (cpF (σ (h + 1 + 1)) (σ (h + 1 + 2)) (7 * i) 0 7)) (h + 1 + 1) (exF (σ (h + 1 + 1)) i)) (h + 147 + 1) f) h) (PMet.weaken (c_X11_swap hA hT ri hlc) fun r S' τ q => ⟨q.1, q.2.1, q.2.2.2, q.2.2.1⟩) (fun τ hc e => ?_) (fun τ H _ => ⟨_, c_X12_swap hM H ri, fun r S' μ q => ?_⟩)
  · obtain ⟨f, e⟩ := e
    rw [e]
    exact rn_step hK (taOk_congr (upS_ne (by omega)) (upS_ne (by omega)) (taOk_ex (g := cpF (σ (h + 1 + 1)) (σ (h + 1 + 2)) (7 * i) 0 7) hT (i := i) hc)) (fun b b1 b2 b3 b4 => by rw [upS_ne (by omega), upS_ne (by omega), upS_ne (by omega)])
  · obtain ⟨q1, q2, q3, q4⟩ := q
    have q2' := q2.trans (ret_eq hv)
    refine ⟨q1, q2', q3, fun τ' hc e => ?_, fun hc => ?_⟩
    · rw [if_pos hc] at q4
      obtain ⟨f, e⟩ := e
      refine qE_of q4 ?_ ?_
      · rw [e, rnS_ne (by omega), upS_ne (by omega), upS_same]
      · rw [e, rnS_ne (by omega), upS_ne (by omega), upS_ne (by omega), upS_ne (by omega)]
    · rw [if_neg hc] at q4
      exact q4

theorem pr_was {G : GT} {S : Shp} {σ : Sto} {h m : Nat} {R : Int} {k x y z : Int} (hR : Rel S σ h m R) (hRb : 0 ≤ R ∧ R < 2147483000) (rk : inR k) (rx : inR x) (ry : inR y) (rz : inR z) : Pr G S σ h m R mX11_was mX12_was 5 6 [.int (iI k), .int (iI x), .int (iI y), .int (iI z)] := by
  have hR0 := hR
  obtain ⟨hA, hM, hm, hK, hMR⟩ := hR
  obtain ⟨⟨hT, hMt, hmm, hlc, hld, hes, hek⟩, hss, hg, hdr, hte, hho, hbs, hvk⟩ := (hillOk_iff σ h).mp hK.1
  obtain ⟨qe, qb, qv, qt, qs, qa⟩ := id hMR
  refine Pr_e hR0 (PMet.weaken (c_X11_was hA hT rk rx ry rz) cP_if) (fun τ hc e => ?_) (fun τ H _ => ⟨_, c_X12_was hM H rk rx ry rz, fun r S' μ q => ?_⟩)
  · rw [e]
    exact ⟨hk_same hK (fun b _ _ _ _ _ _ _ b6 _ => upS_ne (by omega)), fun b hb => upS_ne (by omega), fun b hb => upS_ne (by omega)⟩
  · obtain ⟨q1, q2, q3, q4⟩ := q
    exact ⟨q1, q2, q3, fun τ' hc e => qE_of q4 (by rw [e, upS_ne (by omega)]) (by rw [e, upS_ne (by omega)]), fun _ => q4⟩

theorem pr_back {G : GT} {S : Shp} {σ : Sto} {h m : Nat} {R : Int} {v : Int} (hR : Rel S σ h m R) (hRb : 0 ≤ R ∧ R < 2147483000) (rv : inR v) : Pr G S σ h m R mX11_back mX12_back 7 7 [.int (iI v)] := by
  have hR0 := hR
  obtain ⟨hA, hM, hm, hK, hMR⟩ := hR
  obtain ⟨⟨hT, hMt, hmm, hlc, hld, hes, hek⟩, hss, hg, hdr, hte, hho, hbs, hvk⟩ := (hillOk_iff σ h).mp hK.1
  obtain ⟨qe, qb, qv, qt, qs, qa⟩ := id hMR
  refine Pr_e hR0 (PMet.weaken (c_X11_back hA rv hvk.1 hvk.2) cP_if) (fun τ hc e => ?_) (fun τ H HM => ⟨_, c_X12_back hM H HM.2.2.1 rv, fun r S' μ q => ?_⟩)
  · rw [e]
    have hT3 : taOk (upS (upS σ (h + 1 + 1) (cpF (σ ((veA h v) + 1)) (σ (h + 1 + 1)) 0 0 112)) (h + 1) (up1 (σ (h + 1)) 2 (σ (veA h v) 2))) (h + 1) := taOk_be (σ := σ) (t := veA h v) (hvk.2 v hc.1.1 hc.1.2 hc.2) (by rw [upS_same, up1_same]) (by rw [upS_ne (show h + 1 + 1 ≠ h + 1 by omega), upS_same])
    exact rn_step hK hT3 (fun b b1 b2 _ _ => by rw [upS_ne (by omega), upS_ne (by omega)])
  · obtain ⟨q1, q2, q3, q4, q5⟩ := q
    refine ⟨q1, q2, q3, fun τ' hc e => ?_, fun hc => by rw [q4 hc]; exact H⟩
    have q6 := q5 hc
    have hn := q6.1.2.1
    refine qE_of (mCore_f q6 (cpF_f (g := σ (h + 1 + 1)) hn.2)) ?_ ?_
    · rw [e, rnS_ne (by omega), upS_ne (by omega), upS_same]
    · rw [e, rnS_ne (by omega), upS_same, up1_same]

theorem pr_differ {G : GT} {S : Shp} {σ : Sto} {h m : Nat} {R : Int} {v w : Int} (hR : Rel S σ h m R) (hRb : 0 ≤ R ∧ R < 2147483000) (rv : inR v) (rw_ : inR w) : Pr G S σ h m R mX11_differ mX12_differ 7 7 [.int (iI v), .int (iI w)] := by
  have hR0 := hR
  obtain ⟨hA, hM, hm, hK, hMR⟩ := hR
  obtain ⟨⟨hT, hMt, hmm, hlc, hld, hes, hek⟩, hss, hg, hdr, hte, hho, hbs, hvk⟩ := (hillOk_iff σ h).mp hK.1
  obtain ⟨qe, qb, qv, qt, qs, qa⟩ := id hMR
  have hv : (if ¬ ((0 ≤ v ∧ v < 4) ∧ ¬ σ (h + 11) v = 0) then -100001 else if w = 0 then smF (fun c => b01 (¬ likP (tlF (σ (h + 1 + 1)) c zF (σ (h + 1) 2).toNat) (tlF (σ ((veA h v) + 1)) c zF (σ (veA h v) 2).toNat))) 64 else if w = 1 then firI (fun c => decide (¬ likP (tlF (σ (h + 1 + 1)) c zF (σ (h + 1) 2).toNat) (tlF (σ ((veA h v) + 1)) c zF (σ (veA h v) 2).toNat))) 64 else if w = 2 then smF (fun c => ulF (tlF (σ (h + 1 + 1)) c zF (σ (h + 1) 2).toNat) (tlF (σ ((veA h v) + 1)) c zF (σ (veA h v) 2).toNat)) 64 else if w = 3 then ahF (σ (h + 1 + 1)) (σ ((veA h v) + 1)) (σ (h + 1) 2) (σ (veA h v) 2) else -100002) = (if ¬ ((0 ≤ v ∧ v < 4) ∧ ¬ σ (h + 11) v = 0) then -100001 else if w = 0 then smF (fun n => b01 (0 < ucF σ h (veA h v) n)) 64 else if w = 1 then firI (fun n => decide (0 < ucF σ h (veA h v) n)) 64 else if w = 2 then smF (ucF σ h (veA h v)) 64 else if w = 3 then ahF (σ (h + 1 + 1)) (σ ((veA h v) + 1)) (σ (h + 1) 2) (σ (veA h v) 2) else -100002) := by
    have e : ∀ c, 0 ≤ c → c < 64 → ulF (tlF (σ (h + 1 + 1)) c zF (σ (h + 1) 2).toNat) (tlF (σ ((veA h v) + 1)) c zF (σ (veA h v) 2).toNat) = ucF σ h (veA h v) c := fun c c0 c1 => by
      unfold ucF
      rw [ulF_eq (eq8.rfl' _) (hld c c0 c1)]
      exact smF_congr fun j _ _ => b01_congr ⟨fun a b => a b.symm, fun a b => a b.symm⟩
    have e2 : ∀ c, 0 ≤ c → c < 64 → (¬ likP (tlF (σ (h + 1 + 1)) c zF (σ (h + 1) 2).toNat) (tlF (σ ((veA h v) + 1)) c zF (σ (veA h v) 2).toNat) ↔ 0 < ucF σ h (veA h v) c) := fun c c0 c1 => by
      rw [← e c c0 c1, ulF_pos]
    rw [smF_congr (fun c c0 c1 => b01_congr (e2 c c0 c1)), firI_congr (fun c c0 c1 => decide_eq_decide.mpr (e2 c c0 (by omega))), smF_congr e]
  refine Pr_e hR0 (C := True) (T := fun τ => ∃ f : Int → Int, τ = upS σ (h + 147 + 1) f) (PMet.weaken (c_X11_differ hA rv rw_ hT hvk.1 hvk.2 hlc) fun r S' τ q => ⟨q.1, q.2.1, fun _ => q.2.2, fun x => absurd trivial x⟩) (fun τ hc e => ?_) (fun τ H HM => ⟨_, c_X12_differ hM H HM.2.2.1 rv rw_, fun r S' μ q => ?_⟩)
  · obtain ⟨f, e⟩ := e
    rw [e]
    exact ⟨hk_same hK (fun b _ _ _ _ _ _ _ b6 _ => upS_ne (by omega)), fun b hb => upS_ne (by omega), fun b hb => upS_ne (by omega)⟩
  · obtain ⟨q1, q2, q3, q4⟩ := q
    have q2' := q2.trans (ret_eq hv)
    refine ⟨q1, q2', q3, fun τ' hc e => ?_, fun _ => q4⟩
    obtain ⟨f, e⟩ := e
    exact qE_of q4 (by rw [e, upS_ne (by omega)]) (by rw [e, upS_ne (by omega)])


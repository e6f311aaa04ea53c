theorem ldOk_congr {σ τ : Sto} {t L : Nat} (e0 : τ t = σ t) (e1 : τ (t + 1) = σ (t + 1)) (h : ∀ b, L ≤ b → b < L + 132 → τ b = σ b) (H : ldOk σ t L) : ldOk τ t L := by
  intro n n0 n1
  have e := H n n0 n1
  rw [e0, e1, h _ (by unfold cA; omega) (by unfold cA; omega)]
  exact e
theorem endsV_congr {σ τ : Sto} {a : Nat} {f : Int → Int} {n : Int} (e1 : τ (a + 20) = σ (a + 20)) (e2 : τ (a + 21) = σ (a + 21)) (H : endsV σ a f n) : endsV τ a f n := by
  unfold endsV
  rw [e1, e2]
  exact H
theorem telGood_congr {τ τ' : Sto} {a : Nat} {m k : Int} {sg f : Int → Int} {ld ld' : Int → Int → Int} (e : ∀ b, a ≤ b → b ≤ a + 6 → τ' b = τ b) (hl : ∀ n, 0 ≤ n → n < 64 → ld' n = ld n) (hs : ∀ i, 0 ≤ i → i < k → sgWf sg i) (H : telGood τ a m sg f ld k) : telGood τ' a m sg f ld' k := by
  obtain ⟨h1, h2, h3, h4, h5⟩ := H
  have ea := e a (by omega) (by omega)
  have e6 := e (a + 6) (by omega) (by omega)
  have el : ∀ s, umS sg f ld' m k s = umS sg f ld m k s := fun s => by
    unfold umS umC
    refine smF_congr fun j j0 j1 => b01_congr (not_congr ?_)
    have hw := hs j j0 j1
    have hb := nxF_b hw
    show metP _ _ _ _ _ _ ↔ metP _ _ _ _ _ _
    unfold lndS
    rw [hl _ hw.1.1 (by omega), hl _ hb.1 (by omega)]
  have eu : umS sg f ld' m k = umS sg f ld m k := funext el
  refine ⟨by rw [ea]; exact h1, by rw [ea]; exact h2, telTab_congr h3 (by rw [ea]) (fun b b0 b1 => e b (by omega) (by omega)), by rw [ea, eu]; exact h4, by rw [e6, eu]; exact h5⟩
/-- what a HillLand may change -/
def hFr (σ τ : Sto) (h : Nat) : Prop := ∀ b, b < h ∨ h + 473 ≤ b → τ b = σ b
/-- what of a HillLand lies outside the telling's and the hole's, and what else it rests on -/
def hlA (σ : Sto) (h : Nat) : Prop :=
  taOk σ (h + 1) ∧ taOk σ (h + 4) ∧ σ (h + 4) 2 ≤ 4 ∧ colsOk σ (h + 15) 64 ∧ ldOk σ (h + 1) (h + 15) ∧
  colsOk σ (h + 149 + 4) 5 ∧ (σ (h + 149) 8 = 0 ∨ (σ (h + 149) 8 = 1 ∧ endsV σ (h + 149) (σ (h + 1 + 1)) (σ (h + 1) 2)))
theorem hlA_congr {σ τ : Sto} {h : Nat} (e : ∀ b, b < h + 171 → b ≠ h + 7 → b ≠ h + 8 → b ≠ h + 9 → b ≠ h + 11 → b ≠ h + 12 → b ≠ h + 13 → b ≠ h + 14 → b ≠ h + 148 → τ b = σ b) (H : hlA σ h) : hlA τ h := by
  obtain ⟨a1, a2, a3, a4, a5, a6, a7⟩ := H
  have e1 := e (h + 1) (by omega) (by omega) (by omega) (by omega) (by omega) (by omega) (by omega) (by omega) (by omega)
  have e2 := e (h + 1 + 1) (by omega) (by omega) (by omega) (by omega) (by omega) (by omega) (by omega) (by omega) (by omega)
  have e4 := e (h + 4) (by omega) (by omega) (by omega) (by omega) (by omega) (by omega) (by omega) (by omega) (by omega)
  have e5 := e (h + 4 + 1) (by omega) (by omega) (by omega) (by omega) (by omega) (by omega) (by omega) (by omega) (by omega)
  have e9 := e (h + 149) (by omega) (by omega) (by omega) (by omega) (by omega) (by omega) (by omega) (by omega) (by omega)
  have el : ∀ b, h + 15 ≤ b → b < h + 15 + 132 → τ b = σ b := fun b b0 b1 => e b (by omega) (by omega) (by omega) (by omega) (by omega) (by omega) (by omega) (by omega) (by omega)
  refine ⟨taOk_congr e1 e2 a1, taOk_congr e4 e5 a2, by rw [e4]; exact a3, colsOk_congr (fun b b0 b1 => el b b0 (by omega)) a4, ldOk_congr e1 e2 el a5, colsOk_congr (fun b b0 b1 => ?_) a6, ?_⟩
  · exact e b (by omega) (by omega) (by omega) (by omega) (by omega) (by omega) (by omega) (by omega) (by omega)
  · rw [e9, e1, e2]
    rcases a7 with a7 | ⟨b1, b2⟩
    · exact Or.inl a7
    · exact Or.inr ⟨b1, endsV_congr (e _ (by omega) (by omega) (by omega) (by omega) (by omega) (by omega) (by omega) (by omega) (by omega)) (e _ (by omega) (by omega) (by omega) (by omega) (by omega) (by omega) (by omega) (by omega) (by omega)) b2⟩
def hlS (σ : Sto) (h : Nat) : Prop := sgsOk σ (h + 171)
def hlG (σ : Sto) (h : Nat) : Prop := (0 ≤ σ (h + 173) 2 ∧ σ (h + 173) 2 ≤ 24) ∧ ∀ j, 0 ≤ j → j < 64 → 0 ≤ σ (h + 173 + 1) j ∧ σ (h + 173 + 1) j ≤ 99 * σ (h + 173) 2
def hlV (σ : Sto) (h : Nat) : Prop := (∀ v, 0 ≤ v → v < 4 → 0 ≤ σ (h + 11) v ∧ σ (h + 11) v ≤ 1) ∧ ∀ v : Int, 0 ≤ v → v < 4 → ¬ σ (h + 11) v = 0 → taOk σ (veA h v)
theorem hillOk_iff (σ : Sto) (h : Nat) : hillOk σ h ↔ hlA σ h ∧ hlS σ h ∧ hlG σ h ∧ drOk σ (h + 176) ∧ teOk σ h ∧ hoOk σ h ∧ bsOk (σ (h + 12 + 1)) (σ (h + 12) 2) ∧ hlV σ h := by
  unfold hillOk hlA hlS hlG hlV
  constructor
  · rintro ⟨a1, a2, a3, a4, a5, a6, a7, a8, a9, b1, b2, b3, b4, b5, b6, b7⟩
    exact ⟨⟨a1, a2, a3, a4, a5, a6, a7⟩, a8, ⟨a9, b1⟩, b2, b3, b4, b5, b6, b7⟩
  · rintro ⟨⟨a1, a2, a3, a4, a5, a6, a7⟩, a8, ⟨a9, b1⟩, b2, b3, b4, b5, b6, b7⟩
    exact ⟨a1, a2, a3, a4, a5, a6, a7, a8, a9, b1, b2, b3, b4, b5, b6, b7⟩
theorem hlS_congr {σ τ : Sto} {h : Nat} (e0 : τ (h + 171) = σ (h + 171)) (e1 : τ (h + 171 + 1) = σ (h + 171 + 1)) (H : hlS σ h) : hlS τ h := sgsOk_congr e0 e1 H
theorem hlG_congr {σ τ : Sto} {h : Nat} (e0 : τ (h + 173) = σ (h + 173)) (e1 : τ (h + 173 + 1) = σ (h + 173 + 1)) (H : hlG σ h) : hlG τ h := by
  unfold hlG
  rw [e0, e1]
  exact H
theorem hlV_congr {σ τ : Sto} {h : Nat} (e0 : τ (h + 11) = σ (h + 11)) (e : ∀ b, h + 461 ≤ b → b < h + 473 → τ b = σ b) (H : hlV σ h) : hlV τ h := by
  obtain ⟨h1, h2⟩ := H
  refine ⟨by rw [e0]; exact h1, fun v v0 v1 hv => ?_⟩
  rw [e0] at hv
  exact taOk_congr (e _ (by unfold veA; omega) (by unfold veA; omega)) (e _ (by unfold veA; omega) (by unfold veA; omega)) (h2 v v0 v1 hv)
theorem teOk_congr {σ τ : Sto} {h : Nat} (hs : hlS σ h) (e : ∀ b, h + 183 ≤ b → b < h + 458 → τ b = σ b) (e4 : τ (h + 4) = σ (h + 4)) (e5 : τ (h + 4 + 1) = σ (h + 4 + 1)) (es : τ (h + 171 + 1) = σ (h + 171 + 1)) (el : ∀ b, h + 15 ≤ b → b < h + 147 → τ b = σ b) (hk : σ (h + 183) 12 = 1 → σ (h + 183) 10 ≤ σ (h + 171) 1) (H : teOk σ h) : teOk τ h := by
  obtain ⟨a1, a2, a3, a4⟩ := H
  have e0 := e (h + 183) (by omega) (by omega)
  refine ⟨colsOk_congr (fun b b0 b1 => e b (by omega) (by omega)) a1, colsOk_congr (fun b b0 b1 => e b (by omega) (by omega)) a2, by rw [e0]; exact a3, ?_⟩
  rw [e0, e4, e5, es]
  rcases a4 with a4 | ⟨b1, b2⟩
  · exact Or.inl a4
  · exact Or.inr ⟨b1, telGood_congr (fun b b0 b1 => e b (by omega) (by omega)) (fun n n0 n1 => ldF_congr (fun b b0 b1 => el b b0 (by omega)) n0 n1) (fun i i0 i1 => hs.2 i i0 (by have := hk b1; omega)) b2⟩
/-- when the telling is in doubt -/
theorem teOk_doubt {σ τ : Sto} {h : Nat} (e : ∀ b, h + 183 < b → b < h + 458 → τ b = σ b) (e0 : τ (h + 183) 12 = 0) (e1 : τ (h + 183) 10 = σ (h + 183) 10) (H : teOk σ h) : teOk τ h := by
  obtain ⟨a1, a2, a3, a4⟩ := H
  refine ⟨fun i i0 i1 => ?_, fun i i0 i1 => ?_, by rw [e1]; exact a3, Or.inl e0⟩
  · have hb := cA_b (a := h + 183 + 7) i0 i1
    rw [e _ (by omega) (by omega)]
    exact a1 i i0 i1
  · have hb := cA_b (a := h + 183 + 141) i0 i1
    rw [e _ (by omega) (by omega)]
    exact a2 i i0 i1
theorem hoOk_doubt {σ τ : Sto} {h : Nat} (e6 : τ (h + 458) 6 = σ (h + 458) 6) (e0 : τ (h + 183) 12 = 0) (e1 : τ (h + 183) 11 = σ (h + 183) 11) (H : hoOk σ h) : hoOk τ h := by
  obtain ⟨a1, a2⟩ := H
  exact ⟨by rw [e6, e1]; exact a1, fun q => by rw [e0] at q; omega⟩
theorem nhF_cg {κ κ' : Int → Int → Int → Int} {n : Int} : ∀ {K : Nat}, (∀ k : Int, 0 ≤ k → k < K → κ' k = κ k) → nhF κ' n K = nhF κ n K
  | 0, _ => rfl
  | K + 1, h => by
    simp only [nhF]
    rw [nhF_cg (K := K) (fun k k0 k1 => h k k0 (by omega)), h (K : Int) (by omega) (by omega)]
theorem hoOk_congr {σ τ : Sto} {h : Nat} (e : ∀ b, h + 183 ≤ b → b < h + 461 → τ b = σ b) (e4 : τ (h + 4) = σ (h + 4)) (e5 : τ (h + 4 + 1) = σ (h + 4 + 1)) (el : ∀ b, h + 15 ≤ b → b < h + 147 → τ b = σ b) (H : hoOk σ h) : hoOk τ h := by
  obtain ⟨a1, a2⟩ := H
  have e0 := e (h + 183) (by omega) (by omega)
  have e9 := e (h + 458) (by omega) (by omega)
  unfold hoOk holV
  rw [e0, e9]
  refine ⟨a1, fun q1 q2 => ?_⟩
  have hk : nhF (kapp τ h) (σ (h + 183) 9) (64 : Int).toNat = nhF (kapp σ h) (σ (h + 183) 9) (64 : Int).toNat := nhF_cg fun k k0 k1 => by
    unfold kapp
    funext p
    unfold lndS
    rw [e4, e5, e (h + 183 + 6) (by omega) (by omega), ldF_congr (fun b b0 b1 => el b b0 (by omega)) k0 (by omega)]
  rw [hk]
  exact a2 q1 q2
/-- what the cells of a HillLand are worth, at most so many tellings having been made -/
def hkO (σ : Sto) (h : Nat) (R : Int) : Prop := hillOk σ h ∧ (σ (h + 183) 12 = 1 → σ (h + 183) 10 ≤ σ (h + 171) 1) ∧ σ (h + 183) 11 ≤ R
theorem hkO.mono {σ : Sto} {h : Nat} {R R' : Int} (H : hkO σ h R) (hR : R ≤ R') : hkO σ h R' := ⟨H.1, H.2.1, by have := H.2.2; omega⟩
/-- other events -/
theorem hk_rn {σ μ : Sto} {h : Nat} {R : Int} (H : hkO σ h R) (hT : taOk μ (h + 1)) (hb : bsOk (μ (h + 12 + 1)) (μ (h + 12) 2)) (e : ∀ b, h + 4 ≤ b → b ≠ h + 7 → b ≠ h + 8 → b ≠ h + 9 → b ≠ h + 12 → b ≠ h + 13 → b ≠ h + 14 → b ≠ h + 148 → b < h + 473 → μ b = σ b) : hkO (rnS μ h) h R := by
  obtain ⟨H1, H2, H3⟩ := H
  obtain ⟨⟨a1, a2, a3, a4, a5, a6, a7⟩, hS, hG, hD, hTe, hHo, hB, hV⟩ := (hillOk_iff σ h).mp H1
  have e4 := e (h + 4) (by omega) (by omega) (by omega) (by omega) (by omega) (by omega) (by omega) (by omega) (by omega)
  have e5 := e (h + 4 + 1) (by omega) (by omega) (by omega) (by omega) (by omega) (by omega) (by omega) (by omega) (by omega)
  have eg : ∀ b, (h + 4 ≤ b ∧ b ≤ h + 5) ∨ b = h + 11 ∨ (h + 150 ≤ b ∧ b < h + 473 ∧ b ≠ h + 183) → rnS μ h b = σ b := fun b hb => by
    rw [rnS_ne (by omega)]
    exact e b (by omega) (by omega) (by omega) (by omega) (by omega) (by omega) (by omega) (by omega) (by omega)
  have e183 : ∀ j, j ≠ 12 → rnS μ h (h + 183) j = σ (h + 183) j := fun j hj => by
    unfold rnS
    rw [upS_same, up1_ne hj, e (h + 183) (by omega) (by omega) (by omega) (by omega) (by omega) (by omega) (by omega) (by omega) (by omega)]
  have e12 : rnS μ h (h + 183) 12 = 0 := by
    unfold rnS
    rw [upS_same, up1_same]
  have e149 : rnS μ h (h + 149) 8 = 0 := by
    unfold rnS
    rw [upS_ne (by omega), upS_same, up1_same]
  have ecol : ∀ n : Int, 0 ≤ n → n < 64 → rnS μ h (cA (h + 15) n + 1) = tlF (μ (h + 1 + 1)) n (μ (cA (h + 15) n + 1)) (μ (h + 1) 2).toNat := fun n n0 n1 => by
    unfold rnS
    rw [upS_ne (by unfold cA; omega), upS_ne (by unfold cA; omega), stC_at n0 (by omega)]
  have r1 : rnS μ h (h + 1) = μ (h + 1) := rnS_ne (by omega)
  have r2 : rnS μ h (h + 1 + 1) = μ (h + 1 + 1) := rnS_ne (by omega)
  refine ⟨(hillOk_iff _ h).mpr ⟨⟨taOk_congr r1 r2 hT, taOk_congr (eg _ (by omega)) (eg _ (by omega)) a2, by rw [eg (h + 4) (by omega)]; exact a3, fun n n0 n1 => ?_, fun n n0 n1 => ?_, colsOk_congr (fun b b0 b1 => ?_) a6, Or.inl e149⟩, hlS_congr (eg _ (by omega)) (eg _ (by omega)) hS, hlG_congr (eg _ (by omega)) (eg _ (by omega)) hG, drOk_congr (eg _ (by omega)) (eg _ (by omega)) (eg _ (by omega)) (eg _ (by omega)) hD, teOk_doubt (fun b b0 b1 => eg b (by omega)) e12 (e183 _ (by decide)) hTe, hoOk_doubt (by rw [eg (h + 458) (by omega)]) e12 (e183 _ (by decide)) hHo, by rw [rnS_ne (by omega), rnS_ne (by omega)]; exact hb, hlV_congr (eg _ (by omega)) (fun b b0 b1 => eg b (by omega)) hV⟩, fun q => by rw [e12] at q; omega, by rw [e183 _ (by decide)]; exact H3⟩
  · rw [ecol n n0 (by omega)]
    exact tlF_ok (fun i i0 i1 => hT.2 i i0 (by omega))
  · rw [ecol n n0 n1, r1, r2]
    exact tlF_eq _ _ _ _ _
  · exact eg b (by omega)
/-- nothing that the telling, the hole and the land rest on -/
theorem hk_cg {σ τ : Sto} {h : Nat} {R : Int} (H : hkO σ h R) (e : ∀ b, (h + 1 ≤ b ∧ b ≤ h + 6 ∧ b ≠ h + 3) ∨ (h + 15 ≤ b ∧ b < h + 147) ∨ (h + 171 ≤ b ∧ b ≤ h + 172) ∨ (h + 183 ≤ b ∧ b < h + 461) → τ b = σ b) (hE : colsOk τ (h + 149 + 4) 5 ∧ (τ (h + 149) 8 = 0 ∨ (τ (h + 149) 8 = 1 ∧ endsV τ (h + 149) (σ (h + 1 + 1)) (σ (h + 1) 2)))) (hG : hlG τ h) (hD : drOk τ (h + 176)) (hB : bsOk (τ (h + 12 + 1)) (τ (h + 12) 2)) (hV : hlV τ h) : hkO τ h R := by
  obtain ⟨H1, H2, H3⟩ := H
  obtain ⟨⟨a1, a2, a3, a4, a5, a6, a7⟩, hS, -, -, hTe, hHo, -, -⟩ := (hillOk_iff σ h).mp H1
  have el : ∀ b, h + 15 ≤ b → b < h + 147 → τ b = σ b := fun b b0 b1 => e b (by omega)
  have e0 := e (h + 183) (by omega)
  refine ⟨(hillOk_iff _ h).mpr ⟨⟨taOk_congr (e _ (by omega)) (e _ (by omega)) a1, taOk_congr (e _ (by omega)) (e _ (by omega)) a2, by rw [e (h + 4) (by omega)]; exact a3, colsOk_congr (fun b b0 b1 => el b b0 (by omega)) a4, ldOk_congr (e _ (by omega)) (e _ (by omega)) (fun b b0 b1 => el b b0 (by omega)) a5, hE.1, by rw [e (h + 1) (by omega), e (h + 1 + 1) (by omega)]; exact hE.2⟩, hlS_congr (e _ (by omega)) (e _ (by omega)) hS, hG, hD, teOk_congr hS (fun b b0 b1 => e b (by omega)) (e _ (by omega)) (e _ (by omega)) (e _ (by omega)) el H2 hTe, hoOk_congr (fun b b0 b1 => e b (by omega)) (e _ (by omega)) (e _ (by omega)) el hHo, hB, hV⟩, by rw [e0, e (h + 171) (by omega)]; exact H2, by rw [e0]; exact H3⟩
/-- the ends of the old store, where they stand unchanged -/
theorem hE_congr {σ τ : Sto} {h : Nat} {R : Int} (H : hkO σ h R) (e : ∀ b, h + 149 ≤ b → b < h + 171 → τ b = σ b) : colsOk τ (h + 149 + 4) 5 ∧ (τ (h + 149) 8 = 0 ∨ (τ (h + 149) 8 = 1 ∧ endsV τ (h + 149) (σ (h + 1 + 1)) (σ (h + 1) 2))) := by
  obtain ⟨⟨a1, a2, a3, a4, a5, a6, a7⟩, -⟩ := (hillOk_iff σ h).mp H.1
  refine ⟨colsOk_congr (fun b b0 b1 => e b (by omega) (by omega)) a6, ?_⟩
  rw [e (h + 149) (by omega) (by omega)]
  rcases a7 with a7 | ⟨b1, b2⟩
  · exact Or.inl a7
  · exact Or.inr ⟨b1, endsV_congr (e _ (by omega) (by omega)) (e _ (by omega) (by omega)) b2⟩
/-- what a call may change that no other call looks at -/
theorem hk_same {σ τ : Sto} {h : Nat} {R : Int} (H : hkO σ h R) (e : ∀ b, h < b → b < h + 473 → b ≠ h + 3 → b ≠ h + 7 → b ≠ h + 8 → b ≠ h + 9 → b ≠ h + 14 → b ≠ h + 148 → b ≠ h + 175 → τ b = σ b) : hkO τ h R := by
  have g : ∀ b, (h < b ∧ b < h + 473 ∧ b ≠ h + 3 ∧ b ≠ h + 7 ∧ b ≠ h + 8 ∧ b ≠ h + 9 ∧ b ≠ h + 14 ∧ b ≠ h + 148 ∧ b ≠ h + 175) → τ b = σ b := fun b hb => e b hb.1 hb.2.1 hb.2.2.1 hb.2.2.2.1 hb.2.2.2.2.1 hb.2.2.2.2.2.1 hb.2.2.2.2.2.2.1 hb.2.2.2.2.2.2.2.1 hb.2.2.2.2.2.2.2.2
  obtain ⟨⟨a1, a2, a3, a4, a5, a6, a7⟩, hS, hG, hD, hTe, hHo, hB, hV⟩ := (hillOk_iff σ h).mp H.1
  refine hk_cg H (fun b hb => g b (by omega)) (hE_congr H fun b b0 b1 => g b (by omega)) (hlG_congr (g _ (by omega)) (g _ (by omega)) hG) (drOk_congr (g _ (by omega)) (g _ (by omega)) (g _ (by omega)) (g _ (by omega)) hD) ?_ (hlV_congr (g _ (by omega)) (fun b b0 b1 => g b (by omega)) hV)
  rw [g (h + 12 + 1) (by omega), g (h + 12) (by omega)]
  exact hB
/-- another looseness -/
theorem hk_loose {σ : Sto} {h : Nat} {R i v : Int} (H : hkO σ h R) (i0 : 0 ≤ i) (hv : 0 ≤ v ∧ v ≤ 1) : hkO (upS (upS σ (h + 1 + 1) (up1 (σ (h + 1 + 1)) (7 * i + 6) v)) (h + 149) (up1 (σ (h + 149)) 8 0)) h R := by
  obtain ⟨H1, H2, H3⟩ := H
  obtain ⟨⟨a1, a2, a3, a4, a5, a6, a7⟩, hS, hG, hD, hTe, hHo, hB, hV⟩ := (hillOk_iff σ h).mp H1
  generalize hτ : upS (upS σ (h + 1 + 1) (up1 (σ (h + 1 + 1)) (7 * i + 6) v)) (h + 149) (up1 (σ (h + 149)) 8 0) = τ
  have eg : ∀ b, b ≠ h + 1 + 1 → b ≠ h + 149 → τ b = σ b := fun b h1 h2 => by rw [← hτ, upS_ne h2, upS_ne h1]
  have g2 : τ (h + 1 + 1) = up1 (σ (h + 1 + 1)) (7 * i + 6) v := by rw [← hτ, upS_ne (by omega), upS_same]
  have el : ∀ b, h + 15 ≤ b → b < h + 147 → τ b = σ b := fun b b0 b1 => eg b (by omega) (by omega)
  have e0 := eg (h + 183) (by omega) (by omega)
  refine ⟨(hillOk_iff _ h).mpr ⟨⟨?_, taOk_congr (eg _ (by omega) (by omega)) (eg _ (by omega) (by omega)) a2, by rw [eg (h + 4) (by omega) (by omega)]; exact a3, colsOk_congr (fun b b0 b1 => el b b0 (by omega)) a4, fun n n0 n1 => ?_, colsOk_congr (fun b b0 b1 => eg b (by omega) (by omega)) a6, Or.inl (by rw [← hτ, upS_same, up1_same])⟩, hlS_congr (eg _ (by omega) (by omega)) (eg _ (by omega) (by omega)) hS, hlG_congr (eg _ (by omega) (by omega)) (eg _ (by omega) (by omega)) hG, drOk_congr (eg _ (by omega) (by omega)) (eg _ (by omega) (by omega)) (eg _ (by omega) (by omega)) (eg _ (by omega) (by omega)) hD, teOk_congr hS (fun b b0 b1 => eg b (by omega) (by omega)) (eg _ (by omega) (by omega)) (eg _ (by omega) (by omega)) (eg _ (by omega) (by omega)) el H2 hTe, hoOk_congr (fun b b0 b1 => eg b (by omega) (by omega)) (eg _ (by omega) (by omega)) (eg _ (by omega) (by omega)) el hHo, by rw [eg (h + 12 + 1) (by omega) (by omega), eg (h + 12) (by omega) (by omega)]; exact hB, hlV_congr (eg _ (by omega) (by omega)) (fun b b0 b1 => eg b (by omega) (by omega)) hV⟩, by rw [e0, eg (h + 171) (by omega) (by omega)]; exact H2, by rw [e0]; exact H3⟩
  · exact taOk_congr (σ := upS σ (h + 1 + 1) (up1 (σ (h + 1 + 1)) (7 * i + 6) v)) (by rw [eg _ (by omega) (by omega), upS_ne (by omega)]) (by rw [g2, upS_same]) (taOk_lo a1 i0 hv)
  · have e := a5 n n0 n1
    rw [el _ (by unfold cA; omega) (by unfold cA; omega), eg (h + 1) (by omega) (by omega), g2, tlF_cg (fun q p q0 q1 p0 p1 => up1_ne (by omega))]
    exact e
/-- the next hole being known -/
theorem hk_hole {μ τ : Sto} {h : Nat} {R : Int} (H : hkO μ h R) (hF : hoFr μ τ (h + 458) (h + 183)) (hC : colsOk τ (h + 183 + 7) 65) (hN : holV τ (h + 458) (nhF (kapp μ h) (μ (h + 183) 9) (64 : Int).toNat)) (h6 : τ (h + 458) 6 = μ (h + 183) 11) : hkO τ h R := by
  obtain ⟨H1, H2, H3⟩ := H
  have he := hE_congr (H := (⟨H1, H2, H3⟩ : hkO μ h R)) (τ := τ) (fun b b0 b1 => hF b (by omega) (by omega))
  obtain ⟨⟨a1, a2, a3, a4, a5, a6, a7⟩, hS, hG, hD, ⟨t1, t2, t3, t4⟩, ⟨o1, o2⟩, hB, hV⟩ := (hillOk_iff μ h).mp H1
  have eg : ∀ b, b < h + 190 ∨ (h + 324 ≤ b ∧ b < h + 458) ∨ h + 461 ≤ b → τ b = μ b := fun b hb => hF b (by omega) (by omega)
  have e0 := eg (h + 183) (by omega)
  refine ⟨(hillOk_iff _ h).mpr ⟨⟨taOk_congr (eg _ (by omega)) (eg _ (by omega)) a1, taOk_congr (eg _ (by omega)) (eg _ (by omega)) a2, by rw [eg (h + 4) (by omega)]; exact a3, colsOk_congr (fun b b0 b1 => eg b (by omega)) a4, ldOk_congr (eg _ (by omega)) (eg _ (by omega)) (fun b b0 b1 => eg b (by omega)) a5, he.1, by rw [eg (h + 1) (by omega), eg (h + 1 + 1) (by omega)]; exact he.2⟩, hlS_congr (eg _ (by omega)) (eg _ (by omega)) hS, hlG_congr (eg _ (by omega)) (eg _ (by omega)) hG, drOk_congr (eg _ (by omega)) (eg _ (by omega)) (eg _ (by omega)) (eg _ (by omega)) hD, ⟨hC, colsOk_congr (fun b b0 b1 => eg b (by omega)) t2, by rw [e0]; exact t3, ?_⟩, ⟨?_, fun q1 q2 => ?_⟩, by rw [eg (h + 12 + 1) (by omega), eg (h + 12) (by omega)]; exact hB, hlV_congr (eg _ (by omega)) (fun b b0 b1 => eg b (by omega)) hV⟩, by rw [e0, eg (h + 171) (by omega)]; exact H2, by rw [e0]; exact H3⟩
  · rw [e0, eg (h + 4) (by omega), eg (h + 4 + 1) (by omega), eg (h + 171 + 1) (by omega)]
    rcases t4 with t4 | ⟨b1, b2⟩
    · exact Or.inl t4
    · exact Or.inr ⟨b1, telGood_congr (fun b b0 b1 => eg b (by omega)) (fun n n0 n1 => ldF_congr (fun b b0 b1 => eg b (by omega)) n0 n1) (fun i i0 i1 => hS.2 i i0 (by have := H2 b1; omega)) b2⟩
  · rw [h6, e0]
    omega
  · have hk : nhF (kapp τ h) (τ (h + 183) 9) (64 : Int).toNat = nhF (kapp μ h) (μ (h + 183) 9) (64 : Int).toNat := by
      rw [e0]
      refine nhF_cg fun k k0 k1 => ?_
      unfold kapp
      funext p
      unfold lndS
      rw [eg (h + 4) (by omega), eg (h + 4 + 1) (by omega), eg (h + 183 + 6) (by omega), ldF_congr (fun b b0 b1 => eg b (by omega)) k0 (by omega)]
    rw [hk]
    exact hN
/-- the telling in doubt, by other sights or other mights -/
theorem hk_doubt {σ τ : Sto} {h : Nat} {R : Int} (H : hkO σ h R) (e : ∀ b, b ≠ h + 4 → b ≠ h + 5 → b ≠ h + 171 → b ≠ h + 172 → b ≠ h + 183 → τ b = σ b) (e0 : τ (h + 183) = up1 (σ (h + 183)) 12 0) (hM : taOk τ (h + 4)) (hm : τ (h + 4) 2 ≤ 4) (hS : hlS τ h) : hkO τ h R := by
  obtain ⟨H1, H2, H3⟩ := H
  obtain ⟨⟨a1, a2, a3, a4, a5, a6, a7⟩, -, hG, hD, hTe, hHo, hB, hV⟩ := (hillOk_iff σ h).mp H1
  have e12 : τ (h + 183) 12 = 0 := by rw [e0, up1_same]
  have e183 : ∀ j, j ≠ 12 → τ (h + 183) j = σ (h + 183) j := fun j hj => by rw [e0, up1_ne hj]
  have eg : ∀ b, b ≤ h + 3 ∨ (h + 6 ≤ b ∧ b < h + 171) ∨ (h + 173 ≤ b ∧ b ≠ h + 183) → τ b = σ b := fun b hb => e b (by omega) (by omega) (by omega) (by omega) (by omega)
  have he := hE_congr (H := (⟨H1, H2, H3⟩ : hkO σ h R)) (fun b b0 b1 => eg b (by omega))
  refine ⟨(hillOk_iff _ h).mpr ⟨⟨taOk_congr (eg _ (by omega)) (eg _ (by omega)) a1, hM, hm, colsOk_congr (fun b b0 b1 => eg b (by omega)) a4, ldOk_congr (eg _ (by omega)) (eg _ (by omega)) (fun b b0 b1 => eg b (by omega)) a5, he.1, by rw [eg (h + 1) (by omega), eg (h + 1 + 1) (by omega)]; exact he.2⟩, hS, hlG_congr (eg _ (by omega)) (eg _ (by omega)) hG, drOk_congr (eg _ (by omega)) (eg _ (by omega)) (eg _ (by omega)) (eg _ (by omega)) hD, teOk_doubt (fun b b0 b1 => eg b (by omega)) e12 (e183 _ (by decide)) hTe, hoOk_doubt (by rw [eg (h + 458) (by omega)]) e12 (e183 _ (by decide)) hHo, by rw [eg (h + 12 + 1) (by omega), eg (h + 12) (by omega)]; exact hB, hlV_congr (eg _ (by omega)) (fun b b0 b1 => eg b (by omega)) hV⟩, fun q => by rw [e12] at q; omega, by rw [e183 _ (by decide)]; exact H3⟩
/-- the stories being known -/
theorem hk_tell {σ τ : Sto} {h : Nat} {R k : Int} (H : hkO σ h R) (hR : 0 ≤ R ∧ R < 2147483600) (hk : -1 ≤ k ∧ k ≤ σ (h + 171) 1) (hg : tsG σ τ h (knF (σ (h + 171) 1) k)) : hkO τ h (R + 1) := by
  obtain ⟨H1, H2, H3⟩ := H
  obtain ⟨⟨a1, a2, a3, a4, a5, a6, a7⟩, hS, hG, hD, hTe, hHo, hB, hV⟩ := (hillOk_iff σ h).mp H1
  obtain ⟨e, t1, t2, t3, t4⟩ := hg
  have hS0 := hS.1
  have hkb : -2147483648 ≤ knF (σ (h + 171) 1) k ∧ knF (σ (h + 171) 1) k ≤ σ (h + 171) 1 := by unfold knF; split <;> omega
  have eg : ∀ b, b < h + 183 ∨ h + 458 ≤ b → τ b = σ b := fun b hb => e b (by omega)
  have he := hE_congr (H := (⟨H1, H2, H3⟩ : hkO σ h R)) (fun b b0 b1 => eg b (by omega))
  have t12 := t3.1
  have t10 := t3.2.1
  have hr : τ (h + 183) 11 ≤ R + 1 ∧ σ (h + 183) 11 ≤ τ (h + 183) 11 := by
    rcases t4 with ⟨-, q⟩ | q
    · rw [q]; omega
    · omega
  refine ⟨(hillOk_iff _ h).mpr ⟨⟨taOk_congr (eg _ (by omega)) (eg _ (by omega)) a1, taOk_congr (eg _ (by omega)) (eg _ (by omega)) a2, by rw [eg (h + 4) (by omega)]; exact a3, colsOk_congr (fun b b0 b1 => eg b (by omega)) a4, ldOk_congr (eg _ (by omega)) (eg _ (by omega)) (fun b b0 b1 => eg b (by omega)) a5, he.1, by rw [eg (h + 1) (by omega), eg (h + 1 + 1) (by omega)]; exact he.2⟩, hlS_congr (eg _ (by omega)) (eg _ (by omega)) hS, hlG_congr (eg _ (by omega)) (eg _ (by omega)) hG, drOk_congr (eg _ (by omega)) (eg _ (by omega)) (eg _ (by omega)) (eg _ (by omega)) hD, ⟨t1, t2, by rw [t10]; unfold inR; omega, Or.inr ⟨t12, ?_⟩⟩, ⟨?_, fun q1 q2 => ?_⟩, by rw [eg (h + 12 + 1) (by omega), eg (h + 12) (by omega)]; exact hB, hlV_congr (eg _ (by omega)) (fun b b0 b1 => eg b (by omega)) hV⟩, fun _ => by rw [t10, eg (h + 171) (by omega)]; exact hkb.2, hr.1⟩
  · rw [t10, eg (h + 4) (by omega), eg (h + 4 + 1) (by omega), eg (h + 171 + 1) (by omega)]
    exact telGood_congr (fun b _ _ => rfl) (fun n n0 n1 => ldF_congr (fun b b0 b1 => eg b (by omega)) n0 n1) (fun i i0 i1 => hS.2 i i0 (by omega)) t3
  · have h1 := hHo.1
    rw [eg (h + 458) (by omega)]
    omega
  · have h1 := hHo.1
    rw [eg (h + 458) (by omega)] at q2
    rcases t4 with ⟨q3, q4⟩ | q3
    · rw [q4] at q2 ⊢
      exact hHo.2 q3 q2
    · omega

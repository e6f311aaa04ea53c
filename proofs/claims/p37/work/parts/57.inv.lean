/-- the land of columns at L is what the tale at t tells -/
def ldOk (σ : Sto) (t L : Nat) : Prop := ∀ n : Int, 0 ≤ n → n < 64 → eq8 (σ (cA L n + 1)) (tlF (σ (t + 1)) n zF (σ t 2).toNat)
/-- what the cells of a HillLand are worth between two calls -/
def hillOk (σ : Sto) (h : Nat) : Prop :=
  taOk σ (h + 1) ∧ taOk σ (h + 4) ∧ σ (h + 4) 2 ≤ 4 ∧ colsOk σ (h + 15) 64 ∧ ldOk σ (h + 1) (h + 15) ∧
  colsOk σ (h + 149 + 4) 5 ∧ (σ (h + 149) 8 = 0 ∨ (σ (h + 149) 8 = 1 ∧ endsV σ (h + 149) (σ (h + 1 + 1)) (σ (h + 1) 2))) ∧
  sgsOk σ (h + 171) ∧ (0 ≤ σ (h + 173) 2 ∧ σ (h + 173) 2 ≤ 24) ∧ (∀ j, 0 ≤ j → j < 64 → 0 ≤ σ (h + 173 + 1) j ∧ σ (h + 173 + 1) j ≤ 99 * σ (h + 173) 2) ∧
  drOk σ (h + 176) ∧ teOk σ h ∧ hoOk σ h ∧ bsOk (σ (h + 12 + 1)) (σ (h + 12) 2) ∧
  (∀ v, 0 ≤ v → v < 4 → 0 ≤ σ (h + 11) v ∧ σ (h + 11) v ≤ 1) ∧ ∀ v : Int, 0 ≤ v → v < 4 → ¬ σ (h + 11) v = 0 → taOk σ (veA h v)
theorem bg_ok (c : Int → Int) : colOk (bgF c) := by
  intro i h0 h1
  unfold bgF
  rw [if_pos ⟨h0, h1⟩]
  split <;> omega
theorem taOk_0 {σ : Sto} {t : Nat} (h : σ t = zF) : taOk σ t := by
  unfold taOk
  rw [h]
  exact ⟨⟨by decide, by decide⟩, fun i i0 i1 => by have : i < 0 := i1; omega⟩
theorem colsOk_bg {σ : Sto} {L N : Nat} (h : ∀ j : Nat, j < N → σ (L + 4 + 2 * j + 1) = bgF zF) : colsOk σ L N := by
  intro i i0 i1
  unfold cA
  rw [h i.toNat (by omega)]
  exact bg_ok _
theorem hill0_ok {τ : Sto} {h : Nat} (H : hill0 τ h) : hillOk τ h := by
  obtain ⟨a1, a4, a7, a11, a12, a13, a148, a149, a171, a173, a174, a176, a183, a458, v0, v1, v2, v3, l1, l2, l3, l4⟩ := H
  refine ⟨taOk_0 a1, taOk_0 a4, by rw [a4]; decide, colsOk_bg l1, fun n n0 n1 => ?_, colsOk_bg l4, Or.inl (by rw [a149]), ?_, by rw [a173]; decide, fun j j0 j1 => by rw [a174, a173]; exact (show (0 : Int) ≤ 0 ∧ (0 : Int) ≤ 99 * 0 by decide), ?_, ⟨colsOk_bg l2, colsOk_bg l3, by rw [a183, up1_same]; unfold inR; decide, Or.inl (by rw [a183]; decide)⟩, ⟨by rw [a458, a183]; decide, fun q => absurd q (by rw [a183]; decide)⟩, ?_, fun v _ _ => by rw [a11]; exact (show (0 : Int) ≤ 0 ∧ (0 : Int) ≤ 1 by decide), fun v _ _ q => absurd (by rw [a11]) q⟩
  · unfold cA
    rw [l1 n.toNat (by omega), a1]
    exact eq8.rfl' _
  · unfold sgsOk
    rw [a171]
    exact ⟨by decide, fun i i0 i1 => by have : i < 0 := i1; omega⟩
  · unfold drOk
    rw [a176]
    exact ⟨Or.inl rfl, fun q => absurd q (by decide)⟩
  · unfold bsOk
    rw [a12]
    exact ⟨by decide, fun i i0 i1 => by have : i < 0 := i1; omega⟩

theorem mRw_f {K N f f' : Int → Int} {n : Int} (H : mRw K N f n) (e : ∀ j, 0 ≤ j → j < 7 * n → f' j = f j) : mRw K N f' n := by
  intro i i0 i1
  obtain ⟨h1, h2, h3⟩ := H i i0 i1
  refine ⟨evOk_row (fun p p0 p1 => e _ (by omega) (by omega)) h1, by rw [e _ (by omega) (by omega)]; exact h2, fun p p0 p1 => by rw [e _ (by omega) (by omega)]; exact h3 p p0 p1⟩
theorem mEv_f {τ : Sto} {m : Nat} {f f' : Int → Int} {n : Int} (H : mEv τ m f n) (e : ∀ j, 0 ≤ j → j < 7 * n → f' j = f j) : mEv τ m f' n :=
  ⟨H.1, H.2.1, mRw_f H.2.2.1 e, fun i i0 i1 => by rw [e _ (by omega) (by omega)]; exact H.2.2.2 i i0 i1⟩
theorem mCore_f {τ : Sto} {m : Nat} {f f' : Int → Int} {n : Int} (H : mCore τ m f n) (e : ∀ j, 0 ≤ j → j < 7 * n → f' j = f j) : mCore τ m f' n := by
  have hn := H.1.2.1
  refine ⟨mEv_f H.1 e, H.2.1, fun c c0 c1 => ?_⟩
  rw [tlF_congr (g := f') (f := f) c zF (k := n.toNat) (fun j j0 j1 => e j j0 (by omega))]
  exact H.2.2 c c0 c1
theorem mVr_f {τ : Sto} {m : Nat} {v : Int} {f f' : Int → Int} {n : Int} (H : mVr τ m v f n) (e : ∀ j, 0 ≤ j → j < 7 * n → f' j = f j) : mVr τ m v f' n :=
  ⟨H.1, H.2.1, mRw_f H.2.2.1 e, fun i i0 i1 => by rw [e _ (by omega) (by omega)]; exact H.2.2.2 i i0 i1⟩
theorem cpF_f {f g : Int → Int} {n : Int} (hn : n ≤ 16) : ∀ j, 0 ≤ j → j < 7 * n → cpF f g 0 0 112 j = f j := fun j j0 j1 => by
  unfold cpF
  rw [if_pos (by omega)]
  congr 1
  omega
/-- what the two are to each other, piece by piece: the model's rows out of μ, the class's out of τ -/
def qE (μ : Sto) (m : Nat) (τ : Sto) (h : Nat) : Prop := mCore μ m (τ (h + 1 + 1)) (τ (h + 1) 2)
def qB (μ : Sto) (m : Nat) (τ : Sto) (h : Nat) : Prop := mMb μ m (τ (h + 4 + 1)) (τ (h + 4) 2) ∧ nzR (τ (h + 4 + 1)) (τ (h + 4) 2)
def qV (μ : Sto) (m : Nat) (τ : Sto) (h : Nat) : Prop := mVs μ m (τ (h + 11)) (fun v => τ (veA h v) 2) (fun v => τ (veA h v + 1))
def qT (μ : Sto) (m : Nat) (τ : Sto) (h : Nat) : Prop := μ m 8 = τ (h + 12) 2 ∧ μ (m + 7) = τ (h + 12 + 1) ∧ μ m 11 = τ (h + 12) 4
def qS (μ : Sto) (m : Nat) (τ : Sto) (h : Nat) : Prop := mSg μ m (τ (h + 171 + 1)) (τ (h + 171) 1)
def qA (μ : Sto) (m : Nat) (τ : Sto) (h : Nat) : Prop := mAg μ m (τ (h + 173 + 1)) (τ (h + 173) 2)
theorem qE_cg {μ μ' τ τ' : Sto} {m h : Nat} (H : qE μ m τ h) (a : ∀ b, b = m + 1 ∨ (m + 3 ≤ b ∧ b ≤ m + 5) → μ' b = μ b) (a0 : ∀ j, j = 2 → μ' m j = μ m j) (c : ∀ b, b = h + 1 ∨ b = h + 2 → τ' b = τ b) : qE μ' m τ' h := by
  unfold qE at H ⊢
  rw [c (h + 1) (by omega), c (h + 1 + 1) (by omega)]
  exact ⟨mEv_congr H.1 (a0 2 (by omega)) (a _ (by omega)) (a _ (by omega)) (a _ (by omega)), by rw [a _ (by omega)]; exact H.2.1, by rw [a _ (by omega)]; exact H.2.2⟩
theorem qB_cg {μ μ' τ τ' : Sto} {m h : Nat} (H : qB μ m τ h) (a : ∀ b, (m + 29 ≤ b ∧ b ≤ m + 30) → μ' b = μ b) (a0 : ∀ j, j = 38 → μ' m j = μ m j) (c : ∀ b, b = h + 4 ∨ b = h + 5 → τ' b = τ b) : qB μ' m τ' h := by
  unfold qB at H ⊢
  rw [c (h + 4) (by omega), c (h + 4 + 1) (by omega)]
  exact ⟨mMb_congr (a0 38 (by omega)) (a _ (by omega)) (a _ (by omega)) H.1, H.2⟩
theorem qV_cg {μ μ' τ τ' : Sto} {m h : Nat} (H : qV μ m τ h) (a : ∀ b, (m + 11 ≤ b ∧ b ≤ m + 15) → μ' b = μ b)  (c : ∀ b, b = h + 11 ∨ (h + 461 ≤ b ∧ b < h + 473) → τ' b = τ b) : qV μ' m τ' h := by
  have H' : mVs μ' m (τ (h + 11)) (fun v => τ (veA h v) 2) (fun v => τ (veA h v + 1)) := mVs_congr (fun b b0 b1 => a b (by omega)) H
  intro v v0 v1
  have e1 : τ' (veA h v) = τ (veA h v) := c _ (by unfold veA; omega)
  have e2 : τ' (veA h v + 1) = τ (veA h v + 1) := c _ (by unfold veA; omega)
  have h' := H' v v0 v1
  dsimp only at h' ⊢
  rw [c (h + 11) (by omega), e1, e2]
  exact h'
theorem qT_cg {μ μ' τ τ' : Sto} {m h : Nat} (H : qT μ m τ h) (a : ∀ b, b = m + 7 → μ' b = μ b) (a0 : ∀ j, j = 8 ∨ j = 11 → μ' m j = μ m j) (c : ∀ b, b = h + 12 ∨ b = h + 13 → τ' b = τ b) : qT μ' m τ' h := by
  unfold qT at H ⊢
  rw [c (h + 12) (by omega), c (h + 12 + 1) (by omega)]
  exact ⟨(a0 8 (by omega)).trans H.1, (a _ (by omega)).trans H.2.1, (a0 11 (by omega)).trans H.2.2⟩
theorem qS_cg {μ μ' τ τ' : Sto} {m h : Nat} (H : qS μ m τ h) (a : ∀ b, (m + 16 ≤ b ∧ b ≤ m + 20) → μ' b = μ b) (a0 : ∀ j, j = 23 → μ' m j = μ m j) (c : ∀ b, b = h + 171 ∨ b = h + 172 → τ' b = τ b) : qS μ' m τ' h := by
  unfold qS at H ⊢
  rw [c (h + 171) (by omega), c (h + 171 + 1) (by omega)]
  exact mSg_congr (a0 23 (by omega)) (fun b b0 b1 => a b (by omega)) H
theorem qA_cg {μ μ' τ τ' : Sto} {m h : Nat} (H : qA μ m τ h) (a : ∀ b, (m + 21 ≤ b ∧ b ≤ m + 23) → μ' b = μ b) (a0 : ∀ j, j = 29 → μ' m j = μ m j) (c : ∀ b, b = h + 173 ∨ b = h + 174 → τ' b = τ b) : qA μ' m τ' h := by
  unfold qA at H ⊢
  rw [c (h + 173) (by omega), c (h + 173 + 1) (by omega)]
  exact mAg_congr (a0 29 (by omega)) (a _ (by omega)) (a _ (by omega)) (a _ (by omega)) H
def MR (μ : Sto) (m : Nat) (τ : Sto) (h : Nat) : Prop := qE μ m τ h ∧ qB μ m τ h ∧ qV μ m τ h ∧ qT μ m τ h ∧ qS μ m τ h ∧ qA μ m τ h
theorem MR_0 {μ μ' τ τ' : Sto} {m h : Nat} (H : MR μ m τ h) (a : ∀ b, b = m + 1 ∨ (m + 3 ≤ b ∧ b ≤ m + 5) ∨ (m + 29 ≤ b ∧ b ≤ m + 30) ∨ (m + 11 ≤ b ∧ b ≤ m + 15) ∨ b = m + 7 ∨ (m + 16 ≤ b ∧ b ≤ m + 20) ∨ (m + 21 ≤ b ∧ b ≤ m + 23) → μ' b = μ b) (a0 : ∀ j, j = 2 ∨ j = 38 ∨ j = 8 ∨ j = 11 ∨ j = 23 ∨ j = 29 → μ' m j = μ m j) (c : ∀ b, b = h + 1 ∨ b = h + 2 ∨ b = h + 4 ∨ b = h + 5 ∨ b = h + 11 ∨ (h + 461 ≤ b ∧ b < h + 473) ∨ b = h + 12 ∨ b = h + 13 ∨ b = h + 171 ∨ b = h + 172 ∨ b = h + 173 ∨ b = h + 174 → τ' b = τ b) : MR μ' m τ' h := by
  obtain ⟨HE, HB, HV, HT, HS, HA⟩ := H
  exact ⟨qE_cg HE (fun b hb => a b (by omega)) (fun j hj => a0 j (by omega)) (fun b hb => c b (by omega)), qB_cg HB (fun b hb => a b (by omega)) (fun j hj => a0 j (by omega)) (fun b hb => c b (by omega)), qV_cg HV (fun b hb => a b (by omega)) (fun b hb => c b (by omega)), qT_cg HT (fun b hb => a b (by omega)) (fun j hj => a0 j (by omega)) (fun b hb => c b (by omega)), qS_cg HS (fun b hb => a b (by omega)) (fun j hj => a0 j (by omega)) (fun b hb => c b (by omega)), qA_cg HA (fun b hb => a b (by omega)) (fun j hj => a0 j (by omega)) (fun b hb => c b (by omega))⟩
theorem MR_E {μ μ' τ τ' : Sto} {m h : Nat} (H : MR μ m τ h) (a : ∀ b, (m + 29 ≤ b ∧ b ≤ m + 30) ∨ (m + 11 ≤ b ∧ b ≤ m + 15) ∨ b = m + 7 ∨ (m + 16 ≤ b ∧ b ≤ m + 20) ∨ (m + 21 ≤ b ∧ b ≤ m + 23) → μ' b = μ b) (a0 : ∀ j, j = 38 ∨ j = 8 ∨ j = 11 ∨ j = 23 ∨ j = 29 → μ' m j = μ m j) (c : ∀ b, b = h + 4 ∨ b = h + 5 ∨ b = h + 11 ∨ (h + 461 ≤ b ∧ b < h + 473) ∨ b = h + 12 ∨ b = h + 13 ∨ b = h + 171 ∨ b = h + 172 ∨ b = h + 173 ∨ b = h + 174 → τ' b = τ b) (x : qE μ' m τ' h) : MR μ' m τ' h := by
  obtain ⟨HE, HB, HV, HT, HS, HA⟩ := H
  exact ⟨x, qB_cg HB (fun b hb => a b (by omega)) (fun j hj => a0 j (by omega)) (fun b hb => c b (by omega)), qV_cg HV (fun b hb => a b (by omega)) (fun b hb => c b (by omega)), qT_cg HT (fun b hb => a b (by omega)) (fun j hj => a0 j (by omega)) (fun b hb => c b (by omega)), qS_cg HS (fun b hb => a b (by omega)) (fun j hj => a0 j (by omega)) (fun b hb => c b (by omega)), qA_cg HA (fun b hb => a b (by omega)) (fun j hj => a0 j (by omega)) (fun b hb => c b (by omega))⟩
theorem MR_B {μ μ' τ τ' : Sto} {m h : Nat} (H : MR μ m τ h) (a : ∀ b, b = m + 1 ∨ (m + 3 ≤ b ∧ b ≤ m + 5) ∨ (m + 11 ≤ b ∧ b ≤ m + 15) ∨ b = m + 7 ∨ (m + 16 ≤ b ∧ b ≤ m + 20) ∨ (m + 21 ≤ b ∧ b ≤ m + 23) → μ' b = μ b) (a0 : ∀ j, j = 2 ∨ j = 8 ∨ j = 11 ∨ j = 23 ∨ j = 29 → μ' m j = μ m j) (c : ∀ b, b = h + 1 ∨ b = h + 2 ∨ b = h + 11 ∨ (h + 461 ≤ b ∧ b < h + 473) ∨ b = h + 12 ∨ b = h + 13 ∨ b = h + 171 ∨ b = h + 172 ∨ b = h + 173 ∨ b = h + 174 → τ' b = τ b) (x : qB μ' m τ' h) : MR μ' m τ' h := by
  obtain ⟨HE, HB, HV, HT, HS, HA⟩ := H
  exact ⟨qE_cg HE (fun b hb => a b (by omega)) (fun j hj => a0 j (by omega)) (fun b hb => c b (by omega)), x, qV_cg HV (fun b hb => a b (by omega)) (fun b hb => c b (by omega)), qT_cg HT (fun b hb => a b (by omega)) (fun j hj => a0 j (by omega)) (fun b hb => c b (by omega)), qS_cg HS (fun b hb => a b (by omega)) (fun j hj => a0 j (by omega)) (fun b hb => c b (by omega)), qA_cg HA (fun b hb => a b (by omega)) (fun j hj => a0 j (by omega)) (fun b hb => c b (by omega))⟩
theorem MR_V {μ μ' τ τ' : Sto} {m h : Nat} (H : MR μ m τ h) (a : ∀ b, b = m + 1 ∨ (m + 3 ≤ b ∧ b ≤ m + 5) ∨ (m + 29 ≤ b ∧ b ≤ m + 30) ∨ b = m + 7 ∨ (m + 16 ≤ b ∧ b ≤ m + 20) ∨ (m + 21 ≤ b ∧ b ≤ m + 23) → μ' b = μ b) (a0 : ∀ j, j = 2 ∨ j = 38 ∨ j = 8 ∨ j = 11 ∨ j = 23 ∨ j = 29 → μ' m j = μ m j) (c : ∀ b, b = h + 1 ∨ b = h + 2 ∨ b = h + 4 ∨ b = h + 5 ∨ b = h + 12 ∨ b = h + 13 ∨ b = h + 171 ∨ b = h + 172 ∨ b = h + 173 ∨ b = h + 174 → τ' b = τ b) (x : qV μ' m τ' h) : MR μ' m τ' h := by
  obtain ⟨HE, HB, HV, HT, HS, HA⟩ := H
  exact ⟨qE_cg HE (fun b hb => a b (by omega)) (fun j hj => a0 j (by omega)) (fun b hb => c b (by omega)), qB_cg HB (fun b hb => a b (by omega)) (fun j hj => a0 j (by omega)) (fun b hb => c b (by omega)), x, qT_cg HT (fun b hb => a b (by omega)) (fun j hj => a0 j (by omega)) (fun b hb => c b (by omega)), qS_cg HS (fun b hb => a b (by omega)) (fun j hj => a0 j (by omega)) (fun b hb => c b (by omega)), qA_cg HA (fun b hb => a b (by omega)) (fun j hj => a0 j (by omega)) (fun b hb => c b (by omega))⟩
theorem MR_T {μ μ' τ τ' : Sto} {m h : Nat} (H : MR μ m τ h) (a : ∀ b, b = m + 1 ∨ (m + 3 ≤ b ∧ b ≤ m + 5) ∨ (m + 29 ≤ b ∧ b ≤ m + 30) ∨ (m + 11 ≤ b ∧ b ≤ m + 15) ∨ (m + 16 ≤ b ∧ b ≤ m + 20) ∨ (m + 21 ≤ b ∧ b ≤ m + 23) → μ' b = μ b) (a0 : ∀ j, j = 2 ∨ j = 38 ∨ j = 23 ∨ j = 29 → μ' m j = μ m j) (c : ∀ b, b = h + 1 ∨ b = h + 2 ∨ b = h + 4 ∨ b = h + 5 ∨ b = h + 11 ∨ (h + 461 ≤ b ∧ b < h + 473) ∨ b = h + 171 ∨ b = h + 172 ∨ b = h + 173 ∨ b = h + 174 → τ' b = τ b) (x : qT μ' m τ' h) : MR μ' m τ' h := by
  obtain ⟨HE, HB, HV, HT, HS, HA⟩ := H
  exact ⟨qE_cg HE (fun b hb => a b (by omega)) (fun j hj => a0 j (by omega)) (fun b hb => c b (by omega)), qB_cg HB (fun b hb => a b (by omega)) (fun j hj => a0 j (by omega)) (fun b hb => c b (by omega)), qV_cg HV (fun b hb => a b (by omega)) (fun b hb => c b (by omega)), x, qS_cg HS (fun b hb => a b (by omega)) (fun j hj => a0 j (by omega)) (fun b hb => c b (by omega)), qA_cg HA (fun b hb => a b (by omega)) (fun j hj => a0 j (by omega)) (fun b hb => c b (by omega))⟩
theorem MR_S {μ μ' τ τ' : Sto} {m h : Nat} (H : MR μ m τ h) (a : ∀ b, b = m + 1 ∨ (m + 3 ≤ b ∧ b ≤ m + 5) ∨ (m + 29 ≤ b ∧ b ≤ m + 30) ∨ (m + 11 ≤ b ∧ b ≤ m + 15) ∨ b = m + 7 ∨ (m + 21 ≤ b ∧ b ≤ m + 23) → μ' b = μ b) (a0 : ∀ j, j = 2 ∨ j = 38 ∨ j = 8 ∨ j = 11 ∨ j = 29 → μ' m j = μ m j) (c : ∀ b, b = h + 1 ∨ b = h + 2 ∨ b = h + 4 ∨ b = h + 5 ∨ b = h + 11 ∨ (h + 461 ≤ b ∧ b < h + 473) ∨ b = h + 12 ∨ b = h + 13 ∨ b = h + 173 ∨ b = h + 174 → τ' b = τ b) (x : qS μ' m τ' h) : MR μ' m τ' h := by
  obtain ⟨HE, HB, HV, HT, HS, HA⟩ := H
  exact ⟨qE_cg HE (fun b hb => a b (by omega)) (fun j hj => a0 j (by omega)) (fun b hb => c b (by omega)), qB_cg HB (fun b hb => a b (by omega)) (fun j hj => a0 j (by omega)) (fun b hb => c b (by omega)), qV_cg HV (fun b hb => a b (by omega)) (fun b hb => c b (by omega)), qT_cg HT (fun b hb => a b (by omega)) (fun j hj => a0 j (by omega)) (fun b hb => c b (by omega)), x, qA_cg HA (fun b hb => a b (by omega)) (fun j hj => a0 j (by omega)) (fun b hb => c b (by omega))⟩
theorem MR_A {μ μ' τ τ' : Sto} {m h : Nat} (H : MR μ m τ h) (a : ∀ b, b = m + 1 ∨ (m + 3 ≤ b ∧ b ≤ m + 5) ∨ (m + 29 ≤ b ∧ b ≤ m + 30) ∨ (m + 11 ≤ b ∧ b ≤ m + 15) ∨ b = m + 7 ∨ (m + 16 ≤ b ∧ b ≤ m + 20) → μ' b = μ b) (a0 : ∀ j, j = 2 ∨ j = 38 ∨ j = 8 ∨ j = 11 ∨ j = 23 → μ' m j = μ m j) (c : ∀ b, b = h + 1 ∨ b = h + 2 ∨ b = h + 4 ∨ b = h + 5 ∨ b = h + 11 ∨ (h + 461 ≤ b ∧ b < h + 473) ∨ b = h + 12 ∨ b = h + 13 ∨ b = h + 171 ∨ b = h + 172 → τ' b = τ b) (x : qA μ' m τ' h) : MR μ' m τ' h := by
  obtain ⟨HE, HB, HV, HT, HS, HA⟩ := H
  exact ⟨qE_cg HE (fun b hb => a b (by omega)) (fun j hj => a0 j (by omega)) (fun b hb => c b (by omega)), qB_cg HB (fun b hb => a b (by omega)) (fun j hj => a0 j (by omega)) (fun b hb => c b (by omega)), qV_cg HV (fun b hb => a b (by omega)) (fun b hb => c b (by omega)), qT_cg HT (fun b hb => a b (by omega)) (fun j hj => a0 j (by omega)) (fun b hb => c b (by omega)), qS_cg HS (fun b hb => a b (by omega)) (fun j hj => a0 j (by omega)) (fun b hb => c b (by omega)), x⟩
/-- a HillLand at h and a model at m, alike in all that calls answer; at most so many tellings have been made -/
def Rel (S : Shp) (σ : Sto) (h m : Nat) (R : Int) : Prop := IsHill S h ∧ IsMod S m ∧ h + 473 ≤ m ∧ hkO σ h R ∧ MR σ m σ h
theorem MR_old {σ τ : Sto} {m h : Nat} (H : MR σ m σ h) (hm : h + 473 ≤ m) (f : hFr σ τ h) : MR τ m σ h :=
  MR_0 H (fun b hb => f b (by omega)) (fun j _ => by rw [f m (by omega)]) (fun _ _ => rfl)
theorem hk_loc {σ τ : Sto} {h : Nat} {R : Int} (H : hkO σ h R) (e : ∀ b, b < h + 473 → τ b = σ b) : hkO τ h R := hk_same H fun b _ b1 _ _ _ _ _ _ _ => e b b1
/-- a call of both: they answer alike, and are alike again -/
def Pr (G : GT) (S : Shp) (σ : Sto) (h m : Nat) (R : Int) (y y' : MY) (d d' : Nat) (as : List Value) : Prop :=
  PMet G y d 0 0 (.ref h :: as) S σ (fun r S' τ => S' = S ∧ ∃ v : Int, r = some (.int (iI v)) ∧ PMet G y' d' 0 0 (.ref m :: as) S τ (fun r' S'' μ => S'' = S ∧ r' = some (.int (iI v)) ∧ Rel S μ h m (R + 1)))
theorem Pr_mk {G : GT} {S : Shp} {σ : Sto} {h m : Nat} {R : Int} {y y' : MY} {d d' : Nat} {as : List Value} (hR : Rel S σ h m R) {Qc : Option Value → Shp → Sto → Prop} (Hc : PMet G y d 0 0 (.ref h :: as) S σ Qc)
    (Hk : ∀ r S' τ, Qc r S' τ → S' = S ∧ ∃ v : Int, r = some (.int (iI v)) ∧ hkO τ h (R + 1) ∧ hFr σ τ h ∧ (MR τ m σ h → ∃ Qm : Option Value → Shp → Sto → Prop, PMet G y' d' 0 0 (.ref m :: as) S τ Qm ∧ ∀ r' S'' μ, Qm r' S'' μ → S'' = S ∧ r' = some (.int (iI v)) ∧ (∀ b, b < m → μ b = τ b) ∧ MR μ m τ h)) : Pr G S σ h m R y y' d d' as := by
  obtain ⟨r1, r2, r3, r4, r5⟩ := hR
  unfold Pr
  refine PMet.weaken Hc fun r S' τ q => ?_
  obtain ⟨a1, v, a2, a3, a4, a5⟩ := Hk r S' τ q
  obtain ⟨Qm, b1, b2⟩ := a5 (MR_old r5 r3 a4)
  refine ⟨a1, v, a2, PMet.weaken b1 fun r' S'' μ q' => ?_⟩
  obtain ⟨c1, c2, c3, c4⟩ := b2 r' S'' μ q'
  exact ⟨c1, c2, r1, r2, r3, hk_loc a3 (fun b hb => c3 b (by omega)), MR_0 c4 (fun _ _ => rfl) (fun _ _ => rfl) (fun b hb => c3 b (by omega))⟩
/-- a call that looks only -/
theorem Pr_ro {G : GT} {S : Shp} {σ : Sto} {h m : Nat} {R : Int} {y y' : MY} {d d' : Nat} {as : List Value} (hR : Rel S σ h m R) {v v' : Int} (Hc : PMet G y d 0 0 (.ref h :: as) S σ (isP (some (.int (iI v))) S σ)) {Qm : Option Value → Shp → Sto → Prop} (Hm : PMet G y' d' 0 0 (.ref m :: as) S σ Qm) (hQ : ∀ r' S'' μ, Qm r' S'' μ → S'' = S ∧ r' = some (.int (iI v')) ∧ ∀ b, b ≠ m + 10 → μ b = σ b) (hv : v' = v) : Pr G S σ h m R y y' d d' as := by
  subst hv
  refine Pr_mk hR Hc fun r S' τ q => ?_
  obtain ⟨rfl, hS, hσ⟩ := q
  have hS2 := hS.symm
  subst hS2
  have hσ2 := hσ.symm
  subst hσ2
  refine ⟨rfl, v', rfl, hR.2.2.2.1.mono (by omega), fun _ _ => rfl, fun H => ⟨Qm, Hm, fun r' S'' μ q' => ?_⟩⟩
  obtain ⟨c1, c2, c3⟩ := hQ r' S'' μ q'
  exact ⟨c1, c2, fun b hb => c3 b (by omega), MR_0 H (fun b hb => c3 b (by omega)) (fun j _ => by rw [c3 m (by omega)]) (fun _ _ => rfl)⟩
theorem isP_ro {S : Shp} {σ : Sto} {m : Nat} {v : Int} : ∀ r' S'' μ, isP (some (.int (iI v))) S σ r' S'' μ → S'' = S ∧ r' = some (.int (iI v)) ∧ ∀ b, b ≠ m + 10 → μ b = σ b := fun r' S'' μ q => by
  obtain ⟨rfl, rfl, rfl⟩ := q
  exact ⟨rfl, rfl, fun _ _ => rfl⟩
theorem upS_ro {S : Shp} {σ : Sto} {m : Nat} {v : Int} : ∀ (r' : Option Value) (S'' : Shp) (μ : Sto), (S'' = S ∧ r' = some (.int (iI v)) ∧ ∃ y : Int → Int, μ = upS σ (m + 10) y) → S'' = S ∧ r' = some (.int (iI v)) ∧ ∀ b, b ≠ m + 10 → μ b = σ b := fun r' S'' μ q => by
  obtain ⟨rfl, rfl, y, rfl⟩ := q
  exact ⟨rfl, rfl, fun _ hb => upS_ne hb⟩

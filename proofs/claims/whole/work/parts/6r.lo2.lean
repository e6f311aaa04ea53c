theorem evOk_row {f g : Int → Int} {i : Int} (h : ∀ p, 0 ≤ p → p ≤ 6 → g (7 * i + p) = f (7 * i + p)) (ho : evOk f i) : evOk g i := by
  have h0 := h 0 (by omega) (by omega)
  have h6 := h 6 (by omega) (by omega)
  rw [Int.add_zero] at h0
  have e : ∀ p, 0 ≤ p → p ≤ 4 → g (7 * i + 1 + p) = f (7 * i + 1 + p) := fun p p0 p1 => by
    have := h (1 + p) (by omega) (by omega)
    rw [← Int.add_assoc] at this
    exact this
  refine ⟨?_, fun p p0 p1 => by rw [e p p0 p1]; exact ho.2.1 p p0 p1, by rw [h6]; exact ho.2.2⟩
  rw [h0, e 0 (by omega) (by omega), e 1 (by omega) (by omega), e 2 (by omega) (by omega), e 3 (by omega) (by omega), e 4 (by omega) (by omega)]
  exact ho.1
theorem gW_ok {f : Int → Int} {w i : Int} (h : evOk f i) (hs : losP f i → suF (f (7 * i)) (xT 1 (f (7 * i))) (f (mnp f i) + dgW w (looF f i))) : evOk (gW f w) i := by
  by_cases hl : losP f i
  · refine evOk_row (f := up1 f (mnp f i) (f (mnp f i) + dgW w (looF f i))) (fun p p0 p1 => ?_) (evOk_var h (hs hl)).1
    by_cases q : 7 * i + p = mnp f i
    · rw [q, gW_mn h.1.1 hl, up1_same]
    · rw [gW_ne p0 p1 (fun r => q r.2), up1_ne q]
  · exact evOk_row (fun p p0 p1 => gW_ne p0 p1 (fun r => hl r.1)) h
theorem gW_k {f : Int → Int} {w i : Int} (hk : 0 ≤ f (7 * i) ∧ f (7 * i) ≤ 5) : gW f w (7 * i) = f (7 * i) := by
  have := gW_ne (f := f) (w := w) (i := i) (p := 0) (by omega) (by omega) (fun r => by have := mnp_b hk; have := r.2; omega)
  rw [Int.add_zero] at this
  exact this
theorem gW_g {f g : Int → Int} {w i : Int} (h : evOk (gW f w) i) (hk : 0 ≤ f (7 * i) ∧ f (7 * i) ≤ 5) (hg : ∀ p, 0 ≤ p → p < 5 → g p = gW f w (7 * i + 1 + p)) : okG (f (7 * i)) g ∧ ∀ c col, evG (f (7 * i)) g c col = evR (gW f w) i c col := by
  have e0 := hg 0 (by omega) (by omega)
  have e1 := hg 1 (by omega) (by omega)
  have e2 := hg 2 (by omega) (by omega)
  have e3 := hg 3 (by omega) (by omega)
  have e4 := hg 4 (by omega) (by omega)
  have ek := gW_k (w := w) hk
  refine ⟨?_, fun c col => ?_⟩
  · unfold okG
    rw [e0, e1, e2, e3, e4, ← ek]
    exact h.1
  · unfold evG evR
    rw [e0, e1, e2, e3, e4, ek]
theorem gW_r1 {f g0 N : Int → Int} {w i : Int} (hl : losP f i) (hk : 0 ≤ f (7 * i) ∧ f (7 * i) ≤ 5) (hN : ∀ p, 0 ≤ p → p < 5 → N (5 * i + p) = f (7 * i + 1 + p)) : ∀ p, 0 ≤ p → p < 5 → (up1 (pfF g0 (fun j => N (5 * i + j)) 0 5) (xT 1 (f (7 * i))) (f (mnp f i) + dgW w (looF f i))) p = gW f w (7 * i + 1 + p) := by
  intro p p0 p1
  by_cases q : p = xT 1 (f (7 * i))
  · rw [q, up1_same]
    exact (gW_mn hk hl).symm
  · rw [up1_ne q]
    unfold pfF
    rw [if_pos ⟨p0, p1⟩]
    show N (5 * i + p) = _
    rw [hN p p0 p1, show 7 * i + 1 + p = 7 * i + (1 + p) by omega]
    exact (gW_ne (by omega) (by omega) (fun r => q (by have := r.2; unfold mnp at this; omega))).symm
theorem gW_r0 {f g0 N : Int → Int} {w i : Int} (hl : ¬ losP f i) (hN : ∀ p, 0 ≤ p → p < 5 → N (5 * i + p) = f (7 * i + 1 + p)) : ∀ p, 0 ≤ p → p < 5 → (pfF g0 (fun j => N (5 * i + j)) 0 5) p = gW f w (7 * i + 1 + p) := by
  intro p p0 p1
  unfold pfF
  rw [if_pos ⟨p0, p1⟩]
  show N (5 * i + p) = _
  rw [hN p p0 p1, show 7 * i + 1 + p = 7 * i + (1 + p) by omega]
  exact (gW_ne (by omega) (by omega) (fun r => hl r.1)).symm
/-- a draft of the land in the way w, so many of its events having befallen -/
def blI (σ τ : Sto) (m : Nat) (f : Int → Int) (w i : Int) : Prop := mFg σ τ m ∧ cOk (τ (m + 1)) 15360 ∧ (∀ j, j < 5120 → τ (m + 1) j = σ (m + 1) j) ∧ (okW f w i → mLd (τ (m + 1)) 1 (gW f w) i)
theorem blI_s {σ τ τ' : Sto} {m : Nat} {f G : Int → Int} {w i : Int} (h : blI σ τ m f w i) (h1 : okW f w i) (i0 : 0 ≤ i) (hk : 0 ≤ f (7 * i) ∧ f (7 * i) ≤ 5) (ho : evOk (gW f w) i) (hg : ∀ p, 0 ≤ p → p < 5 → G p = gW f w (7 * i + 1 + p)) (hf : mFr (upS τ (m + 6) G) τ' m) (he : τ' (m + 1) = evL (τ (m + 1)) 1 (f (7 * i)) G 64) : blI σ τ' m f w (i + 1) := by
  obtain ⟨a1, a2, a3, a4⟩ := h
  obtain ⟨b1, b2⟩ := gW_g ho hk hg
  refine ⟨fun b q1 q2 q6 => ?_, ?_, fun j hj => ?_, fun _ c c0 c1 => ?_⟩
  · rw [hf b q1 q2, upS_ne q6]
    exact a1 b q1 q2 q6
  · rw [he]
    exact evL_ok a2 (by omega) (by omega) b1
  · rw [he, evL_ne (by omega)]
    exact a3 j hj
  · rw [he]
    refine (evL_at ⟨c0, c1⟩).trans ?_
    rw [b2, tlF_succ (gW f w) c zF i0]
    exact evR_eq (a4 h1 c c0 c1) _ _ _
theorem blI_no {σ τ : Sto} {m : Nat} {f G : Int → Int} {w i : Int} (h : blI σ τ m f w i) (h1 : ¬ okW f w (i + 1)) : blI σ (upS τ (m + 6) G) m f w (i + 1) := by
  obtain ⟨a1, a2, a3, a4⟩ := h
  exact ⟨fun b q1 q2 q6 => by rw [upS_ne q6]; exact a1 b q1 q2 q6, by rw [upS_ne (by omega)]; exact a2, fun j hj => by rw [upS_ne (by omega)]; exact a3 j hj, fun q => absurd q h1⟩
theorem blI_0 {σ : Sto} {m : Nat} {f : Int → Int} {w : Int} (hC : cOk (σ (m + 1)) 15360) : blI σ (upS σ (m + 1) (pfF (σ (m + 1)) (bgL 1) (5120 * 1) (5120 * 1 + 5120))) m f w 0 := by
  have h := bdR_0 (m := m) (L := 1) (f := gW f w) hC (by omega)
  exact ⟨h.1, h.2.1, fun j hj => h.2.2.2 j (by omega), fun _ => h.2.2.1⟩

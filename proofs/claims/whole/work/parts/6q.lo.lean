theorem wvI_sh (g : Int) : ∀ (t : Nat) (w : Int), wvI g w (t + 1) = wvI g (w / g) t
  | 0, _ => rfl
  | t + 1, w => by
    show wvI g w (t + 1) / g = wvI g (w / g) t / g
    rw [wvI_sh g t w]
/-- by how much a way changes the t-th loose event -/
def dgW (w t : Int) : Int := wvI 3 w t.toNat % 3 - 1
theorem dgW_b (w t : Int) : -1 ≤ dgW w t ∧ dgW w t ≤ 1 := by unfold dgW; omega
/-- the events in the way w -/
def gW (f : Int → Int) (w : Int) : Int → Int := fun j => if losP f (j / 7) ∧ j = mnp f (j / 7) then f j + dgW w (looF f (j / 7)) else f j
theorem gW_mn {f : Int → Int} {w i : Int} (hk : 0 ≤ f (7 * i) ∧ f (7 * i) ≤ 5) (hl : losP f i) : gW f w (mnp f i) = f (mnp f i) + dgW w (looF f i) := by
  have hb := mnp_b hk
  have e : mnp f i / 7 = i := by omega
  unfold gW
  rw [e, if_pos ⟨hl, rfl⟩]
theorem gW_ne {f : Int → Int} {w i p : Int} (p0 : 0 ≤ p) (p1 : p ≤ 6) (h : ¬ (losP f i ∧ 7 * i + p = mnp f i)) : gW f w (7 * i + p) = f (7 * i + p) := by
  have e : (7 * i + p) / 7 = i := by omega
  unfold gW
  rw [e, if_neg h]
abbrev bdB (f : Int → Int) (w : Int) : Int → Bool := fun q => decide (losP f q ∧ ¬ suF (f (7 * q)) (xT 1 (f (7 * q))) (f (mnp f q) + dgW w (looF f q)))
/-- the way w is one, as far as i -/
abbrev okW (f : Int → Int) (w i : Int) : Prop := firI (bdB f w) i.toNat = -1
theorem okW_at {f : Int → Int} {w n i : Int} (h : okW f w n) (i0 : 0 ≤ i) (i1 : i < n) (hl : losP f i) : suF (f (7 * i)) (xT 1 (f (7 * i))) (f (mnp f i) + dgW w (looF f i)) := by
  have e := of_decide_eq_false ((firI_spec (P := bdB f w) (n := n.toNat)).1 h i i0 (by omega))
  exact Classical.byContradiction fun q => e ⟨hl, q⟩
theorem okW_of {f : Int → Int} {w n : Int} (h : ∀ i, 0 ≤ i → i < n → losP f i → suF (f (7 * i)) (xT 1 (f (7 * i))) (f (mnp f i) + dgW w (looF f i))) : okW f w n :=
  firI_none fun i i0 i1 => decide_eq_false fun q => q.2 (h i i0 (by omega) q.1)
theorem okW_mono {f : Int → Int} {w n i : Int} (h : okW f w n) (hi : i ≤ n) : okW f w i := okW_of fun q q0 q1 ql => okW_at h q0 (by omega) ql
theorem vrR_W {f : Int → Int} {w n : Int} (hk : ∀ i, 0 ≤ i → i < n → 0 ≤ f (7 * i) ∧ f (7 * i) ≤ 5) (h : okW f w n) : vrR f (gW f w) 0 n := by
  refine ⟨fun j j0 j1 => ?_, fun i i0 i1 hl => ⟨dgW w (looF f i), (dgW_b _ _).1, (dgW_b _ _).2, gW_mn (hk i i0 i1) hl, okW_at h i0 i1 hl⟩⟩
  by_cases q : losP f (j / 7) ∧ j = mnp f (j / 7)
  · exact Or.inr ⟨j / 7, by omega, by omega, q.1, q.2⟩
  · refine Or.inl ?_
    unfold gW
    rw [if_neg q]
theorem exW {f e : Int → Int} {n : Int} (he : ∀ q, 0 ≤ q → q < n → losP f q → -1 ≤ e q ∧ e q ≤ 1) : ∀ (k : Nat) (i : Int), 0 ≤ i → i + (k : Int) = n → ∃ w, 0 ≤ w ∧ w < pwI 3 (looF f n - looF f i) ∧ ∀ q, i ≤ q → q < n → losP f q → wvI 3 w (looF f q - looF f i).toNat % 3 - 1 = e q
  | 0, i, i0, hi => ⟨0, Int.le_refl _, by rw [show n = i by omega, Int.sub_self]; decide, fun q q0 q1 => by omega⟩
  | k + 1, i, i0, hi => by
    obtain ⟨w, w0, w1, w2⟩ := exW he k (i + 1) (by omega) (by omega)
    have hs := looF_s f i0
    have hle := looF_le f (i := i + 1) (j := n) (by omega) (by omega)
    by_cases hl : losP f i
    · rw [b01_t hl] at hs
      have hb := he i i0 (by omega) hl
      have ep : pwI 3 (looF f n - looF f i) = pwI 3 (looF f n - looF f (i + 1)) * 3 := by
        rw [← pwI_s (by omega) (by omega)]
        congr 1
        omega
      refine ⟨e i + 1 + 3 * w, by omega, by rw [ep]; omega, fun q q0 q1 ql => ?_⟩
      by_cases hq : q = i
      · subst hq
        rw [Int.sub_self]
        show (e q + 1 + 3 * w) % 3 - 1 = e q
        omega
      · have hle2 := looF_le f (i := i + 1) (j := q) (by omega) (by omega)
        rw [show (looF f q - looF f i).toNat = (looF f q - looF f (i + 1)).toNat + 1 by omega, wvI_sh, show (e i + 1 + 3 * w) / 3 = w by omega]
        exact w2 q (by omega) q1 ql
    · rw [b01_f hl, Int.add_zero] at hs
      rw [hs] at w1 w2
      refine ⟨w, w0, w1, fun q q0 q1 ql => ?_⟩
      by_cases hq : q = i
      · rw [hq] at ql
        exact absurd ql hl
      · exact w2 q (by omega) q1 ql
/-- each choice is that of a way -/
theorem W_vrR {f g : Int → Int} {n : Int} (hn : 0 ≤ n) (hk : ∀ i, 0 ≤ i → i < n → 0 ≤ f (7 * i) ∧ f (7 * i) ≤ 5) (h : vrR f g 0 n) : ∃ w, 0 ≤ w ∧ w < pwI 3 (looF f n) ∧ okW f w n ∧ ∀ j, 0 ≤ j → j < 7 * n → gW f w j = g j := by
  obtain ⟨w, w0, w1, w2⟩ := exW (f := f) (e := fun q => g (mnp f q) - f (mnp f q)) (n := n) (fun q q0 q1 ql => by
    obtain ⟨e, e0, e1, e2, e3⟩ := h.2 q q0 q1 ql
    try dsimp only
    omega) n.toNat 0 (by omega) (by omega)
  have h0 : looF f 0 = 0 := rfl
  rw [h0, Int.sub_zero] at w1
  have hd : ∀ q, 0 ≤ q → q < n → losP f q → dgW w (looF f q) = g (mnp f q) - f (mnp f q) := fun q q0 q1 ql => by
    have := w2 q q0 q1 ql
    rw [h0, Int.sub_zero] at this
    exact this
  refine ⟨w, w0, w1, okW_of fun i i0 i1 il => ?_, fun j j0 j1 => ?_⟩
  · obtain ⟨e, e0, e1, e2, e3⟩ := h.2 i i0 i1 il
    rw [hd i i0 i1 il, show f (mnp f i) + (g (mnp f i) - f (mnp f i)) = f (mnp f i) + e by omega]
    exact e3
  · unfold gW
    by_cases q : losP f (j / 7) ∧ j = mnp f (j / 7)
    · rw [if_pos q, hd _ (by omega) (by omega) q.1, ← q.2]
      omega
    · rw [if_neg q]
      rcases h.1 j j0 j1 with e | ⟨i, i0, i1, i2, i3⟩
      · exact e.symm
      · have hb := mnp_b (hk i i0 i1)
        rw [show j / 7 = i by omega] at q
        exact absurd ⟨i2, i3⟩ q
/-- the least and the greatest so far, over the ways ahead of x -/
def lsW (f : Int → Int) (n b x v : Int) : Prop := (∀ w, 0 ≤ w → w < x → okW f w n → 0 ≤ v ∧ v ≤ amF (gW f w) n b) ∧ (v = -1 ∨ ∃ w, 0 ≤ w ∧ w < x ∧ okW f w n ∧ v = amF (gW f w) n b)
def grW (f : Int → Int) (n b x v : Int) : Prop := (∀ w, 0 ≤ w → w < x → okW f w n → 0 ≤ v ∧ amF (gW f w) n b ≤ v) ∧ (v = -1 ∨ ∃ w, 0 ≤ w ∧ w < x ∧ okW f w n ∧ v = amF (gW f w) n b)
theorem lsW_end {f : Int → Int} {n b v : Int} (hn : 0 ≤ n) (hE : ∀ i, 0 ≤ i → i < n → evOk f i) (h : lsW f n b (pwI 3 (looF f n)) v) : isLst f n b v := by
  have hk : ∀ i, 0 ≤ i → i < n → 0 ≤ f (7 * i) ∧ f (7 * i) ≤ 5 := fun i i0 i1 => (hE i i0 i1).1.1
  have key : ∀ g, vrR f g 0 n → 0 ≤ v ∧ v ≤ amF g n b := fun g hg => by
    obtain ⟨w, w0, w1, w2, w3⟩ := W_vrR hn hk hg
    have := h.1 w w0 w1 w2
    rw [amF_congr w3 hn] at this
    exact this
  refine ⟨fun g hg => (key g hg).2, ?_⟩
  rcases h.2 with e | ⟨w, w0, w1, w2, w3⟩
  · have := (key f (vrR_refl (Int.le_refl 0) hE)).1
    omega
  · exact ⟨gW f w, vrR_W hk w2, w3⟩
theorem grW_end {f : Int → Int} {n b v : Int} (hn : 0 ≤ n) (hE : ∀ i, 0 ≤ i → i < n → evOk f i) (h : grW f n b (pwI 3 (looF f n)) v) : isGrt f n b v := by
  have hk : ∀ i, 0 ≤ i → i < n → 0 ≤ f (7 * i) ∧ f (7 * i) ≤ 5 := fun i i0 i1 => (hE i i0 i1).1.1
  have key : ∀ g, vrR f g 0 n → 0 ≤ v ∧ amF g n b ≤ v := fun g hg => by
    obtain ⟨w, w0, w1, w2, w3⟩ := W_vrR hn hk hg
    have := h.1 w w0 w1 w2
    rw [amF_congr w3 hn] at this
    exact this
  refine ⟨fun g hg => (key g hg).2, ?_⟩
  rcases h.2 with e | ⟨w, w0, w1, w2, w3⟩
  · have := (key f (vrR_refl (Int.le_refl 0) hE)).1
    omega
  · exact ⟨gW f w, vrR_W hk w2, w3⟩
theorem lsW_no {f : Int → Int} {n b x v : Int} (h : lsW f n b x v) (hx : ¬ okW f x n) : lsW f n b (x + 1) v := by
  refine ⟨fun w w0 w1 w2 => ?_, ?_⟩
  · by_cases q : w = x
    · rw [q] at w2; exact absurd w2 hx
    · exact h.1 w w0 (by omega) w2
  · rcases h.2 with e | ⟨w, w0, w1, w2, w3⟩
    · exact Or.inl e
    · exact Or.inr ⟨w, w0, by omega, w2, w3⟩
theorem grW_no {f : Int → Int} {n b x v : Int} (h : grW f n b x v) (hx : ¬ okW f x n) : grW f n b (x + 1) v := by
  refine ⟨fun w w0 w1 w2 => ?_, ?_⟩
  · by_cases q : w = x
    · rw [q] at w2; exact absurd w2 hx
    · exact h.1 w w0 (by omega) w2
  · rcases h.2 with e | ⟨w, w0, w1, w2, w3⟩
    · exact Or.inl e
    · exact Or.inr ⟨w, w0, by omega, w2, w3⟩
theorem lsW_yes {f : Int → Int} {n b x v a v' : Int} (h : lsW f n b x v) (x0 : 0 ≤ x) (hx : okW f x n) (ha : a = amF (gW f x) n b) (hv : v' = if v < 0 ∨ a < v then a else v) : lsW f n b (x + 1) v' := by
  have hab := amF_b (gW f x) n b
  refine ⟨fun w w0 w1 w2 => ?_, ?_⟩
  · by_cases q : w = x
    · rw [q, ← ha]
      split at hv <;> omega
    · have := h.1 w w0 (by omega) w2
      split at hv <;> omega
  · split at hv
    · exact Or.inr ⟨x, x0, by omega, hx, by omega⟩
    · rcases h.2 with e | ⟨w, w0, w1, w2, w3⟩
      · omega
      · exact Or.inr ⟨w, w0, by omega, w2, by omega⟩
theorem grW_yes {f : Int → Int} {n b x v a v' : Int} (h : grW f n b x v) (x0 : 0 ≤ x) (hx : okW f x n) (ha : a = amF (gW f x) n b) (hv : v' = if v < 0 ∨ v < a then a else v) : grW f n b (x + 1) v' := by
  have hab := amF_b (gW f x) n b
  refine ⟨fun w w0 w1 w2 => ?_, ?_⟩
  · by_cases q : w = x
    · rw [q, ← ha]
      split at hv <;> omega
    · have := h.1 w w0 (by omega) w2
      split at hv <;> omega
  · split at hv
    · exact Or.inr ⟨x, x0, by omega, hx, by omega⟩
    · rcases h.2 with e | ⟨w, w0, w1, w2, w3⟩
      · omega
      · exact Or.inr ⟨w, w0, by omega, w2, by omega⟩

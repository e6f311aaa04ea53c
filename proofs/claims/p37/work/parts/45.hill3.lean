theorem evOk_eq {f g : Int → Int} {i : Int} (e : ∀ p, 0 ≤ p → p ≤ 6 → g (7 * i + p) = f (7 * i + p)) (h : evOk f i) : evOk g i := by
  have e0 := e 0 (by omega) (by omega)
  rw [Int.add_zero] at e0
  have e1 : ∀ p, 0 ≤ p → p ≤ 4 → g (7 * i + 1 + p) = f (7 * i + 1 + p) := fun p p0 p1 => by
    have := e (1 + p) (by omega) (by omega)
    rw [← Int.add_assoc] at this
    exact this
  unfold evOk
  rw [e0, e1 0 (by omega) (by omega), e1 1 (by omega) (by omega), e1 2 (by omega) (by omega), e1 3 (by omega) (by omega), e1 4 (by omega) (by omega), e 6 (by omega) (by omega)]
  refine ⟨h.1, fun p p0 p1 => ?_, h.2.2⟩
  rw [e1 p p0 p1]
  exact h.2.1 p p0 p1
theorem cpF_112 (f g : Int → Int) {j : Int} (h0 : 0 ≤ j) (h1 : j < 112) : cpF f g 0 0 112 j = f j := by
  unfold cpF
  rw [if_pos (by omega)]
  congr 1
  omega
theorem taOk_be {σ μ : Sto} {t s : Nat} (hT : taOk σ t) (hn : μ s 2 = σ t 2) {g : Int → Int} (hr : μ (s + 1) = cpF (σ (t + 1)) g 0 0 112) : taOk μ s := by
  have hT1 := hT.1
  refine ⟨by rw [hn]; exact hT1, fun i i0 i1 => ?_⟩
  rw [hn] at i1
  rw [hr]
  exact evOk_eq (fun p p0 p1 => cpF_112 _ _ (by omega) (by omega)) (hT.2 i i0 i1)
/-- a byte of a long, the lowest being the 0th -/
def byU (b : Int64) (i : Int) : Int := bAnd (((b.toUInt64 >>> ((iI (8 * i)).toInt64.toUInt64 &&& Int64.toUInt64 63)).toInt64).toInt32).toInt 255
def fdF (B : Int → Int) (z c m : Int) (b : Int64) : Int → Int := fun q => if z ≤ q ∧ q < z + c then byU b (m - (q - z)) else B q
theorem fdF_0 (B : Int → Int) (z m : Int) (b : Int64) : fdF B z 0 m b = B := by
  funext q
  unfold fdF
  rw [if_neg (by omega)]
theorem fdF_s (B : Int → Int) (z m : Int) (b : Int64) {c : Int} (h : 0 ≤ c) : up1 (fdF B z c m b) (z + c) (byU b (m - c)) = fdF B z (c + 1) m b := by
  funext q
  unfold up1 fdF
  try dsimp only
  by_cases e : q = z + c
  · rw [if_pos e, if_pos (by omega), e]
    congr 1
    omega
  · rw [if_neg e]
    by_cases e2 : z ≤ q ∧ q < z + c
    · rw [if_pos e2, if_pos (by omega)]
    · rw [if_neg e2, if_neg (by omega)]
-- (not here: feed_loop)
-- (not here: c_X11_feed)
-- (not here: c_X11_read)
-- (not here: c_X11_keep)
-- (not here: c_X11_back)
-- (not here: c_X11_differ)

def sq (x : Int) : Int := x * x
theorem sq_0 (x : Int) : 0 ≤ sq x := by
  unfold sq
  rcases Int.le_total 0 x with h | h
  · exact Int.mul_nonneg h h
  · exact Int.mul_nonneg_of_nonpos_of_nonpos h h
theorem sq_neg (x : Int) : sq (-x) = sq x := by
  unfold sq
  rw [Int.neg_mul_neg]
theorem sq_le {t x : Int} (h0 : 0 ≤ t) (h : t ≤ x ∨ x ≤ -t) : sq t ≤ sq x := by
  rcases h with h | h
  · exact Int.mul_le_mul h h h0 (by omega)
  · rw [← sq_neg x]
    exact Int.mul_le_mul (by omega) (by omega) h0 (by omega)
theorem sq_b {x : Int} (h : -80 ≤ x ∧ x ≤ 80) : 0 ≤ sq x ∧ sq x ≤ 6400 := by
  refine ⟨sq_0 x, ?_⟩
  rcases Int.le_total 0 x with h0 | h0
  · have := sq_le (t := x) (x := 80) h0 (Or.inl h.2)
    exact this
  · have := sq_le (t := -x) (x := 80) (by omega) (Or.inl (by omega))
    rw [sq_neg] at this
    exact this
/-- the least of g from lo on, so many, and a cap -/
def mnI (g : Int → Int) (lo cap : Int) : Nat → Int
  | 0 => cap
  | n + 1 => min (mnI g lo cap n) (g (lo + (n : Int)))
def IsMn (g : Int → Int) (lo en cap r : Int) : Prop := r ≤ cap ∧ (∀ h, lo ≤ h → h < en → r ≤ g h) ∧ (r = cap ∨ ∃ h, lo ≤ h ∧ h < en ∧ r = g h)
theorem IsMn.uniq {g : Int → Int} {lo en cap r r' : Int} (h : IsMn g lo en cap r) (h' : IsMn g lo en cap r') : r = r' := by
  obtain ⟨h1, h2, h3⟩ := h
  obtain ⟨k1, k2, k3⟩ := h'
  rcases h3 with e | ⟨x, x0, x1, e⟩
  · rcases k3 with e' | ⟨y, y0, y1, e'⟩
    · omega
    · have := h2 y y0 y1
      omega
  · have q1 := k2 x x0 x1
    rcases k3 with e' | ⟨y, y0, y1, e'⟩
    · omega
    · have := h2 y y0 y1
      omega
theorem mnI_mn (g : Int → Int) (lo cap : Int) : ∀ n : Nat, IsMn g lo (lo + n) cap (mnI g lo cap n)
  | 0 => ⟨Int.le_refl _, fun h h0 h1 => by omega, Or.inl rfl⟩
  | n + 1 => by
    obtain ⟨h1, h2, h3⟩ := mnI_mn g lo cap n
    refine ⟨by simp only [mnI]; omega, fun h q0 q1 => ?_, ?_⟩
    · simp only [mnI]
      by_cases e : h = lo + n
      · rw [e]; omega
      · have := h2 h q0 (by omega)
        omega
    · simp only [mnI]
      by_cases e : mnI g lo cap n ≤ g (lo + n)
      · rw [Int.min_eq_left e]
        rcases h3 with h3 | ⟨x, x0, x1, x2⟩
        · exact Or.inl h3
        · exact Or.inr ⟨x, x0, by omega, x2⟩
      · rw [Int.min_eq_right (by omega)]
        exact Or.inr ⟨lo + n, by omega, by omega, rfl⟩
theorem mnI_s {g : Int → Int} {lo cap h : Int} (h0 : lo ≤ h) : mnI g lo cap (h + 1 - lo).toNat = min (mnI g lo cap (h - lo).toNat) (g h) := by
  rw [show (h + 1 - lo).toNat = (h - lo).toNat + 1 by omega]
  simp only [mnI]
  rw [show lo + (((h - lo).toNat : Nat) : Int) = h by omega]
/-- the least bend from step 7 - k on, behind and own being known -/
def drV (lo hi : Int → Int) : Nat → Int → Int → Int
  | 0, _, _ => 0
  | k + 1, b, c => mnI (fun h => sq (b - 2 * c + h) + drV lo hi k c h) (lo (7 - (k : Int))) 1000000 (hi (7 - (k : Int)) + 1 - lo (7 - (k : Int))).toNat
def drW (lo hi : Int → Int) (s b c : Int) : Int := drV lo hi (7 - s).toNat b c
def drG (lo hi : Int → Int) (s b c h : Int) : Int := sq (b - 2 * c + h) + drW lo hi (s + 1) c h
theorem drW_7 (lo hi : Int → Int) (b c : Int) : drW lo hi 7 b c = 0 := rfl
theorem drW_s {lo hi : Int → Int} {s b c : Int} (h : s ≤ 6) : drW lo hi s b c = mnI (drG lo hi s b c) (lo (s + 1)) 1000000 (hi (s + 1) + 1 - lo (s + 1)).toNat := by
  unfold drW
  rw [show (7 - s).toNat = (6 - s).toNat + 1 by omega]
  simp only [drV]
  rw [show (7 : Int) - (((6 - s).toNat : Nat) : Int) = s + 1 by omega]
  congr 1
  funext h
  unfold drG drW
  rw [show (7 - (s + 1)).toNat = (6 - s).toNat by omega]
def bndOk (lo hi : Int → Int) : Prop := ∀ s, 0 ≤ s → s < 8 → -20 ≤ lo s ∧ lo s ≤ hi s ∧ hi s ≤ 20
theorem drV_b {lo hi : Int → Int} (h : bndOk lo hi) : ∀ (k : Nat) (b c : Int), k ≤ 7 → -20 ≤ b → b ≤ 20 → -20 ≤ c → c ≤ 20 → 0 ≤ drV lo hi k b c ∧ drV lo hi k b c ≤ 6400 * k
  | 0, _, _, _, _, _, _, _ => ⟨Int.le_refl _, Int.le_refl _⟩
  | k + 1, b, c, hk, b0, b1, c0, c1 => by
    obtain ⟨r0, r1, r2⟩ := h (7 - (k : Int)) (by omega) (by omega)
    obtain ⟨m1, m2, m3⟩ := mnI_mn (fun h => sq (b - 2 * c + h) + drV lo hi k c h) (lo (7 - (k : Int))) 1000000 (hi (7 - (k : Int)) + 1 - lo (7 - (k : Int))).toNat
    have e0 := m2 (lo (7 - (k : Int))) (Int.le_refl _) (by omega)
    have i0 := drV_b h k c (lo (7 - (k : Int))) (by omega) c0 c1 (by omega) (by omega)
    have s0 := sq_b (x := b - 2 * c + lo (7 - (k : Int))) (by omega)
    simp only [drV]
    dsimp only at e0
    refine ⟨?_, by omega⟩
    rcases m3 with m3 | ⟨x, x0, x1, m3⟩
    · omega
    · have i1 := drV_b h k c x (by omega) c0 c1 (by omega) (by omega)
      have s1 := sq_0 (b - 2 * c + x)
      dsimp only at m3
      omega
theorem drW_b {lo hi : Int → Int} (h : bndOk lo hi) {s b c : Int} (hs : 0 ≤ s ∧ s ≤ 7) (hb : -20 ≤ b ∧ b ≤ 20) (hc : -20 ≤ c ∧ c ≤ 20) : 0 ≤ drW lo hi s b c ∧ drW lo hi s b c ≤ 44800 := by
  have := drV_b h (7 - s).toNat b c (by omega) hb.1 hb.2 hc.1 hc.2
  unfold drW
  omega
theorem drG_b {lo hi : Int → Int} (h : bndOk lo hi) {s b c e : Int} (hs : 0 ≤ s ∧ s ≤ 6) (hb : -20 ≤ b ∧ b ≤ 20) (hc : -20 ≤ c ∧ c ≤ 20) (he : -20 ≤ e ∧ e ≤ 20) : 0 ≤ drG lo hi s b c e ∧ drG lo hi s b c e ≤ 51200 := by
  have h1 := drW_b h (s := s + 1) (by omega) hc he
  have h2 := sq_b (x := b - 2 * c + e) (by omega)
  unfold drG
  omega
theorem drW_mn {lo hi : Int → Int} (h : bndOk lo hi) {s b c : Int} (hs : 0 ≤ s ∧ s ≤ 6) : IsMn (drG lo hi s b c) (lo (s + 1)) (hi (s + 1) + 1) 1000000 (drW lo hi s b c) := by
  have h1 := h (s + 1) (by omega) (by omega)
  have h2 := mnI_mn (drG lo hi s b c) (lo (s + 1)) 1000000 (hi (s + 1) + 1 - lo (s + 1)).toNat
  rw [← drW_s hs.2, show lo (s + 1) + (((hi (s + 1) + 1 - lo (s + 1)).toNat : Nat) : Int) = hi (s + 1) + 1 by omega] at h2
  exact h2
theorem drW_at {lo hi : Int → Int} (h : bndOk lo hi) {s b c : Int} (hs : 0 ≤ s ∧ s ≤ 6) (hb : -20 ≤ b ∧ b ≤ 20) (hc : -20 ≤ c ∧ c ≤ 20) : ∃ e, lo (s + 1) ≤ e ∧ e ≤ hi (s + 1) ∧ drW lo hi s b c = drG lo hi s b c e := by
  have h1 := drW_b h (s := s) (by omega) hb hc
  obtain ⟨-, -, m | ⟨e, e0, e1, e2⟩⟩ := drW_mn h (s := s) (b := b) (c := c) hs
  · omega
  · exact ⟨e, e0, by omega, e2⟩
theorem drV_congr {lo hi lo' hi' : Int → Int} (h : ∀ s, 0 ≤ s → s < 8 → lo s = lo' s ∧ hi s = hi' s) : ∀ (k : Nat), k ≤ 7 → drV lo hi k = drV lo' hi' k
  | 0, _ => rfl
  | k + 1, hk => by
    funext b c
    simp only [drV]
    rw [drV_congr h k (by omega), (h (7 - (k : Int)) (by omega) (by omega)).1, (h (7 - (k : Int)) (by omega) (by omega)).2]
theorem drW_congr {lo hi lo' hi' : Int → Int} (h : ∀ s, 0 ≤ s → s < 8 → lo s = lo' s ∧ hi s = hi' s) {s : Int} (hs : 0 ≤ s) : drW lo hi s = drW lo' hi' s := by
  funext b c
  unfold drW
  rw [drV_congr h _ (by omega)]
theorem drG_congr {lo hi lo' hi' : Int → Int} (h : ∀ s, 0 ≤ s → s < 8 → lo s = lo' s ∧ hi s = hi' s) {s : Int} (hs : 0 ≤ s) : drG lo hi s = drG lo' hi' s := by
  funext b c e
  unfold drG
  rw [drW_congr h (by omega)]
/-- a drawing: its heights ht, its bend bd -/
def Drawn (lo hi : Int → Int) (bd : Int) (ht : Int → Int) : Prop :=
  (lo 0 ≤ ht 0 ∧ ht 0 ≤ hi 0) ∧ (lo 1 ≤ ht 1 ∧ ht 1 ≤ hi 1) ∧ bd = drW lo hi 1 (ht 0) (ht 1) ∧
  (∀ a b, lo 0 ≤ a → a ≤ hi 0 → lo 1 ≤ b → b ≤ hi 1 → bd ≤ drW lo hi 1 a b ∧ (bd = drW lo hi 1 a b → ht 0 < a ∨ (ht 0 = a ∧ ht 1 ≤ b))) ∧
  ∀ s, 1 ≤ s → s ≤ 6 → (lo (s + 1) ≤ ht (s + 1) ∧ ht (s + 1) ≤ hi (s + 1)) ∧ drG lo hi s (ht (s - 1)) (ht s) (ht (s + 1)) = drW lo hi s (ht (s - 1)) (ht s) ∧ ∀ h, lo (s + 1) ≤ h → h < ht (s + 1) → drG lo hi s (ht (s - 1)) (ht s) h ≠ drW lo hi s (ht (s - 1)) (ht s)
theorem Drawn.uniq {lo hi : Int → Int} {bd bd' : Int} {ht ht' : Int → Int} (h : Drawn lo hi bd ht) (h' : Drawn lo hi bd' ht') : bd = bd' ∧ ∀ s, 0 ≤ s → s < 8 → ht s = ht' s := by
  obtain ⟨a0, a1, a2, a3, a4⟩ := h
  obtain ⟨b0, b1, b2, b3, b4⟩ := h'
  have q1 := a3 (ht' 0) (ht' 1) b0.1 b0.2 b1.1 b1.2
  have q2 := b3 (ht 0) (ht 1) a0.1 a0.2 a1.1 a1.2
  have e : bd = bd' := by omega
  have e01 : ht 0 = ht' 0 ∧ ht 1 = ht' 1 := by
    have q3 := q1.2 (by omega)
    have q4 := q2.2 (by omega)
    omega
  refine ⟨e, ?_⟩
  have key : ∀ k : Nat, k ≤ 6 → ht (k : Int) = ht' (k : Int) ∧ ht ((k : Int) + 1) = ht' ((k : Int) + 1) := by
    intro k
    induction k with
    | zero => intro _; exact ⟨e01.1, e01.2⟩
    | succ k ih =>
      intro hk
      obtain ⟨i1, i2⟩ := ih (by omega)
      have e1 : ((k + 1 : Nat) : Int) = (k : Int) + 1 := by omega
      rw [e1]
      refine ⟨i2, ?_⟩
      obtain ⟨c1, c2, c3⟩ := a4 ((k : Int) + 1) (by omega) (by omega)
      obtain ⟨d1, d2, d3⟩ := b4 ((k : Int) + 1) (by omega) (by omega)
      have e2 : (k : Int) + 1 - 1 = k := by omega
      rw [e2] at c2 c3 d2 d3
      rw [← i1, ← i2] at d2 d3
      by_cases hlt : ht ((k : Int) + 1 + 1) < ht' ((k : Int) + 1 + 1)
      · exact absurd c2 (d3 _ c1.1 hlt)
      · by_cases hgt : ht' ((k : Int) + 1 + 1) < ht ((k : Int) + 1 + 1)
        · exact absurd d2 (c3 _ d1.1 hgt)
        · omega
  intro s s0 s1
  by_cases hs : s = 7
  · have := (key 6 (by omega)).2
    rw [hs]
    exact this
  · have := (key s.toNat (by omega)).1
    rw [show ((s.toNat : Nat) : Int) = s by omega] at this
    exact this
theorem Drawn.congr {lo hi lo' hi' : Int → Int} {bd : Int} {ht ht' : Int → Int} (h : Drawn lo hi bd ht) (hb : ∀ s, 0 ≤ s → s < 8 → lo s = lo' s ∧ hi s = hi' s) (hh : ∀ s, 0 ≤ s → s < 8 → ht s = ht' s) : Drawn lo' hi' bd ht' := by
  obtain ⟨a0, a1, a2, a3, a4⟩ := h
  have b0 := hb 0 (by omega) (by omega)
  have b1 := hb 1 (by omega) (by omega)
  have k0 := hh 0 (by omega) (by omega)
  have k1 := hh 1 (by omega) (by omega)
  have w1 := drW_congr hb (s := 1) (by omega)
  refine ⟨by omega, by omega, by rw [← w1, ← k0, ← k1]; exact a2, fun a b q0 q1 q2 q3 => ?_, fun s s0 s1 => ?_⟩
  · have := a3 a b (by omega) (by omega) (by omega) (by omega)
    rw [w1] at this
    rw [← k0, ← k1]
    exact this
  · obtain ⟨c1, c2, c3⟩ := a4 s s0 s1
    have e1 := hb (s + 1) (by omega) (by omega)
    rw [← drW_congr hb (s := s) (by omega), ← drG_congr hb (s := s) (by omega), ← hh (s - 1) (by omega) (by omega), ← hh s (by omega) (by omega), ← hh (s + 1) (by omega) (by omega), ← e1.1, ← e1.2]
    exact ⟨c1, c2, c3⟩
def spF (s b c : Int) : Int := (s * 41 + b + 20) * 41 + c + 20
/-- the rest as far as it has been weighed -/
def restOk (r lo hi : Int → Int) (s : Int) : Prop := ∀ q b c, s ≤ q → q ≤ 6 → lo (q - 1) ≤ b → b ≤ hi (q - 1) → lo q ≤ c → c ≤ hi q → r (spF q b c) = drW lo hi q b c
def IsDr (S : Shp) (a : Nat) : Prop := At S a (sO 3 [fR (a + 1), fR (a + 2), fR (a + 3), fR (a + 4), fR (a + 5), fR (a + 6), fI, fI]) ∧ At S (a + 1) (sA 0 8) ∧ At S (a + 2) (sA 0 8) ∧ At S (a + 3) (sA 0 8) ∧ At S (a + 4) (sA 0 8) ∧ At S (a + 5) (sA 0 13448) ∧ At S (a + 6) (sA 0 8)
/-- what a drawing that was made before is worth -/
def drOk (σ : Sto) (a : Nat) : Prop := (σ a 7 = 0 ∨ σ a 7 = 1) ∧ (σ a 7 = 1 → bndOk (σ (a + 3)) (σ (a + 4)) ∧ Drawn (σ (a + 3)) (σ (a + 4)) (σ a 6) (σ (a + 6)))
abbrev posB (lo hi : Int → Int) : Int → Bool := fun s => decide (hi s < lo s)
abbrev posP (lo hi : Int → Int) : Prop := firI (posB lo hi) 8 = -1
abbrev asdB (lo hi lo' hi' : Int → Int) : Int → Bool := fun s => decide (¬ (lo s = lo' s ∧ hi s = hi' s))
abbrev asdP (lo hi lo' hi' : Int → Int) : Prop := firI (asdB lo hi lo' hi') 8 = -1
-- (not here: c_X3_bend)
-- (not here: c_X3_height)
-- (not here: c_X3_open)
-- (not here: c_X3_narrow)
-- (not here: poss_loop)
-- (not here: c_X3_isPossible)
-- (not here: asd_loop)
-- (not here: c_X3_isAsDrawn)
-- (not here: c_X3_spot)
-- (not here: c_X3_bendFrom)
theorem min3 (x y : Int) : min x y = x ∨ min x y = y := by omega
-- (not here: ahead_loop2)
-- (not here: c_X3_leastAhead)

def sq (x : Int) : Int := x * x
theorem sq_0 (x : Int) : 0 ≤ sq x := by
  unfold sq
  rcases Int.le_total 0 x with h | h
  · exact Int.mul_nonneg h h
  · exact Int.mul_nonneg_of_nonpos_of_nonpos h h
theorem sq_neg (x : Int) : sq (-x) = sq x := by
  unfold sq
  rw [Int.neg_mul_neg]
theorem sq_le {t x : Int} (h0 : 0 ≤ t) (h : t ≤ x ∨ x ≤ -t) : sq t ≤ sq x := by
  rcases h with h | h
  · exact Int.mul_le_mul h h h0 (by omega)
  · rw [← sq_neg x]
    exact Int.mul_le_mul (by omega) (by omega) h0 (by omega)
theorem sq_b {x : Int} (h : -80 ≤ x ∧ x ≤ 80) : 0 ≤ sq x ∧ sq x ≤ 6400 := by
  refine ⟨sq_0 x, ?_⟩
  rcases Int.le_total 0 x with h0 | h0
  · have := sq_le (t := x) (x := 80) h0 (Or.inl h.2)
    exact this
  · have := sq_le (t := -x) (x := 80) (by omega) (Or.inl (by omega))
    rw [sq_neg] at this
    exact this
/-- the least of g from lo on, so many, and a cap -/
def mnI (g : Int → Int) (lo cap : Int) : Nat → Int
  | 0 => cap
  | n + 1 => min (mnI g lo cap n) (g (lo + (n : Int)))
def IsMn (g : Int → Int) (lo en cap r : Int) : Prop := r ≤ cap ∧ (∀ h, lo ≤ h → h < en → r ≤ g h) ∧ (r = cap ∨ ∃ h, lo ≤ h ∧ h < en ∧ r = g h)
theorem IsMn.uniq {g : Int → Int} {lo en cap r r' : Int} (h : IsMn g lo en cap r) (h' : IsMn g lo en cap r') : r = r' := by
  obtain ⟨h1, h2, h3⟩ := h
  obtain ⟨k1, k2, k3⟩ := h'
  rcases h3 with e | ⟨x, x0, x1, e⟩
  · rcases k3 with e' | ⟨y, y0, y1, e'⟩
    · omega
    · have := h2 y y0 y1
      omega
  · have q1 := k2 x x0 x1
    rcases k3 with e' | ⟨y, y0, y1, e'⟩
    · omega
    · have := h2 y y0 y1
      omega
theorem mnI_mn (g : Int → Int) (lo cap : Int) : ∀ n : Nat, IsMn g lo (lo + n) cap (mnI g lo cap n)
  | 0 => ⟨Int.le_refl _, fun h h0 h1 => by omega, Or.inl rfl⟩
  | n + 1 => by
    obtain ⟨h1, h2, h3⟩ := mnI_mn g lo cap n
    refine ⟨by simp only [mnI]; omega, fun h q0 q1 => ?_, ?_⟩
    · simp only [mnI]
      by_cases e : h = lo + n
      · rw [e]; omega
      · have := h2 h q0 (by omega)
        omega
    · simp only [mnI]
      by_cases e : mnI g lo cap n ≤ g (lo + n)
      · rw [Int.min_eq_left e]
        rcases h3 with h3 | ⟨x, x0, x1, x2⟩
        · exact Or.inl h3
        · exact Or.inr ⟨x, x0, by omega, x2⟩
      · rw [Int.min_eq_right (by omega)]
        exact Or.inr ⟨lo + n, by omega, by omega, rfl⟩
theorem mnI_s {g : Int → Int} {lo cap h : Int} (h0 : lo ≤ h) : mnI g lo cap (h + 1 - lo).toNat = min (mnI g lo cap (h - lo).toNat) (g h) := by
  rw [show (h + 1 - lo).toNat = (h - lo).toNat + 1 by omega]
  simp only [mnI]
  rw [show lo + (((h - lo).toNat : Nat) : Int) = h by omega]
/-- the least bend from step 7 - k on, behind and own being known -/
def drV (lo hi : Int → Int) : Nat → Int → Int → Int
  | 0, _, _ => 0
  | k + 1, b, c => mnI (fun h => sq (b - 2 * c + h) + drV lo hi k c h) (lo (7 - (k : Int))) 1000000 (hi (7 - (k : Int)) + 1 - lo (7 - (k : Int))).toNat
def drW (lo hi : Int → Int) (s b c : Int) : Int := drV lo hi (7 - s).toNat b c
def drG (lo hi : Int → Int) (s b c h : Int) : Int := sq (b - 2 * c + h) + drW lo hi (s + 1) c h
theorem drW_7 (lo hi : Int → Int) (b c : Int) : drW lo hi 7 b c = 0 := rfl
theorem drW_s {lo hi : Int → Int} {s b c : Int} (h : s ≤ 6) : drW lo hi s b c = mnI (drG lo hi s b c) (lo (s + 1)) 1000000 (hi (s + 1) + 1 - lo (s + 1)).toNat := by
  unfold drW
  rw [show (7 - s).toNat = (6 - s).toNat + 1 by omega]
  simp only [drV]
  rw [show (7 : Int) - (((6 - s).toNat : Nat) : Int) = s + 1 by omega]
  congr 1
  funext h
  unfold drG drW
  rw [show (7 - (s + 1)).toNat = (6 - s).toNat by omega]
def bndOk (lo hi : Int → Int) : Prop := ∀ s, 0 ≤ s → s < 8 → -20 ≤ lo s ∧ lo s ≤ hi s ∧ hi s ≤ 20
theorem drV_b {lo hi : Int → Int} (h : bndOk lo hi) : ∀ (k : Nat) (b c : Int), k ≤ 7 → -20 ≤ b → b ≤ 20 → -20 ≤ c → c ≤ 20 → 0 ≤ drV lo hi k b c ∧ drV lo hi k b c ≤ 6400 * k
  | 0, _, _, _, _, _, _, _ => ⟨Int.le_refl _, Int.le_refl _⟩
  | k + 1, b, c, hk, b0, b1, c0, c1 => by
    obtain ⟨r0, r1, r2⟩ := h (7 - (k : Int)) (by omega) (by omega)
    obtain ⟨m1, m2, m3⟩ := mnI_mn (fun h => sq (b - 2 * c + h) + drV lo hi k c h) (lo (7 - (k : Int))) 1000000 (hi (7 - (k : Int)) + 1 - lo (7 - (k : Int))).toNat
    have e0 := m2 (lo (7 - (k : Int))) (Int.le_refl _) (by omega)
    have i0 := drV_b h k c (lo (7 - (k : Int))) (by omega) c0 c1 (by omega) (by omega)
    have s0 := sq_b (x := b - 2 * c + lo (7 - (k : Int))) (by omega)
    simp only [drV]
    dsimp only at e0
    refine ⟨?_, by omega⟩
    rcases m3 with m3 | ⟨x, x0, x1, m3⟩
    · omega
    · have i1 := drV_b h k c x (by omega) c0 c1 (by omega) (by omega)
      have s1 := sq_0 (b - 2 * c + x)
      dsimp only at m3
      omega
theorem drW_b {lo hi : Int → Int} (h : bndOk lo hi) {s b c : Int} (hs : 0 ≤ s ∧ s ≤ 7) (hb : -20 ≤ b ∧ b ≤ 20) (hc : -20 ≤ c ∧ c ≤ 20) : 0 ≤ drW lo hi s b c ∧ drW lo hi s b c ≤ 44800 := by
  have := drV_b h (7 - s).toNat b c (by omega) hb.1 hb.2 hc.1 hc.2
  unfold drW
  omega
theorem drG_b {lo hi : Int → Int} (h : bndOk lo hi) {s b c e : Int} (hs : 0 ≤ s ∧ s ≤ 6) (hb : -20 ≤ b ∧ b ≤ 20) (hc : -20 ≤ c ∧ c ≤ 20) (he : -20 ≤ e ∧ e ≤ 20) : 0 ≤ drG lo hi s b c e ∧ drG lo hi s b c e ≤ 51200 := by
  have h1 := drW_b h (s := s + 1) (by omega) hc he
  have h2 := sq_b (x := b - 2 * c + e) (by omega)
  unfold drG
  omega
theorem drW_mn {lo hi : Int → Int} (h : bndOk lo hi) {s b c : Int} (hs : 0 ≤ s ∧ s ≤ 6) : IsMn (drG lo hi s b c) (lo (s + 1)) (hi (s + 1) + 1) 1000000 (drW lo hi s b c) := by
  have h1 := h (s + 1) (by omega) (by omega)
  have h2 := mnI_mn (drG lo hi s b c) (lo (s + 1)) 1000000 (hi (s + 1) + 1 - lo (s + 1)).toNat
  rw [← drW_s hs.2, show lo (s + 1) + (((hi (s + 1) + 1 - lo (s + 1)).toNat : Nat) : Int) = hi (s + 1) + 1 by omega] at h2
  exact h2
theorem drW_at {lo hi : Int → Int} (h : bndOk lo hi) {s b c : Int} (hs : 0 ≤ s ∧ s ≤ 6) (hb : -20 ≤ b ∧ b ≤ 20) (hc : -20 ≤ c ∧ c ≤ 20) : ∃ e, lo (s + 1) ≤ e ∧ e ≤ hi (s + 1) ∧ drW lo hi s b c = drG lo hi s b c e := by
  have h1 := drW_b h (s := s) (by omega) hb hc
  obtain ⟨-, -, m | ⟨e, e0, e1, e2⟩⟩ := drW_mn h (s := s) (b := b) (c := c) hs
  · omega
  · exact ⟨e, e0, by omega, e2⟩
theorem drV_congr {lo hi lo' hi' : Int → Int} (h : ∀ s, 0 ≤ s → s < 8 → lo s = lo' s ∧ hi s = hi' s) : ∀ (k : Nat), k ≤ 7 → drV lo hi k = drV lo' hi' k
  | 0, _ => rfl
  | k + 1, hk => by
    funext b c
    simp only [drV]
    rw [drV_congr h k (by omega), (h (7 - (k : Int)) (by omega) (by omega)).1, (h (7 - (k : Int)) (by omega) (by omega)).2]
theorem drW_congr {lo hi lo' hi' : Int → Int} (h : ∀ s, 0 ≤ s → s < 8 → lo s = lo' s ∧ hi s = hi' s) {s : Int} (hs : 0 ≤ s) : drW lo hi s = drW lo' hi' s := by
  funext b c
  unfold drW
  rw [drV_congr h _ (by omega)]
theorem drG_congr {lo hi lo' hi' : Int → Int} (h : ∀ s, 0 ≤ s → s < 8 → lo s = lo' s ∧ hi s = hi' s) {s : Int} (hs : 0 ≤ s) : drG lo hi s = drG lo' hi' s := by
  funext b c e
  unfold drG
  rw [drW_congr h (by omega)]
/-- a drawing: its heights ht, its bend bd -/
def Drawn (lo hi : Int → Int) (bd : Int) (ht : Int → Int) : Prop :=
  (lo 0 ≤ ht 0 ∧ ht 0 ≤ hi 0) ∧ (lo 1 ≤ ht 1 ∧ ht 1 ≤ hi 1) ∧ bd = drW lo hi 1 (ht 0) (ht 1) ∧
  (∀ a b, lo 0 ≤ a → a ≤ hi 0 → lo 1 ≤ b → b ≤ hi 1 → bd ≤ drW lo hi 1 a b ∧ (bd = drW lo hi 1 a b → ht 0 < a ∨ (ht 0 = a ∧ ht 1 ≤ b))) ∧
  ∀ s, 1 ≤ s → s ≤ 6 → (lo (s + 1) ≤ ht (s + 1) ∧ ht (s + 1) ≤ hi (s + 1)) ∧ drG lo hi s (ht (s - 1)) (ht s) (ht (s + 1)) = drW lo hi s (ht (s - 1)) (ht s) ∧ ∀ h, lo (s + 1) ≤ h → h < ht (s + 1) → drG lo hi s (ht (s - 1)) (ht s) h ≠ drW lo hi s (ht (s - 1)) (ht s)
theorem Drawn.uniq {lo hi : Int → Int} {bd bd' : Int} {ht ht' : Int → Int} (h : Drawn lo hi bd ht) (h' : Drawn lo hi bd' ht') : bd = bd' ∧ ∀ s, 0 ≤ s → s < 8 → ht s = ht' s := by
  obtain ⟨a0, a1, a2, a3, a4⟩ := h
  obtain ⟨b0, b1, b2, b3, b4⟩ := h'
  have q1 := a3 (ht' 0) (ht' 1) b0.1 b0.2 b1.1 b1.2
  have q2 := b3 (ht 0) (ht 1) a0.1 a0.2 a1.1 a1.2
  have e : bd = bd' := by omega
  have e01 : ht 0 = ht' 0 ∧ ht 1 = ht' 1 := by
    have q3 := q1.2 (by omega)
    have q4 := q2.2 (by omega)
    omega
  refine ⟨e, ?_⟩
  have key : ∀ k : Nat, k ≤ 6 → ht (k : Int) = ht' (k : Int) ∧ ht ((k : Int) + 1) = ht' ((k : Int) + 1) := by
    intro k
    induction k with
    | zero => intro _; exact ⟨e01.1, e01.2⟩
    | succ k ih =>
      intro hk
      obtain ⟨i1, i2⟩ := ih (by omega)
      have e1 : ((k + 1 : Nat) : Int) = (k : Int) + 1 := by omega
      rw [e1]
      refine ⟨i2, ?_⟩
      obtain ⟨c1, c2, c3⟩ := a4 ((k : Int) + 1) (by omega) (by omega)
      obtain ⟨d1, d2, d3⟩ := b4 ((k : Int) + 1) (by omega) (by omega)
      have e2 : (k : Int) + 1 - 1 = k := by omega
      rw [e2] at c2 c3 d2 d3
      rw [← i1, ← i2] at d2 d3
      by_cases hlt : ht ((k : Int) + 1 + 1) < ht' ((k : Int) + 1 + 1)
      · exact absurd c2 (d3 _ c1.1 hlt)
      · by_cases hgt : ht' ((k : Int) + 1 + 1) < ht ((k : Int) + 1 + 1)
        · exact absurd d2 (c3 _ d1.1 hgt)
        · omega
  intro s s0 s1
  by_cases hs : s = 7
  · have := (key 6 (by omega)).2
    rw [hs]
    exact this
  · have := (key s.toNat (by omega)).1
    rw [show ((s.toNat : Nat) : Int) = s by omega] at this
    exact this
theorem Drawn.congr {lo hi lo' hi' : Int → Int} {bd : Int} {ht ht' : Int → Int} (h : Drawn lo hi bd ht) (hb : ∀ s, 0 ≤ s → s < 8 → lo s = lo' s ∧ hi s = hi' s) (hh : ∀ s, 0 ≤ s → s < 8 → ht s = ht' s) : Drawn lo' hi' bd ht' := by
  obtain ⟨a0, a1, a2, a3, a4⟩ := h
  have b0 := hb 0 (by omega) (by omega)
  have b1 := hb 1 (by omega) (by omega)
  have k0 := hh 0 (by omega) (by omega)
  have k1 := hh 1 (by omega) (by omega)
  have w1 := drW_congr hb (s := 1) (by omega)
  refine ⟨by omega, by omega, by rw [← w1, ← k0, ← k1]; exact a2, fun a b q0 q1 q2 q3 => ?_, fun s s0 s1 => ?_⟩
  · have := a3 a b (by omega) (by omega) (by omega) (by omega)
    rw [w1] at this
    rw [← k0, ← k1]
    exact this
  · obtain ⟨c1, c2, c3⟩ := a4 s s0 s1
    have e1 := hb (s + 1) (by omega) (by omega)
    rw [← drW_congr hb (s := s) (by omega), ← drG_congr hb (s := s) (by omega), ← hh (s - 1) (by omega) (by omega), ← hh s (by omega) (by omega), ← hh (s + 1) (by omega) (by omega), ← e1.1, ← e1.2]
    exact ⟨c1, c2, c3⟩
def spF (s b c : Int) : Int := (s * 41 + b + 20) * 41 + c + 20
/-- the rest as far as it has been weighed -/
def restOk (r lo hi : Int → Int) (s : Int) : Prop := ∀ q b c, s ≤ q → q ≤ 6 → lo (q - 1) ≤ b → b ≤ hi (q - 1) → lo q ≤ c → c ≤ hi q → r (spF q b c) = drW lo hi q b c
def IsDr (S : Shp) (a : Nat) : Prop := At S a (sO 3 [fR (a + 1), fR (a + 2), fR (a + 3), fR (a + 4), fR (a + 5), fR (a + 6), fI, fI]) ∧ At S (a + 1) (sA 0 8) ∧ At S (a + 2) (sA 0 8) ∧ At S (a + 3) (sA 0 8) ∧ At S (a + 4) (sA 0 8) ∧ At S (a + 5) (sA 0 13448) ∧ At S (a + 6) (sA 0 8)
/-- what a drawing that was made before is worth -/
def drOk (σ : Sto) (a : Nat) : Prop := (σ a 7 = 0 ∨ σ a 7 = 1) ∧ (σ a 7 = 1 → bndOk (σ (a + 3)) (σ (a + 4)) ∧ Drawn (σ (a + 3)) (σ (a + 4)) (σ a 6) (σ (a + 6)))
abbrev posB (lo hi : Int → Int) : Int → Bool := fun s => decide (hi s < lo s)
abbrev posP (lo hi : Int → Int) : Prop := firI (posB lo hi) 8 = -1
abbrev asdB (lo hi lo' hi' : Int → Int) : Int → Bool := fun s => decide (¬ (lo s = lo' s ∧ hi s = hi' s))
abbrev asdP (lo hi lo' hi' : Int → Int) : Prop := firI (asdB lo hi lo' hi') 8 = -1
theorem c_X3_bend {G : GT} {S : Shp} {σ : Sto} {a : Nat} (hA : IsDr S a) : PMet G mX3_bend 0 0 0 [.ref a] S σ (isP (some (.int (iI (σ a 6)))) S (σ)) := by
  obtain ⟨hA0, hA1, hA2, hA3, hA4, hA5, hA6⟩ := id hA
  refine PMet.of [(0, .ref a)] (by decide +kernel) rfl (Nat.le_of_ble_eq_true rfl) ?_
  refine PW.aload_n dX3_bend_0 rfl ?_
  refine PW.getI 6 fl_X3_30 rfl (by assumption) rfl rfl dX3_bend_1 ?_
  exact PW.iret rfl rfl dX3_bend_4 ⟨rfl, rfl, rfl⟩
theorem c_X3_height {G : GT} {S : Shp} {σ : Sto} {a : Nat} {s : Int} (hA : IsDr S a) (hs : 0 ≤ s ∧ s ≤ 7) : PMet G mX3_height 1 0 0 [.ref a, .int (iI (s))] S σ (isP (some (.int (iI (σ (a + 6) s)))) S (σ)) := by
  obtain ⟨hA0, hA1, hA2, hA3, hA4, hA5, hA6⟩ := id hA
  refine PMet.of [(0, .ref a), (1, .int (iI (s)))] (by decide +kernel) rfl (Nat.le_of_ble_eq_true rfl) ?_
  refine PW.aload_n dX3_height_0 rfl ?_
  refine PW.getR fl_X3_27 rfl (by assumption) rfl dX3_height_1 ?_
  refine PW.iload_n dX3_height_4 rfl ?_
  refine PW.callSr (c_X11_get (by assumption) (by first | assumption | (unfold inR; omega)) (by decide)) cs_X11_get lk_X3_42 dX3_height_5 rfl rfl rfl ?_
  exact PW.iret rfl rfl dX3_height_8 ⟨ret_eq (by unfold gI; rw [if_pos (by omega)] <;> first | rfl | (congr 1; omega)), rfl, rfl⟩
theorem c_X3_open {G : GT} {S : Shp} {σ : Sto} {a : Nat} (hA : IsDr S a) : PMet G mX3_open 2 0 0 [.ref a] S σ (isP none S (upS (upS σ (a + 1) (flI (σ (a + 1)) 0 8 8 (-20))) (a + 2) (flI (σ (a + 2)) 0 8 8 20))) := by
  obtain ⟨hA0, hA1, hA2, hA3, hA4, hA5, hA6⟩ := id hA
  refine PMet.of [(0, .ref a)] (by decide +kernel) rfl (Nat.le_of_ble_eq_true rfl) ?_
  refine PW.aload_n dX3_open_0 rfl ?_
  refine PW.getR fl_X3_9 rfl (by assumption) rfl dX3_open_1 ?_
  refine PW.iconst dX3_open_4 ?_
  refine PW.bipush (by decide) dX3_open_5 ?_
  refine PW.bipush (by decide) dX3_open_7 ?_
  refine PW.callSv (c_X11_fill (by assumption) (by decide) (by first | assumption | (unfold inR; omega)) (by first | assumption | (unfold inR; omega))) cs_X11_fill lk_X3_38 dX3_open_9 rfl rfl rfl ?_
  refine PW.aload_n dX3_open_12 rfl ?_
  refine PW.getR fl_X3_15 rfl (by assumption) rfl dX3_open_13 ?_
  refine PW.iconst dX3_open_16 ?_
  refine PW.bipush (by decide) dX3_open_17 ?_
  refine PW.bipush (by decide) dX3_open_19 ?_
  refine PW.callSv (c_X11_fill (by assumption) (by decide) (by first | assumption | (unfold inR; omega)) (by first | assumption | (unfold inR; omega))) cs_X11_fill lk_X3_38 dX3_open_21 rfl rfl rfl ?_
  exact PW.vret rfl dX3_open_24 (⟨rfl, rfl, by rw [upS_ne (show a + 2 ≠ a + 1 by omega)]⟩)
theorem c_X3_narrow {G : GT} {S : Shp} {σ : Sto} {a : Nat} {s p q : Int} (hA : IsDr S a) (hs : 0 ≤ s ∧ s ≤ 7) (hl : -100 ≤ σ (a + 1) s ∧ σ (a + 1) s ≤ 100) (hh : -100 ≤ σ (a + 2) s ∧ σ (a + 2) s ≤ 100) (rp : inR p) (rq : inR q) : PMet G mX3_narrow 1 0 0 [.ref a, .int (iI (s)), .int (iI (p)), .int (iI (q))] S σ (isP none S (upS (upS σ (a + 1) (up1 (σ (a + 1)) s (max p (σ (a + 1) s)))) (a + 2) (up1 (σ (a + 2)) s (min q (σ (a + 2) s))))) := by
  obtain ⟨hA0, hA1, hA2, hA3, hA4, hA5, hA6⟩ := id hA
  refine PMet.of [(0, .ref a), (1, .int (iI (s))), (2, .int (iI (p))), (3, .int (iI (q)))] (by decide +kernel) rfl (Nat.le_of_ble_eq_true rfl) ?_
  refine PW.aload_n dX3_narrow_0 rfl ?_
  refine PW.getR fl_X3_9 rfl (by assumption) rfl dX3_narrow_1 ?_
  refine PW.iload_n dX3_narrow_4 rfl ?_
  refine PW.iload_n dX3_narrow_5 rfl ?_
  refine PW.aload_n dX3_narrow_6 rfl ?_
  refine PW.getR fl_X3_9 rfl (by assumption) rfl dX3_narrow_7 ?_
  refine PW.iload_n dX3_narrow_10 rfl ?_
  refine PW.callSr (c_X11_get (by assumption) (by first | assumption | (unfold inR; omega)) (by decide)) cs_X11_get lk_X3_42 dX3_narrow_11 rfl rfl rfl ?_
  refine PW.top (σ (a + 1) s) (by unfold gI; rw [if_pos (by omega)] <;> first | rfl | simp [upS]) ?_
  refine PW.callSr (c_J9_max_7cf53 (by first | assumption | (unfold inR; omega)) (by first | assumption | (unfold inR; omega))) cs_J9_max_7cf53 lk_X3_46 dX3_narrow_14 rfl rfl rfl ?_
  refine PW.callSv (c_X11_put (by assumption) (by first | assumption | (unfold inR; omega)) (by decide)) cs_X11_put lk_X3_52 dX3_narrow_17 rfl rfl rfl ?_
  refine PW.st (upS σ (a + 1) (up1 (σ (a + 1)) s (max p (σ (a + 1) s)))) (by rw [if_pos (by omega)]) ?_
  refine PW.aload_n dX3_narrow_20 rfl ?_
  refine PW.getR fl_X3_15 rfl (by assumption) rfl dX3_narrow_21 ?_
  refine PW.iload_n dX3_narrow_24 rfl ?_
  refine PW.iload_n dX3_narrow_25 rfl ?_
  refine PW.aload_n dX3_narrow_26 rfl ?_
  refine PW.getR fl_X3_15 rfl (by assumption) rfl dX3_narrow_27 ?_
  refine PW.iload_n dX3_narrow_30 rfl ?_
  refine PW.callSr (c_X11_get (by assumption) (by first | assumption | (unfold inR; omega)) (by decide)) cs_X11_get lk_X3_42 dX3_narrow_31 rfl rfl rfl ?_
  refine PW.top (σ (a + 2) s) (by unfold gI; rw [if_pos (by omega)] <;> first | rfl | simp [upS]) ?_
  refine PW.callSr (c_J9_min_7cf53 (by first | assumption | (unfold inR; omega)) (by first | assumption | (unfold inR; omega))) cs_J9_min_7cf53 lk_X3_56 dX3_narrow_34 rfl rfl rfl ?_
  refine PW.callSv (c_X11_put (by assumption) (by first | assumption | (unfold inR; omega)) (by decide)) cs_X11_put lk_X3_52 dX3_narrow_37 rfl rfl rfl ?_
  exact PW.vret rfl dX3_narrow_40 (⟨rfl, rfl, by rw [if_pos (by omega), upS_ne (show a + 2 ≠ a + 1 by omega)]⟩)
theorem poss_loop {G : GT} {S : Shp} {σ : Sto} {a : Nat} {Q : Option Value → Shp → Sto → Prop} (hA : IsDr S a) (hb : ∀ s, 0 ≤ s → s < 8 → (-100 ≤ σ (a + 1) s ∧ σ (a + 1) s ≤ 100) ∧ (-100 ≤ σ (a + 2) s ∧ σ (a + 2) s ≤ 100)) (hQ : Q (some (.int (iI (b01 (posP (σ (a + 1)) (σ (a + 2))))))) S σ) : ∀ (t : Nat) (i : Int), 0 ≤ i → i ≤ 8 → 8 - i < t → (∀ j, 0 ≤ j → j < i → posB (σ (a + 1)) (σ (a + 2)) j = false) → PW (fm G mX3_isPossible 2 0 0 Q) G S (σ) 0 0 2 [(0, .ref a), (1, .int (iI (i)))] [] := by
  obtain ⟨hA0, hA1, hA2, hA3, hA4, hA5, hA6⟩ := id hA
  intro t
  induction t with
  | zero => intro i h1 h2 h3 g1; omega
  | succ t ih =>
    intro i h1 h2 h3 g1
    refine PW.iload_n dX3_isPossible_2 rfl ?_
    refine PW.bipush (by decide) dX3_isPossible_3 ?_
    refine PW.icmp_ge 35 dX3_isPossible_5 (by decide) (by first | assumption | (unfold inR; omega)) (by first | assumption | (unfold inR; omega)) (fun h5 => ?_) (fun h5 => ?_)
    · refine PW.iconst dX3_isPossible_35 ?_
      refine PW.iret rfl rfl dX3_isPossible_36 ?_
      rw [b01_t (show posP (σ (a + 1)) (σ (a + 2)) from firI_none (fun j q1 q2 => g1 j q1 (by omega)))] at hQ
      exact hQ
    · have hbi := hb i h1 (by omega)
      refine PW.aload_n dX3_isPossible_8 rfl ?_
      refine PW.getR fl_X3_9 rfl (by assumption) rfl dX3_isPossible_9 ?_
      refine PW.iload_n dX3_isPossible_12 rfl ?_
      refine PW.callSr (c_X11_get (by assumption) (by first | assumption | (unfold inR; omega)) (by decide)) cs_X11_get lk_X3_42 dX3_isPossible_13 rfl rfl rfl ?_
      refine PW.top (σ (a + 1) i) (by unfold gI; rw [if_pos (by omega)] <;> first | rfl | simp [upS]) ?_
      refine PW.aload_n dX3_isPossible_16 rfl ?_
      refine PW.getR fl_X3_15 rfl (by assumption) rfl dX3_isPossible_17 ?_
      refine PW.iload_n dX3_isPossible_20 rfl ?_
      refine PW.callSr (c_X11_get (by assumption) (by first | assumption | (unfold inR; omega)) (by decide)) cs_X11_get lk_X3_42 dX3_isPossible_21 rfl rfl rfl ?_
      refine PW.top (σ (a + 2) i) (by unfold gI; rw [if_pos (by omega)] <;> first | rfl | simp [upS]) ?_
      refine PW.icmp_le 29 dX3_isPossible_24 (by decide) (by first | assumption | (unfold inR; omega)) (by first | assumption | (unfold inR; omega)) (fun h24 => ?_) (fun h24 => ?_)
      · refine PW.iinc [(0, _), (1, _)] dX3_isPossible_29 rfl rfl (Nat.le_of_ble_eq_true rfl) ?_
        refine PW.goto 2 dX3_isPossible_32 (by decide) ?_
        refine ih (i + 1) (by omega) (by omega) (by omega) (fun j q1 q2 => ?_)
        by_cases hj : j = i
        · subst hj; exact decide_eq_false (by omega)
        · exact g1 j q1 (by omega)
      · refine PW.iconst dX3_isPossible_27 ?_
        refine PW.iret rfl rfl dX3_isPossible_28 ?_
        have e : firI (posB (σ (a + 1)) (σ (a + 2))) 8 = i := firI_hit h1 (decide_eq_true (by omega)) g1 (by omega)
        rw [b01_f (show ¬ posP (σ (a + 1)) (σ (a + 2)) by show ¬ firI _ 8 = -1; rw [e]; omega)] at hQ
        exact hQ
theorem c_X3_isPossible {G : GT} {S : Shp} {σ : Sto} {a : Nat} (hA : IsDr S a) (hb : ∀ s, 0 ≤ s → s < 8 → (-100 ≤ σ (a + 1) s ∧ σ (a + 1) s ≤ 100) ∧ (-100 ≤ σ (a + 2) s ∧ σ (a + 2) s ≤ 100)) : PMet G mX3_isPossible 2 0 0 [.ref a] S σ (isP (some (.int (iI (b01 (posP (σ (a + 1)) (σ (a + 2))))))) S σ) := by
  refine PMet.of [(0, .ref a)] (by decide +kernel) rfl (Nat.le_of_ble_eq_true rfl) ?_
  refine PW.iconst dX3_isPossible_0 ?_
  refine PW.istore_n [(0, _), (1, _)] dX3_isPossible_1 rfl (Nat.le_of_ble_eq_true rfl) ?_
  exact poss_loop hA hb ⟨rfl, rfl, rfl⟩ 9 0 (by omega) (by omega) (by omega) (fun j q1 q2 => by omega)
theorem asd_loop {G : GT} {S : Shp} {σ : Sto} {a : Nat} {Q : Option Value → Shp → Sto → Prop} (hA : IsDr S a) (hb : bndOk (σ (a + 1)) (σ (a + 2))) (hd : bndOk (σ (a + 3)) (σ (a + 4))) (hQ : Q (some (.int (iI (b01 (asdP (σ (a + 1)) (σ (a + 2)) (σ (a + 3)) (σ (a + 4))))))) S σ) : ∀ (t : Nat) (i : Int), 0 ≤ i → i ≤ 8 → 8 - i < t → (∀ j, 0 ≤ j → j < i → asdB (σ (a + 1)) (σ (a + 2)) (σ (a + 3)) (σ (a + 4)) j = false) → PW (fm G mX3_isAsDrawn 2 0 0 Q) G S (σ) 0 0 2 [(0, .ref a), (1, .int (iI (i)))] [] := by
  obtain ⟨hA0, hA1, hA2, hA3, hA4, hA5, hA6⟩ := id hA
  intro t
  induction t with
  | zero => intro i h1 h2 h3 g1; omega
  | succ t ih =>
    intro i h1 h2 h3 g1
    refine PW.iload_n dX3_isAsDrawn_2 rfl ?_
    refine PW.bipush (by decide) dX3_isAsDrawn_3 ?_
    refine PW.icmp_ge 54 dX3_isAsDrawn_5 (by decide) (by first | assumption | (unfold inR; omega)) (by first | assumption | (unfold inR; omega)) (fun h5 => ?_) (fun h5 => ?_)
    · refine PW.iconst dX3_isAsDrawn_54 ?_
      refine PW.iret rfl rfl dX3_isAsDrawn_55 ?_
      rw [b01_t (show asdP (σ (a + 1)) (σ (a + 2)) (σ (a + 3)) (σ (a + 4)) from firI_none (fun j q1 q2 => g1 j q1 (by omega)))] at hQ
      exact hQ
    · have hbi := hb i h1 (by omega)
      have hdi := hd i h1 (by omega)
      refine PW.aload_n dX3_isAsDrawn_8 rfl ?_
      refine PW.getR fl_X3_9 rfl (by assumption) rfl dX3_isAsDrawn_9 ?_
      refine PW.iload_n dX3_isAsDrawn_12 rfl ?_
      refine PW.callSr (c_X11_get (by assumption) (by first | assumption | (unfold inR; omega)) (by decide)) cs_X11_get lk_X3_42 dX3_isAsDrawn_13 rfl rfl rfl ?_
      refine PW.top (σ (a + 1) i) (by unfold gI; rw [if_pos (by omega)] <;> first | rfl | simp [upS]) ?_
      refine PW.aload_n dX3_isAsDrawn_16 rfl ?_
      refine PW.getR fl_X3_18 rfl (by assumption) rfl dX3_isAsDrawn_17 ?_
      refine PW.iload_n dX3_isAsDrawn_20 rfl ?_
      refine PW.callSr (c_X11_get (by assumption) (by first | assumption | (unfold inR; omega)) (by decide)) cs_X11_get lk_X3_42 dX3_isAsDrawn_21 rfl rfl rfl ?_
      refine PW.top (σ (a + 3) i) (by unfold gI; rw [if_pos (by omega)] <;> first | rfl | simp [upS]) ?_
      refine PW.icmp_ne 46 dX3_isAsDrawn_24 (by decide) (by first | assumption | (unfold inR; omega)) (by first | assumption | (unfold inR; omega)) (fun h24 => ?_) (fun h24 => ?_)
      · refine PW.iconst dX3_isAsDrawn_46 ?_
        refine PW.iret rfl rfl dX3_isAsDrawn_47 ?_
        have e : firI (asdB (σ (a + 1)) (σ (a + 2)) (σ (a + 3)) (σ (a + 4))) 8 = i := firI_hit h1 (decide_eq_true (by omega)) g1 (by omega)
        rw [b01_f (show ¬ asdP (σ (a + 1)) (σ (a + 2)) (σ (a + 3)) (σ (a + 4)) by show ¬ firI _ 8 = -1; rw [e]; omega)] at hQ
        exact hQ
      · refine PW.aload_n dX3_isAsDrawn_27 rfl ?_
        refine PW.getR fl_X3_15 rfl (by assumption) rfl dX3_isAsDrawn_28 ?_
        refine PW.iload_n dX3_isAsDrawn_31 rfl ?_
        refine PW.callSr (c_X11_get (by assumption) (by first | assumption | (unfold inR; omega)) (by decide)) cs_X11_get lk_X3_42 dX3_isAsDrawn_32 rfl rfl rfl ?_
        refine PW.top (σ (a + 2) i) (by unfold gI; rw [if_pos (by omega)] <;> first | rfl | simp [upS]) ?_
        refine PW.aload_n dX3_isAsDrawn_35 rfl ?_
        refine PW.getR fl_X3_21 rfl (by assumption) rfl dX3_isAsDrawn_36 ?_
        refine PW.iload_n dX3_isAsDrawn_39 rfl ?_
        refine PW.callSr (c_X11_get (by assumption) (by first | assumption | (unfold inR; omega)) (by decide)) cs_X11_get lk_X3_42 dX3_isAsDrawn_40 rfl rfl rfl ?_
        refine PW.top (σ (a + 4) i) (by unfold gI; rw [if_pos (by omega)] <;> first | rfl | simp [upS]) ?_
        refine PW.icmp_eq 48 dX3_isAsDrawn_43 (by decide) (by first | assumption | (unfold inR; omega)) (by first | assumption | (unfold inR; omega)) (fun h43 => ?_) (fun h43 => ?_)
        · refine PW.iinc [(0, _), (1, _)] dX3_isAsDrawn_48 rfl rfl (Nat.le_of_ble_eq_true rfl) ?_
          refine PW.goto 2 dX3_isAsDrawn_51 (by decide) ?_
          refine ih (i + 1) (by omega) (by omega) (by omega) (fun j q1 q2 => ?_)
          by_cases hj : j = i
          · subst hj; exact decide_eq_false (by omega)
          · exact g1 j q1 (by omega)
        · refine PW.iconst dX3_isAsDrawn_46 ?_
          refine PW.iret rfl rfl dX3_isAsDrawn_47 ?_
          have e : firI (asdB (σ (a + 1)) (σ (a + 2)) (σ (a + 3)) (σ (a + 4))) 8 = i := firI_hit h1 (decide_eq_true (by omega)) g1 (by omega)
          rw [b01_f (show ¬ asdP (σ (a + 1)) (σ (a + 2)) (σ (a + 3)) (σ (a + 4)) by show ¬ firI _ 8 = -1; rw [e]; omega)] at hQ
          exact hQ
theorem c_X3_isAsDrawn {G : GT} {S : Shp} {σ : Sto} {a : Nat} (hA : IsDr S a) (hb : bndOk (σ (a + 1)) (σ (a + 2))) (hd : bndOk (σ (a + 3)) (σ (a + 4))) : PMet G mX3_isAsDrawn 2 0 0 [.ref a] S σ (isP (some (.int (iI (b01 (asdP (σ (a + 1)) (σ (a + 2)) (σ (a + 3)) (σ (a + 4))))))) S σ) := by
  refine PMet.of [(0, .ref a)] (by decide +kernel) rfl (Nat.le_of_ble_eq_true rfl) ?_
  refine PW.iconst dX3_isAsDrawn_0 ?_
  refine PW.istore_n [(0, _), (1, _)] dX3_isAsDrawn_1 rfl (Nat.le_of_ble_eq_true rfl) ?_
  exact asd_loop hA hb hd ⟨rfl, rfl, rfl⟩ 9 0 (by omega) (by omega) (by omega) (fun j q1 q2 => by omega)
theorem c_X3_spot {G : GT} {S : Shp} {σ : Sto} {s b c : Int}  : PMet G mX3_spot 0 0 0 [.int (iI (s)), .int (iI (b)), .int (iI (c))] S σ (isP (some (.int (iI (spF s b c)))) S σ) := by
  refine PMet.of [(0, .int (iI (s))), (1, .int (iI (b))), (2, .int (iI (c)))] (by decide +kernel) rfl (Nat.le_of_ble_eq_true rfl) ?_
  refine PW.iload_n dX3_spot_0 rfl ?_
  refine PW.bipush (by decide) dX3_spot_1 ?_
  refine PW.imul dX3_spot_3 ?_
  refine PW.iload_n dX3_spot_4 rfl ?_
  refine PW.iadd dX3_spot_5 ?_
  refine PW.bipush (by decide) dX3_spot_6 ?_
  refine PW.iadd dX3_spot_8 ?_
  refine PW.bipush (by decide) dX3_spot_9 ?_
  refine PW.imul dX3_spot_11 ?_
  refine PW.iload_n dX3_spot_12 rfl ?_
  refine PW.iadd dX3_spot_13 ?_
  refine PW.bipush (by decide) dX3_spot_14 ?_
  refine PW.iadd dX3_spot_16 ?_
  exact PW.iret rfl rfl dX3_spot_17 ⟨ret_eq rfl, rfl, rfl⟩
theorem c_X3_bendFrom {G : GT} {S : Shp} {σ : Sto} {a : Nat} {s b c e : Int} (hA : IsDr S a) (hr : restOk (σ (a + 5)) (σ (a + 1)) (σ (a + 2)) (s + 1)) (hk : bndOk (σ (a + 1)) (σ (a + 2))) (hs : 1 ≤ s ∧ s ≤ 6) (hb : -20 ≤ b ∧ b ≤ 20) (hc : σ (a + 1) s ≤ c ∧ c ≤ σ (a + 2) s) (he : σ (a + 1) (s + 1) ≤ e ∧ e ≤ σ (a + 2) (s + 1)) : PMet G mX3_bendFrom 1 0 0 [.ref a, .int (iI (s)), .int (iI (b)), .int (iI (c)), .int (iI (e))] S σ (isP (some (.int (iI (drG (σ (a + 1)) (σ (a + 2)) s b c e)))) S (σ)) := by
  obtain ⟨hA0, hA1, hA2, hA3, hA4, hA5, hA6⟩ := id hA
  have k0 := hk s (by omega) (by omega)
  have k1 := hk (s + 1) (by omega) (by omega)
  have gb := drG_b hk (s := s) (b := b) (c := c) (e := e) (by omega) hb (by omega) (by omega)
  have wb := drW_b hk (s := s + 1) (b := c) (c := e) (by omega) (by omega) (by omega)
  have hsq : (e - 2 * c + b) * (e - 2 * c + b) = sq (b - 2 * c + e) := by
    unfold sq
    rw [show e - 2 * c + b = b - 2 * c + e by omega]
  refine PMet.of [(0, .ref a), (1, .int (iI (s))), (2, .int (iI (b))), (3, .int (iI (c))), (4, .int (iI (e)))] (by decide +kernel) rfl (Nat.le_of_ble_eq_true rfl) ?_
  refine PW.iload dX3_bendFrom_0 rfl ?_
  refine PW.iconst dX3_bendFrom_2 ?_
  refine PW.iload_n dX3_bendFrom_3 rfl ?_
  refine PW.imul dX3_bendFrom_4 ?_
  refine PW.isub dX3_bendFrom_5 ?_
  refine PW.iload_n dX3_bendFrom_6 rfl ?_
  refine PW.iadd dX3_bendFrom_7 ?_
  refine PW.istore [(0, _), (1, _), (2, _), (3, _), (4, _), (5, _)] dX3_bendFrom_8 rfl (Nat.le_of_ble_eq_true rfl) ?_
  refine PW.iload_n dX3_bendFrom_10 rfl ?_
  refine PW.iconst dX3_bendFrom_11 ?_
  refine PW.iadd dX3_bendFrom_12 ?_
  refine PW.bipush (by decide) dX3_bendFrom_13 ?_
  refine PW.icmp_ge 37 dX3_bendFrom_15 (by decide) (by first | assumption | (unfold inR; omega) | (unfold spF inR; omega)) (by first | assumption | (unfold inR; omega) | (unfold spF inR; omega)) (fun h15 => ?_) (fun h15 => ?_)
  · refine PW.iconst dX3_bendFrom_37 ?_
    refine PW.istore [(0, _), (1, _), (2, _), (3, _), (4, _), (5, _), (6, _)] dX3_bendFrom_38 rfl (Nat.le_of_ble_eq_true rfl) ?_
    refine PW.iload dX3_bendFrom_40 rfl ?_
    refine PW.iload dX3_bendFrom_42 rfl ?_
    refine PW.imul dX3_bendFrom_44 ?_
    refine PW.iload dX3_bendFrom_45 rfl ?_
    refine PW.iadd dX3_bendFrom_47 ?_
    refine PW.iret rfl rfl dX3_bendFrom_48 ⟨ret_eq ?_, rfl, rfl⟩
    rw [hsq]
    unfold drG
    first
      | rfl
      | (rw [show s + 1 = 7 by omega, drW_7])
  · refine PW.aload_n dX3_bendFrom_18 rfl ?_
    refine PW.getR fl_X3_24 rfl (by assumption) rfl dX3_bendFrom_19 ?_
    refine PW.iload_n dX3_bendFrom_22 rfl ?_
    refine PW.iconst dX3_bendFrom_23 ?_
    refine PW.iadd dX3_bendFrom_24 ?_
    refine PW.iload_n dX3_bendFrom_25 rfl ?_
    refine PW.iload dX3_bendFrom_26 rfl ?_
    refine PW.callSr (c_X3_spot) cs_X3_spot lk_X3_77 dX3_bendFrom_28 rfl rfl rfl ?_
    refine PW.callSr (c_X11_get (by assumption) (by unfold spF inR; omega) (by decide)) cs_X11_get lk_X3_42 dX3_bendFrom_31 rfl rfl rfl ?_
    refine PW.top (drW (σ (a + 1)) (σ (a + 2)) (s + 1) c e) (by
      unfold gI
      rw [if_pos (by unfold spF; omega)]
      exact hr (s + 1) c e (by omega) (by omega) (by rw [show s + 1 - 1 = s by omega]; omega) (by rw [show s + 1 - 1 = s by omega]; omega) (by omega) (by omega)) ?_
    refine PW.goto 38 dX3_bendFrom_34 (by decide) ?_
    refine PW.istore [(0, _), (1, _), (2, _), (3, _), (4, _), (5, _), (6, _)] dX3_bendFrom_38 rfl (Nat.le_of_ble_eq_true rfl) ?_
    refine PW.iload dX3_bendFrom_40 rfl ?_
    refine PW.iload dX3_bendFrom_42 rfl ?_
    refine PW.imul dX3_bendFrom_44 ?_
    refine PW.iload dX3_bendFrom_45 rfl ?_
    refine PW.iadd dX3_bendFrom_47 ?_
    refine PW.iret rfl rfl dX3_bendFrom_48 ⟨ret_eq ?_, rfl, rfl⟩
    rw [hsq]
    unfold drG
    first
      | rfl
      | (rw [show s + 1 = 7 by omega, drW_7])
theorem min3 (x y : Int) : min x y = x ∨ min x y = y := by omega
theorem ahead_loop2 {G : GT} {S : Shp} {σ : Sto} {a : Nat} {s b c : Int} {z : Int} {Q : Option Value → Shp → Sto → Prop} (hA : IsDr S a) (hr : restOk (σ (a + 5)) (σ (a + 1)) (σ (a + 2)) (s + 1)) (hk : bndOk (σ (a + 1)) (σ (a + 2))) (hs : 1 ≤ s ∧ s ≤ 6) (hb : -20 ≤ b ∧ b ≤ 20) (hc : σ (a + 1) s ≤ c ∧ c ≤ σ (a + 2) s) (hQ : Q (some (.int (iI (drW (σ (a + 1)) (σ (a + 2)) s b c)))) S σ) : ∀ (t : Nat) (i : Int) (m : Int), 0 ≤ i → i ≤ 81 → 81 - i < t → 0 ≤ m → (∀ e, σ (a + 1) (s + 1) ≤ e → e ≤ σ (a + 2) (s + 1) → -i < e - (2 * c - b) → e - (2 * c - b) < i → m ≤ drG (σ (a + 1)) (σ (a + 2)) s b c e) → (m = 1000000 ∨ ∃ e, σ (a + 1) (s + 1) ≤ e ∧ e < σ (a + 2) (s + 1) + 1 ∧ m = drG (σ (a + 1)) (σ (a + 2)) s b c e) → m ≤ 1000000 → PW (fm G mX3_leastAhead 3 0 0 Q) G S (σ) 0 0 58 [(0, .ref a), (1, .int (iI (s))), (2, .int (iI (b))), (3, .int (iI (c))), (4, .int (iI (σ (a + 1) (s + 1)))), (5, .int (iI (σ (a + 2) (s + 1)))), (6, .int (iI (2 * c - b))), (7, .int (iI (m))), (8, .int (iI (z))), (9, .int (iI (i)))] [] := by
  obtain ⟨hA0, hA1, hA2, hA3, hA4, hA5, hA6⟩ := id hA
  have k0 := hk s (by omega) (by omega)
  have k1 := hk (s + 1) (by omega) (by omega)
  intro t
  induction t with
  | zero => intro i m h1 h2 h3 g1 g2 g3 g4; omega
  | succ t ih =>
    intro i m h1 h2 h3 g1 g2 g3 g4
    have G1 : ∀ e, σ (a + 1) (s + 1) ≤ e → e ≤ σ (a + 2) (s + 1) → 0 ≤ drG (σ (a + 1)) (σ (a + 2)) s b c e ∧ drG (σ (a + 1)) (σ (a + 2)) s b c e ≤ 51200 := fun e q1 q2 => drG_b hk (by omega) hb (by omega) (by omega)
    refine PW.iload dX3_leastAhead_58 rfl ?_
    refine PW.bipush (by decide) dX3_leastAhead_60 ?_
    refine PW.icmp_gt 159 dX3_leastAhead_62 (by decide) (by first | assumption | (unfold inR; omega) | (have := sq_b (x := i) (by omega); unfold sq at this; unfold inR; omega)) (by first | assumption | (unfold inR; omega) | (have := sq_b (x := i) (by omega); unfold sq at this; unfold inR; omega)) (fun h62 => ?_) (fun h62 => ?_)
    · refine PW.iload dX3_leastAhead_159 rfl ?_
      refine PW.iret rfl rfl dX3_leastAhead_161 ?_
      have hm : m = drW (σ (a + 1)) (σ (a + 2)) s b c := by
        refine IsMn.uniq (g := drG (σ (a + 1)) (σ (a + 2)) s b c) (lo := σ (a + 1) (s + 1)) (en := σ (a + 2) (s + 1) + 1) (cap := 1000000) ⟨g4, fun e q1 q2 => ?_, g3⟩ (drW_mn hk (by omega))
        by_cases q3 : -i < e - (2 * c - b) ∧ e - (2 * c - b) < i
        · exact g2 e q1 (by omega) q3.1 q3.2
        · have w0 := drW_b hk (s := s + 1) (b := c) (c := e) (by omega) (by omega) (by omega)
          have w1 := sq_le (t := i) (x := b - 2 * c + e) (by omega) (by omega)
          unfold drG
          first
            | omega
            | (have w2 : i * i = sq i := rfl
               omega)
      rw [hm]
      exact hQ
    · refine PW.iload dX3_leastAhead_65 rfl ?_
      refine PW.iload dX3_leastAhead_67 rfl ?_
      refine PW.imul dX3_leastAhead_69 ?_
      refine PW.iload dX3_leastAhead_70 rfl ?_
      refine PW.icmp_ge 159 dX3_leastAhead_72 (by decide) (by first | assumption | (unfold inR; omega) | (have := sq_b (x := i) (by omega); unfold sq at this; unfold inR; omega)) (by first | assumption | (unfold inR; omega) | (have := sq_b (x := i) (by omega); unfold sq at this; unfold inR; omega)) (fun h72 => ?_) (fun h72 => ?_)
      · refine PW.iload dX3_leastAhead_159 rfl ?_
        refine PW.iret rfl rfl dX3_leastAhead_161 ?_
        have hm : m = drW (σ (a + 1)) (σ (a + 2)) s b c := by
          refine IsMn.uniq (g := drG (σ (a + 1)) (σ (a + 2)) s b c) (lo := σ (a + 1) (s + 1)) (en := σ (a + 2) (s + 1) + 1) (cap := 1000000) ⟨g4, fun e q1 q2 => ?_, g3⟩ (drW_mn hk (by omega))
          by_cases q3 : -i < e - (2 * c - b) ∧ e - (2 * c - b) < i
          · exact g2 e q1 (by omega) q3.1 q3.2
          · have w0 := drW_b hk (s := s + 1) (b := c) (c := e) (by omega) (by omega) (by omega)
            have w1 := sq_le (t := i) (x := b - 2 * c + e) (by omega) (by omega)
            unfold drG
            first
              | omega
              | (have w2 : i * i = sq i := rfl
                 omega)
        rw [hm]
        exact hQ
      · refine PW.iload dX3_leastAhead_75 rfl ?_
        refine PW.iload dX3_leastAhead_77 rfl ?_
        refine PW.isub dX3_leastAhead_79 ?_
        refine PW.iload dX3_leastAhead_80 rfl ?_
        refine PW.icmp_lt 114 dX3_leastAhead_82 (by decide) (by first | assumption | (unfold inR; omega) | (have := sq_b (x := i) (by omega); unfold sq at this; unfold inR; omega)) (by first | assumption | (unfold inR; omega) | (have := sq_b (x := i) (by omega); unfold sq at this; unfold inR; omega)) (fun h82 => ?_) (fun h82 => ?_)
        · refine PW.iload dX3_leastAhead_114 rfl ?_
          refine PW.iload dX3_leastAhead_116 rfl ?_
          refine PW.iadd dX3_leastAhead_118 ?_
          refine PW.iload dX3_leastAhead_119 rfl ?_
          refine PW.icmp_lt 153 dX3_leastAhead_121 (by decide) (by first | assumption | (unfold inR; omega) | (have := sq_b (x := i) (by omega); unfold sq at this; unfold inR; omega)) (by first | assumption | (unfold inR; omega) | (have := sq_b (x := i) (by omega); unfold sq at this; unfold inR; omega)) (fun h121 => ?_) (fun h121 => ?_)
          · refine PW.iinc [(0, _), (1, _), (2, _), (3, _), (4, _), (5, _), (6, _), (7, _), (8, _), (9, _)] dX3_leastAhead_153 rfl rfl (Nat.le_of_ble_eq_true rfl) ?_
            refine PW.goto 58 dX3_leastAhead_156 (by decide) ?_
            refine ih (i + 1) _ (by omega) (by omega) (by omega) ?_ ?_ ?_ ?_
            · omega
            · intro e q1 q2 q3 q4
              by_cases q5 : -i < e - (2 * c - b) ∧ e - (2 * c - b) < i
              · have := g2 e q1 q2 q5.1 q5.2
                omega
              · first
                  | (rcases (show e = 2 * c - b - i ∨ e = 2 * c - b + i by omega) with q6 | q6 <;> (subst q6; omega))
                  | (exfalso; omega)
            · first
                | exact g3
                | (rcases min3 _ _ with q6 | q6 <;> rw [q6] <;> first | exact g3 | exact Or.inr ⟨_, by omega, by omega, rfl⟩)
                | (rcases min3 _ _ with q6 | q6 <;> rw [q6] <;> first | exact Or.inr ⟨_, by omega, by omega, rfl⟩ | (rcases min3 _ _ with q7 | q7 <;> rw [q7] <;> first | exact g3 | exact Or.inr ⟨_, by omega, by omega, rfl⟩))
            · omega
          · refine PW.iload dX3_leastAhead_124 rfl ?_
            refine PW.iload dX3_leastAhead_126 rfl ?_
            refine PW.iadd dX3_leastAhead_128 ?_
            refine PW.iload dX3_leastAhead_129 rfl ?_
            refine PW.icmp_gt 153 dX3_leastAhead_131 (by decide) (by first | assumption | (unfold inR; omega) | (have := sq_b (x := i) (by omega); unfold sq at this; unfold inR; omega)) (by first | assumption | (unfold inR; omega) | (have := sq_b (x := i) (by omega); unfold sq at this; unfold inR; omega)) (fun h131 => ?_) (fun h131 => ?_)
            · refine PW.iinc [(0, _), (1, _), (2, _), (3, _), (4, _), (5, _), (6, _), (7, _), (8, _), (9, _)] dX3_leastAhead_153 rfl rfl (Nat.le_of_ble_eq_true rfl) ?_
              refine PW.goto 58 dX3_leastAhead_156 (by decide) ?_
              refine ih (i + 1) _ (by omega) (by omega) (by omega) ?_ ?_ ?_ ?_
              · omega
              · intro e q1 q2 q3 q4
                by_cases q5 : -i < e - (2 * c - b) ∧ e - (2 * c - b) < i
                · have := g2 e q1 q2 q5.1 q5.2
                  omega
                · first
                    | (rcases (show e = 2 * c - b - i ∨ e = 2 * c - b + i by omega) with q6 | q6 <;> (subst q6; omega))
                    | (exfalso; omega)
              · first
                  | exact g3
                  | (rcases min3 _ _ with q6 | q6 <;> rw [q6] <;> first | exact g3 | exact Or.inr ⟨_, by omega, by omega, rfl⟩)
                  | (rcases min3 _ _ with q6 | q6 <;> rw [q6] <;> first | exact Or.inr ⟨_, by omega, by omega, rfl⟩ | (rcases min3 _ _ with q7 | q7 <;> rw [q7] <;> first | exact g3 | exact Or.inr ⟨_, by omega, by omega, rfl⟩))
              · omega
            · refine PW.iload dX3_leastAhead_134 rfl ?_
              refine PW.aload_n dX3_leastAhead_136 rfl ?_
              refine PW.iload_n dX3_leastAhead_137 rfl ?_
              refine PW.iload_n dX3_leastAhead_138 rfl ?_
              refine PW.iload_n dX3_leastAhead_139 rfl ?_
              refine PW.iload dX3_leastAhead_140 rfl ?_
              refine PW.iload dX3_leastAhead_142 rfl ?_
              refine PW.iadd dX3_leastAhead_144 ?_
              have gg2 := G1 (2 * c - b + i) (by omega) (by omega)
              refine PW.callVr (c_X3_bendFrom (by assumption) (by assumption) (by assumption) (by omega) (by omega) (by omega) (by omega)) cv_X3_bendFrom lk_X3_85 (by first | assumption | exact And.left (by assumption)) dX3_leastAhead_145 rfl rfl rfl rfl ?_
              refine PW.callSr (c_J9_min_7cf53 (by first | assumption | (unfold inR; omega)) (by first | assumption | (unfold inR; omega))) cs_J9_min_7cf53 lk_X3_56 dX3_leastAhead_148 rfl rfl rfl ?_
              refine PW.istore [(0, _), (1, _), (2, _), (3, _), (4, _), (5, _), (6, _), (7, _), (8, _), (9, _)] dX3_leastAhead_151 rfl (Nat.le_of_ble_eq_true rfl) ?_
              refine PW.iinc [(0, _), (1, _), (2, _), (3, _), (4, _), (5, _), (6, _), (7, _), (8, _), (9, _)] dX3_leastAhead_153 rfl rfl (Nat.le_of_ble_eq_true rfl) ?_
              refine PW.goto 58 dX3_leastAhead_156 (by decide) ?_
              refine ih (i + 1) _ (by omega) (by omega) (by omega) ?_ ?_ ?_ ?_
              · omega
              · intro e q1 q2 q3 q4
                by_cases q5 : -i < e - (2 * c - b) ∧ e - (2 * c - b) < i
                · have := g2 e q1 q2 q5.1 q5.2
                  omega
                · first
                    | (rcases (show e = 2 * c - b - i ∨ e = 2 * c - b + i by omega) with q6 | q6 <;> (subst q6; omega))
                    | (exfalso; omega)
              · first
                  | exact g3
                  | (rcases min3 _ _ with q6 | q6 <;> rw [q6] <;> first | exact g3 | exact Or.inr ⟨_, by omega, by omega, rfl⟩)
                  | (rcases min3 _ _ with q6 | q6 <;> rw [q6] <;> first | exact Or.inr ⟨_, by omega, by omega, rfl⟩ | (rcases min3 _ _ with q7 | q7 <;> rw [q7] <;> first | exact g3 | exact Or.inr ⟨_, by omega, by omega, rfl⟩))
              · omega
        · refine PW.iload dX3_leastAhead_85 rfl ?_
          refine PW.iload dX3_leastAhead_87 rfl ?_
          refine PW.isub dX3_leastAhead_89 ?_
          refine PW.iload dX3_leastAhead_90 rfl ?_
          refine PW.icmp_gt 114 dX3_leastAhead_92 (by decide) (by first | assumption | (unfold inR; omega) | (have := sq_b (x := i) (by omega); unfold sq at this; unfold inR; omega)) (by first | assumption | (unfold inR; omega) | (have := sq_b (x := i) (by omega); unfold sq at this; unfold inR; omega)) (fun h92 => ?_) (fun h92 => ?_)
          · refine PW.iload dX3_leastAhead_114 rfl ?_
            refine PW.iload dX3_leastAhead_116 rfl ?_
            refine PW.iadd dX3_leastAhead_118 ?_
            refine PW.iload dX3_leastAhead_119 rfl ?_
            refine PW.icmp_lt 153 dX3_leastAhead_121 (by decide) (by first | assumption | (unfold inR; omega) | (have := sq_b (x := i) (by omega); unfold sq at this; unfold inR; omega)) (by first | assumption | (unfold inR; omega) | (have := sq_b (x := i) (by omega); unfold sq at this; unfold inR; omega)) (fun h121 => ?_) (fun h121 => ?_)
            · refine PW.iinc [(0, _), (1, _), (2, _), (3, _), (4, _), (5, _), (6, _), (7, _), (8, _), (9, _)] dX3_leastAhead_153 rfl rfl (Nat.le_of_ble_eq_true rfl) ?_
              refine PW.goto 58 dX3_leastAhead_156 (by decide) ?_
              refine ih (i + 1) _ (by omega) (by omega) (by omega) ?_ ?_ ?_ ?_
              · omega
              · intro e q1 q2 q3 q4
                by_cases q5 : -i < e - (2 * c - b) ∧ e - (2 * c - b) < i
                · have := g2 e q1 q2 q5.1 q5.2
                  omega
                · first
                    | (rcases (show e = 2 * c - b - i ∨ e = 2 * c - b + i by omega) with q6 | q6 <;> (subst q6; omega))
                    | (exfalso; omega)
              · first
                  | exact g3
                  | (rcases min3 _ _ with q6 | q6 <;> rw [q6] <;> first | exact g3 | exact Or.inr ⟨_, by omega, by omega, rfl⟩)
                  | (rcases min3 _ _ with q6 | q6 <;> rw [q6] <;> first | exact Or.inr ⟨_, by omega, by omega, rfl⟩ | (rcases min3 _ _ with q7 | q7 <;> rw [q7] <;> first | exact g3 | exact Or.inr ⟨_, by omega, by omega, rfl⟩))
              · omega
            · refine PW.iload dX3_leastAhead_124 rfl ?_
              refine PW.iload dX3_leastAhead_126 rfl ?_
              refine PW.iadd dX3_leastAhead_128 ?_
              refine PW.iload dX3_leastAhead_129 rfl ?_
              refine PW.icmp_gt 153 dX3_leastAhead_131 (by decide) (by first | assumption | (unfold inR; omega) | (have := sq_b (x := i) (by omega); unfold sq at this; unfold inR; omega)) (by first | assumption | (unfold inR; omega) | (have := sq_b (x := i) (by omega); unfold sq at this; unfold inR; omega)) (fun h131 => ?_) (fun h131 => ?_)
              · refine PW.iinc [(0, _), (1, _), (2, _), (3, _), (4, _), (5, _), (6, _), (7, _), (8, _), (9, _)] dX3_leastAhead_153 rfl rfl (Nat.le_of_ble_eq_true rfl) ?_
                refine PW.goto 58 dX3_leastAhead_156 (by decide) ?_
                refine ih (i + 1) _ (by omega) (by omega) (by omega) ?_ ?_ ?_ ?_
                · omega
                · intro e q1 q2 q3 q4
                  by_cases q5 : -i < e - (2 * c - b) ∧ e - (2 * c - b) < i
                  · have := g2 e q1 q2 q5.1 q5.2
                    omega
                  · first
                      | (rcases (show e = 2 * c - b - i ∨ e = 2 * c - b + i by omega) with q6 | q6 <;> (subst q6; omega))
                      | (exfalso; omega)
                · first
                    | exact g3
                    | (rcases min3 _ _ with q6 | q6 <;> rw [q6] <;> first | exact g3 | exact Or.inr ⟨_, by omega, by omega, rfl⟩)
                    | (rcases min3 _ _ with q6 | q6 <;> rw [q6] <;> first | exact Or.inr ⟨_, by omega, by omega, rfl⟩ | (rcases min3 _ _ with q7 | q7 <;> rw [q7] <;> first | exact g3 | exact Or.inr ⟨_, by omega, by omega, rfl⟩))
                · omega
              · refine PW.iload dX3_leastAhead_134 rfl ?_
                refine PW.aload_n dX3_leastAhead_136 rfl ?_
                refine PW.iload_n dX3_leastAhead_137 rfl ?_
                refine PW.iload_n dX3_leastAhead_138 rfl ?_
                refine PW.iload_n dX3_leastAhead_139 rfl ?_
                refine PW.iload dX3_leastAhead_140 rfl ?_
                refine PW.iload dX3_leastAhead_142 rfl ?_
                refine PW.iadd dX3_leastAhead_144 ?_
                have gg2 := G1 (2 * c - b + i) (by omega) (by omega)
                refine PW.callVr (c_X3_bendFrom (by assumption) (by assumption) (by assumption) (by omega) (by omega) (by omega) (by omega)) cv_X3_bendFrom lk_X3_85 (by first | assumption | exact And.left (by assumption)) dX3_leastAhead_145 rfl rfl rfl rfl ?_
                refine PW.callSr (c_J9_min_7cf53 (by first | assumption | (unfold inR; omega)) (by first | assumption | (unfold inR; omega))) cs_J9_min_7cf53 lk_X3_56 dX3_leastAhead_148 rfl rfl rfl ?_
                refine PW.istore [(0, _), (1, _), (2, _), (3, _), (4, _), (5, _), (6, _), (7, _), (8, _), (9, _)] dX3_leastAhead_151 rfl (Nat.le_of_ble_eq_true rfl) ?_
                refine PW.iinc [(0, _), (1, _), (2, _), (3, _), (4, _), (5, _), (6, _), (7, _), (8, _), (9, _)] dX3_leastAhead_153 rfl rfl (Nat.le_of_ble_eq_true rfl) ?_
                refine PW.goto 58 dX3_leastAhead_156 (by decide) ?_
                refine ih (i + 1) _ (by omega) (by omega) (by omega) ?_ ?_ ?_ ?_
                · omega
                · intro e q1 q2 q3 q4
                  by_cases q5 : -i < e - (2 * c - b) ∧ e - (2 * c - b) < i
                  · have := g2 e q1 q2 q5.1 q5.2
                    omega
                  · first
                      | (rcases (show e = 2 * c - b - i ∨ e = 2 * c - b + i by omega) with q6 | q6 <;> (subst q6; omega))
                      | (exfalso; omega)
                · first
                    | exact g3
                    | (rcases min3 _ _ with q6 | q6 <;> rw [q6] <;> first | exact g3 | exact Or.inr ⟨_, by omega, by omega, rfl⟩)
                    | (rcases min3 _ _ with q6 | q6 <;> rw [q6] <;> first | exact Or.inr ⟨_, by omega, by omega, rfl⟩ | (rcases min3 _ _ with q7 | q7 <;> rw [q7] <;> first | exact g3 | exact Or.inr ⟨_, by omega, by omega, rfl⟩))
                · omega
          · refine PW.iload dX3_leastAhead_95 rfl ?_
            refine PW.aload_n dX3_leastAhead_97 rfl ?_
            refine PW.iload_n dX3_leastAhead_98 rfl ?_
            refine PW.iload_n dX3_leastAhead_99 rfl ?_
            refine PW.iload_n dX3_leastAhead_100 rfl ?_
            refine PW.iload dX3_leastAhead_101 rfl ?_
            refine PW.iload dX3_leastAhead_103 rfl ?_
            refine PW.isub dX3_leastAhead_105 ?_
            have gg1 := G1 (2 * c - b - i) (by omega) (by omega)
            refine PW.callVr (c_X3_bendFrom (by assumption) (by assumption) (by assumption) (by omega) (by omega) (by omega) (by omega)) cv_X3_bendFrom lk_X3_85 (by first | assumption | exact And.left (by assumption)) dX3_leastAhead_106 rfl rfl rfl rfl ?_
            refine PW.callSr (c_J9_min_7cf53 (by first | assumption | (unfold inR; omega)) (by first | assumption | (unfold inR; omega))) cs_J9_min_7cf53 lk_X3_56 dX3_leastAhead_109 rfl rfl rfl ?_
            refine PW.istore [(0, _), (1, _), (2, _), (3, _), (4, _), (5, _), (6, _), (7, _), (8, _), (9, _)] dX3_leastAhead_112 rfl (Nat.le_of_ble_eq_true rfl) ?_
            refine PW.iload dX3_leastAhead_114 rfl ?_
            refine PW.iload dX3_leastAhead_116 rfl ?_
            refine PW.iadd dX3_leastAhead_118 ?_
            refine PW.iload dX3_leastAhead_119 rfl ?_
            refine PW.icmp_lt 153 dX3_leastAhead_121 (by decide) (by first | assumption | (unfold inR; omega) | (have := sq_b (x := i) (by omega); unfold sq at this; unfold inR; omega)) (by first | assumption | (unfold inR; omega) | (have := sq_b (x := i) (by omega); unfold sq at this; unfold inR; omega)) (fun h121 => ?_) (fun h121 => ?_)
            · refine PW.iinc [(0, _), (1, _), (2, _), (3, _), (4, _), (5, _), (6, _), (7, _), (8, _), (9, _)] dX3_leastAhead_153 rfl rfl (Nat.le_of_ble_eq_true rfl) ?_
              refine PW.goto 58 dX3_leastAhead_156 (by decide) ?_
              refine ih (i + 1) _ (by omega) (by omega) (by omega) ?_ ?_ ?_ ?_
              · omega
              · intro e q1 q2 q3 q4
                by_cases q5 : -i < e - (2 * c - b) ∧ e - (2 * c - b) < i
                · have := g2 e q1 q2 q5.1 q5.2
                  omega
                · first
                    | (rcases (show e = 2 * c - b - i ∨ e = 2 * c - b + i by omega) with q6 | q6 <;> (subst q6; omega))
                    | (exfalso; omega)
              · first
                  | exact g3
                  | (rcases min3 _ _ with q6 | q6 <;> rw [q6] <;> first | exact g3 | exact Or.inr ⟨_, by omega, by omega, rfl⟩)
                  | (rcases min3 _ _ with q6 | q6 <;> rw [q6] <;> first | exact Or.inr ⟨_, by omega, by omega, rfl⟩ | (rcases min3 _ _ with q7 | q7 <;> rw [q7] <;> first | exact g3 | exact Or.inr ⟨_, by omega, by omega, rfl⟩))
              · omega
            · refine PW.iload dX3_leastAhead_124 rfl ?_
              refine PW.iload dX3_leastAhead_126 rfl ?_
              refine PW.iadd dX3_leastAhead_128 ?_
              refine PW.iload dX3_leastAhead_129 rfl ?_
              refine PW.icmp_gt 153 dX3_leastAhead_131 (by decide) (by first | assumption | (unfold inR; omega) | (have := sq_b (x := i) (by omega); unfold sq at this; unfold inR; omega)) (by first | assumption | (unfold inR; omega) | (have := sq_b (x := i) (by omega); unfold sq at this; unfold inR; omega)) (fun h131 => ?_) (fun h131 => ?_)
              · refine PW.iinc [(0, _), (1, _), (2, _), (3, _), (4, _), (5, _), (6, _), (7, _), (8, _), (9, _)] dX3_leastAhead_153 rfl rfl (Nat.le_of_ble_eq_true rfl) ?_
                refine PW.goto 58 dX3_leastAhead_156 (by decide) ?_
                refine ih (i + 1) _ (by omega) (by omega) (by omega) ?_ ?_ ?_ ?_
                · omega
                · intro e q1 q2 q3 q4
                  by_cases q5 : -i < e - (2 * c - b) ∧ e - (2 * c - b) < i
                  · have := g2 e q1 q2 q5.1 q5.2
                    omega
                  · first
                      | (rcases (show e = 2 * c - b - i ∨ e = 2 * c - b + i by omega) with q6 | q6 <;> (subst q6; omega))
                      | (exfalso; omega)
                · first
                    | exact g3
                    | (rcases min3 _ _ with q6 | q6 <;> rw [q6] <;> first | exact g3 | exact Or.inr ⟨_, by omega, by omega, rfl⟩)
                    | (rcases min3 _ _ with q6 | q6 <;> rw [q6] <;> first | exact Or.inr ⟨_, by omega, by omega, rfl⟩ | (rcases min3 _ _ with q7 | q7 <;> rw [q7] <;> first | exact g3 | exact Or.inr ⟨_, by omega, by omega, rfl⟩))
                · omega
              · refine PW.iload dX3_leastAhead_134 rfl ?_
                refine PW.aload_n dX3_leastAhead_136 rfl ?_
                refine PW.iload_n dX3_leastAhead_137 rfl ?_
                refine PW.iload_n dX3_leastAhead_138 rfl ?_
                refine PW.iload_n dX3_leastAhead_139 rfl ?_
                refine PW.iload dX3_leastAhead_140 rfl ?_
                refine PW.iload dX3_leastAhead_142 rfl ?_
                refine PW.iadd dX3_leastAhead_144 ?_
                have gg2 := G1 (2 * c - b + i) (by omega) (by omega)
                refine PW.callVr (c_X3_bendFrom (by assumption) (by assumption) (by assumption) (by omega) (by omega) (by omega) (by omega)) cv_X3_bendFrom lk_X3_85 (by first | assumption | exact And.left (by assumption)) dX3_leastAhead_145 rfl rfl rfl rfl ?_
                refine PW.callSr (c_J9_min_7cf53 (by first | assumption | (unfold inR; omega)) (by first | assumption | (unfold inR; omega))) cs_J9_min_7cf53 lk_X3_56 dX3_leastAhead_148 rfl rfl rfl ?_
                refine PW.istore [(0, _), (1, _), (2, _), (3, _), (4, _), (5, _), (6, _), (7, _), (8, _), (9, _)] dX3_leastAhead_151 rfl (Nat.le_of_ble_eq_true rfl) ?_
                refine PW.iinc [(0, _), (1, _), (2, _), (3, _), (4, _), (5, _), (6, _), (7, _), (8, _), (9, _)] dX3_leastAhead_153 rfl rfl (Nat.le_of_ble_eq_true rfl) ?_
                refine PW.goto 58 dX3_leastAhead_156 (by decide) ?_
                refine ih (i + 1) _ (by omega) (by omega) (by omega) ?_ ?_ ?_ ?_
                · omega
                · intro e q1 q2 q3 q4
                  by_cases q5 : -i < e - (2 * c - b) ∧ e - (2 * c - b) < i
                  · have := g2 e q1 q2 q5.1 q5.2
                    omega
                  · first
                      | (rcases (show e = 2 * c - b - i ∨ e = 2 * c - b + i by omega) with q6 | q6 <;> (subst q6; omega))
                      | (exfalso; omega)
                · first
                    | exact g3
                    | (rcases min3 _ _ with q6 | q6 <;> rw [q6] <;> first | exact g3 | exact Or.inr ⟨_, by omega, by omega, rfl⟩)
                    | (rcases min3 _ _ with q6 | q6 <;> rw [q6] <;> first | exact Or.inr ⟨_, by omega, by omega, rfl⟩ | (rcases min3 _ _ with q7 | q7 <;> rw [q7] <;> first | exact g3 | exact Or.inr ⟨_, by omega, by omega, rfl⟩))
                · omega
theorem c_X3_leastAhead {G : GT} {S : Shp} {σ : Sto} {a : Nat} {s b c : Int} (hA : IsDr S a) (hr : restOk (σ (a + 5)) (σ (a + 1)) (σ (a + 2)) (s + 1)) (hk : bndOk (σ (a + 1)) (σ (a + 2))) (hs : 1 ≤ s ∧ s ≤ 6) (hb : -20 ≤ b ∧ b ≤ 20) (hc : σ (a + 1) s ≤ c ∧ c ≤ σ (a + 2) s) : PMet G mX3_leastAhead 3 0 0 [.ref a, .int (iI (s)), .int (iI (b)), .int (iI (c))] S σ (isP (some (.int (iI (drW (σ (a + 1)) (σ (a + 2)) s b c)))) S (σ)) := by
  obtain ⟨hA0, hA1, hA2, hA3, hA4, hA5, hA6⟩ := id hA
  have k0 := hk s (by omega) (by omega)
  have k1 := hk (s + 1) (by omega) (by omega)
  refine PMet.of [(0, .ref a), (1, .int (iI (s))), (2, .int (iI (b))), (3, .int (iI (c)))] (by decide +kernel) rfl (Nat.le_of_ble_eq_true rfl) ?_
  refine PW.aload_n dX3_leastAhead_0 rfl ?_
  refine PW.getR fl_X3_9 rfl (by assumption) rfl dX3_leastAhead_1 ?_
  refine PW.iload_n dX3_leastAhead_4 rfl ?_
  refine PW.iconst dX3_leastAhead_5 ?_
  refine PW.iadd dX3_leastAhead_6 ?_
  refine PW.callSr (c_X11_get (by assumption) (by first | assumption | (unfold inR; omega)) (by decide)) cs_X11_get lk_X3_42 dX3_leastAhead_7 rfl rfl rfl ?_
  refine PW.top (σ (a + 1) (s + 1)) (by unfold gI; rw [if_pos (by omega)] <;> first | rfl | simp [upS]) ?_
  refine PW.istore [(0, _), (1, _), (2, _), (3, _), (4, _)] dX3_leastAhead_10 rfl (Nat.le_of_ble_eq_true rfl) ?_
  refine PW.aload_n dX3_leastAhead_12 rfl ?_
  refine PW.getR fl_X3_15 rfl (by assumption) rfl dX3_leastAhead_13 ?_
  refine PW.iload_n dX3_leastAhead_16 rfl ?_
  refine PW.iconst dX3_leastAhead_17 ?_
  refine PW.iadd dX3_leastAhead_18 ?_
  refine PW.callSr (c_X11_get (by assumption) (by first | assumption | (unfold inR; omega)) (by decide)) cs_X11_get lk_X3_42 dX3_leastAhead_19 rfl rfl rfl ?_
  refine PW.top (σ (a + 2) (s + 1)) (by unfold gI; rw [if_pos (by omega)] <;> first | rfl | simp [upS]) ?_
  refine PW.istore [(0, _), (1, _), (2, _), (3, _), (4, _), (5, _)] dX3_leastAhead_22 rfl (Nat.le_of_ble_eq_true rfl) ?_
  refine PW.iconst dX3_leastAhead_24 ?_
  refine PW.iload_n dX3_leastAhead_25 rfl ?_
  refine PW.imul dX3_leastAhead_26 ?_
  refine PW.iload_n dX3_leastAhead_27 rfl ?_
  refine PW.isub dX3_leastAhead_28 ?_
  refine PW.istore [(0, _), (1, _), (2, _), (3, _), (4, _), (5, _), (6, _)] dX3_leastAhead_29 rfl (Nat.le_of_ble_eq_true rfl) ?_
  refine PW.ldc (1000000) kc_X3_84 rfl rfl dX3_leastAhead_31 ?_
  refine PW.istore [(0, _), (1, _), (2, _), (3, _), (4, _), (5, _), (6, _), (7, _)] dX3_leastAhead_33 rfl (Nat.le_of_ble_eq_true rfl) ?_
  refine PW.iconst dX3_leastAhead_35 ?_
  refine PW.iload dX3_leastAhead_36 rfl ?_
  refine PW.iload dX3_leastAhead_38 rfl ?_
  refine PW.isub dX3_leastAhead_40 ?_
  refine PW.iload dX3_leastAhead_41 rfl ?_
  refine PW.iload dX3_leastAhead_43 rfl ?_
  refine PW.isub dX3_leastAhead_45 ?_
  refine PW.callSr (c_J9_max_7cf53 (by first | assumption | (unfold inR; omega)) (by first | assumption | (unfold inR; omega))) cs_J9_max_7cf53 lk_X3_46 dX3_leastAhead_46 rfl rfl rfl ?_
  refine PW.callSr (c_J9_max_7cf53 (by first | assumption | (unfold inR; omega)) (by first | assumption | (unfold inR; omega))) cs_J9_max_7cf53 lk_X3_46 dX3_leastAhead_49 rfl rfl rfl ?_
  refine PW.istore [(0, _), (1, _), (2, _), (3, _), (4, _), (5, _), (6, _), (7, _), (8, _)] dX3_leastAhead_52 rfl (Nat.le_of_ble_eq_true rfl) ?_
  refine PW.iload dX3_leastAhead_54 rfl ?_
  refine PW.istore [(0, _), (1, _), (2, _), (3, _), (4, _), (5, _), (6, _), (7, _), (8, _), (9, _)] dX3_leastAhead_56 rfl (Nat.le_of_ble_eq_true rfl) ?_
  refine ahead_loop2 hA hr hk hs hb hc ⟨rfl, rfl, rfl⟩ 82 _ _ (by omega) (by omega) (by omega) (by decide) (fun e q1 q2 q3 q4 => by exfalso; omega) (Or.inl rfl) (by decide)

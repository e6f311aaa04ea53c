def drFr (σ τ : Sto) (a : Nat) : Prop := ∀ q, q ≠ a → (q < a + 3 ∨ a + 6 < q) → τ q = σ q
theorem drFr_up {σ τ : Sto} {a b : Nat} {f : Int → Int} (h : drFr σ τ a) (hb : b = a ∨ (a + 3 ≤ b ∧ b ≤ a + 6)) : drFr σ (upS τ b f) a := by
  intro q q1 q2
  rw [upS_ne (by omega)]
  exact h q q1 q2
/-- a drawing as far as step s -/
def drPre (lo hi : Int → Int) (bd : Int) (ht : Int → Int) (s : Int) : Prop :=
  (lo 0 ≤ ht 0 ∧ ht 0 ≤ hi 0) ∧ (lo 1 ≤ ht 1 ∧ ht 1 ≤ hi 1) ∧ bd = drW lo hi 1 (ht 0) (ht 1) ∧
  (∀ a b, lo 0 ≤ a → a ≤ hi 0 → lo 1 ≤ b → b ≤ hi 1 → bd ≤ drW lo hi 1 a b ∧ (bd = drW lo hi 1 a b → ht 0 < a ∨ (ht 0 = a ∧ ht 1 ≤ b))) ∧
  ∀ q, 1 ≤ q → q < s → (lo (q + 1) ≤ ht (q + 1) ∧ ht (q + 1) ≤ hi (q + 1)) ∧ drG lo hi q (ht (q - 1)) (ht q) (ht (q + 1)) = drW lo hi q (ht (q - 1)) (ht q) ∧ ∀ h, lo (q + 1) ≤ h → h < ht (q + 1) → drG lo hi q (ht (q - 1)) (ht q) h ≠ drW lo hi q (ht (q - 1)) (ht q)
theorem drPre.rng {lo hi : Int → Int} {bd : Int} {ht : Int → Int} {s : Int} (h : drPre lo hi bd ht s) {q : Int} (h0 : 0 ≤ q) (h1 : q ≤ 1 ∨ q ≤ s) : lo q ≤ ht q ∧ ht q ≤ hi q := by
  by_cases q0 : q = 0
  · rw [q0]; exact h.1
  · by_cases q1 : q = 1
    · rw [q1]; exact h.2.1
    · have := (h.2.2.2.2 (q - 1) (by omega) (by omega)).1
      rw [show q - 1 + 1 = q by omega] at this
      exact this
theorem drPre.step {lo hi : Int → Int} {bd : Int} {ht : Int → Int} {s v : Int} (hs : 1 ≤ s) (h : drPre lo hi bd ht s) (hv : (lo (s + 1) ≤ v ∧ v ≤ hi (s + 1)) ∧ drG lo hi s (ht (s - 1)) (ht s) v = drW lo hi s (ht (s - 1)) (ht s) ∧ ∀ h, lo (s + 1) ≤ h → h < v → drG lo hi s (ht (s - 1)) (ht s) h ≠ drW lo hi s (ht (s - 1)) (ht s)) : drPre lo hi bd (up1 ht (s + 1) v) (s + 1) := by
  obtain ⟨a0, a1, a2, a3, a4⟩ := h
  have e : ∀ q, q ≠ s + 1 → up1 ht (s + 1) v q = ht q := fun q hq => up1_ne hq
  unfold drPre
  rw [e 0 (by omega), e 1 (by omega)]
  refine ⟨a0, a1, a2, a3, fun q q0 q1 => ?_⟩
  rw [e q (by omega), e (q - 1) (by omega)]
  by_cases hq : q = s
  · subst hq
    rw [up1_same]
    exact hv
  · rw [e (q + 1) (by omega)]
    exact a4 q q0 (by omega)
-- (not here: know_l2)
-- (not here: know_l1)
-- (not here: c_X3_know)
/-- a sight that bounds the top of a bed at a step of a line -/
abbrev mtB (f : Int → Int) (bed ax line s i : Int) : Prop := f (5 * i) = 2 ∧ f (5 * i + 2) = bed ∧ f (5 * i + 1) = (if ax = 0 then 8 * line + s else 8 * s + line)
def bdL (f : Int → Int) (bed ax line s : Int) : Nat → Int
  | 0 => -20
  | k + 1 => if mtB f bed ax line s (k : Int) then max (f (5 * (k : Int) + 3)) (bdL f bed ax line s k) else bdL f bed ax line s k
def bdH (f : Int → Int) (bed ax line s : Int) : Nat → Int
  | 0 => 20
  | k + 1 => if mtB f bed ax line s (k : Int) then min (f (5 * (k : Int) + 4)) (bdH f bed ax line s k) else bdH f bed ax line s k
theorem bdL_s (f : Int → Int) (bed ax line s : Int) {i : Int} (h : 0 ≤ i) : bdL f bed ax line s (i + 1).toNat = if mtB f bed ax line s i then max (f (5 * i + 3)) (bdL f bed ax line s i.toNat) else bdL f bed ax line s i.toNat := by
  rw [show (i + 1).toNat = i.toNat + 1 by omega]
  simp only [bdL]
  rw [show ((i.toNat : Nat) : Int) = i by omega]
theorem bdH_s (f : Int → Int) (bed ax line s : Int) {i : Int} (h : 0 ≤ i) : bdH f bed ax line s (i + 1).toNat = if mtB f bed ax line s i then min (f (5 * i + 4)) (bdH f bed ax line s i.toNat) else bdH f bed ax line s i.toNat := by
  rw [show (i + 1).toNat = i.toNat + 1 by omega]
  simp only [bdH]
  rw [show ((i.toNat : Nat) : Int) = i by omega]
theorem bd_b {f : Int → Int} {bed ax line s : Int} : ∀ {k : Nat}, (∀ i : Int, 0 ≤ i → i < k → sgWf f i) → (-20 ≤ bdL f bed ax line s k ∧ bdL f bed ax line s k ≤ 39) ∧ (-40 ≤ bdH f bed ax line s k ∧ bdH f bed ax line s k ≤ 20)
  | 0, _ => by simp [bdL, bdH]
  | k + 1, h => by
    have ih := bd_b (bed := bed) (ax := ax) (line := line) (s := s) (k := k) (fun i h0 h1 => h i h0 (by omega))
    have hw := h k (by omega) (by omega)
    simp only [bdL, bdH]
    by_cases hm : mtB f bed ax line s (k : Int)
    · rw [if_pos hm, if_pos hm]
      have := hw.2.2.2.2.2.2.2.1 hm.1
      omega
    · rw [if_neg hm, if_neg hm]
      exact ih
theorem nar_st (σ : Sto) (b : Nat) (lo hi f g : Int → Int) : upS (upS (upS (upS σ (b + 1) lo) (b + 2) hi) (b + 1) f) (b + 2) g = upS (upS σ (b + 1) f) (b + 2) g := by
  funext q
  unfold upS
  try dsimp only
  by_cases q1 : q = b + 2
  · rw [if_pos q1, if_pos q1]
  · rw [if_neg q1, if_neg q1]
    by_cases q2 : q = b + 1
    · rw [if_pos q2]
      first | rw [if_neg q1, if_pos q2] | rw [if_pos q2]
    · simp [q1, q2]
-- (not here: nar_loop)
-- (not here: c_X7_narrow)

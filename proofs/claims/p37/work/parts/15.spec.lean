-- ===== what loops find =====
def sumI (f : Int → Int) : Nat → Int
  | 0 => 0
  | n + 1 => sumI f n + f (n : Int)
/-- the first place below n, or -1 -/
def firI (P : Int → Bool) : Nat → Int
  | 0 => -1
  | n + 1 => if firI P n = -1 then (if P (n : Int) then (n : Int) else -1) else firI P n
/-- the last place below n, or -1 -/
def lasI (P : Int → Bool) : Nat → Int
  | 0 => -1
  | n + 1 => if P (n : Int) then (n : Int) else lasI P n
theorem firI_none {P : Int → Bool} : ∀ {n : Nat}, (∀ j : Int, 0 ≤ j → j < n → P j = false) → firI P n = -1
  | 0, _ => rfl
  | n + 1, h => by
    have h1 := firI_none (n := n) (fun j h0 h1 => h j h0 (by omega))
    have h2 := h n (by omega) (by omega)
    simp [firI, h1, h2]
theorem firI_hit {P : Int → Bool} {i : Int} (h0 : 0 ≤ i) (hi : P i = true) (hn : ∀ j : Int, 0 ≤ j → j < i → P j = false) : ∀ {n : Nat}, i < n → firI P n = i
  | 0, h => by omega
  | n + 1, h => by
    by_cases he : i = n
    · have h1 := firI_none (P := P) (n := n) (fun j h2 h3 => hn j h2 (by omega))
      subst he
      simp [firI, h1, hi]
    · have h1 := firI_hit h0 hi hn (n := n) (by omega)
      have h2 : ¬ i = -1 := by omega
      simp [firI, h1, h2]
theorem firI_b {P : Int → Bool} : ∀ {n : Nat}, -1 ≤ firI P n ∧ firI P n < n
  | 0 => by simp [firI]
  | n + 1 => by
    have := firI_b (P := P) (n := n)
    simp only [firI]
    split
    · split <;> omega
    · omega
theorem lasI_none {P : Int → Bool} : ∀ {n : Nat}, (∀ j : Int, 0 ≤ j → j < n → P j = false) → lasI P n = -1
  | 0, _ => rfl
  | n + 1, h => by
    have h1 := lasI_none (n := n) (fun j h0 h1 => h j h0 (by omega))
    have h2 := h n (by omega) (by omega)
    simp [lasI, h1, h2]
theorem lasI_hit {P : Int → Bool} {i : Int} (h0 : 0 ≤ i) (hi : P i = true) : ∀ {n : Nat}, i < n → (∀ j : Int, i < j → j < n → P j = false) → lasI P n = i
  | 0, h, _ => by omega
  | n + 1, h, hn => by
    by_cases he : i = n
    · subst he
      simp [lasI, hi]
    · have h1 := lasI_hit h0 hi (n := n) (by omega) (fun j h2 h3 => hn j h2 (by omega))
      have h2 := hn n (by omega) (by omega)
      simp [lasI, h1, h2]
theorem lasI_b {P : Int → Bool} : ∀ {n : Nat}, -1 ≤ lasI P n ∧ lasI P n < n
  | 0 => by simp [lasI]
  | n + 1 => by
    have := lasI_b (P := P) (n := n)
    simp only [lasI]
    split <;> omega
theorem lasI_spec {P : Int → Bool} : ∀ {n : Nat}, (∀ j : Int, lasI P n < j → j < n → P j = false) ∧ (lasI P n ≠ -1 → P (lasI P n) = true)
  | 0 => ⟨fun j h1 h2 => by simp [lasI] at h1; omega, fun h => absurd rfl h⟩
  | n + 1 => by
    have := lasI_spec (P := P) (n := n)
    simp only [lasI]
    split
    · next h => exact ⟨fun j h1 h2 => by omega, fun _ => h⟩
    · next h =>
      refine ⟨fun j h1 h2 => ?_, this.2⟩
      by_cases he : j = n
      · rw [he]; simpa using h
      · exact this.1 j h1 (by omega)
theorem firI_spec {P : Int → Bool} : ∀ {n : Nat}, (firI P n = -1 → ∀ j : Int, 0 ≤ j → j < n → P j = false) ∧ (firI P n ≠ -1 → P (firI P n) = true ∧ ∀ j : Int, 0 ≤ j → j < firI P n → P j = false)
  | 0 => ⟨fun _ j h1 h2 => by omega, fun h => absurd rfl h⟩
  | n + 1 => by
    have ih := firI_spec (P := P) (n := n)
    have hb := firI_b (P := P) (n := n)
    simp only [firI]
    by_cases h : firI P n = -1
    · rw [if_pos h]
      have h1 := ih.1 h
      by_cases hp : P (n : Int) = true
      · rw [if_pos hp]
        exact ⟨fun e => by omega, fun _ => ⟨hp, h1⟩⟩
      · rw [if_neg hp]
        refine ⟨fun _ j h2 h3 => ?_, fun e => absurd rfl e⟩
        by_cases he : j = n
        · rw [he]; simpa using hp
        · exact h1 j h2 (by omega)
    · rw [if_neg h]
      exact ⟨fun e => absurd e h, fun _ => ih.2 h⟩
theorem sumI_congr {f g : Int → Int} : ∀ {n : Nat}, (∀ j : Int, 0 ≤ j → j < n → f j = g j) → sumI f n = sumI g n
  | 0, _ => rfl
  | n + 1, h => by
    simp only [sumI]
    rw [sumI_congr (n := n) (fun j h0 h1 => h j h0 (by omega)), h n (by omega) (by omega)]
theorem sumI_b {f : Int → Int} {lo hi : Int} : ∀ {n : Nat}, (∀ j : Int, 0 ≤ j → j < n → lo ≤ f j ∧ f j ≤ hi) → lo * n ≤ sumI f n ∧ sumI f n ≤ hi * n
  | 0, _ => by simp [sumI]
  | n + 1, h => by
    have ih := sumI_b (n := n) (fun j h0 h1 => h j h0 (by omega))
    have h2 := h n (by omega) (by omega)
    simp only [sumI]
    have e1 : lo * ((n + 1 : Nat) : Int) = lo * n + lo := by rw [Int.natCast_add, Int.mul_add]; simp
    have e2 : hi * ((n + 1 : Nat) : Int) = hi * n + hi := by rw [Int.natCast_add, Int.mul_add]; simp
    omega
theorem sumI_succ (f : Int → Int) {i : Int} (h : 0 ≤ i) : sumI f (i + 1).toNat = sumI f i.toNat + f i := by
  rw [show (i + 1).toNat = i.toNat + 1 by omega]
  simp only [sumI]
  rw [show ((i.toNat : Nat) : Int) = i by omega]
theorem b01_b (P : Prop) [Decidable P] : 0 ≤ b01 P ∧ b01 P ≤ 1 := by unfold b01; split <;> omega
theorem b01_congr {P Q : Prop} [Decidable P] [Decidable Q] (h : P ↔ Q) : b01 P = b01 Q := by
  unfold b01
  by_cases hp : P
  · rw [if_pos hp, if_pos (h.mp hp)]
  · rw [if_neg hp, if_neg (fun q => hp (h.mpr q))]

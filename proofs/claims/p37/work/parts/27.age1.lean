/-- a bed in a set -/
abbrev inS (s b : Int) : Prop := s.toNat.testBit b.toNat = true
def orS (s b : Int) : Int := ((s.toNat ||| 2 ^ b.toNat : Nat) : Int)
def fullS (n : Int) : Int := ((2 ^ n.toNat : Nat) : Int) - 1
theorem bits_1 : ∀ s : Fin 256, ∀ b : Fin 8, bAnd (bShr (s.val : Int) (b.val : Int)) 1 = if s.val.testBit b.val = true then 1 else 0 := by decide +kernel
theorem bits_2 : ∀ s : Fin 256, ∀ b : Fin 8, bOr (s.val : Int) (bShl 1 (b.val : Int)) = ((s.val ||| 2 ^ b.val : Nat) : Int) := by decide +kernel
theorem bits_3 : ∀ n : Fin 9, bShl 1 (n.val : Int) = ((2 ^ n.val : Nat) : Int) := by decide +kernel
theorem inS_eq {s b : Int} (hs : 0 ≤ s ∧ s < 256) (hb : 0 ≤ b ∧ b < 8) : bAnd (bShr s b) 1 = b01 (inS s b) := by
  have h := bits_1 ⟨s.toNat, by omega⟩ ⟨b.toNat, by omega⟩
  dsimp only at h
  rw [show ((s.toNat : Nat) : Int) = s by omega, show ((b.toNat : Nat) : Int) = b by omega] at h
  exact h
theorem orS_eq {s b : Int} (hs : 0 ≤ s ∧ s < 256) (hb : 0 ≤ b ∧ b < 8) : bOr s (bShl 1 b) = orS s b := by
  have h := bits_2 ⟨s.toNat, by omega⟩ ⟨b.toNat, by omega⟩
  dsimp only at h
  rw [show ((s.toNat : Nat) : Int) = s by omega, show ((b.toNat : Nat) : Int) = b by omega] at h
  exact h
theorem fullS_eq {n : Int} (hn : 0 ≤ n ∧ n ≤ 8) : bShl 1 n - 1 = fullS n := by
  have h := bits_3 ⟨n.toNat, by omega⟩
  dsimp only at h
  rw [show ((n.toNat : Nat) : Int) = n by omega] at h
  unfold fullS
  rw [h]
theorem fullS_b {n : Int} (hn : 0 ≤ n ∧ n ≤ 8) : 0 ≤ fullS n ∧ fullS n ≤ 255 := by
  unfold fullS
  have h1 : 1 ≤ 2 ^ n.toNat := Nat.one_le_two_pow
  have h2 : 2 ^ n.toNat ≤ 2 ^ 8 := Nat.pow_le_pow_right (by decide) (by omega)
  have h3 : (2 : Nat) ^ 8 = 256 := by decide
  omega
theorem inS_orS {s b c : Int} (hb : 0 ≤ b) (hc : 0 ≤ c) : inS (orS s b) c ↔ inS s c ∨ c = b := by
  unfold inS orS
  rw [show (((s.toNat ||| 2 ^ b.toNat : Nat) : Int)).toNat = s.toNat ||| 2 ^ b.toNat from Int.toNat_natCast _, Nat.testBit_or, Nat.testBit_two_pow]
  simp only [Bool.or_eq_true, decide_eq_true_eq]
  constructor
  · rintro (h | h)
    · exact Or.inl h
    · exact Or.inr (by omega)
  · rintro (h | h)
    · exact Or.inl h
    · exact Or.inr (by omega)
theorem orS_ge {s b : Int} (hs : 0 ≤ s) : s ≤ orS s b := by
  unfold orS
  have := Nat.left_le_or (n := s.toNat) (m := 2 ^ b.toNat)
  omega
theorem orS_gt {s b : Int} (hs : 0 ≤ s) (hb : 0 ≤ b) (h : ¬ inS s b) : s < orS s b := by
  have h1 := orS_ge (b := b) hs
  by_cases e : s = orS s b
  · exact absurd (by rw [e]; exact (inS_orS hb hb).mpr (Or.inr rfl)) h
  · omega
theorem orS_le {s b n : Int} (hs : 0 ≤ s ∧ s ≤ fullS n) (hb : 0 ≤ b ∧ b < n) : 0 ≤ orS s b ∧ orS s b ≤ fullS n := by
  unfold fullS at *
  unfold orS
  have h1 : s.toNat < 2 ^ n.toNat := by omega
  have h2 : (2 : Nat) ^ b.toNat < 2 ^ n.toNat := Nat.pow_lt_pow_right (by decide) (by omega)
  have h3 := Nat.or_lt_two_pow h1 h2
  omega
/-- the least of g over the places below n with P, and a million -/
def mnB (P : Int → Prop) [DecidablePred P] (g : Int → Int) : Nat → Int
  | 0 => 1000000
  | k + 1 => if P (k : Int) then min (mnB P g k) (g (k : Int)) else mnB P g k
theorem mnB_s (P : Int → Prop) [DecidablePred P] (g : Int → Int) {i : Int} (h : 0 ≤ i) : mnB P g (i + 1).toNat = if P i then min (mnB P g i.toNat) (g i) else mnB P g i.toNat := by
  rw [show (i + 1).toNat = i.toNat + 1 by omega]
  simp only [mnB]
  rw [show ((i.toNat : Nat) : Int) = i by omega]
theorem mnB_congr {P : Int → Prop} [DecidablePred P] {g g' : Int → Int} : ∀ {k : Nat}, (∀ i : Int, 0 ≤ i → i < k → P i → g i = g' i) → mnB P g k = mnB P g' k
  | 0, _ => rfl
  | k + 1, h => by
    simp only [mnB]
    rw [mnB_congr (k := k) (fun i h0 h1 => h i h0 (by omega))]
    by_cases hp : P (k : Int)
    · rw [if_pos hp, if_pos hp, h k (by omega) (by omega) hp]
    · rw [if_neg hp, if_neg hp]
theorem mnB_le (P : Int → Prop) [DecidablePred P] (g : Int → Int) : ∀ k : Nat, mnB P g k ≤ 1000000
  | 0 => Int.le_refl _
  | k + 1 => by
    have := mnB_le P g k
    simp only [mnB]
    split <;> omega
theorem mnB_ge {P : Int → Prop} [DecidablePred P] {g : Int → Int} : ∀ {k : Nat}, (∀ i : Int, 0 ≤ i → i < k → P i → 0 ≤ g i) → 0 ≤ mnB P g k
  | 0, _ => by show (0 : Int) ≤ 1000000; decide
  | k + 1, h => by
    have ih := mnB_ge (P := P) (g := g) (k := k) (fun i h0 h1 => h i h0 (by omega))
    simp only [mnB]
    split
    · next hp =>
      have := h k (by omega) (by omega) hp
      omega
    · exact ih
/-- what a bed breaks when it comes behind those that are placed -/
def brF (w : Int → Int) (n s b : Int) : Int := smF (fun q => if inS s q then w (8 * b + q) else 0) n
abbrev alw (ah be s b : Int) : Prop := ¬ inS s b ∧ ¬ (b = be ∧ ¬ inS s ah)
def dqE (w : Int → Int) (n ah be : Int) (f : Int → Int) (s : Int) : Prop := f s = mnB (fun b => alw ah be s b) (fun b => brF w n s b + f (orS s b)) n.toNat
/-- the least quarrels from a set on -/
def dpR (w : Int → Int) (n ah be : Int) : Nat → Int → Int
  | 0, _ => 0
  | k + 1, s => if s = fullS n then 0 else mnB (fun b => alw ah be s b) (fun b => brF w n s b + dpR w n ah be k (orS s b)) n.toNat
def dqF (w : Int → Int) (n ah be : Int) : Int → Int := dpR w n ah be 256
def dpOk (w : Int → Int) (n ah be : Int) (f : Int → Int) (lo : Int) : Prop := f (fullS n) = 0 ∧ ∀ s, lo ≤ s → s < fullS n → dqE w n ah be f s
theorem dpR_eq {w : Int → Int} {n ah be : Int} {f : Int → Int} (h : dpOk w n ah be f 0) (hn : 0 ≤ n) : ∀ (k : Nat) (s : Int), 0 ≤ s → s ≤ fullS n → fullS n - s ≤ k → f s = dpR w n ah be k s
  | 0, s, h0, h1, h2 => by
    have e : s = fullS n := by omega
    rw [e]
    exact h.1
  | k + 1, s, h0, h1, h2 => by
    simp only [dpR]
    by_cases e : s = fullS n
    · rw [if_pos e, e]
      exact h.1
    · rw [if_neg e, h.2 s h0 (by omega)]
      refine mnB_congr fun b b0 b1 hb => ?_
      have g1 := orS_gt h0 b0 hb.1
      have g2 := orS_le (s := s) (b := b) (n := n) ⟨h0, h1⟩ ⟨b0, by omega⟩
      rw [dpR_eq h hn k (orS s b) (by omega) g2.2 (by omega)]
theorem dq_eq {w : Int → Int} {n ah be : Int} {f : Int → Int} (h : dpOk w n ah be f 0) (hn : 0 ≤ n ∧ n ≤ 8) {s : Int} (h0 : 0 ≤ s) (h1 : s ≤ fullS n) : f s = dqF w n ah be s := by
  have := fullS_b hn
  exact dpR_eq h hn.1 256 s h0 h1 (by omega)
abbrev wOk (w : Int → Int) : Prop := ∀ j, 0 ≤ j → j < 64 → 0 ≤ w j ∧ w j ≤ 2376
theorem brF_b {w : Int → Int} (h : wOk w) {n s b : Int} (hn : 0 ≤ n ∧ n ≤ 8) (hb : 0 ≤ b ∧ b < 8) : 0 ≤ brF w n s b ∧ brF w n s b ≤ 19008 := by
  have := smF_b (f := fun q => if inS s q then w (8 * b + q) else 0) (lo := 0) (hi := 2376) hn.1 (fun q q0 q1 => by
    try dsimp only
    split
    · exact h _ (by omega) (by omega)
    · omega)
  unfold brF
  omega
def IsAge (S : Shp) (a : Nat) : Prop := At S a (sO 0 [fR (a + 1), fR (a + 2), fI]) ∧ At S (a + 1) (sA 0 64) ∧ At S (a + 2) (sA 0 256)
theorem firI_congr {P P' : Int → Bool} : ∀ {k : Nat}, (∀ j : Int, 0 ≤ j → j < k → P j = P' j) → firI P k = firI P' k
  | 0, _ => rfl
  | k + 1, h => by
    simp only [firI]
    rw [firI_congr (k := k) (fun j h0 h1 => h j h0 (by omega)), h (k : Int) (by omega) (by omega)]
/-- the bed that comes first behind those that are placed, in a row with the least quarrel -/
def fobF (w : Int → Int) (n : Int) (f : Int → Int) (s : Int) : Int := if firI (fun b => decide (¬ inS s b ∧ brF w n s b + f (orS s b) = f s)) n.toNat = -1 then 0 else firI (fun b => decide (¬ inS s b ∧ brF w n s b + f (orS s b) = f s)) n.toNat
def rwS (w : Int → Int) (n : Int) (f : Int → Int) : Nat → Int
  | 0 => 0
  | k + 1 => orS (rwS w n f k) (fobF w n f (rwS w n f k))
theorem fobF_b {w : Int → Int} {n s : Int} {f : Int → Int} (hn : 1 ≤ n) : 0 ≤ fobF w n f s ∧ fobF w n f s < n := by
  have := firI_b (P := fun b => decide (¬ inS s b ∧ brF w n s b + f (orS s b) = f s)) (n := n.toNat)
  unfold fobF
  split <;> omega
theorem rwS_b {w : Int → Int} {n : Int} {f : Int → Int} (hn : 1 ≤ n ∧ n ≤ 8) : ∀ k : Nat, 0 ≤ rwS w n f k ∧ rwS w n f k ≤ fullS n
  | 0 => ⟨Int.le_refl _, (fullS_b ⟨by omega, hn.2⟩).1⟩
  | k + 1 => orS_le (rwS_b hn k) (fobF_b hn.1)
/-- the bed at a place of the row -/
def rowB (w : Int → Int) (n : Int) (f : Int → Int) (k : Int) : Int := fobF w n f (rwS w n f k.toNat)
theorem rwS_s (w : Int → Int) (n : Int) (f : Int → Int) {i : Int} (h : 0 ≤ i) : rwS w n f (i + 1).toNat = orS (rwS w n f i.toNat) (rowB w n f i) := by
  rw [show (i + 1).toNat = i.toNat + 1 by omega]
  rfl
theorem fobF_congr {w : Int → Int} {n s : Int} {f f' : Int → Int} (hn : 1 ≤ n) (h : ∀ q, 0 ≤ q → q ≤ fullS n → f q = f' q) (hs : 0 ≤ s ∧ s ≤ fullS n) : fobF w n f s = fobF w n f' s := by
  have e : firI (fun b => decide (¬ inS s b ∧ brF w n s b + f (orS s b) = f s)) n.toNat = firI (fun b => decide (¬ inS s b ∧ brF w n s b + f' (orS s b) = f' s)) n.toNat := firI_congr fun j j0 j1 => by
    simp only [h s hs.1 hs.2, h (orS s j) (orS_le hs ⟨j0, by omega⟩).1 (orS_le hs ⟨j0, by omega⟩).2]
  unfold fobF
  rw [e]
theorem rwS_congr {w : Int → Int} {n : Int} {f f' : Int → Int} (hn : 1 ≤ n ∧ n ≤ 8) (h : ∀ q, 0 ≤ q → q ≤ fullS n → f q = f' q) : ∀ k : Nat, rwS w n f k = rwS w n f' k
  | 0 => rfl
  | k + 1 => by
    simp only [rwS]
    rw [← rwS_congr hn h k, fobF_congr hn.1 h (rwS_b hn k)]
theorem rowB_congr {w : Int → Int} {n : Int} {f f' : Int → Int} (hn : 1 ≤ n ∧ n ≤ 8) (h : ∀ q, 0 ≤ q → q ≤ fullS n → f q = f' q) (k : Int) : rowB w n f k = rowB w n f' k := by
  unfold rowB
  rw [← rwS_congr hn h, fobF_congr hn.1 h (rwS_b hn _)]
abbrev bkP (w : Int → Int) (B : Int → Int) (a b : Int) : Prop := ¬ B b = -1 ∧ B b < B a
def bkF (w B : Int → Int) : Int := smF (fun a => smF (fun b => if bkP w B a b then w (8 * a + b) else 0) 8) 8
theorem c_X0_claims {G : GT} {S : Shp} {σ : Sto} {a : Nat} (hA : IsAge S a) : PMet G mX0_claims 0 0 0 [.ref a] S σ (isP (some (.int (iI (σ a 2)))) S (σ)) := by
  obtain ⟨hA0, hA1, hA2⟩ := id hA
  refine PMet.of [(0, .ref a)] (by decide +kernel) rfl (Nat.le_of_ble_eq_true rfl) ?_
  refine PW.aload_n dX0_claims_0 rfl ?_
  refine PW.getI 2 fl_X0_18 rfl (by assumption) rfl rfl dX0_claims_1 ?_
  exact PW.iret rfl rfl dX0_claims_4 ⟨rfl, rfl, rfl⟩
-- (not here: c_X0_weight)
-- (not here: c_X0_isIn)
-- (not here: c_X0_add)
-- (not here: breach_loop)
-- (not here: c_X0_breach)
-- (not here: qw_in)
-- (not here: qw_out)
-- (not here: c_X0_quarrelWith)

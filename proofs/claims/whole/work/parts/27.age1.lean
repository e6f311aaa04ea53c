/-- a bed in a set -/
abbrev inS (s b : Int) : Prop := s.toNat.testBit b.toNat = true
def orS (s b : Int) : Int := ((s.toNat ||| 2 ^ b.toNat : Nat) : Int)
def fullS (n : Int) : Int := ((2 ^ n.toNat : Nat) : Int) - 1
theorem bits_1 : ∀ s : Fin 256, ∀ b : Fin 8, bAnd (bShr (s.val : Int) (b.val : Int)) 1 = if s.val.testBit b.val = true then 1 else 0 := by decide +kernel
theorem bits_2 : ∀ s : Fin 256, ∀ b : Fin 8, bOr (s.val : Int) (bShl 1 (b.val : Int)) = ((s.val ||| 2 ^ b.val : Nat) : Int) := by decide +kernel
theorem bits_3 : ∀ n : Fin 9, bShl 1 (n.val : Int) = ((2 ^ n.val : Nat) : Int) := by decide +kernel
theorem inS_eq {s b : Int} (hs : 0 ≤ s ∧ s < 256) (hb : 0 ≤ b ∧ b < 8) : bAnd (bShr s b) 1 = b01 (inS s b) := by
  have h := bits_1 ⟨s.toNat, by omega⟩ ⟨b.toNat, by omega⟩
  dsimp only at h
  rw [show ((s.toNat : Nat) : Int) = s by omega, show ((b.toNat : Nat) : Int) = b by omega] at h
  exact h
theorem orS_eq {s b : Int} (hs : 0 ≤ s ∧ s < 256) (hb : 0 ≤ b ∧ b < 8) : bOr s (bShl 1 b) = orS s b := by
  have h := bits_2 ⟨s.toNat, by omega⟩ ⟨b.toNat, by omega⟩
  dsimp only at h
  rw [show ((s.toNat : Nat) : Int) = s by omega, show ((b.toNat : Nat) : Int) = b by omega] at h
  exact h
theorem fullS_eq {n : Int} (hn : 0 ≤ n ∧ n ≤ 8) : bShl 1 n - 1 = fullS n := by
  have h := bits_3 ⟨n.toNat, by omega⟩
  dsimp only at h
  rw [show ((n.toNat : Nat) : Int) = n by omega] at h
  unfold fullS
  rw [h]
theorem fullS_b {n : Int} (hn : 0 ≤ n ∧ n ≤ 8) : 0 ≤ fullS n ∧ fullS n ≤ 255 := by
  unfold fullS
  have h1 : 1 ≤ 2 ^ n.toNat := Nat.one_le_two_pow
  have h2 : 2 ^ n.toNat ≤ 2 ^ 8 := Nat.pow_le_pow_right (by decide) (by omega)
  have h3 : (2 : Nat) ^ 8 = 256 := by decide
  omega
theorem inS_orS {s b c : Int} (hb : 0 ≤ b) (hc : 0 ≤ c) : inS (orS s b) c ↔ inS s c ∨ c = b := by
  unfold inS orS
  rw [show (((s.toNat ||| 2 ^ b.toNat : Nat) : Int)).toNat = s.toNat ||| 2 ^ b.toNat from Int.toNat_natCast _, Nat.testBit_or, Nat.testBit_two_pow]
  simp only [Bool.or_eq_true, decide_eq_true_eq]
  constructor
  · rintro (h | h)
    · exact Or.inl h
    · exact Or.inr (by omega)
  · rintro (h | h)
    · exact Or.inl h
    · exact Or.inr (by omega)
theorem orS_ge {s b : Int} (hs : 0 ≤ s) : s ≤ orS s b := by
  unfold orS
  have := Nat.left_le_or (n := s.toNat) (m := 2 ^ b.toNat)
  omega
theorem orS_gt {s b : Int} (hs : 0 ≤ s) (hb : 0 ≤ b) (h : ¬ inS s b) : s < orS s b := by
  have h1 := orS_ge (b := b) hs
  by_cases e : s = orS s b
  · exact absurd (by rw [e]; exact (inS_orS hb hb).mpr (Or.inr rfl)) h
  · omega
theorem orS_le {s b n : Int} (hs : 0 ≤ s ∧ s ≤ fullS n) (hb : 0 ≤ b ∧ b < n) : 0 ≤ orS s b ∧ orS s b ≤ fullS n := by
  unfold fullS at *
  unfold orS
  have h1 : s.toNat < 2 ^ n.toNat := by omega
  have h2 : (2 : Nat) ^ b.toNat < 2 ^ n.toNat := Nat.pow_lt_pow_right (by decide) (by omega)
  have h3 := Nat.or_lt_two_pow h1 h2
  omega
/-- the least of g over the places below n with P, and a million -/
def mnB (P : Int → Prop) [DecidablePred P] (g : Int → Int) : Nat → Int
  | 0 => 1000000
  | k + 1 => if P (k : Int) then min (mnB P g k) (g (k : Int)) else mnB P g k
theorem mnB_s (P : Int → Prop) [DecidablePred P] (g : Int → Int) {i : Int} (h : 0 ≤ i) : mnB P g (i + 1).toNat = if P i then min (mnB P g i.toNat) (g i) else mnB P g i.toNat := by
  rw [show (i + 1).toNat = i.toNat + 1 by omega]
  simp only [mnB]
  rw [show ((i.toNat : Nat) : Int) = i by omega]
theorem mnB_congr {P : Int → Prop} [DecidablePred P] {g g' : Int → Int} : ∀ {k : Nat}, (∀ i : Int, 0 ≤ i → i < k → P i → g i = g' i) → mnB P g k = mnB P g' k
  | 0, _ => rfl
  | k + 1, h => by
    simp only [mnB]
    rw [mnB_congr (k := k) (fun i h0 h1 => h i h0 (by omega))]
    by_cases hp : P (k : Int)
    · rw [if_pos hp, if_pos hp, h k (by omega) (by omega) hp]
    · rw [if_neg hp, if_neg hp]
theorem mnB_le (P : Int → Prop) [DecidablePred P] (g : Int → Int) : ∀ k : Nat, mnB P g k ≤ 1000000
  | 0 => Int.le_refl _
  | k + 1 => by
    have := mnB_le P g k
    simp only [mnB]
    split <;> omega
theorem mnB_ge {P : Int → Prop} [DecidablePred P] {g : Int → Int} : ∀ {k : Nat}, (∀ i : Int, 0 ≤ i → i < k → P i → 0 ≤ g i) → 0 ≤ mnB P g k
  | 0, _ => by show (0 : Int) ≤ 1000000; decide
  | k + 1, h => by
    have ih := mnB_ge (P := P) (g := g) (k := k) (fun i h0 h1 => h i h0 (by omega))
    simp only [mnB]
    split
    · next hp =>
      have := h k (by omega) (by omega) hp
      omega
    · exact ih
/-- what a bed breaks when it comes behind those that are placed -/
def brF (w : Int → Int) (n s b : Int) : Int := smF (fun q => if inS s q then w (8 * b + q) else 0) n
abbrev alw (ah be s b : Int) : Prop := ¬ inS s b ∧ ¬ (b = be ∧ ¬ inS s ah)
def dqE (w : Int → Int) (n ah be : Int) (f : Int → Int) (s : Int) : Prop := f s = mnB (fun b => alw ah be s b) (fun b => brF w n s b + f (orS s b)) n.toNat
/-- the least quarrels from a set on -/
def dpR (w : Int → Int) (n ah be : Int) : Nat → Int → Int
  | 0, _ => 0
  | k + 1, s => if s = fullS n then 0 else mnB (fun b => alw ah be s b) (fun b => brF w n s b + dpR w n ah be k (orS s b)) n.toNat
def dqF (w : Int → Int) (n ah be : Int) : Int → Int := dpR w n ah be 256
def dpOk (w : Int → Int) (n ah be : Int) (f : Int → Int) (lo : Int) : Prop := f (fullS n) = 0 ∧ ∀ s, lo ≤ s → s < fullS n → dqE w n ah be f s
theorem dpR_eq {w : Int → Int} {n ah be : Int} {f : Int → Int} (h : dpOk w n ah be f 0) (hn : 0 ≤ n) : ∀ (k : Nat) (s : Int), 0 ≤ s → s ≤ fullS n → fullS n - s ≤ k → f s = dpR w n ah be k s
  | 0, s, h0, h1, h2 => by
    have e : s = fullS n := by omega
    rw [e]
    exact h.1
  | k + 1, s, h0, h1, h2 => by
    simp only [dpR]
    by_cases e : s = fullS n
    · rw [if_pos e, e]
      exact h.1
    · rw [if_neg e, h.2 s h0 (by omega)]
      refine mnB_congr fun b b0 b1 hb => ?_
      have g1 := orS_gt h0 b0 hb.1
      have g2 := orS_le (s := s) (b := b) (n := n) ⟨h0, h1⟩ ⟨b0, by omega⟩
      rw [dpR_eq h hn k (orS s b) (by omega) g2.2 (by omega)]
theorem dq_eq {w : Int → Int} {n ah be : Int} {f : Int → Int} (h : dpOk w n ah be f 0) (hn : 0 ≤ n ∧ n ≤ 8) {s : Int} (h0 : 0 ≤ s) (h1 : s ≤ fullS n) : f s = dqF w n ah be s := by
  have := fullS_b hn
  exact dpR_eq h hn.1 256 s h0 h1 (by omega)
abbrev wOk (w : Int → Int) : Prop := ∀ j, 0 ≤ j → j < 64 → 0 ≤ w j ∧ w j ≤ 2376
theorem brF_b {w : Int → Int} (h : wOk w) {n s b : Int} (hn : 0 ≤ n ∧ n ≤ 8) (hb : 0 ≤ b ∧ b < 8) : 0 ≤ brF w n s b ∧ brF w n s b ≤ 19008 := by
  have := smF_b (f := fun q => if inS s q then w (8 * b + q) else 0) (lo := 0) (hi := 2376) hn.1 (fun q q0 q1 => by
    try dsimp only
    split
    · exact h _ (by omega) (by omega)
    · omega)
  unfold brF
  omega
def IsAge (S : Shp) (a : Nat) : Prop := At S a (sO 0 [fR (a + 1), fR (a + 2), fI]) ∧ At S (a + 1) (sA 0 64) ∧ At S (a + 2) (sA 0 256)
theorem firI_congr {P P' : Int → Bool} : ∀ {k : Nat}, (∀ j : Int, 0 ≤ j → j < k → P j = P' j) → firI P k = firI P' k
  | 0, _ => rfl
  | k + 1, h => by
    simp only [firI]
    rw [firI_congr (k := k) (fun j h0 h1 => h j h0 (by omega)), h (k : Int) (by omega) (by omega)]
/-- the bed that comes first behind those that are placed, in a row with the least quarrel -/
def fobF (w : Int → Int) (n : Int) (f : Int → Int) (s : Int) : Int := if firI (fun b => decide (¬ inS s b ∧ brF w n s b + f (orS s b) = f s)) n.toNat = -1 then 0 else firI (fun b => decide (¬ inS s b ∧ brF w n s b + f (orS s b) = f s)) n.toNat
def rwS (w : Int → Int) (n : Int) (f : Int → Int) : Nat → Int
  | 0 => 0
  | k + 1 => orS (rwS w n f k) (fobF w n f (rwS w n f k))
theorem fobF_b {w : Int → Int} {n s : Int} {f : Int → Int} (hn : 1 ≤ n) : 0 ≤ fobF w n f s ∧ fobF w n f s < n := by
  have := firI_b (P := fun b => decide (¬ inS s b ∧ brF w n s b + f (orS s b) = f s)) (n := n.toNat)
  unfold fobF
  split <;> omega
theorem rwS_b {w : Int → Int} {n : Int} {f : Int → Int} (hn : 1 ≤ n ∧ n ≤ 8) : ∀ k : Nat, 0 ≤ rwS w n f k ∧ rwS w n f k ≤ fullS n
  | 0 => ⟨Int.le_refl _, (fullS_b ⟨by omega, hn.2⟩).1⟩
  | k + 1 => orS_le (rwS_b hn k) (fobF_b hn.1)
/-- the bed at a place of the row -/
def rowB (w : Int → Int) (n : Int) (f : Int → Int) (k : Int) : Int := fobF w n f (rwS w n f k.toNat)
theorem rwS_s (w : Int → Int) (n : Int) (f : Int → Int) {i : Int} (h : 0 ≤ i) : rwS w n f (i + 1).toNat = orS (rwS w n f i.toNat) (rowB w n f i) := by
  rw [show (i + 1).toNat = i.toNat + 1 by omega]
  rfl
theorem fobF_congr {w : Int → Int} {n s : Int} {f f' : Int → Int} (hn : 1 ≤ n) (h : ∀ q, 0 ≤ q → q ≤ fullS n → f q = f' q) (hs : 0 ≤ s ∧ s ≤ fullS n) : fobF w n f s = fobF w n f' s := by
  have e : firI (fun b => decide (¬ inS s b ∧ brF w n s b + f (orS s b) = f s)) n.toNat = firI (fun b => decide (¬ inS s b ∧ brF w n s b + f' (orS s b) = f' s)) n.toNat := firI_congr fun j j0 j1 => by
    simp only [h s hs.1 hs.2, h (orS s j) (orS_le hs ⟨j0, by omega⟩).1 (orS_le hs ⟨j0, by omega⟩).2]
  unfold fobF
  rw [e]
theorem rwS_congr {w : Int → Int} {n : Int} {f f' : Int → Int} (hn : 1 ≤ n ∧ n ≤ 8) (h : ∀ q, 0 ≤ q → q ≤ fullS n → f q = f' q) : ∀ k : Nat, rwS w n f k = rwS w n f' k
  | 0 => rfl
  | k + 1 => by
    simp only [rwS]
    rw [← rwS_congr hn h k, fobF_congr hn.1 h (rwS_b hn k)]
theorem rowB_congr {w : Int → Int} {n : Int} {f f' : Int → Int} (hn : 1 ≤ n ∧ n ≤ 8) (h : ∀ q, 0 ≤ q → q ≤ fullS n → f q = f' q) (k : Int) : rowB w n f k = rowB w n f' k := by
  unfold rowB
  rw [← rwS_congr hn h, fobF_congr hn.1 h (rwS_b hn _)]
abbrev bkP (w : Int → Int) (B : Int → Int) (a b : Int) : Prop := ¬ B b = -1 ∧ B b < B a
def bkF (w B : Int → Int) : Int := smF (fun a => smF (fun b => if bkP w B a b then w (8 * a + b) else 0) 8) 8
theorem c_X0_claims {G : GT} {S : Shp} {σ : Sto} {a : Nat} (hA : IsAge S a) : PMet G mX0_claims 0 0 0 [.ref a] S σ (isP (some (.int (iI (σ a 2)))) S (σ)) := by
  obtain ⟨hA0, hA1, hA2⟩ := id hA
  refine PMet.of [(0, .ref a)] (by decide +kernel) rfl (Nat.le_of_ble_eq_true rfl) ?_
  refine PW.aload_n dX0_claims_0 rfl ?_
  refine PW.getI 2 fl_X0_18 rfl (by assumption) rfl rfl dX0_claims_1 ?_
  exact PW.iret rfl rfl dX0_claims_4 ⟨rfl, rfl, rfl⟩
theorem c_X0_weight {G : GT} {S : Shp} {σ : Sto} {a : Nat} {i j : Int} (hA : IsAge S a) (hi : 0 ≤ i ∧ i < 8) (hj : 0 ≤ j ∧ j < 8) : PMet G mX0_weight 1 0 0 [.ref a, .int (iI (i)), .int (iI (j))] S σ (isP (some (.int (iI (σ (a + 1) (8 * i + j))))) S (σ)) := by
  obtain ⟨hA0, hA1, hA2⟩ := id hA
  refine PMet.of [(0, .ref a), (1, .int (iI (i))), (2, .int (iI (j)))] (by decide +kernel) rfl (Nat.le_of_ble_eq_true rfl) ?_
  refine PW.aload_n dX0_weight_0 rfl ?_
  refine PW.getR fl_X0_9 rfl (by assumption) rfl dX0_weight_1 ?_
  refine PW.iload_n dX0_weight_4 rfl ?_
  refine PW.bipush (by decide) dX0_weight_5 ?_
  refine PW.imul dX0_weight_7 ?_
  refine PW.iload_n dX0_weight_8 rfl ?_
  refine PW.iadd dX0_weight_9 ?_
  refine PW.callSr (c_X11_get (by assumption) (by first | assumption | (unfold inR; omega)) (by decide)) cs_X11_get lk_X0_22 dX0_weight_10 rfl rfl rfl ?_
  exact PW.iret rfl rfl dX0_weight_13 ⟨ret_eq (by unfold gI; rw [if_pos (by omega)] <;> first | rfl | (congr 1; omega)), rfl, rfl⟩
theorem c_X0_isIn {G : GT} {S : Shp} {σ : Sto} {s b : Int} (hs : 0 ≤ s ∧ s < 256) (hb : 0 ≤ b ∧ b < 8) : PMet G mX0_isIn 0 0 0 [.int (iI (s)), .int (iI (b))] S σ (isP (some (.int (iI (b01 (inS s b))))) S σ) := by
  refine PMet.of [(0, .int (iI (s))), (1, .int (iI (b)))] (by decide +kernel) rfl (Nat.le_of_ble_eq_true rfl) ?_
  refine PW.iload_n dX0_isIn_0 rfl ?_
  refine PW.iload_n dX0_isIn_1 rfl ?_
  refine PW.ishr dX0_isIn_2 ?_
  refine PW.iconst dX0_isIn_3 ?_
  refine PW.iand dX0_isIn_4 ?_
  refine PW.top (b01 (inS s b)) (inS_eq hs hb) ?_
  refine PW.if_eqB 12 dX0_isIn_5 (by decide) (fun h5 => ?_) (fun h5 => ?_)
  · refine PW.iconst dX0_isIn_12 ?_
    exact PW.iret rfl (by first | rfl | exact narB _) dX0_isIn_13 ⟨(by first | exact ret_eq (b01_t (by assumption)).symm | exact ret_eq (b01_f (by assumption)).symm), rfl, rfl⟩
  · refine PW.iconst dX0_isIn_8 ?_
    refine PW.goto 13 dX0_isIn_9 (by decide) ?_
    exact PW.iret rfl (by first | rfl | exact narB _) dX0_isIn_13 ⟨(by first | exact ret_eq (b01_t (by assumption)).symm | exact ret_eq (b01_f (by assumption)).symm), rfl, rfl⟩
theorem c_X0_add {G : GT} {S : Shp} {σ : Sto} {a : Nat} {i j v : Int} (hA : IsAge S a) (hi : 0 ≤ i ∧ i < 8) (hj : 0 ≤ j ∧ j < 8) : PMet G mX0_add 1 0 0 [.ref a, .int (iI (i)), .int (iI (j)), .int (iI (v))] S σ (isP none S (upS (upS σ (a + 1) (up1 (σ (a + 1)) (8 * i + j) (σ (a + 1) (8 * i + j) + v))) a (up1 (σ a) 2 (σ a 2 + 1)))) := by
  obtain ⟨hA0, hA1, hA2⟩ := id hA
  refine PMet.of [(0, .ref a), (1, .int (iI (i))), (2, .int (iI (j))), (3, .int (iI (v)))] (by decide +kernel) rfl (Nat.le_of_ble_eq_true rfl) ?_
  refine PW.iload_n dX0_add_0 rfl ?_
  refine PW.bipush (by decide) dX0_add_1 ?_
  refine PW.imul dX0_add_3 ?_
  refine PW.iload_n dX0_add_4 rfl ?_
  refine PW.iadd dX0_add_5 ?_
  refine PW.istore [(0, _), (1, _), (2, _), (3, _), (4, _)] dX0_add_6 rfl (Nat.le_of_ble_eq_true rfl) ?_
  refine PW.aload_n dX0_add_8 rfl ?_
  refine PW.getR fl_X0_9 rfl (by assumption) rfl dX0_add_9 ?_
  refine PW.iload dX0_add_12 rfl ?_
  refine PW.aload_n dX0_add_14 rfl ?_
  refine PW.getR fl_X0_9 rfl (by assumption) rfl dX0_add_15 ?_
  refine PW.iload dX0_add_18 rfl ?_
  refine PW.callSr (c_X11_get (by assumption) (by first | assumption | (unfold inR; omega)) (by decide)) cs_X11_get lk_X0_22 dX0_add_20 rfl rfl rfl ?_
  refine PW.top (σ (a + 1) (8 * i + j)) (by unfold gI; rw [if_pos (by omega)] <;> first | rfl | (congr 1; omega)) ?_
  refine PW.iload_n dX0_add_23 rfl ?_
  refine PW.iadd dX0_add_24 ?_
  refine PW.callSv (c_X11_put (by assumption) (by first | assumption | (unfold inR; omega)) (by decide)) cs_X11_put lk_X0_26 dX0_add_25 rfl rfl rfl ?_
  refine PW.st (upS σ (a + 1) (up1 (σ (a + 1)) (8 * i + j) (σ (a + 1) (8 * i + j) + v))) (by rw [if_pos (by omega), show i * 8 + j = 8 * i + j by omega]) ?_
  refine PW.aload_n dX0_add_28 rfl ?_
  refine PW.dup rfl dX0_add_29 ?_
  refine PW.getI 2 fl_X0_18 rfl (by assumption) rfl rfl dX0_add_30 ?_
  refine PW.top (σ a 2) (by rw [upS_ne (by omega)]) ?_
  refine PW.iconst dX0_add_33 ?_
  refine PW.iadd dX0_add_34 ?_
  refine PW.putI 2 fl_X0_18 rfl (fun h => absurd h (by decide)) (by assumption) rfl rfl rfl rfl dX0_add_35 ?_
  exact PW.vret rfl dX0_add_38 (⟨rfl, rfl, by rw [upS_ne (show a ≠ a + 1 by omega)]⟩)
theorem breach_loop {G : GT} {S : Shp} {σ : Sto} {a : Nat} {n s b : Int} {Q : Option Value → Shp → Sto → Prop} (hA : IsAge S a) (hw : wOk (σ (a + 1))) (hn : 1 ≤ n ∧ n ≤ 8) (hs : 0 ≤ s ∧ s < 256) (hb : 0 ≤ b ∧ b < 8) (hQ : Q (some (.int (iI (brF (σ (a + 1)) n s b)))) S σ) : ∀ (t : Nat) (i : Int), 0 ≤ i → i ≤ n → n - i < t → PW (fm G mX0_breach 2 0 0 Q) G S (σ) 0 0 6 [(0, .ref a), (1, .int (iI (n))), (2, .int (iI (s))), (3, .int (iI (b))), (4, .int (iI (brF (σ (a + 1)) i s b))), (5, .int (iI (i)))] [] := by
  obtain ⟨hA0, hA1, hA2⟩ := id hA
  intro t
  induction t with
  | zero => intro i h1 h2 h3; omega
  | succ t ih =>
    intro i h1 h2 h3
    have hbi := brF_b hw (n := i) (s := s) (b := b) (by omega) hb
    have e := smF_s (fun q => if inS s q then σ (a + 1) (8 * b + q) else 0) h1
    refine PW.iload dX0_breach_6 rfl ?_
    refine PW.iload_n dX0_breach_8 rfl ?_
    refine PW.icmp_ge 39 dX0_breach_9 (by decide) (by first | assumption | (unfold inR; omega)) (by first | assumption | (unfold inR; omega)) (fun h9 => ?_) (fun h9 => ?_)
    · refine PW.iload dX0_breach_39 rfl ?_
      have hi : i = n := by omega
      subst hi
      exact PW.iret rfl rfl dX0_breach_41 hQ
    · refine PW.iload_n dX0_breach_12 rfl ?_
      refine PW.iload dX0_breach_13 rfl ?_
      refine PW.callSr (c_X0_isIn (by omega) (by omega)) cs_X0_isIn lk_X0_47 dX0_breach_15 rfl rfl rfl ?_
      refine PW.if_eqB 33 dX0_breach_18 (by decide) (fun h18 => ?_) (fun h18 => ?_)
      · refine PW.iinc [(0, _), (1, _), (2, _), (3, _), (4, _), (5, _)] dX0_breach_33 rfl rfl (Nat.le_of_ble_eq_true rfl) ?_
        refine PW.goto 6 dX0_breach_36 (by decide) ?_
        have e2 := ih (i + 1) (by omega) (by omega) (by omega)
        unfold brF at e2 ⊢
        rw [e] at e2
        first
          | (rw [if_pos (by assumption)] at e2; exact e2)
          | (rw [if_neg (by assumption), Int.add_zero] at e2; exact e2)
      · refine PW.iload dX0_breach_21 rfl ?_
        refine PW.aload_n dX0_breach_23 rfl ?_
        refine PW.iload_n dX0_breach_24 rfl ?_
        refine PW.iload dX0_breach_25 rfl ?_
        refine PW.callVr (c_X0_weight (by assumption) (by omega) (by omega)) cv_X0_weight lk_X0_36 (by first | assumption | exact And.left (by assumption)) dX0_breach_27 rfl rfl rfl rfl ?_
        refine PW.iadd dX0_breach_30 ?_
        refine PW.istore [(0, _), (1, _), (2, _), (3, _), (4, _), (5, _)] dX0_breach_31 rfl (Nat.le_of_ble_eq_true rfl) ?_
        refine PW.iinc [(0, _), (1, _), (2, _), (3, _), (4, _), (5, _)] dX0_breach_33 rfl rfl (Nat.le_of_ble_eq_true rfl) ?_
        refine PW.goto 6 dX0_breach_36 (by decide) ?_
        have e2 := ih (i + 1) (by omega) (by omega) (by omega)
        unfold brF at e2 ⊢
        rw [e] at e2
        first
          | (rw [if_pos (by assumption)] at e2; exact e2)
          | (rw [if_neg (by assumption), Int.add_zero] at e2; exact e2)
theorem c_X0_breach {G : GT} {S : Shp} {σ : Sto} {a : Nat} {n s b : Int} (hA : IsAge S a) (hw : wOk (σ (a + 1))) (hn : 1 ≤ n ∧ n ≤ 8) (hs : 0 ≤ s ∧ s < 256) (hb : 0 ≤ b ∧ b < 8) : PMet G mX0_breach 2 0 0 [.ref a, .int (iI n), .int (iI s), .int (iI b)] S σ (isP (some (.int (iI (brF (σ (a + 1)) n s b)))) S σ) := by
  refine PMet.of [(0, .ref a), (1, .int (iI (n))), (2, .int (iI (s))), (3, .int (iI (b)))] (by decide +kernel) rfl (Nat.le_of_ble_eq_true rfl) ?_
  refine PW.iconst dX0_breach_0 ?_
  refine PW.istore [(0, _), (1, _), (2, _), (3, _), (4, _)] dX0_breach_1 rfl (Nat.le_of_ble_eq_true rfl) ?_
  refine PW.iconst dX0_breach_3 ?_
  refine PW.istore [(0, _), (1, _), (2, _), (3, _), (4, _), (5, _)] dX0_breach_4 rfl (Nat.le_of_ble_eq_true rfl) ?_
  exact breach_loop hA hw hn hs hb ⟨rfl, rfl, rfl⟩ 9 0 (by omega) (by omega) (by omega)
theorem qw_in {G : GT} {S : Shp} {σ : Sto} {a : Nat} {n ah be s : Int} {f : Int → Int} {Q : Option Value → Shp → Sto → Prop} (hA : IsAge S a) (hw : wOk (σ (a + 1))) (hn : 2 ≤ n ∧ n ≤ 8) (hah : ah = -1 ∧ be = -1 ∨ (0 ≤ ah ∧ ah < n) ∧ (0 ≤ be ∧ be < n)) (hs : 0 ≤ s ∧ s < fullS n) (hf : (∀ q, s < q → q ≤ fullS n → 0 ≤ f q ∧ f q ≤ 1000000)) (hK : PW (fm G mX0_quarrelWith 3 0 0 Q) G S (upS σ (a + 2) f) 0 0 106 [(0, .ref a), (1, .int (iI (n))), (2, .int (iI (ah))), (3, .int (iI (be))), (4, .int (iI (fullS n))), (5, .int (iI (s))), (6, .int (iI (mnB (fun b => alw ah be s b) (fun b => brF (σ (a + 1)) n s b + f (orS s b)) n.toNat))), (7, .int (iI n))] []) : ∀ (t : Nat) (i : Int), 0 ≤ i → i ≤ n → n - i < t → PW (fm G mX0_quarrelWith 3 0 0 Q) G S (upS σ (a + 2) f) 0 0 35 [(0, .ref a), (1, .int (iI (n))), (2, .int (iI (ah))), (3, .int (iI (be))), (4, .int (iI (fullS n))), (5, .int (iI (s))), (6, .int (iI (mnB (fun b => alw ah be s b) (fun b => brF (σ (a + 1)) n s b + f (orS s b)) i.toNat))), (7, .int (iI (i)))] [] := by
  obtain ⟨hA0, hA1, hA2⟩ := id hA
  have hfb := fullS_b (n := n) (by omega)
  intro t
  induction t with
  | zero => intro i h1 h2 h3; omega
  | succ t ih =>
    intro i h1 h2 h3
    have e1 : (upS σ (a + 2) f) (a + 1) = σ (a + 1) := upS_ne (by omega)
    have m1 := mnB_le (fun b => alw ah be s b) (fun b => brF (σ (a + 1)) n s b + f (orS s b)) i.toNat
    have m0 : 0 ≤ mnB (fun b => alw ah be s b) (fun b => brF (σ (a + 1)) n s b + f (orS s b)) i.toNat := mnB_ge (fun b b0 b1 hb => by
      have g1 := orS_gt hs.1 b0 hb.1
      have g2 := orS_le (s := s) (b := b) (n := n) ⟨hs.1, by omega⟩ ⟨b0, by omega⟩
      have g3 := hf _ g1 g2.2
      have g4 := brF_b hw (n := n) (s := s) (b := b) (by omega) (by omega)
      try dsimp only
      omega)
    refine PW.iload dX0_quarrelWith_35 rfl ?_
    refine PW.iload_n dX0_quarrelWith_37 rfl ?_
    refine PW.icmp_ge 106 dX0_quarrelWith_38 (by decide) (by first | assumption | (unfold inR; omega)) (by first | assumption | (unfold inR; omega)) (fun h38 => ?_) (fun h38 => ?_)
    · have hi : i = n := by omega
      subst hi
      exact hK
    · refine PW.iload dX0_quarrelWith_41 rfl ?_
      refine PW.iload dX0_quarrelWith_43 rfl ?_
      refine PW.callSr (c_X0_isIn (by omega) (by omega)) cs_X0_isIn lk_X0_47 dX0_quarrelWith_45 rfl rfl rfl ?_
      refine PW.if_neB 100 dX0_quarrelWith_48 (by decide) (fun h48 => ?_) (fun h48 => ?_)
      · refine PW.iinc [(0, _), (1, _), (2, _), (3, _), (4, _), (5, _), (6, _), (7, _)] dX0_quarrelWith_100 rfl rfl (Nat.le_of_ble_eq_true rfl) ?_
        refine PW.goto 35 dX0_quarrelWith_103 (by decide) ?_
        have e2 := ih (i + 1) (by omega) (by omega) (by omega)
        rw [mnB_s _ _ h1] at e2
        first
          | (rw [if_neg (fun q => q.1 (by assumption))] at e2; exact e2)
          | (rw [if_neg (fun q => q.2 ⟨by assumption, by assumption⟩)] at e2; exact e2)
          | (rw [if_pos ⟨by assumption, fun q => by first | exact absurd q.1 (by assumption) | exact absurd (by assumption) q.2⟩] at e2; exact e2)
      · refine PW.iload dX0_quarrelWith_51 rfl ?_
        refine PW.iload_n dX0_quarrelWith_53 rfl ?_
        refine PW.icmp_ne 69 dX0_quarrelWith_54 (by decide) (by first | assumption | (unfold inR; omega)) (by first | assumption | (unfold inR; omega)) (fun h54 => ?_) (fun h54 => ?_)
        · have bb := brF_b hw (n := n) (s := s) (b := i) (by omega) (by omega)
          have g1 := orS_gt (s := s) (b := i) hs.1 h1 (by assumption)
          have g2 := orS_le (s := s) (b := i) (n := n) ⟨hs.1, by omega⟩ ⟨h1, by omega⟩
          have g3 := hf _ g1 g2.2
          refine PW.iload dX0_quarrelWith_69 rfl ?_
          refine PW.aload_n dX0_quarrelWith_71 rfl ?_
          refine PW.iload_n dX0_quarrelWith_72 rfl ?_
          refine PW.iload dX0_quarrelWith_73 rfl ?_
          refine PW.iload dX0_quarrelWith_75 rfl ?_
          refine PW.callVr (c_X0_breach hA (by rw [e1]; exact hw) (by omega) (by omega) (by omega)) cv_X0_breach lk_X0_51 (by first | assumption | exact And.left (by assumption)) dX0_quarrelWith_77 rfl rfl rfl rfl ?_
          refine PW.top (brF (σ (a + 1)) n s i) (by rw [e1]) ?_
          refine PW.aload_n dX0_quarrelWith_80 rfl ?_
          refine PW.getR fl_X0_15 rfl (by assumption) rfl dX0_quarrelWith_81 ?_
          refine PW.iload dX0_quarrelWith_84 rfl ?_
          refine PW.iconst dX0_quarrelWith_86 ?_
          refine PW.iload dX0_quarrelWith_87 rfl ?_
          refine PW.ishl dX0_quarrelWith_89 ?_
          refine PW.ior dX0_quarrelWith_90 ?_
          refine PW.top (orS s i) (orS_eq (by omega) (by omega)) ?_
          refine PW.callSr (c_X11_get (by assumption) (by first | assumption | (unfold inR; omega)) (by decide)) cs_X11_get lk_X0_22 dX0_quarrelWith_91 rfl rfl rfl ?_
          refine PW.top (f (orS s i)) (by unfold gI; rw [if_pos (by omega), upS_same]) ?_
          refine PW.iadd dX0_quarrelWith_94 ?_
          refine PW.callSr (c_J9_min_7cf53 (by first | assumption | (unfold inR; omega)) (by first | assumption | (unfold inR; omega))) cs_J9_min_7cf53 lk_X0_55 dX0_quarrelWith_95 rfl rfl rfl ?_
          refine PW.istore [(0, _), (1, _), (2, _), (3, _), (4, _), (5, _), (6, _), (7, _)] dX0_quarrelWith_98 rfl (Nat.le_of_ble_eq_true rfl) ?_
          refine PW.iinc [(0, _), (1, _), (2, _), (3, _), (4, _), (5, _), (6, _), (7, _)] dX0_quarrelWith_100 rfl rfl (Nat.le_of_ble_eq_true rfl) ?_
          refine PW.goto 35 dX0_quarrelWith_103 (by decide) ?_
          have e2 := ih (i + 1) (by omega) (by omega) (by omega)
          rw [mnB_s _ _ h1] at e2
          first
            | (rw [if_neg (fun q => q.1 (by assumption))] at e2; exact e2)
            | (rw [if_neg (fun q => q.2 ⟨by assumption, by assumption⟩)] at e2; exact e2)
            | (rw [if_pos ⟨by assumption, fun q => by first | exact absurd q.1 (by assumption) | exact absurd (by assumption) q.2⟩] at e2; exact e2)
        · refine PW.iload dX0_quarrelWith_57 rfl ?_
          refine PW.iload_n dX0_quarrelWith_59 rfl ?_
          refine PW.callSr (c_X0_isIn (by omega) (by omega)) cs_X0_isIn lk_X0_47 dX0_quarrelWith_60 rfl rfl rfl ?_
          refine PW.if_neB 69 dX0_quarrelWith_63 (by decide) (fun h63 => ?_) (fun h63 => ?_)
          · have bb := brF_b hw (n := n) (s := s) (b := i) (by omega) (by omega)
            have g1 := orS_gt (s := s) (b := i) hs.1 h1 (by assumption)
            have g2 := orS_le (s := s) (b := i) (n := n) ⟨hs.1, by omega⟩ ⟨h1, by omega⟩
            have g3 := hf _ g1 g2.2
            refine PW.iload dX0_quarrelWith_69 rfl ?_
            refine PW.aload_n dX0_quarrelWith_71 rfl ?_
            refine PW.iload_n dX0_quarrelWith_72 rfl ?_
            refine PW.iload dX0_quarrelWith_73 rfl ?_
            refine PW.iload dX0_quarrelWith_75 rfl ?_
            refine PW.callVr (c_X0_breach hA (by rw [e1]; exact hw) (by omega) (by omega) (by omega)) cv_X0_breach lk_X0_51 (by first | assumption | exact And.left (by assumption)) dX0_quarrelWith_77 rfl rfl rfl rfl ?_
            refine PW.top (brF (σ (a + 1)) n s i) (by rw [e1]) ?_
            refine PW.aload_n dX0_quarrelWith_80 rfl ?_
            refine PW.getR fl_X0_15 rfl (by assumption) rfl dX0_quarrelWith_81 ?_
            refine PW.iload dX0_quarrelWith_84 rfl ?_
            refine PW.iconst dX0_quarrelWith_86 ?_
            refine PW.iload dX0_quarrelWith_87 rfl ?_
            refine PW.ishl dX0_quarrelWith_89 ?_
            refine PW.ior dX0_quarrelWith_90 ?_
            refine PW.top (orS s i) (orS_eq (by omega) (by omega)) ?_
            refine PW.callSr (c_X11_get (by assumption) (by first | assumption | (unfold inR; omega)) (by decide)) cs_X11_get lk_X0_22 dX0_quarrelWith_91 rfl rfl rfl ?_
            refine PW.top (f (orS s i)) (by unfold gI; rw [if_pos (by omega), upS_same]) ?_
            refine PW.iadd dX0_quarrelWith_94 ?_
            refine PW.callSr (c_J9_min_7cf53 (by first | assumption | (unfold inR; omega)) (by first | assumption | (unfold inR; omega))) cs_J9_min_7cf53 lk_X0_55 dX0_quarrelWith_95 rfl rfl rfl ?_
            refine PW.istore [(0, _), (1, _), (2, _), (3, _), (4, _), (5, _), (6, _), (7, _)] dX0_quarrelWith_98 rfl (Nat.le_of_ble_eq_true rfl) ?_
            refine PW.iinc [(0, _), (1, _), (2, _), (3, _), (4, _), (5, _), (6, _), (7, _)] dX0_quarrelWith_100 rfl rfl (Nat.le_of_ble_eq_true rfl) ?_
            refine PW.goto 35 dX0_quarrelWith_103 (by decide) ?_
            have e2 := ih (i + 1) (by omega) (by omega) (by omega)
            rw [mnB_s _ _ h1] at e2
            first
              | (rw [if_neg (fun q => q.1 (by assumption))] at e2; exact e2)
              | (rw [if_neg (fun q => q.2 ⟨by assumption, by assumption⟩)] at e2; exact e2)
              | (rw [if_pos ⟨by assumption, fun q => by first | exact absurd q.1 (by assumption) | exact absurd (by assumption) q.2⟩] at e2; exact e2)
          · refine PW.goto 100 dX0_quarrelWith_66 (by decide) ?_
            refine PW.iinc [(0, _), (1, _), (2, _), (3, _), (4, _), (5, _), (6, _), (7, _)] dX0_quarrelWith_100 rfl rfl (Nat.le_of_ble_eq_true rfl) ?_
            refine PW.goto 35 dX0_quarrelWith_103 (by decide) ?_
            have e2 := ih (i + 1) (by omega) (by omega) (by omega)
            rw [mnB_s _ _ h1] at e2
            first
              | (rw [if_neg (fun q => q.1 (by assumption))] at e2; exact e2)
              | (rw [if_neg (fun q => q.2 ⟨by assumption, by assumption⟩)] at e2; exact e2)
              | (rw [if_pos ⟨by assumption, fun q => by first | exact absurd q.1 (by assumption) | exact absurd (by assumption) q.2⟩] at e2; exact e2)
theorem qw_out {G : GT} {S : Shp} {σ : Sto} {a : Nat} {n ah be : Int} {Q : Option Value → Shp → Sto → Prop} (hA : IsAge S a) (hw : wOk (σ (a + 1))) (hn : 2 ≤ n ∧ n ≤ 8) (hah : ah = -1 ∧ be = -1 ∨ (0 ≤ ah ∧ ah < n) ∧ (0 ≤ be ∧ be < n)) (hQ : ∀ f : Int → Int, dpOk (σ (a + 1)) n ah be f 0 → Q (some (.int (iI (f 0)))) S (upS σ (a + 2) f)) : ∀ (t : Nat) (i : Int) (f : Int → Int), -1 ≤ i → i < fullS n → i + 1 < t → (∀ q, i < q → q ≤ fullS n → 0 ≤ f q ∧ f q ≤ 1000000) → dpOk (σ (a + 1)) n ah be f (i + 1) → PW (fm G mX0_quarrelWith 3 0 0 Q) G S (upS σ (a + 2) f) 0 0 23 [(0, .ref a), (1, .int (iI (n))), (2, .int (iI (ah))), (3, .int (iI (be))), (4, .int (iI (fullS n))), (5, .int (iI (i)))] [] := by
  obtain ⟨hA0, hA1, hA2⟩ := id hA
  have hfb := fullS_b (n := n) (by omega)
  intro t
  induction t with
  | zero => intro i f h1 h2 h3 g1 g2; omega
  | succ t ih =>
    intro i f h1 h2 h3 g1 g2
    refine PW.iload dX0_quarrelWith_23 rfl ?_
    refine PW.if_lt 123 dX0_quarrelWith_25 (by decide) (by first | assumption | (unfold inR; omega)) (fun h25 => ?_) (fun h25 => ?_)
    · refine PW.aload_n dX0_quarrelWith_123 rfl ?_
      refine PW.getR fl_X0_15 rfl (by assumption) rfl dX0_quarrelWith_124 ?_
      refine PW.iconst dX0_quarrelWith_127 ?_
      refine PW.callSr (c_X11_get (by assumption) (by first | assumption | (unfold inR; omega)) (by decide)) cs_X11_get lk_X0_22 dX0_quarrelWith_128 rfl rfl rfl ?_
      refine PW.top (f 0) (by unfold gI; rw [if_pos (by omega), upS_same]) ?_
      exact PW.iret rfl rfl dX0_quarrelWith_131 (hQ f (by rw [show (0 : Int) = i + 1 by omega]; exact g2))
    · refine PW.ldc (1000000) kc_X0_54 rfl rfl dX0_quarrelWith_28 ?_
      refine PW.istore [(0, _), (1, _), (2, _), (3, _), (4, _), (5, _), (6, _)] dX0_quarrelWith_30 rfl (Nat.le_of_ble_eq_true rfl) ?_
      refine PW.iconst dX0_quarrelWith_32 ?_
      refine PW.istore [(0, _), (1, _), (2, _), (3, _), (4, _), (5, _), (6, _), (7, _)] dX0_quarrelWith_33 rfl (Nat.le_of_ble_eq_true rfl) ?_
      have ml := mnB_le (fun b => alw ah be i b) (fun b => brF (σ (a + 1)) n i b + f (orS i b)) n.toNat
      have m0 : 0 ≤ mnB (fun b => alw ah be i b) (fun b => brF (σ (a + 1)) n i b + f (orS i b)) n.toNat := mnB_ge (fun b b0 b1 hb => by
        have k1 := orS_gt (show 0 ≤ i by omega) b0 hb.1
        have k2 := orS_le (s := i) (b := b) (n := n) ⟨by omega, by omega⟩ ⟨b0, by omega⟩
        have k3 := g1 _ k1 k2.2
        have k4 := brF_b hw (n := n) (s := i) (b := b) (by omega) (by omega)
        try dsimp only
        omega)
      refine qw_in hA hw hn hah ⟨by omega, by omega⟩ g1 ?_ 9 0 (by omega) (by omega) (by omega)
      refine PW.take 7 ?_
      refine PW.aload_n dX0_quarrelWith_106 rfl ?_
      refine PW.getR fl_X0_15 rfl (by assumption) rfl dX0_quarrelWith_107 ?_
      refine PW.iload dX0_quarrelWith_110 rfl ?_
      refine PW.iload dX0_quarrelWith_112 rfl ?_
      refine PW.callSv (c_X11_put (by assumption) (by unfold inR; omega) (by decide)) cs_X11_put lk_X0_26 dX0_quarrelWith_114 rfl rfl rfl ?_
      refine PW.st (upS σ (a + 2) (up1 f i (mnB (fun b => alw ah be i b) (fun b => brF (σ (a + 1)) n i b + f (orS i b)) n.toNat))) (by rw [if_pos (by omega), upS_upS, upS_same]) ?_
      refine PW.take 6 ?_
      refine PW.iinc [(0, _), (1, _), (2, _), (3, _), (4, _), (5, _)] dX0_quarrelWith_117 rfl rfl (Nat.le_of_ble_eq_true rfl) ?_
      refine PW.goto 23 dX0_quarrelWith_120 (by decide) ?_
      refine ih (i + -1) _ (by omega) (by omega) (by omega) (fun q q1 q2 => ?_) ⟨?_, fun s s0 s1 => ?_⟩
      · by_cases hq : q = i
        · subst hq
          rw [up1_same]
          omega
        · rw [up1_ne hq]
          exact g1 q (by omega) q2
      · rw [up1_ne (by omega)]
        exact g2.1
      · unfold dqE
        by_cases hq : s = i
        · subst hq
          rw [up1_same]
          refine mnB_congr fun b b0 b1 hb => ?_
          have k1 := orS_gt (show 0 ≤ s by omega) b0 hb.1
          rw [up1_ne (by omega)]
        · rw [up1_ne hq]
          have e := g2.2 s (by omega) s1
          unfold dqE at e
          rw [e]
          refine mnB_congr fun b b0 b1 hb => ?_
          have k1 := orS_ge (s := s) (b := b) (by omega)
          rw [up1_ne (by omega)]
theorem c_X0_quarrelWith {G : GT} {S : Shp} {σ : Sto} {a : Nat} {n ah be : Int} (hA : IsAge S a) (hw : wOk (σ (a + 1))) (hn : 2 ≤ n ∧ n ≤ 8) (hah : ah = -1 ∧ be = -1 ∨ (0 ≤ ah ∧ ah < n) ∧ (0 ≤ be ∧ be < n)) : PMet G mX0_quarrelWith 3 0 0 [.ref a, .int (iI n), .int (iI ah), .int (iI be)] S σ (fun r S' σ' => S' = S ∧ r = some (.int (iI (dqF (σ (a + 1)) n ah be 0))) ∧ ∃ f : Int → Int, σ' = upS σ (a + 2) f ∧ ∀ s, 0 ≤ s → s ≤ fullS n → f s = dqF (σ (a + 1)) n ah be s) := by
  obtain ⟨hA0, hA1, hA2⟩ := id hA
  have hfb := fullS_b (n := n) (by omega)
  refine PMet.of [(0, .ref a), (1, .int (iI (n))), (2, .int (iI (ah))), (3, .int (iI (be)))] (by decide +kernel) rfl (Nat.le_of_ble_eq_true rfl) ?_
  refine PW.iconst dX0_quarrelWith_0 ?_
  refine PW.iload_n dX0_quarrelWith_1 rfl ?_
  refine PW.ishl dX0_quarrelWith_2 ?_
  refine PW.iconst dX0_quarrelWith_3 ?_
  refine PW.isub dX0_quarrelWith_4 ?_
  refine PW.top (fullS n) (fullS_eq (by omega)) ?_
  refine PW.istore [(0, _), (1, _), (2, _), (3, _), (4, _)] dX0_quarrelWith_5 rfl (Nat.le_of_ble_eq_true rfl) ?_
  refine PW.aload_n dX0_quarrelWith_7 rfl ?_
  refine PW.getR fl_X0_15 rfl (by assumption) rfl dX0_quarrelWith_8 ?_
  refine PW.iload dX0_quarrelWith_11 rfl ?_
  refine PW.iconst dX0_quarrelWith_13 ?_
  refine PW.callSv (c_X11_put (by assumption) (by first | assumption | (unfold inR; omega)) (by decide)) cs_X11_put lk_X0_26 dX0_quarrelWith_14 rfl rfl rfl ?_
  refine PW.st (upS σ (a + 2) (up1 (σ (a + 2)) (fullS n) 0)) (by rw [if_pos (by omega)]) ?_
  refine PW.iload dX0_quarrelWith_17 rfl ?_
  refine PW.iconst dX0_quarrelWith_19 ?_
  refine PW.isub dX0_quarrelWith_20 ?_
  refine PW.istore [(0, _), (1, _), (2, _), (3, _), (4, _), (5, _)] dX0_quarrelWith_21 rfl (Nat.le_of_ble_eq_true rfl) ?_
  refine qw_out hA hw hn hah (fun f h => ?_) 256 _ _ (by omega) (by omega) (by omega) (fun q q1 q2 => ?_) ⟨by rw [up1_same], fun s s0 s1 => by omega⟩
  · have e := fun s s0 s1 => dq_eq h (by omega) (s := s) s0 s1
    exact ⟨rfl, by rw [e 0 (by omega) (by omega)], f, rfl, e⟩
  · rw [show q = fullS n by omega, up1_same]
    omega

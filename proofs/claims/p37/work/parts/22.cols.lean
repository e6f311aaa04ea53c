def cA (a : Nat) (i : Int) : Nat := a + 4 + 2 * i.toNat
def cG (a N : Nat) : Nat → Option Nat := fun j => if j < N then some (a + 4 + 2 * j) else none
def IsCols (S : Shp) (a N : Nat) : Prop := At S a (sO 2 [fR (a + 3), fR (a + 1)]) ∧ IsCol S (a + 1) ∧ At S (a + 3) (sQ 5 N (cG a N)) ∧ ∀ i : Int, 0 ≤ i → i < N → IsCol S (cA a i)
/-- the cells of the columns of a are told by g -/
def stC (σ : Sto) (a N : Nat) (g : Int → Int → Int) : Sto := fun b => if a + 5 ≤ b ∧ b < a + 5 + 2 * N ∧ (b - a - 5) % 2 = 0 then g (((b - a - 5) / 2 : Nat) : Int) else σ b
theorem cA_b {a N : Nat} {i : Int} (h0 : 0 ≤ i) (h1 : i < N) : a + 4 ≤ cA a i ∧ cA a i + 2 ≤ a + 4 + 2 * N := by
  unfold cA
  omega
theorem stC_at {σ : Sto} {a N : Nat} {g : Int → Int → Int} {i : Int} (h0 : 0 ≤ i) (h1 : i < N) : stC σ a N g (cA a i + 1) = g i := by
  unfold stC cA
  rw [if_pos (by omega)]
  congr 1
  omega
theorem stC_ne {σ : Sto} {a N : Nat} {g : Int → Int → Int} {b : Nat} (h : b < a + 5 ∨ a + 4 + 2 * N ≤ b) : stC σ a N g b = σ b := by
  unfold stC
  rw [if_neg (by omega)]
theorem stC_gt {σ : Sto} {a N : Nat} {g : Int → Int → Int} {j : Int} (h : (N : Int) ≤ j) : stC σ a N g (cA a j + 1) = σ (cA a j + 1) := stC_ne (by unfold cA; omega)
theorem stC_0 (σ : Sto) (a : Nat) (g : Int → Int → Int) : stC σ a 0 g = σ := by
  funext b
  unfold stC
  rw [if_neg (by omega)]
theorem stC_s {σ : Sto} {a : Nat} {g : Int → Int → Int} {i : Int} (h0 : 0 ≤ i) : upS (stC σ a i.toNat g) (cA a i + 1) (g i) = stC σ a (i + 1).toNat g := by
  funext b
  unfold stC upS cA
  dsimp only
  by_cases h : b = a + 4 + 2 * i.toNat + 1
  · rw [if_pos h, if_pos (by omega)]
    congr 1
    omega
  · rw [if_neg h]
    by_cases h2 : a + 5 ≤ b ∧ b < a + 5 + 2 * i.toNat ∧ (b - a - 5) % 2 = 0
    · rw [if_pos h2, if_pos (by omega)]
    · rw [if_neg h2, if_neg (by omega)]
theorem stC_congr {σ : Sto} {a N : Nat} {g g' : Int → Int → Int} (h : ∀ i : Int, 0 ≤ i → i < N → g i = g' i) : stC σ a N g = stC σ a N g' := by
  funext b
  unfold stC
  split
  · exact h _ (by omega) (by omega)
  · rfl
theorem stC_stC (σ : Sto) (a N : Nat) (g g' : Int → Int → Int) : stC (stC σ a N g) a N g' = stC σ a N g' := by
  funext b
  unfold stC
  split <;> rfl
def colsOk (σ : Sto) (a N : Nat) : Prop := ∀ i : Int, 0 ≤ i → i < N → colOk (σ (cA a i + 1))
theorem taOk_congr {σ σ' : Sto} {b : Nat} (h1 : σ' b = σ b) (h2 : σ' (b + 1) = σ (b + 1)) (h : taOk σ b) : taOk σ' b := by
  unfold taOk
  rw [h1, h2]
  exact h
/-- what the events from one on, so many, make of a column -/
def goF (f : Int → Int) (n : Int) (c : Int → Int) (fr : Int) : Nat → (Int → Int)
  | 0 => c
  | k + 1 => evR f (fr + (k : Int)) n (goF f n c fr k)
theorem goF_s (f : Int → Int) (n : Int) (c : Int → Int) {fr i : Int} (h : fr ≤ i) : goF f n c fr (i + 1 - fr).toNat = evR f i n (goF f n c fr (i - fr).toNat) := by
  rw [show (i + 1 - fr).toNat = (i - fr).toNat + 1 by omega]
  simp only [goF]
  rw [show fr + (((i - fr).toNat : Nat) : Int) = i by omega]
theorem goF_ok {f : Int → Int} {n fr : Int} {c : Int → Int} (hc : colOk c) : ∀ {k : Nat}, (∀ i : Int, fr ≤ i → i < fr + k → evOk f i) → colOk (goF f n c fr k)
  | 0, _ => hc
  | k + 1, h => evC_ok (goF_ok hc (k := k) (fun i h0 h1 => h i h0 (by omega))) (h (fr + k) (by omega) (by omega)).1
theorem cp8_ok {c e : Int → Int} (h : colOk e) : colOk (cp8 c e) := by
  intro i h0 h1
  unfold cp8
  rw [if_pos ⟨h0, h1⟩]
  exact h i h0 h1
theorem c_X2_of {G : GT} {S : Shp} {σ : Sto} {a N : Nat} {i : Int} (hA : IsCols S a N) (hN : N ≤ 65) (h0 : 0 ≤ i) (h1 : i < N) : PMet G mX2_of 0 0 0 [.ref a, .int (iI i)] S σ (isP (some (.ref (cA a i))) S σ) := by
  obtain ⟨hA0, hA1, hA2, hc⟩ := id hA
  have hg : cG a N i.toNat = some (cA a i) := by unfold cG cA; rw [if_pos (by omega)]
  refine PMet.of [(0, .ref a), (1, .int (iI (i)))] (by decide +kernel) rfl (Nat.le_of_ble_eq_true rfl) ?_
  refine PW.iload_n dX2_of_0 rfl ?_
  refine PW.if_lt 22 dX2_of_1 (by decide) (by first | assumption | (unfold inR; omega)) (fun h1 => ?_) (fun h1 => ?_)
  · omega
  · refine PW.iload_n dX2_of_4 rfl ?_
    refine PW.aload_n dX2_of_5 rfl ?_
    refine PW.getR fl_X2_22 rfl (by assumption) rfl dX2_of_6 ?_
    refine PW.alenQ (by assumption) ⟨_, rfl⟩ dX2_of_9 ?_
    refine PW.icmp_ge 22 dX2_of_10 (by decide) (by first | assumption | (unfold inR; omega)) (by first | assumption | (unfold inR; omega)) (fun h10 => ?_) (fun h10 => ?_)
    · omega
    · refine PW.aload_n dX2_of_13 rfl ?_
      refine PW.getR fl_X2_22 rfl (by assumption) rfl dX2_of_14 ?_
      refine PW.iload_n dX2_of_17 rfl ?_
      refine PW.aaload (by assumption) ⟨_, rfl⟩ (by first | assumption | (unfold inR; omega)) (by omega) (by omega) (by assumption) dX2_of_18 ?_
      refine PW.ifnonnull 27 dX2_of_19 (by decide) ?_
      refine PW.aload_n dX2_of_27 rfl ?_
      refine PW.getR fl_X2_22 rfl (by assumption) rfl dX2_of_28 ?_
      refine PW.iload_n dX2_of_31 rfl ?_
      refine PW.aaload (by assumption) ⟨_, rfl⟩ (by first | assumption | (unfold inR; omega)) (by omega) (by omega) (by assumption) dX2_of_32 ?_
      exact PW.aret rfl dX2_of_33 (⟨rfl, rfl, rfl⟩)
theorem colsTell_loop {G : GT} {S : Shp} {σ : Sto} {a b N : Nat} {k : Int} {Q : Option Value → Shp → Sto → Prop} (hA : IsCols S a N) (hN : N ≤ 65) (h64 : N ≤ 64) (hB : IsTale S b) (hT : taOk σ b) (hk : 0 ≤ k ∧ k ≤ σ b 2) (hd : b + 3 ≤ a ∨ a + 4 + 2 * N ≤ b) (hQ : Q none S (stC σ a N (fun n => tlF (σ (b + 1)) n (σ (cA a n + 1)) k.toNat))) : ∀ (t : Nat) (i : Int), 0 ≤ i → i ≤ N → N - i < t → PW (fm G mX2_tell 5 0 0 Q) G S (stC σ a i.toNat (fun n => tlF (σ (b + 1)) n (σ (cA a n + 1)) k.toNat)) 0 0 2 [(0, .ref a), (1, .ref b), (2, .int (iI (k))), (3, .int (iI (i)))] [] := by
  obtain ⟨hA0, hA1, hA2, hc⟩ := id hA
  intro t
  induction t with
  | zero => intro i h1 h2 h3; omega
  | succ t ih =>
    intro i h1 h2 h3
    have e0 : (stC σ a i.toNat (fun n => tlF (σ (b + 1)) n (σ (cA a n + 1)) k.toNat)) b = σ b := stC_ne (by omega)
    have e1 : (stC σ a i.toNat (fun n => tlF (σ (b + 1)) n (σ (cA a n + 1)) k.toNat)) (b + 1) = σ (b + 1) := stC_ne (by omega)
    have e2 : (stC σ a i.toNat (fun n => tlF (σ (b + 1)) n (σ (cA a n + 1)) k.toNat)) (cA a i + 1) = σ (cA a i + 1) := stC_gt (by omega)
    have hT2 := taOk_congr e0 e1 hT
    refine PW.iload_n dX2_tell_2 rfl ?_
    refine PW.aload_n dX2_tell_3 rfl ?_
    refine PW.getR fl_X2_22 rfl (by assumption) rfl dX2_tell_4 ?_
    refine PW.alenQ (by assumption) ⟨_, rfl⟩ dX2_tell_7 ?_
    refine PW.icmp_ge 28 dX2_tell_8 (by decide) (by first | assumption | (unfold inR; omega)) (by first | assumption | (unfold inR; omega)) (fun h8 => ?_) (fun h8 => ?_)
    · have hi : i = N := by omega
      subst hi
      exact PW.vret rfl dX2_tell_28 hQ
    · refine PW.aload_n dX2_tell_11 rfl ?_
      refine PW.iload_n dX2_tell_12 rfl ?_
      refine PW.callVr (c_X2_of (by assumption) (by omega) (by omega) (by omega)) cv_X2_of lk_X2_26 (by first | assumption | exact And.left (by assumption)) dX2_tell_13 rfl rfl rfl rfl ?_
      have hci := hc i h1 (by omega)
      have hcb := cA_b (a := a) h1 (show i < N by omega)
      refine PW.aload_n dX2_tell_16 rfl ?_
      refine PW.iload_n dX2_tell_17 rfl ?_
      refine PW.iload_n dX2_tell_18 rfl ?_
      refine PW.callVv (c_X1_tell hci hB (by omega) (by omega) hT2 (by rw [e0]; exact hk) (by omega)) cv_X1_tell lk_X2_30 (by first | assumption | exact And.left (by assumption)) dX2_tell_19 rfl rfl rfl rfl ?_
      refine PW.st (stC σ a (i + 1).toNat (fun n => tlF (σ (b + 1)) n (σ (cA a n + 1)) k.toNat)) (by rw [e1, e2]; exact stC_s h1) ?_
      refine PW.iinc [(0, _), (1, _), (2, _), (3, _)] dX2_tell_22 rfl rfl (Nat.le_of_ble_eq_true rfl) ?_
      refine PW.goto 2 dX2_tell_25 (by decide) ?_
      exact ih (i + 1) (by omega) (by omega) (by omega)
theorem c_X2_tell {G : GT} {S : Shp} {σ : Sto} {a b N : Nat} {k : Int} (hA : IsCols S a N) (hN : N ≤ 65) (h64 : N ≤ 64) (hB : IsTale S b) (hT : taOk σ b) (hk : 0 ≤ k ∧ k ≤ σ b 2) (hd : b + 3 ≤ a ∨ a + 4 + 2 * N ≤ b) : PMet G mX2_tell 5 0 0 [.ref a, .ref b, .int (iI k)] S σ (isP none S (stC σ a N (fun n => tlF (σ (b + 1)) n (σ (cA a n + 1)) k.toNat))) := by
  refine PMet.of [(0, .ref a), (1, .ref b), (2, .int (iI (k)))] (by decide +kernel) rfl (Nat.le_of_ble_eq_true rfl) ?_
  refine PW.iconst dX2_tell_0 ?_
  refine PW.istore_n [(0, _), (1, _), (2, _), (3, _)] dX2_tell_1 rfl (Nat.le_of_ble_eq_true rfl) ?_
  refine PW.st (stC σ a (0 : Int).toNat (fun n => tlF (σ (b + 1)) n (σ (cA a n + 1)) k.toNat)) (stC_0 _ _ _).symm ?_
  exact colsTell_loop hA hN h64 hB hT hk hd ⟨rfl, rfl, rfl⟩ (N + 1) 0 (by omega) (by omega) (by omega)
theorem go1 (f : Int → Int) (n : Int) (c : Int → Int) (fr : Int) : goF f n c fr (fr + 1 - fr).toNat = evR f fr n c := by
  rw [goF_s f n c (Int.le_refl fr), Int.sub_self]
  rfl
theorem gof_loop {G : GT} {S : Shp} {σ : Sto} {a b c : Nat} {fr en n : Int} {C : Int → Int} {Q : Option Value → Shp → Sto → Prop} (hA : IsCol S a) (hB : IsTale S b) (hE : ∀ i : Int, fr ≤ i → i < en → evOk (σ (b + 1)) i) (hf : 0 ≤ fr ∧ fr ≤ en ∧ en ≤ 16) (hd : b + 1 ≠ a + 1) (hn : 0 ≤ n ∧ n ≤ 63) (hC : colOk C) (hQ : Q none S (upS σ (a + 1) (goF (σ (b + 1)) n C fr (en - fr).toNat))) : ∀ (t : Nat) (i : Int), fr ≤ i → i ≤ en → en - i < t → PW (fm G mX1_goOnFrom 4 0 0 Q) G S (upS σ (a + 1) (goF (σ (b + 1)) n C fr (i - fr).toNat)) 0 0 8 [(0, .ref a), (1, .ref c), (2, .ref b), (3, .int (iI (fr))), (4, .int (iI (en))), (5, .int (iI (n))), (6, .int (iI (i)))] [] := by
  obtain ⟨hA0, hA1⟩ := id hA
  intro t
  induction t with
  | zero => intro i h1 h2 h3; omega
  | succ t ih =>
    intro i h1 h2 h3
    have e1 : (upS σ (a + 1) (goF (σ (b + 1)) n C fr (i - fr).toNat)) (b + 1) = σ (b + 1) := upS_ne hd
    have ok : colOk ((upS σ (a + 1) (goF (σ (b + 1)) n C fr (i - fr).toNat)) (a + 1)) := by
      rw [upS_same]
      exact goF_ok hC (fun q q1 q2 => hE q q1 (by omega))
    refine PW.iload dX1_goOnFrom_8 rfl ?_
    refine PW.iload dX1_goOnFrom_10 rfl ?_
    refine PW.icmp_ge 30 dX1_goOnFrom_12 (by decide) (by first | assumption | (unfold inR; omega)) (by first | assumption | (unfold inR; omega)) (fun h12 => ?_) (fun h12 => ?_)
    · have hi : i = en := by omega
      subst hi
      exact PW.vret rfl dX1_goOnFrom_30 hQ
    · refine PW.aload_n dX1_goOnFrom_15 rfl ?_
      refine PW.aload_n dX1_goOnFrom_16 rfl ?_
      refine PW.iload dX1_goOnFrom_17 rfl ?_
      refine PW.iload dX1_goOnFrom_19 rfl ?_
      refine PW.callVv (c_X1_befall hA hB ok (by omega) (by rw [e1]; exact hE i h1 (by omega)) hn) cv_X1_befall lk_X1_26 (by first | assumption | exact And.left (by assumption)) dX1_goOnFrom_21 rfl rfl rfl rfl ?_
      refine PW.st (upS σ (a + 1) (goF (σ (b + 1)) n C fr (i + 1 - fr).toNat)) (by rw [upS_upS, upS_same, e1, goF_s _ _ _ h1]) ?_
      refine PW.iinc [(0, _), (1, _), (2, _), (3, _), (4, _), (5, _), (6, _)] dX1_goOnFrom_24 rfl rfl (Nat.le_of_ble_eq_true rfl) ?_
      refine PW.goto 8 dX1_goOnFrom_27 (by decide) ?_
      exact ih (i + 1) (by omega) (by omega) (by omega)
theorem c_X1_goOnFrom {G : GT} {S : Shp} {σ : Sto} {a b c : Nat} {fr en n : Int} (hA : IsCol S a) (hB : IsTale S b) (hE : ∀ i : Int, fr ≤ i → i < en → evOk (σ (b + 1)) i) (hf : 0 ≤ fr ∧ fr ≤ en ∧ en ≤ 16) (hd : b + 1 ≠ a + 1) (hn : 0 ≤ n ∧ n ≤ 63) (hD : IsCol S c) (hC : colOk (σ (c + 1))) : PMet G mX1_goOnFrom 4 0 0 [.ref a, .ref c, .ref b, .int (iI fr), .int (iI en), .int (iI n)] S σ (isP none S (upS σ (a + 1) (goF (σ (b + 1)) n (cp8 (σ (a + 1)) (σ (c + 1))) fr (en - fr).toNat))) := by
  refine PMet.of [(0, .ref a), (1, .ref c), (2, .ref b), (3, .int (iI (fr))), (4, .int (iI (en))), (5, .int (iI (n)))] (by decide +kernel) rfl (Nat.le_of_ble_eq_true rfl) ?_
  refine PW.aload_n dX1_goOnFrom_0 rfl ?_
  refine PW.aload_n dX1_goOnFrom_1 rfl ?_
  refine PW.callVv (c_X1_become hA hD) cv_X1_become lk_X1_30 (by first | assumption | exact And.left (by assumption)) dX1_goOnFrom_2 rfl rfl rfl rfl ?_
  refine PW.iload_n dX1_goOnFrom_5 rfl ?_
  refine PW.istore [(0, _), (1, _), (2, _), (3, _), (4, _), (5, _), (6, _)] dX1_goOnFrom_6 rfl (Nat.le_of_ble_eq_true rfl) ?_
  have e1 : (upS σ (a + 1) (cp8 (σ (a + 1)) (σ (c + 1)))) (b + 1) = σ (b + 1) := upS_ne hd
  have h := gof_loop (G := G) (S := S) (c := c) (Q := isP none S (upS σ (a + 1) (goF (σ (b + 1)) n (cp8 (σ (a + 1)) (σ (c + 1))) fr (en - fr).toNat))) (σ := upS σ (a + 1) (cp8 (σ (a + 1)) (σ (c + 1)))) (C := cp8 (σ (a + 1)) (σ (c + 1))) hA hB (by rw [e1]; exact hE) hf hd hn (cp8_ok hC) ⟨rfl, rfl, by rw [upS_upS, e1]⟩ 17 fr (by omega) (by omega) (by omega)
  rw [upS_upS, e1, Int.sub_self] at h
  exact h
theorem cols_cellsOf {G : GT} {S : Shp} {σ : Sto} {a N : Nat} {b : Int} {Q : Option Value → Shp → Sto → Prop} (hA : IsCols S a N) (hN : N ≤ 65) (hC : colsOk σ a N) (rb : inR b) (hQ : Q (some (.int (iI (smF (fun j => clF (σ (cA a j + 1)) b) N)))) S σ) : ∀ (t : Nat) (i : Int), 0 ≤ i → i ≤ N → N - i < t → PW (fm G mX2_cellsOf 1 0 0 Q) G S (σ) 0 0 4 [(0, .ref a), (1, .int (iI (b))), (2, .int (iI (smF (fun j => clF (σ (cA a j + 1)) b) i))), (3, .int (iI (i)))] [] := by
  obtain ⟨hA0, hA1, hA2, hc⟩ := id hA
  intro t
  induction t with
  | zero => intro i h1 h2 h3; omega
  | succ t ih =>
    intro i h1 h2 h3
    have hb := smF_b (f := fun j => clF (σ (cA a j + 1)) b) (lo := 0) (hi := 80) h1 (fun j _ _ => clF_b _ _)
    refine PW.iload_n dX2_cellsOf_4 rfl ?_
    refine PW.aload_n dX2_cellsOf_5 rfl ?_
    refine PW.getR fl_X2_22 rfl (by assumption) rfl dX2_cellsOf_6 ?_
    refine PW.alenQ (by assumption) ⟨_, rfl⟩ dX2_cellsOf_9 ?_
    refine PW.icmp_ge 31 dX2_cellsOf_10 (by decide) (by first | assumption | (unfold inR; omega)) (by first | assumption | (unfold inR; omega)) (fun h10 => ?_) (fun h10 => ?_)
    · refine PW.iload_n dX2_cellsOf_31 rfl ?_
      have hi : i = N := by omega
      subst hi
      exact PW.iret rfl rfl dX2_cellsOf_32 hQ
    · have hci := hc i h1 (by omega)
      refine PW.iload_n dX2_cellsOf_13 rfl ?_
      refine PW.aload_n dX2_cellsOf_14 rfl ?_
      refine PW.iload_n dX2_cellsOf_15 rfl ?_
      refine PW.callVr (c_X2_of (by assumption) (by omega) (by omega) (by omega)) cv_X2_of lk_X2_26 (by first | assumption | exact And.left (by assumption)) dX2_cellsOf_16 rfl rfl rfl rfl ?_
      refine PW.iload_n dX2_cellsOf_19 rfl ?_
      refine PW.callVr (c_X1_cellsOf hci (hC i h1 (by omega)) rb) cv_X1_cellsOf lk_X2_34 (by first | assumption | exact And.left (by assumption)) dX2_cellsOf_20 rfl rfl rfl rfl ?_
      refine PW.iadd dX2_cellsOf_23 ?_
      refine PW.istore_n [(0, _), (1, _), (2, _), (3, _)] dX2_cellsOf_24 rfl (Nat.le_of_ble_eq_true rfl) ?_
      refine PW.iinc [(0, _), (1, _), (2, _), (3, _)] dX2_cellsOf_25 rfl rfl (Nat.le_of_ble_eq_true rfl) ?_
      refine PW.goto 4 dX2_cellsOf_28 (by decide) ?_
      have e := ih (i + 1) (by omega) (by omega) (by omega)
      rw [smF_s (fun j => clF (σ (cA a j + 1)) b) h1] at e
      exact e
theorem c_X2_cellsOf {G : GT} {S : Shp} {σ : Sto} {a N : Nat} {b : Int} (hA : IsCols S a N) (hN : N ≤ 65) (hC : colsOk σ a N) (rb : inR b) : PMet G mX2_cellsOf 1 0 0 [.ref a, .int (iI b)] S σ (isP (some (.int (iI (smF (fun j => clF (σ (cA a j + 1)) b) N)))) S σ) := by
  refine PMet.of [(0, .ref a), (1, .int (iI (b)))] (by decide +kernel) rfl (Nat.le_of_ble_eq_true rfl) ?_
  refine PW.iconst dX2_cellsOf_0 ?_
  refine PW.istore_n [(0, _), (1, _), (2, _)] dX2_cellsOf_1 rfl (Nat.le_of_ble_eq_true rfl) ?_
  refine PW.iconst dX2_cellsOf_2 ?_
  refine PW.istore_n [(0, _), (1, _), (2, _), (3, _)] dX2_cellsOf_3 rfl (Nat.le_of_ble_eq_true rfl) ?_
  exact cols_cellsOf hA hN hC rb ⟨rfl, rfl, rfl⟩ (N + 1) 0 (by omega) (by omega) (by omega)
theorem cols_crossings {G : GT} {S : Shp} {σ : Sto} {a b N : Nat} {Q : Option Value → Shp → Sto → Prop} (hA : IsCols S a N) (hN : N ≤ 65) (hC : colsOk σ a N) (hB : IsTale S b) (hT : taOk σ b) (hQ : Q (some (.int (iI (smF (fun j => xcF (σ (cA a j + 1)) (birF (σ (b + 1)) (σ b 2))) N)))) S σ) : ∀ (t : Nat) (i : Int), 0 ≤ i → i ≤ N → N - i < t → PW (fm G mX2_crossings 4 0 0 Q) G S (σ) 0 0 4 [(0, .ref a), (1, .ref b), (2, .int (iI (smF (fun j => xcF (σ (cA a j + 1)) (birF (σ (b + 1)) (σ b 2))) i))), (3, .int (iI (i)))] [] := by
  obtain ⟨hA0, hA1, hA2, hc⟩ := id hA
  intro t
  induction t with
  | zero => intro i h1 h2 h3; omega
  | succ t ih =>
    intro i h1 h2 h3
    have hb := smF_b (f := fun j => xcF (σ (cA a j + 1)) (birF (σ (b + 1)) (σ b 2))) (lo := 0) (hi := 80) h1 (fun j _ _ => xcF_b _ _)
    refine PW.iload_n dX2_crossings_4 rfl ?_
    refine PW.aload_n dX2_crossings_5 rfl ?_
    refine PW.getR fl_X2_22 rfl (by assumption) rfl dX2_crossings_6 ?_
    refine PW.alenQ (by assumption) ⟨_, rfl⟩ dX2_crossings_9 ?_
    refine PW.icmp_ge 31 dX2_crossings_10 (by decide) (by first | assumption | (unfold inR; omega)) (by first | assumption | (unfold inR; omega)) (fun h10 => ?_) (fun h10 => ?_)
    · refine PW.iload_n dX2_crossings_31 rfl ?_
      have hi : i = N := by omega
      subst hi
      exact PW.iret rfl rfl dX2_crossings_32 hQ
    · have hci := hc i h1 (by omega)
      refine PW.iload_n dX2_crossings_13 rfl ?_
      refine PW.aload_n dX2_crossings_14 rfl ?_
      refine PW.iload_n dX2_crossings_15 rfl ?_
      refine PW.callVr (c_X2_of (by assumption) (by omega) (by omega) (by omega)) cv_X2_of lk_X2_26 (by first | assumption | exact And.left (by assumption)) dX2_crossings_16 rfl rfl rfl rfl ?_
      refine PW.aload_n dX2_crossings_19 rfl ?_
      refine PW.callVr (c_X1_crossings hci hB hT (hC i h1 (by omega))) cv_X1_crossings lk_X2_38 (by first | assumption | exact And.left (by assumption)) dX2_crossings_20 rfl rfl rfl rfl ?_
      refine PW.iadd dX2_crossings_23 ?_
      refine PW.istore_n [(0, _), (1, _), (2, _), (3, _)] dX2_crossings_24 rfl (Nat.le_of_ble_eq_true rfl) ?_
      refine PW.iinc [(0, _), (1, _), (2, _), (3, _)] dX2_crossings_25 rfl rfl (Nat.le_of_ble_eq_true rfl) ?_
      refine PW.goto 4 dX2_crossings_28 (by decide) ?_
      have e := ih (i + 1) (by omega) (by omega) (by omega)
      rw [smF_s (fun j => xcF (σ (cA a j + 1)) (birF (σ (b + 1)) (σ b 2))) h1] at e
      exact e
theorem c_X2_crossings {G : GT} {S : Shp} {σ : Sto} {a b N : Nat} (hA : IsCols S a N) (hN : N ≤ 65) (hC : colsOk σ a N) (hB : IsTale S b) (hT : taOk σ b) : PMet G mX2_crossings 4 0 0 [.ref a, .ref b] S σ (isP (some (.int (iI (smF (fun j => xcF (σ (cA a j + 1)) (birF (σ (b + 1)) (σ b 2))) N)))) S σ) := by
  refine PMet.of [(0, .ref a), (1, .ref b)] (by decide +kernel) rfl (Nat.le_of_ble_eq_true rfl) ?_
  refine PW.iconst dX2_crossings_0 ?_
  refine PW.istore_n [(0, _), (1, _), (2, _)] dX2_crossings_1 rfl (Nat.le_of_ble_eq_true rfl) ?_
  refine PW.iconst dX2_crossings_2 ?_
  refine PW.istore_n [(0, _), (1, _), (2, _), (3, _)] dX2_crossings_3 rfl (Nat.le_of_ble_eq_true rfl) ?_
  exact cols_crossings hA hN hC hB hT ⟨rfl, rfl, rfl⟩ (N + 1) 0 (by omega) (by omega) (by omega)

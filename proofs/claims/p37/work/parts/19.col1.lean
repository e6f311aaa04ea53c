def IsCol (S : Shp) (a : Nat) : Prop := At S a (sO 1 [fR (a + 1)]) ∧ At S (a + 1) (sA 0 80)
def colOk (c : Int → Int) : Prop := ∀ i, 0 ≤ i → i < 80 → -1 ≤ c i ∧ c i ≤ 15
def fhF (c : Int → Int) (lo hi v : Int) : Int → Int := fun i => if lo ≤ i - 40 ∧ i - 40 ≤ hi ∧ 0 ≤ i ∧ i < 80 then v else c i
def mvF (c : Int → Int) (lo hi by_ : Int) : Int → Int := fun i => if 0 ≤ i ∧ i < 80 ∧ lo ≤ i - 40 ∧ i - 40 ≤ hi then (if i - 40 - by_ < -40 then 15 else if 39 < i - 40 - by_ then -1 else c (i - by_)) else c i
def inF (c : Int → Int) (v t : Int) : Int → Int := fun i => if 0 ≤ i ∧ i < 80 ∧ i - 40 ≤ t ∧ ¬ c i = -1 then v else c i
def skF (c : Int → Int) : Int := lasI (fun i => decide (¬ c i = -1)) 80 - 40
def toF (c : Int → Int) (b : Int) : Int := lasI (fun i => decide (c i = b)) 80 - 40
def lyF (c : Int → Int) (b t : Int) : Int → Int := fhF c (skF c + 1) (skF c + t) b
def slF (a c x y : Int) : Int := (a * x + c * y) / 4
def frF (h l s st : Int) : Int := (h * min ((st + s) % l) (l - (st + s) % l)) / 2
def fbF (way lean : Int) : Int := if 0 < lean then -((-4 * way).fdiv lean) else if lean = 0 ∧ 0 < way then 40 else -40
def lbF (way lean : Int) : Int := if lean < 0 then (4 * way).fdiv lean else 39
def soF (ax x y : Int) : Int := if ax = 0 then x else y
theorem skF_b (c : Int → Int) : -41 ≤ skF c ∧ skF c ≤ 39 := by
  have := lasI_b (P := fun i => decide (¬ c i = -1)) (n := 80)
  unfold skF
  omega
theorem toF_b (c : Int → Int) (b : Int) : -41 ≤ toF c b ∧ toF c b ≤ 39 := by
  have := lasI_b (P := fun i => decide (c i = b)) (n := 80)
  unfold toF
  omega
theorem fh_loop {G : GT} {S : Shp} {σ : Sto} {d a : Nat} {lo hi v m : Int} {Q : Option Value → Shp → Sto → Prop} (hA : IsCol S a) (he : -100000 ≤ hi ∧ hi ≤ 100000) (h0 : 0 ≤ m ∧ m ≤ 200000) (hQ : ∀ f : Int → Int, (∀ j, f j = if m ≤ j ∧ j ≤ hi + 40 ∧ j < 80 then v else σ (a + 1) j) → Q none S (upS σ (a + 1) f)) : ∀ (t : Nat) (i : Int), m ≤ i → (i = m ∨ (i ≤ hi + 41 ∧ i ≤ 80)) → 80 - i < t → PW (fm G mX1_fillHeights d 0 0 Q) G S (upS σ (a + 1) (fun j => if m ≤ j ∧ j < i then v else σ (a + 1) j)) 0 0 10 [(0, .ref a), (1, .int (iI lo)), (2, .int (iI hi)), (3, .int (iI v)), (4, .int (iI i))] [] := by
  obtain ⟨hA0, hA1⟩ := id hA
  intro t
  induction t with
  | zero =>
    intro i h1 h2 h3
    refine PW.iload dX1_fillHeights_10 rfl ?_
    refine PW.iload_n dX1_fillHeights_12 rfl ?_
    refine PW.bipush (by decide) dX1_fillHeights_13 ?_
    refine PW.isub dX1_fillHeights_15 ?_
    refine PW.icmp_gt 43 dX1_fillHeights_16 (by decide) (by first | assumption | (unfold inR; omega)) (by first | assumption | (unfold inR; omega)) (fun h16 => ?_) (fun h16 => ?_)
    · refine PW.vret rfl dX1_fillHeights_43 (hQ _ fun j => ?_)
      by_cases hj : m ≤ j ∧ j < i
      · rw [if_pos hj, if_pos (by omega)]
      · rw [if_neg hj, if_neg (by omega)]
    · refine PW.iload dX1_fillHeights_19 rfl ?_
      refine PW.aload_n dX1_fillHeights_21 rfl ?_
      refine PW.getR fl_X1_9 rfl (by assumption) rfl dX1_fillHeights_22 ?_
      refine PW.alen (by assumption) (by decide) dX1_fillHeights_25 ?_
      refine PW.icmp_ge 43 dX1_fillHeights_26 (by decide) (by first | assumption | (unfold inR; omega)) (by first | assumption | (unfold inR; omega)) (fun h26 => ?_) (fun h26 => ?_)
      · refine PW.vret rfl dX1_fillHeights_43 (hQ _ fun j => ?_)
        by_cases hj : m ≤ j ∧ j < i
        · rw [if_pos hj, if_pos (by omega)]
        · rw [if_neg hj, if_neg (by omega)]
      · omega
  | succ t ih =>
    intro i h1 h2 h3
    refine PW.iload dX1_fillHeights_10 rfl ?_
    refine PW.iload_n dX1_fillHeights_12 rfl ?_
    refine PW.bipush (by decide) dX1_fillHeights_13 ?_
    refine PW.isub dX1_fillHeights_15 ?_
    refine PW.icmp_gt 43 dX1_fillHeights_16 (by decide) (by first | assumption | (unfold inR; omega)) (by first | assumption | (unfold inR; omega)) (fun h16 => ?_) (fun h16 => ?_)
    · refine PW.vret rfl dX1_fillHeights_43 (hQ _ fun j => ?_)
      by_cases hj : m ≤ j ∧ j < i
      · rw [if_pos hj, if_pos (by omega)]
      · rw [if_neg hj, if_neg (by omega)]
    · refine PW.iload dX1_fillHeights_19 rfl ?_
      refine PW.aload_n dX1_fillHeights_21 rfl ?_
      refine PW.getR fl_X1_9 rfl (by assumption) rfl dX1_fillHeights_22 ?_
      refine PW.alen (by assumption) (by decide) dX1_fillHeights_25 ?_
      refine PW.icmp_ge 43 dX1_fillHeights_26 (by decide) (by first | assumption | (unfold inR; omega)) (by first | assumption | (unfold inR; omega)) (fun h26 => ?_) (fun h26 => ?_)
      · refine PW.vret rfl dX1_fillHeights_43 (hQ _ fun j => ?_)
        by_cases hj : m ≤ j ∧ j < i
        · rw [if_pos hj, if_pos (by omega)]
        · rw [if_neg hj, if_neg (by omega)]
      · refine PW.aload_n dX1_fillHeights_29 rfl ?_
        refine PW.getR fl_X1_9 rfl (by assumption) rfl dX1_fillHeights_30 ?_
        refine PW.iload dX1_fillHeights_33 rfl ?_
        refine PW.iload_n dX1_fillHeights_35 rfl ?_
        refine PW.iastore (by assumption) (by first | assumption | (unfold inR; omega)) (by omega) (by omega) dX1_fillHeights_36 ?_
        refine PW.st (upS σ (a + 1) (fun j => if m ≤ j ∧ j < i + 1 then v else σ (a + 1) j)) (by
          rw [upS_upS, upS_same]
          congr 1
          funext j
          unfold up1
          dsimp only
          by_cases hj : j = i
          · rw [if_pos hj, if_pos (by omega)]
          · rw [if_neg hj]
            by_cases hk : m ≤ j ∧ j < i
            · rw [if_pos hk, if_pos (by omega)]
            · rw [if_neg hk, if_neg (by omega)]) ?_
        refine PW.iinc [(0, _), (1, _), (2, _), (3, _), (4, _)] dX1_fillHeights_37 rfl rfl (Nat.le_of_ble_eq_true rfl) ?_
        refine PW.goto 10 dX1_fillHeights_40 (by decide) ?_
        exact ih (i + 1) (by omega) (by omega) (by omega)
theorem c_X1_fillHeights {G : GT} {S : Shp} {σ : Sto} {a : Nat} {lo hi v : Int} (hA : IsCol S a) (hl : -100000 ≤ lo ∧ lo ≤ 100000) (he : -100000 ≤ hi ∧ hi ≤ 100000) : PMet G mX1_fillHeights 1 0 0 [.ref a, .int (iI lo), .int (iI hi), .int (iI v)] S σ (isP none S (upS σ (a + 1) (fhF (σ (a + 1)) lo hi v))) := by
  obtain ⟨hA0, hA1⟩ := id hA
  refine PMet.of [(0, .ref a), (1, .int (iI (lo))), (2, .int (iI (hi))), (3, .int (iI (v)))] (by decide +kernel) rfl (Nat.le_of_ble_eq_true rfl) ?_
  refine PW.iconst dX1_fillHeights_0 ?_
  refine PW.iload_n dX1_fillHeights_1 rfl ?_
  refine PW.bipush (by decide) dX1_fillHeights_2 ?_
  refine PW.isub dX1_fillHeights_4 ?_
  refine PW.callSr (c_J9_max_7cf53 (by first | assumption | (unfold inR; omega)) (by first | assumption | (unfold inR; omega))) cs_J9_max_7cf53 lk_X1_98 dX1_fillHeights_5 rfl rfl rfl ?_
  refine PW.istore [(0, _), (1, _), (2, _), (3, _), (4, _)] dX1_fillHeights_8 rfl (Nat.le_of_ble_eq_true rfl) ?_
  refine PW.st (upS σ (a + 1) (fun j => if max 0 (lo - -40) ≤ j ∧ j < max 0 (lo - -40) then v else σ (a + 1) j)) (by
    rw [show (fun j => if max 0 (lo - -40) ≤ j ∧ j < max 0 (lo - -40) then v else σ (a + 1) j) = σ (a + 1) from funext fun j => by rw [if_neg (by omega)], upS_self]) ?_
  refine fh_loop hA he (by omega) (fun f hf' => ⟨rfl, rfl, ?_⟩) 81 _ (by omega) (Or.inl rfl) (by omega)
  congr 1
  funext j
  rw [hf' j]
  unfold fhF
  by_cases hj : max 0 (lo - -40) ≤ j ∧ j ≤ hi + 40 ∧ j < 80
  · rw [if_pos hj, if_pos (by omega)]
  · rw [if_neg hj, if_neg (by omega)]
theorem skin_loop {G : GT} {S : Shp} {σ : Sto} {a : Nat} {Q : Option Value → Shp → Sto → Prop} (hA : IsCol S a) (hC : colOk (σ (a + 1))) (hQ : Q (some (.int (iI (skF (σ (a + 1)))))) S σ) : ∀ (t : Nat) (i : Int), -1 ≤ i → i < 80 → i < t → (∀ j, i < j → j < 80 → σ (a + 1) j = -1) → PW (fm G mX1_skinHeight 0 0 0 Q) G S σ 0 0 8 [(0, .ref a), (1, .int (iI i))] [] := by
  obtain ⟨hA0, hA1⟩ := id hA
  have fin : ∀ i : Int, -1 ≤ i → i < 80 → (∀ j, i < j → j < 80 → σ (a + 1) j = -1) → (0 ≤ i → ¬ σ (a + 1) i = -1) → skF (σ (a + 1)) = i - 40 := by
    intro i h1 h2 hn hi
    unfold skF
    by_cases h0 : 0 ≤ i
    · rw [lasI_hit h0 (P := fun i => decide (¬ σ (a + 1) i = -1)) (decide_eq_true (hi h0)) (by omega) (fun j q1 q2 => decide_eq_false (fun h => h (hn j q1 (by omega))))]
    · rw [lasI_none (P := fun i => decide (¬ σ (a + 1) i = -1)) (fun j q1 q2 => decide_eq_false (fun h => h (hn j (by omega) (by omega))))]
      omega
  intro t
  induction t with
  | zero =>
    intro i h1 h2 h3 hn
    refine PW.iload_n dX1_skinHeight_8 rfl ?_
    refine PW.if_lt 33 dX1_skinHeight_9 (by decide) (by first | assumption | (unfold inR; omega)) (fun h9 => ?_) (fun h9 => ?_)
    · refine PW.bipush (by decide) dX1_skinHeight_33 ?_
      refine PW.iret rfl rfl dX1_skinHeight_35 ?_
      rw [fin i h1 h2 hn (by omega), show i - 40 = -41 by omega] at hQ
      exact hQ
    · omega
  | succ t ih =>
    intro i h1 h2 h3 hn
    refine PW.iload_n dX1_skinHeight_8 rfl ?_
    refine PW.if_lt 33 dX1_skinHeight_9 (by decide) (by first | (unfold inR; omega) | (have := hC i (by omega) (by omega); unfold inR; omega)) (fun h9 => ?_) (fun h9 => ?_)
    · refine PW.bipush (by decide) dX1_skinHeight_33 ?_
      refine PW.iret rfl rfl dX1_skinHeight_35 ?_
      rw [fin i h1 h2 hn (by omega), show i - 40 = -41 by omega] at hQ
      exact hQ
    · refine PW.aload_n dX1_skinHeight_12 rfl ?_
      refine PW.getR fl_X1_9 rfl (by assumption) rfl dX1_skinHeight_13 ?_
      refine PW.iload_n dX1_skinHeight_16 rfl ?_
      refine PW.iaload (by assumption) (by first | (unfold inR; omega) | (have := hC i (by omega) (by omega); unfold inR; omega)) (by omega) (by omega) dX1_skinHeight_17 ?_
      refine PW.iconst dX1_skinHeight_18 ?_
      refine PW.icmp_eq 27 dX1_skinHeight_19 (by decide) (by first | (unfold inR; omega) | (have := hC i (by omega) (by omega); unfold inR; omega)) (by first | (unfold inR; omega) | (have := hC i (by omega) (by omega); unfold inR; omega)) (fun h19 => ?_) (fun h19 => ?_)
      · refine PW.iinc [(0, _), (1, _)] dX1_skinHeight_27 rfl rfl (Nat.le_of_ble_eq_true rfl) ?_
        refine PW.goto 8 dX1_skinHeight_30 (by decide) ?_
        refine ih (i + -1) (by omega) (by omega) (by omega) (fun j q1 q2 => ?_)
        by_cases hj : j = i
        · rw [hj]; assumption
        · exact hn j (by omega) q2
      · refine PW.iload_n dX1_skinHeight_22 rfl ?_
        refine PW.bipush (by decide) dX1_skinHeight_23 ?_
        refine PW.iadd dX1_skinHeight_25 ?_
        refine PW.iret rfl rfl dX1_skinHeight_26 ?_
        rw [fin i h1 h2 hn (fun _ => by assumption), show i - 40 = i + -40 by omega] at hQ
        exact hQ
theorem c_X1_skinHeight {G : GT} {S : Shp} {σ : Sto} {a : Nat} (hA : IsCol S a) (hC : colOk (σ (a + 1))) : PMet G mX1_skinHeight 0 0 0 [.ref a] S σ (isP (some (.int (iI (skF (σ (a + 1)))))) S σ) := by
  obtain ⟨hA0, hA1⟩ := id hA
  refine PMet.of [(0, .ref a)] (by decide +kernel) rfl (Nat.le_of_ble_eq_true rfl) ?_
  refine PW.aload_n dX1_skinHeight_0 rfl ?_
  refine PW.getR fl_X1_9 rfl (by assumption) rfl dX1_skinHeight_1 ?_
  refine PW.alen (by assumption) (by decide) dX1_skinHeight_4 ?_
  refine PW.iconst dX1_skinHeight_5 ?_
  refine PW.isub dX1_skinHeight_6 ?_
  refine PW.istore_n [(0, _), (1, _)] dX1_skinHeight_7 rfl (Nat.le_of_ble_eq_true rfl) ?_
  exact skin_loop hA hC ⟨rfl, rfl, rfl⟩ 81 79 (by omega) (by omega) (by omega) (fun j q1 q2 => by omega)
theorem c_X1_lay {G : GT} {S : Shp} {σ : Sto} {a : Nat} {b t : Int} (hA : IsCol S a) (hC : colOk (σ (a + 1))) (ht : 0 ≤ t ∧ t ≤ 1000) : PMet G mX1_lay 2 0 0 [.ref a, .int (iI b), .int (iI t)] S σ (isP none S (upS σ (a + 1) (lyF (σ (a + 1)) b t))) := by
  obtain ⟨hA0, hA1⟩ := id hA
  have hb := skF_b (σ (a + 1))
  refine PMet.of [(0, .ref a), (1, .int (iI (b))), (2, .int (iI (t)))] (by decide +kernel) rfl (Nat.le_of_ble_eq_true rfl) ?_
  refine PW.aload_n dX1_lay_0 rfl ?_
  refine PW.callVr (c_X1_skinHeight (by assumption) (by assumption)) cv_X1_skinHeight lk_X1_94 (by first | assumption | exact And.left (by assumption)) dX1_lay_1 rfl rfl rfl rfl ?_
  refine PW.istore_n [(0, _), (1, _), (2, _), (3, _)] dX1_lay_4 rfl (Nat.le_of_ble_eq_true rfl) ?_
  refine PW.aload_n dX1_lay_5 rfl ?_
  refine PW.iload_n dX1_lay_6 rfl ?_
  refine PW.iconst dX1_lay_7 ?_
  refine PW.iadd dX1_lay_8 ?_
  refine PW.iload_n dX1_lay_9 rfl ?_
  refine PW.iload_n dX1_lay_10 rfl ?_
  refine PW.iadd dX1_lay_11 ?_
  refine PW.iload_n dX1_lay_12 rfl ?_
  refine PW.callVv (c_X1_fillHeights (by assumption) (by omega) (by omega)) cv_X1_fillHeights lk_X1_77 (by first | assumption | exact And.left (by assumption)) dX1_lay_13 rfl rfl rfl rfl ?_
  exact PW.vret rfl dX1_lay_16 (⟨rfl, rfl, rfl⟩)
theorem c_X1_stepOf {G : GT} {S : Shp} {σ : Sto} {ax x y : Int} (rx : inR ax) : PMet G mX1_stepOf 0 0 0 [.int (iI (ax)), .int (iI (x)), .int (iI (y))] S σ (isP (some (.int (iI (soF ax x y)))) S σ) := by
  refine PMet.of [(0, .int (iI (ax))), (1, .int (iI (x))), (2, .int (iI (y)))] (by decide +kernel) rfl (Nat.le_of_ble_eq_true rfl) ?_
  refine PW.iload_n dX1_stepOf_0 rfl ?_
  refine PW.if_ne 8 dX1_stepOf_1 (by decide) (by first | assumption | (unfold inR; omega)) (fun h1 => ?_) (fun h1 => ?_)
  · refine PW.iload_n dX1_stepOf_8 rfl ?_
    exact PW.iret rfl rfl dX1_stepOf_9 ⟨ret_eq (by unfold soF; first | rw [if_pos (by assumption)] | rw [if_neg (by assumption)]), rfl, rfl⟩
  · refine PW.iload_n dX1_stepOf_4 rfl ?_
    refine PW.goto 9 dX1_stepOf_5 (by decide) ?_
    exact PW.iret rfl rfl dX1_stepOf_9 ⟨ret_eq (by unfold soF; first | rw [if_pos (by assumption)] | rw [if_neg (by assumption)]), rfl, rfl⟩
theorem mul7 {a x : Int} (ha : -1000 ≤ a ∧ a ≤ 1000) (hx : 0 ≤ x ∧ x ≤ 7) : -7000 ≤ a * x ∧ a * x ≤ 7000 := by
  rcases (show x = 0 ∨ x = 1 ∨ x = 2 ∨ x = 3 ∨ x = 4 ∨ x = 5 ∨ x = 6 ∨ x = 7 by omega) with rfl | rfl | rfl | rfl | rfl | rfl | rfl | rfl <;> omega
theorem slF_b {a c x y : Int} (ha : -1000 ≤ a ∧ a ≤ 1000) (hc : -1000 ≤ c ∧ c ≤ 1000) (hx : 0 ≤ x ∧ x ≤ 7) (hy : 0 ≤ y ∧ y ≤ 7) : -3500 ≤ slF a c x y ∧ slF a c x y ≤ 3500 := by
  have h1 := mul7 ha hx
  have h2 := mul7 hc hy
  unfold slF
  omega
theorem c_X1_slope {G : GT} {S : Shp} {σ : Sto} {a c x y : Int} (ha : -1000 ≤ a ∧ a ≤ 1000) (hc : -1000 ≤ c ∧ c ≤ 1000) (hx : 0 ≤ x ∧ x ≤ 7) (hy : 0 ≤ y ∧ y ≤ 7) : PMet G mX1_slope 1 0 0 [.int (iI (a)), .int (iI (c)), .int (iI (x)), .int (iI (y))] S σ (isP (some (.int (iI (slF a c x y)))) S σ) := by
  refine PMet.of [(0, .int (iI (a))), (1, .int (iI (c))), (2, .int (iI (x))), (3, .int (iI (y)))] (by decide +kernel) rfl (Nat.le_of_ble_eq_true rfl) ?_
  refine PW.iload_n dX1_slope_0 rfl ?_
  refine PW.iload_n dX1_slope_1 rfl ?_
  refine PW.imul dX1_slope_2 ?_
  refine PW.iload_n dX1_slope_3 rfl ?_
  refine PW.iload_n dX1_slope_4 rfl ?_
  refine PW.imul dX1_slope_5 ?_
  refine PW.iadd dX1_slope_6 ?_
  refine PW.iconst dX1_slope_7 ?_
  refine PW.callSr (c_J9_floorDiv_7cf53 (by have h1 := mul7 ha hx; have h2 := mul7 hc hy; unfold inR; omega) (by unfold inR; omega) (by decide) (by have h1 := mul7 ha hx; have h2 := mul7 hc hy; omega)) cs_J9_floorDiv_7cf53 lk_X1_83 dX1_slope_8 rfl rfl rfl ?_
  exact PW.iret rfl rfl dX1_slope_11 ⟨ret_eq (Int.fdiv_eq_ediv_of_nonneg _ (by decide)), rfl, rfl⟩
theorem frF_m {h l s st : Int} (hh : -8 ≤ h ∧ h ≤ 8) (hl : 2 ≤ l ∧ l ≤ 8) (hs : 0 ≤ s ∧ s ≤ 7) (ht : 0 ≤ st ∧ st ≤ 7) : -64 ≤ h * min ((st + s) % l) (l - (st + s) % l) ∧ h * min ((st + s) % l) (l - (st + s) % l) ≤ 64 := by
  have h1 := Int.emod_nonneg (st + s) (show l ≠ 0 by omega)
  have h2 := Int.emod_lt_of_pos (st + s) (show 0 < l by omega)
  generalize hm : min ((st + s) % l) (l - (st + s) % l) = m
  have h3 : 0 ≤ m ∧ m ≤ 8 := by omega
  rcases (show m = 0 ∨ m = 1 ∨ m = 2 ∨ m = 3 ∨ m = 4 ∨ m = 5 ∨ m = 6 ∨ m = 7 ∨ m = 8 by omega) with rfl | rfl | rfl | rfl | rfl | rfl | rfl | rfl | rfl <;> omega
theorem frF_b {h l s st : Int} (hh : -8 ≤ h ∧ h ≤ 8) (hl : 2 ≤ l ∧ l ≤ 8) (hs : 0 ≤ s ∧ s ≤ 7) (ht : 0 ≤ st ∧ st ≤ 7) : -32 ≤ frF h l s st ∧ frF h l s st ≤ 32 := by
  have h1 := frF_m hh hl hs ht
  unfold frF
  omega
theorem c_X1_foldRise {G : GT} {S : Shp} {σ : Sto} {h l s st : Int} (hh : -8 ≤ h ∧ h ≤ 8) (hl : 2 ≤ l ∧ l ≤ 8) (hs : 0 ≤ s ∧ s ≤ 7) (ht : 0 ≤ st ∧ st ≤ 7) : PMet G mX1_foldRise 1 0 0 [.int (iI (h)), .int (iI (l)), .int (iI (s)), .int (iI (st))] S σ (isP (some (.int (iI (frF h l s st)))) S σ) := by
  refine PMet.of [(0, .int (iI (h))), (1, .int (iI (l))), (2, .int (iI (s))), (3, .int (iI (st)))] (by decide +kernel) rfl (Nat.le_of_ble_eq_true rfl) ?_
  refine PW.iload_n dX1_foldRise_0 rfl ?_
  refine PW.iconst dX1_foldRise_1 ?_
  refine PW.icmp_ge 7 dX1_foldRise_2 (by decide) (by first | assumption | (unfold inR; omega)) (by first | assumption | (unfold inR; omega)) (fun h2 => ?_) (fun h2 => ?_)
  · refine PW.iload_n dX1_foldRise_7 rfl ?_
    refine PW.iload_n dX1_foldRise_8 rfl ?_
    refine PW.iadd dX1_foldRise_9 ?_
    refine PW.iload_n dX1_foldRise_10 rfl ?_
    refine PW.callSr (c_J9_floorMod_7cf53 (by first | assumption | (unfold inR; omega)) (by first | assumption | (unfold inR; omega)) (by omega) (by omega)) cs_J9_floorMod_7cf53 lk_X1_88 dX1_foldRise_11 rfl rfl rfl ?_
    refine PW.top ((st + s) % l) (Int.fmod_eq_emod_of_nonneg _ (by omega)) ?_
    have r1 := Int.emod_nonneg (st + s) (show l ≠ 0 by omega)
    have r2 := Int.emod_lt_of_pos (st + s) (show 0 < l by omega)
    have r3 := frF_m hh hl hs ht
    refine PW.istore [(0, _), (1, _), (2, _), (3, _), (4, _)] dX1_foldRise_14 rfl (Nat.le_of_ble_eq_true rfl) ?_
    refine PW.iload_n dX1_foldRise_16 rfl ?_
    refine PW.iload dX1_foldRise_17 rfl ?_
    refine PW.iload_n dX1_foldRise_19 rfl ?_
    refine PW.iload dX1_foldRise_20 rfl ?_
    refine PW.isub dX1_foldRise_22 ?_
    refine PW.callSr (c_J9_min_7cf53 (by first | assumption | (unfold inR; omega)) (by first | assumption | (unfold inR; omega))) cs_J9_min_7cf53 lk_X1_91 dX1_foldRise_23 rfl rfl rfl ?_
    refine PW.imul dX1_foldRise_26 ?_
    refine PW.iconst dX1_foldRise_27 ?_
    refine PW.callSr (c_J9_floorDiv_7cf53 (by first | assumption | (unfold inR; omega)) (by first | assumption | (unfold inR; omega)) (by omega) (by omega)) cs_J9_floorDiv_7cf53 lk_X1_83 dX1_foldRise_28 rfl rfl rfl ?_
    exact PW.iret rfl rfl dX1_foldRise_31 ⟨ret_eq (Int.fdiv_eq_ediv_of_nonneg _ (by decide)), rfl, rfl⟩
  · omega
theorem c_X1_firstBeyond {G : GT} {S : Shp} {σ : Sto} {w l : Int} (hw : -10 ≤ w ∧ w ≤ 10) (hl : -2 ≤ l ∧ l ≤ 2) : PMet G mX1_firstBeyond 1 0 0 [.int (iI (w)), .int (iI (l))] S σ (isP (some (.int (iI (fbF w l)))) S σ) := by
  refine PMet.of [(0, .int (iI (w))), (1, .int (iI (l)))] (by decide +kernel) rfl (Nat.le_of_ble_eq_true rfl) ?_
  refine PW.iload_n dX1_firstBeyond_0 rfl ?_
  refine PW.if_le 14 dX1_firstBeyond_1 (by decide) (by first | assumption | (unfold inR; omega)) (fun h1 => ?_) (fun h1 => ?_)
  · refine PW.iload_n dX1_firstBeyond_14 rfl ?_
    refine PW.if_ne 27 dX1_firstBeyond_15 (by decide) (by first | assumption | (unfold inR; omega)) (fun h15 => ?_) (fun h15 => ?_)
    · refine PW.bipush (by decide) dX1_firstBeyond_27 ?_
      exact PW.iret rfl rfl dX1_firstBeyond_29 ⟨ret_eq (by unfold fbF; rw [if_neg (by omega)]; first | rw [if_pos (by omega)] | rw [if_neg (by omega)]), rfl, rfl⟩
    · refine PW.iload_n dX1_firstBeyond_18 rfl ?_
      refine PW.if_le 27 dX1_firstBeyond_19 (by decide) (by first | assumption | (unfold inR; omega)) (fun h19 => ?_) (fun h19 => ?_)
      · refine PW.bipush (by decide) dX1_firstBeyond_27 ?_
        exact PW.iret rfl rfl dX1_firstBeyond_29 ⟨ret_eq (by unfold fbF; rw [if_neg (by omega)]; first | rw [if_pos (by omega)] | rw [if_neg (by omega)]), rfl, rfl⟩
      · refine PW.bipush (by decide) dX1_firstBeyond_22 ?_
        refine PW.goto 29 dX1_firstBeyond_24 (by decide) ?_
        exact PW.iret rfl rfl dX1_firstBeyond_29 ⟨ret_eq (by unfold fbF; rw [if_neg (by omega)]; first | rw [if_pos (by omega)] | rw [if_neg (by omega)]), rfl, rfl⟩
  · refine PW.bipush (by decide) dX1_firstBeyond_4 ?_
    refine PW.iload_n dX1_firstBeyond_6 rfl ?_
    refine PW.imul dX1_firstBeyond_7 ?_
    refine PW.iload_n dX1_firstBeyond_8 rfl ?_
    refine PW.callSr (c_J9_floorDiv_7cf53 (by first | assumption | (unfold inR; omega)) (by first | assumption | (unfold inR; omega)) (by omega) (by omega)) cs_J9_floorDiv_7cf53 lk_X1_83 dX1_firstBeyond_9 rfl rfl rfl ?_
    refine PW.ineg dX1_firstBeyond_12 ?_
    exact PW.iret rfl rfl dX1_firstBeyond_13 ⟨ret_eq (by unfold fbF; rw [if_pos (by omega)]), rfl, rfl⟩
theorem c_X1_lastBeyond {G : GT} {S : Shp} {σ : Sto} {w l : Int} (hw : -10 ≤ w ∧ w ≤ 10) (hl : -2 ≤ l ∧ l ≤ 2) : PMet G mX1_lastBeyond 1 0 0 [.int (iI (w)), .int (iI (l))] S σ (isP (some (.int (iI (lbF w l)))) S σ) := by
  refine PMet.of [(0, .int (iI (w))), (1, .int (iI (l)))] (by decide +kernel) rfl (Nat.le_of_ble_eq_true rfl) ?_
  refine PW.iload_n dX1_lastBeyond_0 rfl ?_
  refine PW.if_ge 14 dX1_lastBeyond_1 (by decide) (by first | assumption | (unfold inR; omega)) (fun h1 => ?_) (fun h1 => ?_)
  · refine PW.bipush (by decide) dX1_lastBeyond_14 ?_
    exact PW.iret rfl rfl dX1_lastBeyond_16 ⟨ret_eq (by unfold lbF; first | rw [if_pos (by omega)] | rw [if_neg (by omega)]), rfl, rfl⟩
  · refine PW.iconst dX1_lastBeyond_4 ?_
    refine PW.iload_n dX1_lastBeyond_5 rfl ?_
    refine PW.imul dX1_lastBeyond_6 ?_
    refine PW.iload_n dX1_lastBeyond_7 rfl ?_
    refine PW.callSr (c_J9_floorDiv_7cf53 (by first | assumption | (unfold inR; omega)) (by first | assumption | (unfold inR; omega)) (by omega) (by omega)) cs_J9_floorDiv_7cf53 lk_X1_83 dX1_lastBeyond_8 rfl rfl rfl ?_
    refine PW.goto 16 dX1_lastBeyond_11 (by decide) ?_
    exact PW.iret rfl rfl dX1_lastBeyond_16 ⟨ret_eq (by unfold lbF; first | rw [if_pos (by omega)] | rw [if_neg (by omega)]), rfl, rfl⟩
theorem fbF_b {w l : Int} (hw : -10 ≤ w ∧ w ≤ 10) (hl : -2 ≤ l ∧ l ≤ 2) : -1000 ≤ fbF w l ∧ fbF w l ≤ 1000 := by
  unfold fbF
  rcases (show l = -2 ∨ l = -1 ∨ l = 0 ∨ l = 1 ∨ l = 2 by omega) with rfl | rfl | rfl | rfl | rfl
  · simp
  · simp
  · split
    · omega
    · split <;> omega
  · rw [if_pos (by decide), Int.fdiv_eq_ediv_of_nonneg _ (by decide)]; omega
  · rw [if_pos (by decide), Int.fdiv_eq_ediv_of_nonneg _ (by decide)]; omega
theorem lbF_b {w l : Int} (hw : -10 ≤ w ∧ w ≤ 10) (hl : -2 ≤ l ∧ l ≤ 2) : -1000 ≤ lbF w l ∧ lbF w l ≤ 1000 := by
  unfold lbF
  rcases (show l = -2 ∨ l = -1 ∨ 0 ≤ l by omega) with rfl | rfl | h
  · have := tm_f (4 * w) (-2)
    rw [if_pos (by decide), fdv (by decide)]
    unfold inR2 at this
    split <;> omega
  · have := tm_f (4 * w) (-1)
    rw [if_pos (by decide), fdv (by decide)]
    unfold inR2 at this
    split <;> omega
  · rw [if_neg (by omega)]; omega

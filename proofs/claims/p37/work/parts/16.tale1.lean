def IsTale (S : Shp) (a : Nat) : Prop := At S a (sO 7 [fR (a + 1), fR (a + 2), fI]) ∧ At S (a + 1) (sA 0 112) ∧ At S (a + 2) (sA 0 7)
/-- the i-th event of rows: its numbers are in their bounds -/
abbrev evOk (f : Int → Int) (i : Int) : Prop := okEv (f (7 * i)) (f (7 * i + 1 + 0)) (f (7 * i + 1 + 1)) (f (7 * i + 1 + 2)) (f (7 * i + 1 + 3)) (f (7 * i + 1 + 4)) ∧ (∀ p, 0 ≤ p → p ≤ 4 → -40 ≤ f (7 * i + 1 + p) ∧ f (7 * i + 1 + p) ≤ 39) ∧ (0 ≤ f (7 * i + 6) ∧ f (7 * i + 6) ≤ 1)
def taOk (σ : Sto) (a : Nat) : Prop := (0 ≤ σ a 2 ∧ σ a 2 ≤ 16) ∧ ∀ i, 0 ≤ i → i < σ a 2 → evOk (σ (a + 1)) i
theorem evOk.k {f : Int → Int} {i : Int} (h : evOk f i) : 0 ≤ f (7 * i) ∧ f (7 * i) ≤ 5 := h.1.1
def birF (f : Int → Int) (n : Int) (b : Int) : Int := firI (fun j => decide ((f (7 * j) = 0 ∨ f (7 * j) = 5) ∧ f (7 * j + 1 + 0) = b)) n.toNat
def looF (f : Int → Int) (n : Int) : Int := sumI (fun j => b01 (¬ f (7 * j + 6) = 0)) n.toNat
/-- the numbers of an event as they are kept: those that the kind has, then 0 -/
def rowF (k a b c d e : Int) (p : Int) : Int := if p = 0 then k else if p = 1 then a else if p = 2 then b else if p = 3 then (if 2 < xT 0 k then c else 0) else if p = 4 then (if 3 < xT 0 k then d else 0) else if p = 5 then (if 4 < xT 0 k then e else 0) else 0
def adF (f : Int → Int) (n k a b c d e : Int) : Int → Int := fun j => if 7 * n ≤ j ∧ j < 7 * n + 7 then rowF k a b c d e (j - 7 * n) else f j
theorem c_X8_size {G : GT} {S : Shp} {σ : Sto} {a : Nat} (hA : IsTale S a) : PMet G mX8_size 0 0 0 [.ref a] S σ (isP (some (.int (iI (σ a 2)))) S (σ)) := by
  obtain ⟨hA0, hA1, hA2⟩ := id hA
  refine PMet.of [(0, .ref a)] (by decide +kernel) rfl (Nat.le_of_ble_eq_true rfl) ?_
  refine PW.aload_n dX8_size_0 rfl ?_
  refine PW.getI 2 fl_X8_18 rfl (by assumption) rfl rfl dX8_size_1 ?_
  exact PW.iret rfl rfl dX8_size_4 ⟨rfl, rfl, rfl⟩
theorem c_X8_has {G : GT} {S : Shp} {σ : Sto} {a : Nat} {i : Int} (hA : IsTale S a) (hs : 0 ≤ σ a 2 ∧ σ a 2 ≤ 16) (ri : inR i) : PMet G mX8_has 1 0 0 [.ref a, .int (iI (i))] S σ (isP (some (.int (iI (b01 (0 ≤ i ∧ i < σ a 2))))) S (σ)) := by
  obtain ⟨hA0, hA1, hA2⟩ := id hA
  refine PMet.of [(0, .ref a), (1, .int (iI (i)))] (by decide +kernel) rfl (Nat.le_of_ble_eq_true rfl) ?_
  refine PW.iload_n dX8_has_0 rfl ?_
  refine PW.aload_n dX8_has_1 rfl ?_
  refine PW.getI 2 fl_X8_18 rfl (by assumption) rfl rfl dX8_has_2 ?_
  refine PW.callSr (c_X11_isBelow (by first | assumption | (unfold inR; omega)) (by first | assumption | (unfold inR; omega))) cs_X11_isBelow lk_X8_22 dX8_has_5 rfl rfl rfl ?_
  exact PW.iret rfl (by first | rfl | exact narB _) dX8_has_8 ⟨rfl, rfl, rfl⟩
theorem c_X8_kind {G : GT} {S : Shp} {σ : Sto} {a : Nat} {i : Int} (hA : IsTale S a) (hi : 0 ≤ i ∧ i ≤ 15) : PMet G mX8_kind 1 0 0 [.ref a, .int (iI (i))] S σ (isP (some (.int (iI (σ (a + 1) (7 * i))))) S (σ)) := by
  obtain ⟨hA0, hA1, hA2⟩ := id hA
  refine PMet.of [(0, .ref a), (1, .int (iI (i)))] (by decide +kernel) rfl (Nat.le_of_ble_eq_true rfl) ?_
  refine PW.aload_n dX8_kind_0 rfl ?_
  refine PW.getR fl_X8_11 rfl (by assumption) rfl dX8_kind_1 ?_
  refine PW.iload_n dX8_kind_4 rfl ?_
  refine PW.bipush (by decide) dX8_kind_5 ?_
  refine PW.imul dX8_kind_7 ?_
  refine PW.callSr (c_X11_get (by assumption) (by first | assumption | (unfold inR; omega)) (by decide)) cs_X11_get lk_X8_26 dX8_kind_8 rfl rfl rfl ?_
  exact PW.iret rfl rfl dX8_kind_11 ⟨ret_eq (by unfold gI; rw [if_pos (by omega)] <;> (congr 1; omega)), rfl, rfl⟩
theorem c_X8_number {G : GT} {S : Shp} {σ : Sto} {a : Nat} {i q : Int} (hA : IsTale S a) (hi : 0 ≤ i ∧ i ≤ 15) (hp : 0 ≤ q ∧ q ≤ 4) : PMet G mX8_number 1 0 0 [.ref a, .int (iI (i)), .int (iI (q))] S σ (isP (some (.int (iI (σ (a + 1) (7 * i + 1 + q))))) S (σ)) := by
  obtain ⟨hA0, hA1, hA2⟩ := id hA
  refine PMet.of [(0, .ref a), (1, .int (iI (i))), (2, .int (iI (q)))] (by decide +kernel) rfl (Nat.le_of_ble_eq_true rfl) ?_
  refine PW.aload_n dX8_number_0 rfl ?_
  refine PW.getR fl_X8_11 rfl (by assumption) rfl dX8_number_1 ?_
  refine PW.iload_n dX8_number_4 rfl ?_
  refine PW.bipush (by decide) dX8_number_5 ?_
  refine PW.imul dX8_number_7 ?_
  refine PW.iconst dX8_number_8 ?_
  refine PW.iadd dX8_number_9 ?_
  refine PW.iload_n dX8_number_10 rfl ?_
  refine PW.iadd dX8_number_11 ?_
  refine PW.callSr (c_X11_get (by assumption) (by first | assumption | (unfold inR; omega)) (by decide)) cs_X11_get lk_X8_26 dX8_number_12 rfl rfl rfl ?_
  exact PW.iret rfl rfl dX8_number_15 ⟨ret_eq (by unfold gI; rw [if_pos (by omega)] <;> (congr 1; omega)), rfl, rfl⟩
theorem c_X8_setNumber {G : GT} {S : Shp} {σ : Sto} {a : Nat} {i q v : Int} (hA : IsTale S a) (hi : 0 ≤ i ∧ i ≤ 15) (hp : 0 ≤ q ∧ q ≤ 4) : PMet G mX8_setNumber 1 0 0 [.ref a, .int (iI (i)), .int (iI (q)), .int (iI (v))] S σ (isP none S (upS σ (a + 1) (up1 (σ (a + 1)) (7 * i + 1 + q) v))) := by
  obtain ⟨hA0, hA1, hA2⟩ := id hA
  refine PMet.of [(0, .ref a), (1, .int (iI (i))), (2, .int (iI (q))), (3, .int (iI (v)))] (by decide +kernel) rfl (Nat.le_of_ble_eq_true rfl) ?_
  refine PW.aload_n dX8_setNumber_0 rfl ?_
  refine PW.getR fl_X8_11 rfl (by assumption) rfl dX8_setNumber_1 ?_
  refine PW.iload_n dX8_setNumber_4 rfl ?_
  refine PW.bipush (by decide) dX8_setNumber_5 ?_
  refine PW.imul dX8_setNumber_7 ?_
  refine PW.iconst dX8_setNumber_8 ?_
  refine PW.iadd dX8_setNumber_9 ?_
  refine PW.iload_n dX8_setNumber_10 rfl ?_
  refine PW.iadd dX8_setNumber_11 ?_
  refine PW.iload_n dX8_setNumber_12 rfl ?_
  refine PW.callSv (c_X11_put (by assumption) (by first | assumption | (unfold inR; omega)) (by decide)) cs_X11_put lk_X8_30 dX8_setNumber_13 rfl rfl rfl ?_
  exact PW.vret rfl dX8_setNumber_16 (⟨rfl, rfl, by rw [if_pos (by omega)]; congr 2; omega⟩)
theorem c_X8_isLoose {G : GT} {S : Shp} {σ : Sto} {a : Nat} {i : Int} (hA : IsTale S a) (hi : 0 ≤ i ∧ i ≤ 15) (hl : 0 ≤ σ (a + 1) (7 * i + 6) ∧ σ (a + 1) (7 * i + 6) ≤ 1) : PMet G mX8_isLoose 1 0 0 [.ref a, .int (iI (i))] S σ (isP (some (.int (iI (b01 (¬ σ (a + 1) (7 * i + 6) = 0))))) S (σ)) := by
  obtain ⟨hA0, hA1, hA2⟩ := id hA
  refine PMet.of [(0, .ref a), (1, .int (iI (i)))] (by decide +kernel) rfl (Nat.le_of_ble_eq_true rfl) ?_
  refine PW.aload_n dX8_isLoose_0 rfl ?_
  refine PW.getR fl_X8_11 rfl (by assumption) rfl dX8_isLoose_1 ?_
  refine PW.iload_n dX8_isLoose_4 rfl ?_
  refine PW.bipush (by decide) dX8_isLoose_5 ?_
  refine PW.imul dX8_isLoose_7 ?_
  refine PW.bipush (by decide) dX8_isLoose_8 ?_
  refine PW.iadd dX8_isLoose_10 ?_
  refine PW.callSr (c_X11_get (by assumption) (by first | assumption | (unfold inR; omega)) (by decide)) cs_X11_get lk_X8_26 dX8_isLoose_11 rfl rfl rfl ?_
  refine PW.top (σ (a + 1) (7 * i + 6)) (by unfold gI; rw [if_pos (by omega)] <;> (congr 1; omega)) ?_
  refine PW.if_eq 21 dX8_isLoose_14 (by decide) (by first | assumption | (unfold inR; omega)) (fun h14 => ?_) (fun h14 => ?_)
  · refine PW.iconst dX8_isLoose_21 ?_
    exact PW.iret rfl (by first | rfl | exact narB _) dX8_isLoose_22 ⟨ret_eq (by unfold b01; first | (exfalso; omega) | rw [if_pos (by omega)] | rw [if_neg (by omega)]), rfl, rfl⟩
  · refine PW.iconst dX8_isLoose_17 ?_
    refine PW.goto 22 dX8_isLoose_18 (by decide) ?_
    exact PW.iret rfl (by first | rfl | exact narB _) dX8_isLoose_22 ⟨ret_eq (by unfold b01; first | (exfalso; omega) | rw [if_pos (by omega)] | rw [if_neg (by omega)]), rfl, rfl⟩
theorem c_X8_setLoose {G : GT} {S : Shp} {σ : Sto} {a : Nat} {i : Int} {P : Prop} [Decidable P] (hA : IsTale S a) (hi : 0 ≤ i ∧ i ≤ 15) : PMet G mX8_setLoose 1 0 0 [.ref a, .int (iI i), .int (iI (b01 P))] S σ (isP none S (upS σ (a + 1) (up1 (σ (a + 1)) (7 * i + 6) (b01 P)))) := by
  obtain ⟨hA0, hA1, hA2⟩ := id hA
  refine PMet.of [(0, .ref a), (1, .int (iI (i))), (2, .int (iI (b01 P)))] (by decide +kernel) rfl (Nat.le_of_ble_eq_true rfl) ?_
  refine PW.aload_n dX8_setLoose_0 rfl ?_
  refine PW.getR fl_X8_11 rfl (by assumption) rfl dX8_setLoose_1 ?_
  refine PW.iload_n dX8_setLoose_4 rfl ?_
  refine PW.bipush (by decide) dX8_setLoose_5 ?_
  refine PW.imul dX8_setLoose_7 ?_
  refine PW.bipush (by decide) dX8_setLoose_8 ?_
  refine PW.iadd dX8_setLoose_10 ?_
  refine PW.iload_n dX8_setLoose_11 rfl ?_
  refine PW.callSr (c_X11_flag) cs_X11_flag lk_X8_34 dX8_setLoose_12 rfl rfl rfl ?_
  refine PW.callSv (c_X11_put (by assumption) (by first | assumption | (unfold inR; omega)) (by decide)) cs_X11_put lk_X8_30 dX8_setLoose_15 rfl rfl rfl ?_
  exact PW.vret rfl dX8_setLoose_18 (⟨rfl, rfl, by rw [if_pos (by omega)]; congr 2; omega⟩)
theorem looF_b (f : Int → Int) (n : Int) (h : 0 ≤ n) : 0 ≤ looF f n ∧ looF f n ≤ n := by
  have := sumI_b (f := fun j => b01 (¬ f (7 * j + 6) = 0)) (lo := 0) (hi := 1) (n := n.toNat) (fun j _ _ => b01_b _)
  unfold looF
  omega
theorem loose_loop {G : GT} {S : Shp} {σ : Sto} {d a : Nat} {Q : Option Value → Shp → Sto → Prop} (hA : IsTale S a) (hT : taOk σ a) (hd : 2 ≤ d) (hQ : Q (some (.int (iI (looF (σ (a + 1)) (σ a 2))))) S σ) : ∀ (t : Nat) (i : Int), 0 ≤ i → i ≤ σ a 2 → σ a 2 - i < t → PW (fm G mX8_looseOnes 2 0 0 Q) G S σ 0 0 4 [(0, .ref a), (1, .int (iI (looF (σ (a + 1)) i))), (2, .int (iI i))] [] := by
  obtain ⟨hA0, hA1, hA2⟩ := id hA
  obtain ⟨hs, hE⟩ := hT
  intro t
  induction t with
  | zero => intro i h1 h2 h3; omega
  | succ t ih =>
    intro i h1 h2 h3
    have hb := looF_b (σ (a + 1)) i h1
    refine PW.iload_n dX8_looseOnes_4 rfl ?_
    refine PW.aload_n dX8_looseOnes_5 rfl ?_
    refine PW.getI 2 fl_X8_18 rfl (by assumption) rfl rfl dX8_looseOnes_6 ?_
    refine PW.icmp_ge 29 dX8_looseOnes_9 (by decide) (by first | assumption | (unfold inR; omega)) (by first | assumption | (unfold inR; omega)) (fun h9 => ?_) (fun h9 => ?_)
    · refine PW.iload_n dX8_looseOnes_29 rfl ?_
      have hi : i = σ a 2 := by omega
      subst hi
      exact PW.iret rfl rfl dX8_looseOnes_30 hQ
    · obtain ⟨-, -, hl⟩ := hE i h1 (by omega)
      have hq := sumI_succ (fun j => b01 (¬ σ (a + 1) (7 * j + 6) = 0)) h1
      refine PW.aload_n dX8_looseOnes_12 rfl ?_
      refine PW.iload_n dX8_looseOnes_13 rfl ?_
      refine PW.callVr (c_X8_isLoose (by assumption) (by omega) (by omega)) cv_X8_isLoose lk_X8_38 (by first | assumption | exact And.left (by assumption)) dX8_looseOnes_14 rfl rfl rfl rfl ?_
      refine PW.if_eqB 23 dX8_looseOnes_17 (by decide) (fun h17 => ?_) (fun h17 => ?_)
      · refine PW.iinc [(0, _), (1, _), (2, _)] dX8_looseOnes_23 rfl rfl (Nat.le_of_ble_eq_true rfl) ?_
        refine PW.goto 4 dX8_looseOnes_26 (by decide) ?_
        have e := ih (i + 1) (by omega) (by omega) (by omega)
        unfold looF at e
        rw [hq] at e
        first
          | (rw [b01_t (by assumption)] at e; exact e)
          | (rw [b01_f (by omega), Int.add_zero] at e; exact e)
      · refine PW.iinc [(0, _), (1, _), (2, _)] dX8_looseOnes_20 rfl rfl (Nat.le_of_ble_eq_true rfl) ?_
        refine PW.iinc [(0, _), (1, _), (2, _)] dX8_looseOnes_23 rfl rfl (Nat.le_of_ble_eq_true rfl) ?_
        refine PW.goto 4 dX8_looseOnes_26 (by decide) ?_
        have e := ih (i + 1) (by omega) (by omega) (by omega)
        unfold looF at e
        rw [hq] at e
        first
          | (rw [b01_t (by assumption)] at e; exact e)
          | (rw [b01_f (by omega), Int.add_zero] at e; exact e)
theorem c_X8_looseOnes {G : GT} {S : Shp} {σ : Sto} {a : Nat} (hA : IsTale S a) (hT : taOk σ a) : PMet G mX8_looseOnes 2 0 0 [.ref a] S σ (isP (some (.int (iI (looF (σ (a + 1)) (σ a 2))))) S σ) := by
  refine PMet.of [(0, .ref a)] (by decide +kernel) rfl (Nat.le_of_ble_eq_true rfl) ?_
  refine PW.iconst dX8_looseOnes_0 ?_
  refine PW.istore_n [(0, _), (1, _)] dX8_looseOnes_1 rfl (Nat.le_of_ble_eq_true rfl) ?_
  refine PW.iconst dX8_looseOnes_2 ?_
  refine PW.istore_n [(0, _), (1, _), (2, _)] dX8_looseOnes_3 rfl (Nat.le_of_ble_eq_true rfl) ?_
  exact loose_loop (d := 2) hA hT (by omega) ⟨rfl, rfl, rfl⟩ 17 0 (by omega) hT.1.1 (by have := hT.1.2; omega)
theorem c_X8_empty {G : GT} {S : Shp} {σ : Sto} {a : Nat} (hA : IsTale S a) : PMet G mX8_empty 0 0 0 [.ref a] S σ (isP none S (upS σ a (up1 (σ a) 2 0))) := by
  obtain ⟨hA0, hA1, hA2⟩ := id hA
  refine PMet.of [(0, .ref a)] (by decide +kernel) rfl (Nat.le_of_ble_eq_true rfl) ?_
  refine PW.aload_n dX8_empty_0 rfl ?_
  refine PW.iconst dX8_empty_1 ?_
  refine PW.putI 2 fl_X8_18 rfl (fun h => absurd h (by decide)) (by assumption) rfl rfl rfl rfl dX8_empty_2 ?_
  exact PW.vret rfl dX8_empty_5 (⟨rfl, rfl, rfl⟩)
-- (not here: c_X8_shorten)

theorem c_X8_addFrom {G : GT} {S : Shp} {σ : Sto} {a b : Nat} {n i : Int} (hA : IsTale S a) (hB : IsTale S b) (hn : σ a 2 = n) (h0 : 0 ≤ n ∧ n ≤ 15) (hT : taOk σ b) (hi : 0 ≤ i ∧ i < σ b 2) : PMet G mX8_addFrom 4 0 0 [.ref a, .ref b, .int (iI i)] S σ (isP none S (upS (upS σ (a + 1) (adF (σ (a + 1)) n (σ (b + 1) (7 * i)) (σ (b + 1) (7 * i + 1 + 0)) (σ (b + 1) (7 * i + 1 + 1)) (σ (b + 1) (7 * i + 1 + 2)) (σ (b + 1) (7 * i + 1 + 3)) (σ (b + 1) (7 * i + 1 + 4)))) a (up1 (σ a) 2 (n + 1)))) := by
  obtain ⟨hA0, hA1, hA2⟩ := id hA
  have hB0 := hB.1
  have hs := hT.1
  have hk := (hT.2 i hi.1 hi.2).k
  refine PMet.of [(0, .ref a), (1, .ref b), (2, .int (iI (i)))] (by decide +kernel) rfl (Nat.le_of_ble_eq_true rfl) ?_
  refine PW.aload_n dX8_addFrom_0 rfl ?_
  refine PW.ifnull dX8_addFrom_1 ?_
  refine PW.aload_n dX8_addFrom_4 rfl ?_
  refine PW.iload_n dX8_addFrom_5 rfl ?_
  refine PW.callVr (c_X8_has (by assumption) (by assumption) (by first | assumption | (unfold inR; omega))) cv_X8_has lk_X8_56 (by first | assumption | exact And.left (by assumption)) dX8_addFrom_6 rfl rfl rfl rfl ?_
  refine PW.if_neB 13 dX8_addFrom_9 (by decide) (fun h9 => ?_) (fun h9 => ?_)
  · refine PW.aload_n dX8_addFrom_13 rfl ?_
    refine PW.aload_n dX8_addFrom_14 rfl ?_
    refine PW.iload_n dX8_addFrom_15 rfl ?_
    refine PW.callVr (c_X8_kind (by assumption) (by omega)) cv_X8_kind lk_X8_59 (by first | assumption | exact And.left (by assumption)) dX8_addFrom_16 rfl rfl rfl rfl ?_
    refine PW.aload_n dX8_addFrom_19 rfl ?_
    refine PW.iload_n dX8_addFrom_20 rfl ?_
    refine PW.iconst dX8_addFrom_21 ?_
    refine PW.callVr (c_X8_number (by assumption) (by omega) (by omega)) cv_X8_number lk_X8_62 (by first | assumption | exact And.left (by assumption)) dX8_addFrom_22 rfl rfl rfl rfl ?_
    refine PW.aload_n dX8_addFrom_25 rfl ?_
    refine PW.iload_n dX8_addFrom_26 rfl ?_
    refine PW.iconst dX8_addFrom_27 ?_
    refine PW.callVr (c_X8_number (by assumption) (by omega) (by omega)) cv_X8_number lk_X8_62 (by first | assumption | exact And.left (by assumption)) dX8_addFrom_28 rfl rfl rfl rfl ?_
    refine PW.aload_n dX8_addFrom_31 rfl ?_
    refine PW.iload_n dX8_addFrom_32 rfl ?_
    refine PW.iconst dX8_addFrom_33 ?_
    refine PW.callVr (c_X8_number (by assumption) (by omega) (by omega)) cv_X8_number lk_X8_62 (by first | assumption | exact And.left (by assumption)) dX8_addFrom_34 rfl rfl rfl rfl ?_
    refine PW.aload_n dX8_addFrom_37 rfl ?_
    refine PW.iload_n dX8_addFrom_38 rfl ?_
    refine PW.iconst dX8_addFrom_39 ?_
    refine PW.callVr (c_X8_number (by assumption) (by omega) (by omega)) cv_X8_number lk_X8_62 (by first | assumption | exact And.left (by assumption)) dX8_addFrom_40 rfl rfl rfl rfl ?_
    refine PW.aload_n dX8_addFrom_43 rfl ?_
    refine PW.iload_n dX8_addFrom_44 rfl ?_
    refine PW.iconst dX8_addFrom_45 ?_
    refine PW.callVr (c_X8_number (by assumption) (by omega) (by omega)) cv_X8_number lk_X8_62 (by first | assumption | exact And.left (by assumption)) dX8_addFrom_46 rfl rfl rfl rfl ?_
    refine PW.callVv (c_X8_add (by assumption) (by assumption) (by omega) (by omega)) cv_X8_add lk_X8_66 (by first | assumption | exact And.left (by assumption)) dX8_addFrom_49 rfl rfl rfl rfl ?_
    exact PW.vret rfl dX8_addFrom_52 (⟨rfl, rfl, rfl⟩)
  · exact absurd hi h9
theorem c_X8_become {G : GT} {S : Shp} {σ : Sto} {a b : Nat} (hA : IsTale S a) (hB : IsTale S b) (hne : b ≠ a + 1) : PMet G mX8_become 2 0 0 [.ref a, .ref b] S σ (isP none S (upS (upS σ (a + 1) (cpF (σ (b + 1)) (σ (a + 1)) 0 0 112)) a (up1 (σ a) 2 (σ b 2)))) := by
  obtain ⟨hA0, hA1, hA2⟩ := id hA
  obtain ⟨hB0, hB1, hB2⟩ := id hB
  refine PMet.of [(0, .ref a), (1, .ref b)] (by decide +kernel) rfl (Nat.le_of_ble_eq_true rfl) ?_
  refine PW.aload_n dX8_become_0 rfl ?_
  refine PW.ifnonnull 5 dX8_become_1 (by decide) ?_
  refine PW.aload_n dX8_become_5 rfl ?_
  refine PW.getR fl_X8_11 rfl (by assumption) rfl dX8_become_6 ?_
  refine PW.iconst dX8_become_9 ?_
  refine PW.aload_n dX8_become_10 rfl ?_
  refine PW.getR fl_X8_11 rfl (by assumption) rfl dX8_become_11 ?_
  refine PW.iconst dX8_become_14 ?_
  refine PW.aload_n dX8_become_15 rfl ?_
  refine PW.getR fl_X8_11 rfl (by assumption) rfl dX8_become_16 ?_
  refine PW.alen (by assumption) (by decide) dX8_become_19 ?_
  refine PW.callSv (c_X11_copy (by assumption) (by assumption) (by decide) (by decide) (by first | assumption | (unfold inR; omega)) (by first | assumption | (unfold inR; omega)) (by omega)) cs_X11_copy lk_X8_70 dX8_become_20 rfl rfl rfl ?_
  refine PW.st (upS σ (a + 1) (cpF (σ (b + 1)) (σ (a + 1)) 0 0 112)) (by rw [if_pos (by decide)]; rfl) ?_
  refine PW.aload_n dX8_become_23 rfl ?_
  refine PW.aload_n dX8_become_24 rfl ?_
  refine PW.getI 2 fl_X8_18 rfl (by assumption) rfl rfl dX8_become_25 ?_
  refine PW.top (σ b 2) (by rw [upS_ne hne]) ?_
  refine PW.putI 2 fl_X8_18 rfl (fun h => absurd h (by decide)) (by assumption) rfl rfl rfl rfl dX8_become_28 ?_
  exact PW.vret rfl dX8_become_31 (⟨rfl, rfl, by rw [upS_ne (show a ≠ a + 1 by omega)]⟩)
/-- two rows of seven change their places -/
def exF (f : Int → Int) (i : Int) : Int → Int := fun j => if 7 * i ≤ j ∧ j < 7 * i + 7 then f (j + 7) else if 7 * i + 7 ≤ j ∧ j < 7 * i + 14 then f (j - 7) else f j
-- (not here: c_X8_exchange)
theorem birth_loop {G : GT} {S : Shp} {σ : Sto} {a : Nat} {b : Int} {k0 : Value} {Q : Option Value → Shp → Sto → Prop} (hA : IsTale S a) (hT : taOk σ a) (rb : inR b) (hQ : Q (some (.int (iI (birF (σ (a + 1)) (σ a 2) b)))) S σ) : ∀ (t : Nat) (i : Int), 0 ≤ i → i ≤ σ a 2 → σ a 2 - i < t → (∀ j, 0 ≤ j → j < i → ¬ ((σ (a + 1) (7 * j) = 0 ∨ σ (a + 1) (7 * j) = 5) ∧ σ (a + 1) (7 * j + 1 + 0) = b)) → PW (fm G mX8_birthOf 2 0 0 Q) G S σ 0 0 2 [(0, .ref a), (1, .int (iI b)), (2, .int (iI i))] [] := by
  obtain ⟨hA0, hA1, hA2⟩ := id hA
  obtain ⟨hs, hE⟩ := hT
  intro t
  induction t with
  | zero => intro i h1 h2 h3; omega
  | succ t ih =>
    intro i h1 h2 h3 hn
    refine PW.iload_n dX8_birthOf_2 rfl ?_
    refine PW.aload_n dX8_birthOf_3 rfl ?_
    refine PW.getI 2 fl_X8_18 rfl (by assumption) rfl rfl dX8_birthOf_4 ?_
    refine PW.icmp_ge 43 dX8_birthOf_7 (by decide) (by first | assumption | (unfold inR; omega)) (by first | assumption | (unfold inR; omega)) (fun h7 => ?_) (fun h7 => ?_)
    · refine PW.iconst dX8_birthOf_43 ?_
      refine PW.iret rfl rfl dX8_birthOf_44 ?_
      have e : birF (σ (a + 1)) (σ a 2) b = -1 := by
        unfold birF
        exact firI_none (fun j q1 q2 => decide_eq_false (hn j q1 (by omega)))
      rw [e] at hQ
      exact hQ
    · obtain ⟨hok, hnum, -⟩ := hE i h1 (by omega)
      have hk := hok.1
      have hb := hnum 0 (by omega) (by omega)
      refine PW.aload_n dX8_birthOf_10 rfl ?_
      refine PW.iload_n dX8_birthOf_11 rfl ?_
      refine PW.callVr (c_X8_kind (by assumption) (by omega)) cv_X8_kind lk_X8_59 (by first | assumption | exact And.left (by assumption)) dX8_birthOf_12 rfl rfl rfl rfl ?_
      refine PW.istore_n [(0, _), (1, _), (2, _), (3, _)] dX8_birthOf_15 rfl (Nat.le_of_ble_eq_true rfl) ?_
      refine PW.iload_n dX8_birthOf_16 rfl ?_
      refine PW.if_eq 25 dX8_birthOf_17 (by decide) (by first | assumption | (unfold inR; omega)) (fun h17 => ?_) (fun h17 => ?_)
      · refine PW.aload_n dX8_birthOf_25 rfl ?_
        refine PW.iload_n dX8_birthOf_26 rfl ?_
        refine PW.iconst dX8_birthOf_27 ?_
        refine PW.callVr (c_X8_number (by assumption) (by omega) (by omega)) cv_X8_number lk_X8_62 (by first | assumption | exact And.left (by assumption)) dX8_birthOf_28 rfl rfl rfl rfl ?_
        refine PW.iload_n dX8_birthOf_31 rfl ?_
        refine PW.icmp_ne 37 dX8_birthOf_32 (by decide) (by first | assumption | (unfold inR; omega)) (by first | assumption | (unfold inR; omega)) (fun h32 => ?_) (fun h32 => ?_)
        · refine PW.keep [(0, .ref a), (1, .int (iI b)), (2, .int (iI i))] (by simp) ?_
          refine PW.iinc [(0, _), (1, _), (2, _)] dX8_birthOf_37 rfl rfl (Nat.le_of_ble_eq_true rfl) ?_
          refine PW.goto 2 dX8_birthOf_40 (by decide) ?_
          refine ih (i + 1) (by omega) (by omega) (by omega) (fun j q1 q2 => ?_)
          by_cases hj : j = i
          · subst hj
            omega
          · exact hn j q1 (by omega)
        · refine PW.iload_n dX8_birthOf_35 rfl ?_
          refine PW.iret rfl rfl dX8_birthOf_36 ?_
          have e : birF (σ (a + 1)) (σ a 2) b = i := by
            unfold birF
            refine firI_hit (by omega) (decide_eq_true (by omega)) (fun j q1 q2 => decide_eq_false (hn j q1 q2)) (by omega)
          rw [e] at hQ
          exact hQ
      · refine PW.iload_n dX8_birthOf_20 rfl ?_
        refine PW.iconst dX8_birthOf_21 ?_
        refine PW.icmp_ne 37 dX8_birthOf_22 (by decide) (by first | assumption | (unfold inR; omega)) (by first | assumption | (unfold inR; omega)) (fun h22 => ?_) (fun h22 => ?_)
        · refine PW.keep [(0, .ref a), (1, .int (iI b)), (2, .int (iI i))] (by simp) ?_
          refine PW.iinc [(0, _), (1, _), (2, _)] dX8_birthOf_37 rfl rfl (Nat.le_of_ble_eq_true rfl) ?_
          refine PW.goto 2 dX8_birthOf_40 (by decide) ?_
          refine ih (i + 1) (by omega) (by omega) (by omega) (fun j q1 q2 => ?_)
          by_cases hj : j = i
          · subst hj
            omega
          · exact hn j q1 (by omega)
        · refine PW.aload_n dX8_birthOf_25 rfl ?_
          refine PW.iload_n dX8_birthOf_26 rfl ?_
          refine PW.iconst dX8_birthOf_27 ?_
          refine PW.callVr (c_X8_number (by assumption) (by omega) (by omega)) cv_X8_number lk_X8_62 (by first | assumption | exact And.left (by assumption)) dX8_birthOf_28 rfl rfl rfl rfl ?_
          refine PW.iload_n dX8_birthOf_31 rfl ?_
          refine PW.icmp_ne 37 dX8_birthOf_32 (by decide) (by first | assumption | (unfold inR; omega)) (by first | assumption | (unfold inR; omega)) (fun h32 => ?_) (fun h32 => ?_)
          · refine PW.keep [(0, .ref a), (1, .int (iI b)), (2, .int (iI i))] (by simp) ?_
            refine PW.iinc [(0, _), (1, _), (2, _)] dX8_birthOf_37 rfl rfl (Nat.le_of_ble_eq_true rfl) ?_
            refine PW.goto 2 dX8_birthOf_40 (by decide) ?_
            refine ih (i + 1) (by omega) (by omega) (by omega) (fun j q1 q2 => ?_)
            by_cases hj : j = i
            · subst hj
              omega
            · exact hn j q1 (by omega)
          · refine PW.iload_n dX8_birthOf_35 rfl ?_
            refine PW.iret rfl rfl dX8_birthOf_36 ?_
            have e : birF (σ (a + 1)) (σ a 2) b = i := by
              unfold birF
              refine firI_hit (by omega) (decide_eq_true (by omega)) (fun j q1 q2 => decide_eq_false (hn j q1 q2)) (by omega)
            rw [e] at hQ
            exact hQ
theorem c_X8_birthOf {G : GT} {S : Shp} {σ : Sto} {a : Nat} {b : Int} (hA : IsTale S a) (hT : taOk σ a) (rb : inR b) : PMet G mX8_birthOf 2 0 0 [.ref a, .int (iI b)] S σ (isP (some (.int (iI (birF (σ (a + 1)) (σ a 2) b)))) S σ) := by
  refine PMet.of [(0, .ref a), (1, .int (iI (b)))] (by decide +kernel) rfl (Nat.le_of_ble_eq_true rfl) ?_
  refine PW.iconst dX8_birthOf_0 ?_
  refine PW.istore_n [(0, _), (1, _), (2, _)] dX8_birthOf_1 rfl (Nat.le_of_ble_eq_true rfl) ?_
  exact birth_loop (k0 := .null) hA hT rb ⟨rfl, rfl, rfl⟩ 17 0 (by omega) hT.1.1 (by have := hT.1.2; omega) (fun j q1 q2 => by omega)
/-- two rows of seven differ, being LOOSE not looked at -/
abbrev unF (f g : Int → Int) (i : Int) (q : Int) : Bool := decide (¬ f (7 * i + q) = g (7 * i + q))
abbrev alF (f g : Int → Int) (i : Int) : Prop := firI (unF f g i) 6 = -1
def ahF (f g : Int → Int) (n m : Int) : Int := if firI (fun j => decide (¬ alF f g j)) (min n m).toNat = -1 then min n m else firI (fun j => decide (¬ alF f g j)) (min n m).toNat
theorem evOk.r {f : Int → Int} {i q : Int} (h : evOk f i) (h0 : 0 ≤ q) (h1 : q ≤ 5) : -40 ≤ f (7 * i + q) ∧ f (7 * i + q) ≤ 39 := by
  by_cases hq : q = 0
  · subst hq
    have := h.k
    rw [Int.add_zero]
    omega
  · have := h.2.1 (q - 1) (by omega) (by omega)
    rw [show 7 * i + 1 + (q - 1) = 7 * i + q by omega] at this
    exact this
-- (not here: alike_loop)
-- (not here: c_X8_isAlike)
-- (not here: ahead_loop)
-- (not here: c_X8_alikeAhead)

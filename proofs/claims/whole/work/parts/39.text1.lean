def IsTxt (S : Shp) (a : Nat) : Prop := At S a (sO 9 [fR (a + 1), fR (a + 2), fI, fI, fI, fI]) ∧ At S (a + 1) (sA 0 300) ∧ At S (a + 2) (sA 0 5)
def bsOk (B : Int → Int) (z : Int) : Prop := (0 ≤ z ∧ z ≤ 300) ∧ ∀ i, 0 ≤ i → i < z → 0 ≤ B i ∧ B i ≤ 255
/-- the byte at a place, -1 behind the end -/
def btF (B : Int → Int) (z p : Int) : Int := if 0 ≤ p ∧ p < z then B p else -1
theorem btF_b {B : Int → Int} {z : Int} (h : bsOk B z) (p : Int) : -1 ≤ btF B z p ∧ btF B z p ≤ 255 := by
  unfold btF
  split
  · next q => have := h.2 p q.1 q.2; omega
  · omega
/-- from a place on, as long as P holds of the bytes -/
def runP (P : Int → Bool) (B : Int → Int) (z : Int) : Nat → Int → Int
  | 0, p => p
  | k + 1, p => if P (B p) then runP P B z k (p + 1) else p
def runE (P : Int → Bool) (B : Int → Int) (z p : Int) : Int := runP P B z (z - p).toNat p
theorem runE_s (P : Int → Bool) (B : Int → Int) (z p : Int) : runE P B z p = if p < z ∧ P (B p) = true then runE P B z (p + 1) else p := by
  unfold runE
  by_cases h : p < z
  · rw [show (z - p).toNat = (z - (p + 1)).toNat + 1 by omega]
    simp only [runP]
    by_cases q : P (B p) = true
    · rw [if_pos q, if_pos ⟨h, q⟩]
    · rw [if_neg q, if_neg (fun x => q x.2)]
  · rw [show (z - p).toNat = 0 by omega, if_neg (fun x => h x.1)]
    rfl
theorem runP_b (P : Int → Bool) (B : Int → Int) (z : Int) : ∀ (k : Nat) (p : Int), p ≤ runP P B z k p ∧ runP P B z k p ≤ p + k
  | 0, p => by simp [runP]
  | k + 1, p => by
    have := runP_b P B z k (p + 1)
    simp only [runP]
    split <;> omega
theorem runE_b (P : Int → Bool) (B : Int → Int) (z p : Int) : p ≤ runE P B z p ∧ (p ≤ z → runE P B z p ≤ z) := by
  have := runP_b P B z (z - p).toNat p
  unfold runE
  omega
abbrev isBl : Int → Bool := fun v => decide (v = 32)
abbrev isFg : Int → Bool := fun v => decide (48 ≤ v ∧ v ≤ 57)
abbrev isLt : Int → Bool := fun v => decide (97 ≤ v ∧ v ≤ 122)
def skE (B : Int → Int) (z p : Int) : Int := runE isBl B z p
theorem skE_b (B : Int → Int) (z : Int) {p : Int} (h : 0 ≤ p ∧ p ≤ z) : p ≤ skE B z p ∧ skE B z p ≤ z := by
  have := runE_b isBl B z p
  unfold skE
  omega
/-- a word of ours stands at a place, no letter behind it -/
abbrev whB (B : Int → Int) (z : Int) (k0 : Nat) (p : Int) : Int → Bool := fun i => decide (¬ btF B z (p + i) = chrF k0 i)
abbrev whP (B : Int → Int) (z : Int) (k0 : Nat) (p : Int) : Prop := firI (whB B z k0 p) (lenF k0).toNat = -1 ∧ ¬ (97 ≤ btF B z (p + lenF k0) ∧ btF B z (p + lenF k0) ≤ 122)
def kdF (B : Int → Int) (z p : Int) : Int := firI (fun k => decide (whP B z k.toNat p)) 6
theorem kdF_b (B : Int → Int) (z p : Int) : -1 ≤ kdF B z p ∧ kdF B z p ≤ 5 := by
  have := firI_b (P := fun k => decide (whP B z k.toNat p)) (n := 6)
  unfold kdF
  omega
def axF (B : Int → Int) (z p : Int) : Int := if whP B z 6 p then 0 else if whP B z 7 p then 1 else -1
/-- a number: where its figures begin and end, what it is -/
def nuP (B : Int → Int) (z p : Int) : Int := p + b01 (btF B z p = 45)
def nuQ (B : Int → Int) (z p : Int) : Int := runE isFg B z (nuP B z p)
def dgF (B : Int → Int) (p q : Int) : Int := if q ≤ p then 0 else if q = p + 1 then B p - 48 else 10 * (B p - 48) + (B (p + 1) - 48)
def nuV (B : Int → Int) (z p : Int) : Int := if btF B z p = 45 then -(dgF B (nuP B z p) (nuQ B z p)) else dgF B (nuP B z p) (nuQ B z p)
abbrev axPl (k i : Int) : Prop := (k = 2 ∨ k = 3) ∧ i = 0 ∨ k = 5 ∧ i = 1
abbrev nuBad (B : Int → Int) (z k i p : Int) : Prop := 2 < nuQ B z p - nuP B z p ∨ ¬ suF k i (nuV B z p)
abbrev dyBad (B : Int → Int) (z k i p : Int) (g : Int → Int) : Prop := k = 5 ∧ i = 3 ∧ nuV B z p < g 2
/-- one number of a clause (it may be an axis): its fault, where, the place behind, its value -/
def rdFt (B : Int → Int) (z k i p : Int) (g : Int → Int) : Int := if axPl k i then (if axF B z p = -1 then 1 else 0) else if nuQ B z p = nuP B z p then 1 else if nuBad B z k i p then 2 else if dyBad B z k i p g then 2 else 0
def rdAt (B : Int → Int) (z k i p : Int) : Int := if axPl k i then p else if nuQ B z p = nuP B z p then nuP B z p else p
def rdPl (B : Int → Int) (z k i p : Int) : Int := if axPl k i then p + 1 else nuQ B z p
def rdVl (B : Int → Int) (z k i p : Int) : Int := if axPl k i then axF B z p else nuV B z p
theorem btF_lt {B : Int → Int} {z p : Int} (h : ¬ btF B z p = -1) : 0 ≤ p ∧ p < z := by
  unfold btF at h
  by_cases q : 0 ≤ p ∧ p < z
  · exact q
  · rw [if_neg q] at h
    exact absurd rfl h
theorem nuP_b {B : Int → Int} {z p : Int} (h : 0 ≤ p ∧ p ≤ z) : p ≤ nuP B z p ∧ nuP B z p ≤ p + 1 ∧ nuP B z p ≤ z := by
  unfold nuP b01
  split
  · next e =>
    have := btF_lt (B := B) (z := z) (p := p) (by omega)
    omega
  · omega
theorem nuQ_b {B : Int → Int} {z p : Int} (h : 0 ≤ p ∧ p ≤ z) : nuP B z p ≤ nuQ B z p ∧ nuQ B z p ≤ z := by
  have h1 := nuP_b (B := B) h
  have := runE_b isFg B z (nuP B z p)
  unfold nuQ
  omega
theorem runE_at {P : Int → Bool} {B : Int → Int} {z p : Int} : ∀ (k : Nat) {j : Int}, p ≤ j → j < runP P B z k p → P (B j) = true
  | 0, j, h0, h1 => by simp only [runP] at h1; omega
  | k + 1, j, h0, h1 => by
    simp only [runP] at h1
    by_cases q : P (B p) = true
    · rw [if_pos q] at h1
      by_cases e : j = p
      · rw [e]; exact q
      · exact runE_at k (p := p + 1) (by omega) h1
    · rw [if_neg q] at h1
      omega
theorem dgF_b {B : Int → Int} {z p : Int} : 0 ≤ dgF B p (runE isFg B z p) ∧ dgF B p (runE isFg B z p) ≤ 99 := by
  unfold dgF
  split
  · omega
  · have h0 := runE_at (P := isFg) (B := B) (z := z) (p := p) (z - p).toNat (j := p) (Int.le_refl p) (by unfold runE at *; omega)
    have h0' := of_decide_eq_true h0
    split
    · omega
    · have h1 := runE_at (P := isFg) (B := B) (z := z) (p := p) (z - p).toNat (j := p + 1) (by omega) (by unfold runE at *; have := runP_b isFg B z (z - p).toNat p; omega)
      have h1' := of_decide_eq_true h1
      omega
theorem nuV_b (B : Int → Int) (z p : Int) : -99 ≤ nuV B z p ∧ nuV B z p ≤ 99 := by
  have := dgF_b (B := B) (z := z) (p := nuP B z p)
  unfold nuV nuQ
  split <;> omega
theorem c_X10_size {G : GT} {S : Shp} {σ : Sto} {a : Nat} (hA : IsTxt S a) : PMet G mX10_size 0 0 0 [.ref a] S σ (isP (some (.int (iI (σ a 2)))) S (σ)) := by
  obtain ⟨hA0, hA1, hA2⟩ := id hA
  refine PMet.of [(0, .ref a)] (by decide +kernel) rfl (Nat.le_of_ble_eq_true rfl) ?_
  refine PW.aload_n dX10_size_0 rfl ?_
  refine PW.getI 2 fl_X10_20 rfl (by assumption) rfl rfl dX10_size_1 ?_
  exact PW.iret rfl rfl dX10_size_4 ⟨rfl, rfl, rfl⟩
theorem c_X10_faultAt {G : GT} {S : Shp} {σ : Sto} {a : Nat} (hA : IsTxt S a) : PMet G mX10_faultAt 0 0 0 [.ref a] S σ (isP (some (.int (iI (σ a 4)))) S (σ)) := by
  obtain ⟨hA0, hA1, hA2⟩ := id hA
  refine PMet.of [(0, .ref a)] (by decide +kernel) rfl (Nat.le_of_ble_eq_true rfl) ?_
  refine PW.aload_n dX10_faultAt_0 rfl ?_
  refine PW.getI 4 fl_X10_27 rfl (by assumption) rfl rfl dX10_faultAt_1 ?_
  exact PW.iret rfl rfl dX10_faultAt_4 ⟨rfl, rfl, rfl⟩
theorem c_X10_empty {G : GT} {S : Shp} {σ : Sto} {a : Nat} (hA : IsTxt S a) : PMet G mX10_empty 0 0 0 [.ref a] S σ (isP none S (upS σ a (up1 (σ a) 2 0))) := by
  obtain ⟨hA0, hA1, hA2⟩ := id hA
  refine PMet.of [(0, .ref a)] (by decide +kernel) rfl (Nat.le_of_ble_eq_true rfl) ?_
  refine PW.aload_n dX10_empty_0 rfl ?_
  refine PW.iconst dX10_empty_1 ?_
  refine PW.putI 2 fl_X10_20 rfl (fun h => absurd h (by decide)) (by assumption) rfl rfl rfl rfl dX10_empty_2 ?_
  exact PW.vret rfl dX10_empty_5 (⟨rfl, rfl, rfl⟩)
theorem c_X10_add {G : GT} {S : Shp} {σ : Sto} {a : Nat} {v : Int} (hA : IsTxt S a) (hz : 0 ≤ σ a 2 ∧ σ a 2 ≤ 299) : PMet G mX10_add 1 0 0 [.ref a, .int (iI (v))] S σ (isP none S (upS (upS σ (a + 1) (up1 (σ (a + 1)) (σ a 2) v)) a (up1 (σ a) 2 (σ a 2 + 1)))) := by
  obtain ⟨hA0, hA1, hA2⟩ := id hA
  refine PMet.of [(0, .ref a), (1, .int (iI (v)))] (by decide +kernel) rfl (Nat.le_of_ble_eq_true rfl) ?_
  refine PW.aload_n dX10_add_0 rfl ?_
  refine PW.getI 2 fl_X10_20 rfl (by assumption) rfl rfl dX10_add_1 ?_
  refine PW.sipush (by decide) dX10_add_4 ?_
  refine PW.icmp_lt 11 dX10_add_7 (by decide) (by first | assumption | (unfold inR; omega)) (by first | assumption | (unfold inR; omega)) (fun h7 => ?_) (fun h7 => ?_)
  · refine PW.aload_n dX10_add_11 rfl ?_
    refine PW.getR fl_X10_9 rfl (by assumption) rfl dX10_add_12 ?_
    refine PW.aload_n dX10_add_15 rfl ?_
    refine PW.getI 2 fl_X10_20 rfl (by assumption) rfl rfl dX10_add_16 ?_
    refine PW.iload_n dX10_add_19 rfl ?_
    refine PW.callSv (c_X11_put (by assumption) (by first | assumption | (unfold inR; omega)) (by decide)) cs_X11_put lk_X10_33 dX10_add_20 rfl rfl rfl ?_
    refine PW.st (upS σ (a + 1) (up1 (σ (a + 1)) (σ a 2) v)) (by rw [if_pos (by omega)]) ?_
    refine PW.aload_n dX10_add_23 rfl ?_
    refine PW.dup rfl dX10_add_24 ?_
    refine PW.getI 2 fl_X10_20 rfl (by assumption) rfl rfl dX10_add_25 ?_
    refine PW.top (σ a 2) (by rw [upS_ne (by omega)]) ?_
    refine PW.iconst dX10_add_28 ?_
    refine PW.iadd dX10_add_29 ?_
    refine PW.putI 2 fl_X10_20 rfl (fun h => absurd h (by decide)) (by assumption) rfl rfl rfl rfl dX10_add_30 ?_
    exact PW.vret rfl dX10_add_33 (⟨rfl, rfl, by rw [upS_ne (show a ≠ a + 1 by omega)]⟩)
  · exfalso; omega
theorem c_X10_isLetter {G : GT} {S : Shp} {σ : Sto} {v : Int} (rv : inR v) : PMet G mX10_isLetter 0 0 0 [.int (iI (v))] S σ (isP (some (.int (iI (b01 (97 ≤ v ∧ v ≤ 122))))) S σ) := by
  refine PMet.of [(0, .int (iI (v)))] (by decide +kernel) rfl (Nat.le_of_ble_eq_true rfl) ?_
  refine PW.iload_n dX10_isLetter_0 rfl ?_
  refine PW.bipush (by decide) dX10_isLetter_1 ?_
  refine PW.icmp_lt 16 dX10_isLetter_3 (by decide) (by first | assumption | (unfold inR; omega)) (by first | assumption | (unfold inR; omega)) (fun h3 => ?_) (fun h3 => ?_)
  · refine PW.iconst dX10_isLetter_16 ?_
    exact PW.iret rfl (by first | rfl | exact narB _) dX10_isLetter_17 ⟨ret_eq (by unfold b01; first | (exfalso; omega) | rw [if_pos (by omega)] | rw [if_neg (by omega)]), rfl, rfl⟩
  · refine PW.iload_n dX10_isLetter_6 rfl ?_
    refine PW.bipush (by decide) dX10_isLetter_7 ?_
    refine PW.icmp_gt 16 dX10_isLetter_9 (by decide) (by first | assumption | (unfold inR; omega)) (by first | assumption | (unfold inR; omega)) (fun h9 => ?_) (fun h9 => ?_)
    · refine PW.iconst dX10_isLetter_16 ?_
      exact PW.iret rfl (by first | rfl | exact narB _) dX10_isLetter_17 ⟨ret_eq (by unfold b01; first | (exfalso; omega) | rw [if_pos (by omega)] | rw [if_neg (by omega)]), rfl, rfl⟩
    · refine PW.iconst dX10_isLetter_12 ?_
      refine PW.goto 17 dX10_isLetter_13 (by decide) ?_
      exact PW.iret rfl (by first | rfl | exact narB _) dX10_isLetter_17 ⟨ret_eq (by unfold b01; first | (exfalso; omega) | rw [if_pos (by omega)] | rw [if_neg (by omega)]), rfl, rfl⟩
theorem c_X10_isFigure {G : GT} {S : Shp} {σ : Sto} {v : Int} (rv : inR v) : PMet G mX10_isFigure 0 0 0 [.int (iI (v))] S σ (isP (some (.int (iI (b01 (48 ≤ v ∧ v ≤ 57))))) S σ) := by
  refine PMet.of [(0, .int (iI (v)))] (by decide +kernel) rfl (Nat.le_of_ble_eq_true rfl) ?_
  refine PW.iload_n dX10_isFigure_0 rfl ?_
  refine PW.bipush (by decide) dX10_isFigure_1 ?_
  refine PW.icmp_lt 16 dX10_isFigure_3 (by decide) (by first | assumption | (unfold inR; omega)) (by first | assumption | (unfold inR; omega)) (fun h3 => ?_) (fun h3 => ?_)
  · refine PW.iconst dX10_isFigure_16 ?_
    exact PW.iret rfl (by first | rfl | exact narB _) dX10_isFigure_17 ⟨ret_eq (by unfold b01; first | (exfalso; omega) | rw [if_pos (by omega)] | rw [if_neg (by omega)]), rfl, rfl⟩
  · refine PW.iload_n dX10_isFigure_6 rfl ?_
    refine PW.bipush (by decide) dX10_isFigure_7 ?_
    refine PW.icmp_gt 16 dX10_isFigure_9 (by decide) (by first | assumption | (unfold inR; omega)) (by first | assumption | (unfold inR; omega)) (fun h9 => ?_) (fun h9 => ?_)
    · refine PW.iconst dX10_isFigure_16 ?_
      exact PW.iret rfl (by first | rfl | exact narB _) dX10_isFigure_17 ⟨ret_eq (by unfold b01; first | (exfalso; omega) | rw [if_pos (by omega)] | rw [if_neg (by omega)]), rfl, rfl⟩
    · refine PW.iconst dX10_isFigure_12 ?_
      refine PW.goto 17 dX10_isFigure_13 (by decide) ?_
      exact PW.iret rfl (by first | rfl | exact narB _) dX10_isFigure_17 ⟨ret_eq (by unfold b01; first | (exfalso; omega) | rw [if_pos (by omega)] | rw [if_neg (by omega)]), rfl, rfl⟩
theorem c_X10_byteAt {G : GT} {S : Shp} {σ : Sto} {a : Nat} {i : Int} (hA : IsTxt S a) (hb : bsOk (σ (a + 1)) (σ a 2)) (ri : inR i) : PMet G mX10_byteAt 1 0 0 [.ref a, .int (iI (i))] S σ (isP (some (.int (iI (btF (σ (a + 1)) (σ a 2) i)))) S (σ)) := by
  obtain ⟨hA0, hA1, hA2⟩ := id hA
  have hz := hb.1
  refine PMet.of [(0, .ref a), (1, .int (iI (i)))] (by decide +kernel) rfl (Nat.le_of_ble_eq_true rfl) ?_
  refine PW.iload_n dX10_byteAt_0 rfl ?_
  refine PW.aload_n dX10_byteAt_1 rfl ?_
  refine PW.getI 2 fl_X10_20 rfl (by assumption) rfl rfl dX10_byteAt_2 ?_
  refine PW.callSr (c_X11_isBelow (by first | assumption | (unfold inR; omega)) (by first | assumption | (unfold inR; omega))) cs_X11_isBelow lk_X10_118 dX10_byteAt_5 rfl rfl rfl ?_
  refine PW.if_eqB 22 dX10_byteAt_8 (by decide) (fun h8 => ?_) (fun h8 => ?_)
  · refine PW.iconst dX10_byteAt_22 ?_
    exact PW.iret rfl rfl dX10_byteAt_23 ⟨ret_eq (by unfold btF; first | (rw [if_pos (by assumption)]; unfold gI; rw [if_pos (by omega)]) | rw [if_neg (by assumption)]), rfl, rfl⟩
  · refine PW.aload_n dX10_byteAt_11 rfl ?_
    refine PW.getR fl_X10_9 rfl (by assumption) rfl dX10_byteAt_12 ?_
    refine PW.iload_n dX10_byteAt_15 rfl ?_
    refine PW.callSr (c_X11_get (by assumption) (by first | assumption | (unfold inR; omega)) (by decide)) cs_X11_get lk_X10_88 dX10_byteAt_16 rfl rfl rfl ?_
    refine PW.goto 23 dX10_byteAt_19 (by decide) ?_
    exact PW.iret rfl rfl dX10_byteAt_23 ⟨ret_eq (by unfold btF; first | (rw [if_pos (by assumption)]; unfold gI; rw [if_pos (by omega)]) | rw [if_neg (by assumption)]), rfl, rfl⟩
theorem skip_loop {G : GT} {S : Shp} {σ : Sto} {a : Nat} {Q : Option Value → Shp → Sto → Prop} (hA : IsTxt S a) (hb : bsOk (σ (a + 1)) (σ a 2)) (hQ : Q none S (upS σ a (up1 (σ a) 3 (skE (σ (a + 1)) (σ a 2) (σ a 3))))) : ∀ (t : Nat) (i : Int), 0 ≤ i → i ≤ σ a 2 → σ a 2 + 1 - i < t → skE (σ (a + 1)) (σ a 2) i = skE (σ (a + 1)) (σ a 2) (σ a 3) → PW (fm G mX10_skipBlanks 2 0 0 Q) G S (upS σ a (up1 (σ a) 3 (i))) 0 0 0 [(0, .ref a)] [] := by
  obtain ⟨hA0, hA1, hA2⟩ := id hA
  have hz := hb.1
  intro t
  induction t with
  | zero => intro i h1 h2 h3 g1; omega
  | succ t ih =>
    intro i h1 h2 h3 g1
    have e0 : (upS σ a (up1 (σ a) 3 (i))) a 2 = σ a 2 := by rw [upS_same, up1_ne (by decide)]
    have e1 : (upS σ a (up1 (σ a) 3 (i))) (a + 1) = σ (a + 1) := upS_ne (by omega)
    have e3 : (upS σ a (up1 (σ a) 3 (i))) a 3 = i := by rw [upS_same, up1_same]
    have bb := btF_b hb i
    have er := runE_s isBl (σ (a + 1)) (σ a 2) i
    refine PW.aload_n dX10_skipBlanks_0 rfl ?_
    refine PW.getI 3 fl_X10_24 rfl (by assumption) rfl rfl dX10_skipBlanks_1 ?_
    refine PW.top i e3 ?_
    refine PW.aload_n dX10_skipBlanks_4 rfl ?_
    refine PW.getI 2 fl_X10_20 rfl (by assumption) rfl rfl dX10_skipBlanks_5 ?_
    refine PW.top (σ a 2) e0 ?_
    refine PW.icmp_ge 37 dX10_skipBlanks_8 (by decide) (by first | assumption | (unfold inR; omega)) (by first | assumption | (unfold inR; omega)) (fun h8 => ?_) (fun h8 => ?_)
    · have hn : ¬ (i < σ a 2 ∧ isBl (σ (a + 1) i) = true) := fun q => by
        have q2 := of_decide_eq_true q.2
        have q3 : btF (σ (a + 1)) (σ a 2) i = 32 := by unfold btF; rw [if_pos (by omega)]; exact q2
        first
          | omega
          | exact absurd q3 (by assumption)
      rw [if_neg hn] at er
      have e : skE (σ (a + 1)) (σ a 2) i = i := er
      rw [← g1, e] at hQ
      exact PW.vret rfl dX10_skipBlanks_37 hQ
    · refine PW.aload_n dX10_skipBlanks_11 rfl ?_
      refine PW.aload_n dX10_skipBlanks_12 rfl ?_
      refine PW.getI 3 fl_X10_24 rfl (by assumption) rfl rfl dX10_skipBlanks_13 ?_
      refine PW.top i e3 ?_
      refine PW.callVr (c_X10_byteAt hA (by rw [e1, e0]; exact hb) (by unfold inR; omega)) cv_X10_byteAt lk_X10_85 (by first | assumption | exact And.left (by assumption)) dX10_skipBlanks_16 rfl rfl rfl rfl ?_
      refine PW.top (btF (σ (a + 1)) (σ a 2) i) (by rw [e1, e0]) ?_
      refine PW.bipush (by decide) dX10_skipBlanks_19 ?_
      refine PW.icmp_ne 37 dX10_skipBlanks_21 (by decide) (by first | assumption | (unfold inR; omega)) (by first | assumption | (unfold inR; omega)) (fun h21 => ?_) (fun h21 => ?_)
      · have hn : ¬ (i < σ a 2 ∧ isBl (σ (a + 1) i) = true) := fun q => by
          have q2 := of_decide_eq_true q.2
          have q3 : btF (σ (a + 1)) (σ a 2) i = 32 := by unfold btF; rw [if_pos (by omega)]; exact q2
          first
            | omega
            | exact absurd q3 (by assumption)
        rw [if_neg hn] at er
        have e : skE (σ (a + 1)) (σ a 2) i = i := er
        rw [← g1, e] at hQ
        exact PW.vret rfl dX10_skipBlanks_37 hQ
      · refine PW.aload_n dX10_skipBlanks_24 rfl ?_
        refine PW.dup rfl dX10_skipBlanks_25 ?_
        refine PW.getI 3 fl_X10_24 rfl (by assumption) rfl rfl dX10_skipBlanks_26 ?_
        refine PW.top i e3 ?_
        refine PW.iconst dX10_skipBlanks_29 ?_
        refine PW.iadd dX10_skipBlanks_30 ?_
        refine PW.putI 3 fl_X10_24 rfl (fun h => absurd h (by decide)) (by assumption) rfl rfl rfl rfl dX10_skipBlanks_31 ?_
        refine PW.st (upS σ a (up1 (σ a) 3 (i + 1))) (by rw [upS_upS, upS_same, up1_up1]) ?_
        refine PW.goto 0 dX10_skipBlanks_34 (by decide) ?_
        have hB : σ (a + 1) i = 32 := by
          have q : btF (σ (a + 1)) (σ a 2) i = 32 := by assumption
          unfold btF at q
          rw [if_pos (by omega)] at q
          exact q
        rw [if_pos ⟨by omega, decide_eq_true hB⟩] at er
        exact ih (i + 1) (by omega) (by omega) (by omega) (by rw [← g1]; exact er.symm)
theorem c_X10_skipBlanks {G : GT} {S : Shp} {σ : Sto} {a : Nat} (hA : IsTxt S a) (hb : bsOk (σ (a + 1)) (σ a 2)) (hp : 0 ≤ σ a 3 ∧ σ a 3 ≤ σ a 2) : PMet G mX10_skipBlanks 2 0 0 [.ref a] S σ (isP none S (upS σ a (up1 (σ a) 3 (skE (σ (a + 1)) (σ a 2) (σ a 3))))) := by
  refine PMet.of [(0, .ref a)] (by decide +kernel) rfl (Nat.le_of_ble_eq_true rfl) ?_
  refine PW.st (upS σ a (up1 (σ a) 3 (σ a 3))) (by rw [up1_self, upS_self]) ?_
  have hz := hb.1
  exact skip_loop hA hb ⟨rfl, rfl, rfl⟩ 302 _ (by omega) (by omega) (by omega) rfl
theorem word_loop {G : GT} {S : Shp} {σ : Sto} {a k0 : Nat} {Q : Option Value → Shp → Sto → Prop} (hk : k0 < 8) (hA : IsTxt S a) (hb : bsOk (σ (a + 1)) (σ a 2)) (hp : 0 ≤ σ a 3 ∧ σ a 3 ≤ 1000) (hQ : Q (some (.int (iI (b01 (whP (σ (a + 1)) (σ a 2) k0 (σ a 3)))))) S σ) : ∀ (t : Nat) (i : Int), 0 ≤ i → i ≤ lenF k0 → lenF k0 - i < t → (∀ j, 0 ≤ j → j < i → (whB (σ (a + 1)) (σ a 2) k0 (σ a 3)) j = false) → PW (fm G mX10_isWordHere 5 0 0 Q) G S (σ) 0 0 2 [(0, .ref a), (1, .ref (1000004 + k0)), (2, .int (iI (i)))] [] := by
  obtain ⟨hA0, hA1, hA2⟩ := id hA
  have hz := hb.1
  have lb := lenF_b hk
  intro t
  induction t with
  | zero => intro i h1 h2 h3 g1; omega
  | succ t ih =>
    intro i h1 h2 h3 g1
    have bb := btF_b hb (σ a 3 + i)
    have bb2 := btF_b hb (σ a 3 + lenF k0)
    refine PW.iload_n dX10_isWordHere_2 rfl ?_
    refine PW.aload_n dX10_isWordHere_3 rfl ?_
    refine PW.callVXr k0 hk (c_J0_length hk) cv_J0_length_8abf5 lk_X10_63 dX10_isWordHere_4 rfl rfl rfl rfl ?_
    refine PW.icmp_ge 36 dX10_isWordHere_7 (by decide) (by first | assumption | (unfold inR; omega)) (by first | assumption | (unfold inR; omega)) (fun h7 => ?_) (fun h7 => ?_)
    · have hi : i = lenF k0 := by omega
      subst hi
      refine PW.aload_n dX10_isWordHere_36 rfl ?_
      refine PW.aload_n dX10_isWordHere_37 rfl ?_
      refine PW.getI 3 fl_X10_24 rfl (by assumption) rfl rfl dX10_isWordHere_38 ?_
      refine PW.aload_n dX10_isWordHere_41 rfl ?_
      refine PW.callVXr k0 hk (c_J0_length hk) cv_J0_length_8abf5 lk_X10_63 dX10_isWordHere_42 rfl rfl rfl rfl ?_
      refine PW.iadd dX10_isWordHere_45 ?_
      refine PW.callVr (c_X10_byteAt hA hb (by unfold inR; omega)) cv_X10_byteAt lk_X10_85 (by first | assumption | exact And.left (by assumption)) dX10_isWordHere_46 rfl rfl rfl rfl ?_
      refine PW.callSr (c_X10_isLetter (by first | assumption | (unfold inR; omega))) cs_X10_isLetter lk_X10_115 dX10_isWordHere_49 rfl rfl rfl ?_
      refine PW.if_neB 59 dX10_isWordHere_52 (by decide) (fun h52 => ?_) (fun h52 => ?_)
      · refine PW.iconst dX10_isWordHere_59 ?_
        first
          | (rw [b01_t (show whP (σ (a + 1)) (σ a 2) k0 (σ a 3) from ⟨firI_none (fun j q1 q2 => g1 j q1 (by omega)), by assumption⟩)] at hQ
             exact PW.iret rfl rfl dX10_isWordHere_60 hQ)
          | (rw [b01_f (fun q : whP (σ (a + 1)) (σ a 2) k0 (σ a 3) => q.2 (by assumption))] at hQ
             exact PW.iret rfl rfl dX10_isWordHere_60 hQ)
      · refine PW.iconst dX10_isWordHere_55 ?_
        refine PW.goto 60 dX10_isWordHere_56 (by decide) ?_
        first
          | (rw [b01_t (show whP (σ (a + 1)) (σ a 2) k0 (σ a 3) from ⟨firI_none (fun j q1 q2 => g1 j q1 (by omega)), by assumption⟩)] at hQ
             exact PW.iret rfl rfl dX10_isWordHere_60 hQ)
          | (rw [b01_f (fun q : whP (σ (a + 1)) (σ a 2) k0 (σ a 3) => q.2 (by assumption))] at hQ
             exact PW.iret rfl rfl dX10_isWordHere_60 hQ)
    · refine PW.aload_n dX10_isWordHere_10 rfl ?_
      refine PW.aload_n dX10_isWordHere_11 rfl ?_
      refine PW.getI 3 fl_X10_24 rfl (by assumption) rfl rfl dX10_isWordHere_12 ?_
      refine PW.iload_n dX10_isWordHere_15 rfl ?_
      refine PW.iadd dX10_isWordHere_16 ?_
      refine PW.callVr (c_X10_byteAt hA hb (by unfold inR; omega)) cv_X10_byteAt lk_X10_85 (by first | assumption | exact And.left (by assumption)) dX10_isWordHere_17 rfl rfl rfl rfl ?_
      refine PW.aload_n dX10_isWordHere_20 rfl ?_
      refine PW.iload_n dX10_isWordHere_21 rfl ?_
      refine PW.callVXr k0 hk (c_J0_charAt hk ⟨h1, by omega⟩) cv_J0_charAt_5068e lk_X10_111 dX10_isWordHere_22 rfl rfl rfl rfl ?_
      have cb := chrF_b hk h1 (by omega)
      refine PW.icmp_eq 30 dX10_isWordHere_25 (by decide) (by first | assumption | (unfold inR; omega)) (by first | assumption | (unfold inR; omega)) (fun h25 => ?_) (fun h25 => ?_)
      · refine PW.iinc [(0, _), (1, _), (2, _)] dX10_isWordHere_30 rfl rfl (Nat.le_of_ble_eq_true rfl) ?_
        refine PW.goto 2 dX10_isWordHere_33 (by decide) ?_
        refine ih (i + 1) (by omega) (by omega) (by omega) (fun j q1 q2 => ?_)
        by_cases hj : j = i
        · subst hj
          exact decide_eq_false (fun q => q (by assumption))
        · exact g1 j q1 (by omega)
      · refine PW.iconst dX10_isWordHere_28 ?_
        refine PW.iret rfl rfl dX10_isWordHere_29 ?_
        have e : firI (whB (σ (a + 1)) (σ a 2) k0 (σ a 3)) (lenF k0).toNat = i := firI_hit h1 (decide_eq_true (by assumption)) g1 (by omega)
        rw [b01_f (fun q : whP (σ (a + 1)) (σ a 2) k0 (σ a 3) => by have q1 := q.1; rw [e] at q1; omega)] at hQ
        exact hQ
theorem c_X10_isWordHere {G : GT} {S : Shp} {σ : Sto} {a k0 : Nat} (hk : k0 < 8) (hA : IsTxt S a) (hb : bsOk (σ (a + 1)) (σ a 2)) (hp : 0 ≤ σ a 3 ∧ σ a 3 ≤ 1000) : PMet G mX10_isWordHere 5 0 0 [.ref a, .ref (1000004 + k0)] S σ (isP (some (.int (iI (b01 (whP (σ (a + 1)) (σ a 2) k0 (σ a 3)))))) S σ) := by
  have lb := lenF_b hk
  refine PMet.of [(0, .ref a), (1, .ref (1000004 + k0))] (by decide +kernel) rfl (Nat.le_of_ble_eq_true rfl) ?_
  refine PW.iconst dX10_isWordHere_0 ?_
  refine PW.istore_n [(0, _), (1, _), (2, _)] dX10_isWordHere_1 rfl (Nat.le_of_ble_eq_true rfl) ?_
  exact word_loop hk hA hb hp ⟨rfl, rfl, rfl⟩ 6 0 (by omega) (by omega) (by omega) (fun j q1 q2 => by omega)
theorem c_X5_word {G : GT} {S : Shp} {σ : Sto} {k : Int} (hk : 0 ≤ k ∧ k ≤ 5) : PMet G mX5_word 0 0 0 [.int (iI k)] S σ (isP (some (.ref (1000004 + k.toNat))) S σ) := by
  refine PMet.of [(0, .int (iI (k)))] (by decide +kernel) rfl (Nat.le_of_ble_eq_true rfl) ?_
  refine PW.iload_n dX5_word_0 rfl ?_
  rcases (show k = 0 ∨ k = 1 ∨ k = 2 ∨ k = 3 ∨ k = 4 ∨ k = 5 by omega) with h1 | h1 | h1 | h1 | h1 | h1
  · refine PW.tsIn (35) 36 (by first | assumption | (unfold inR; omega)) dX5_word_1 (by omega) (by omega) (by rw [h1]; rfl) (by decide) ?_
    subst h1
    refine PW.ldcX 0 (by decide) rfl rfl dX5_word_36 ?_
    exact PW.aret rfl dX5_word_38 ⟨rfl, rfl, rfl⟩
  · refine PW.tsIn (38) 39 (by first | assumption | (unfold inR; omega)) dX5_word_1 (by omega) (by omega) (by rw [h1]; rfl) (by decide) ?_
    subst h1
    refine PW.ldcX 1 (by decide) rfl rfl dX5_word_39 ?_
    exact PW.aret rfl dX5_word_41 ⟨rfl, rfl, rfl⟩
  · refine PW.tsIn (41) 42 (by first | assumption | (unfold inR; omega)) dX5_word_1 (by omega) (by omega) (by rw [h1]; rfl) (by decide) ?_
    subst h1
    refine PW.ldcX 2 (by decide) rfl rfl dX5_word_42 ?_
    exact PW.aret rfl dX5_word_44 ⟨rfl, rfl, rfl⟩
  · refine PW.tsIn (44) 45 (by first | assumption | (unfold inR; omega)) dX5_word_1 (by omega) (by omega) (by rw [h1]; rfl) (by decide) ?_
    subst h1
    refine PW.ldcX 3 (by decide) rfl rfl dX5_word_45 ?_
    exact PW.aret rfl dX5_word_47 ⟨rfl, rfl, rfl⟩
  · refine PW.tsIn (47) 48 (by first | assumption | (unfold inR; omega)) dX5_word_1 (by omega) (by omega) (by rw [h1]; rfl) (by decide) ?_
    subst h1
    refine PW.ldcX 4 (by decide) rfl rfl dX5_word_48 ?_
    exact PW.aret rfl dX5_word_50 ⟨rfl, rfl, rfl⟩
  · refine PW.tsOut 51 (by first | assumption | (unfold inR; omega)) dX5_word_1 (by omega) (by decide) ?_
    subst h1
    refine PW.ldcX 5 (by decide) rfl rfl dX5_word_51 ?_
    exact PW.aret rfl dX5_word_53 ⟨rfl, rfl, rfl⟩
theorem kind_loop {G : GT} {S : Shp} {σ : Sto} {a : Nat} {Q : Option Value → Shp → Sto → Prop} (hA : IsTxt S a) (hb : bsOk (σ (a + 1)) (σ a 2)) (hp : 0 ≤ σ a 3 ∧ σ a 3 ≤ 1000) (hQ : Q (some (.int (iI (kdF (σ (a + 1)) (σ a 2) (σ a 3))))) S σ) : ∀ (t : Nat) (i : Int), 0 ≤ i → i ≤ 6 → 6 - i < t → (∀ j, 0 ≤ j → j < i → (fun k => decide (whP (σ (a + 1)) (σ a 2) k.toNat (σ a 3))) j = false) → PW (fm G mX10_kindHere 6 0 0 Q) G S (σ) 0 0 2 [(0, .ref a), (1, .int (iI (i)))] [] := by
  obtain ⟨hA0, hA1, hA2⟩ := id hA
  intro t
  induction t with
  | zero => intro i h1 h2 h3 g1; omega
  | succ t ih =>
    intro i h1 h2 h3 g1
    refine PW.iload_n dX10_kindHere_2 rfl ?_
    refine PW.bipush (by decide) dX10_kindHere_3 ?_
    refine PW.icmp_ge 27 dX10_kindHere_5 (by decide) (by first | assumption | (unfold inR; omega)) (by first | assumption | (unfold inR; omega)) (fun h5 => ?_) (fun h5 => ?_)
    · refine PW.iconst dX10_kindHere_27 ?_
      refine PW.iret rfl rfl dX10_kindHere_28 ?_
      have e : kdF (σ (a + 1)) (σ a 2) (σ a 3) = -1 := firI_none (fun j q1 q2 => g1 j q1 (by omega))
      rw [e] at hQ
      exact hQ
    · refine PW.aload_n dX10_kindHere_8 rfl ?_
      refine PW.iload_n dX10_kindHere_9 rfl ?_
      refine PW.callSr (c_X5_word (by omega)) cs_X5_word lk_X10_59 dX10_kindHere_10 rfl rfl rfl ?_
      refine PW.callVr (c_X10_isWordHere (k0 := i.toNat) (by omega) hA hb hp) cv_X10_isWordHere lk_X10_98 (by first | assumption | exact And.left (by assumption)) dX10_kindHere_13 rfl rfl rfl rfl ?_
      refine PW.if_eqB 21 dX10_kindHere_16 (by decide) (fun h16 => ?_) (fun h16 => ?_)
      · refine PW.iinc [(0, _), (1, _)] dX10_kindHere_21 rfl rfl (Nat.le_of_ble_eq_true rfl) ?_
        refine PW.goto 2 dX10_kindHere_24 (by decide) ?_
        refine ih (i + 1) (by omega) (by omega) (by omega) (fun j q1 q2 => ?_)
        by_cases hj : j = i
        · subst hj
          exact decide_eq_false (by assumption)
        · exact g1 j q1 (by omega)
      · refine PW.iload_n dX10_kindHere_19 rfl ?_
        refine PW.iret rfl rfl dX10_kindHere_20 ?_
        have e : kdF (σ (a + 1)) (σ a 2) (σ a 3) = i := firI_hit h1 (decide_eq_true (by assumption)) g1 (by omega)
        rw [e] at hQ
        exact hQ
theorem c_X10_kindHere {G : GT} {S : Shp} {σ : Sto} {a : Nat} (hA : IsTxt S a) (hb : bsOk (σ (a + 1)) (σ a 2)) (hp : 0 ≤ σ a 3 ∧ σ a 3 ≤ 1000) : PMet G mX10_kindHere 6 0 0 [.ref a] S σ (isP (some (.int (iI (kdF (σ (a + 1)) (σ a 2) (σ a 3))))) S σ) := by
  refine PMet.of [(0, .ref a)] (by decide +kernel) rfl (Nat.le_of_ble_eq_true rfl) ?_
  refine PW.iconst dX10_kindHere_0 ?_
  refine PW.istore_n [(0, _), (1, _)] dX10_kindHere_1 rfl (Nat.le_of_ble_eq_true rfl) ?_
  exact kind_loop hA hb hp ⟨rfl, rfl, rfl⟩ 7 0 (by omega) (by omega) (by omega) (fun j q1 q2 => by omega)
theorem c_X10_refuse {G : GT} {S : Shp} {σ : Sto} {a : Nat} {u v : Int} (hA : IsTxt S a) : PMet G mX10_refuse 0 0 0 [.ref a, .int (iI (u)), .int (iI (v))] S σ (isP (some (.int (iI (b01 False)))) S (upS σ a (up1 (up1 (σ a) 5 (u)) 4 (v)))) := by
  obtain ⟨hA0, hA1, hA2⟩ := id hA
  refine PMet.of [(0, .ref a), (1, .int (iI (u))), (2, .int (iI (v)))] (by decide +kernel) rfl (Nat.le_of_ble_eq_true rfl) ?_
  refine PW.aload_n dX10_refuse_0 rfl ?_
  refine PW.iload_n dX10_refuse_1 rfl ?_
  refine PW.putI 5 fl_X10_30 rfl (fun h => absurd h (by decide)) (by assumption) rfl rfl rfl rfl dX10_refuse_2 ?_
  refine PW.aload_n dX10_refuse_5 rfl ?_
  refine PW.iload_n dX10_refuse_6 rfl ?_
  refine PW.putI 4 fl_X10_27 rfl (fun h => absurd h (by decide)) (by assumption) rfl rfl rfl rfl dX10_refuse_7 ?_
  refine PW.iconst dX10_refuse_10 ?_
  exact PW.iret rfl rfl dX10_refuse_11 ⟨rfl, rfl, by rw [upS_upS, upS_same]⟩

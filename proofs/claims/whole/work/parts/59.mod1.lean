/-- a column of a land of the model -/
def clV (C : Int → Int) (L c : Int) : Int → Int := fun i => C (5120 * L + 80 * c + i)
def cOk (C : Int → Int) (N : Int) : Prop := ∀ j, 0 ≤ j → j < N → -1 ≤ C j ∧ C j ≤ 15
def gtV (C : Int → Int) (L c z : Int) : Int := if z < -40 then 15 else if 39 < z then -1 else C (5120 * L + 80 * c + z + 40)
theorem gtV_in {C : Int → Int} {L c z : Int} (h : -40 ≤ z ∧ z ≤ 39) : gtV C L c z = clV C L c (z + 40) := by
  unfold gtV clV
  rw [if_neg (by omega), if_neg (by omega)]
  congr 1
  omega
theorem cOk_at {C : Int → Int} (h : cOk C 15360) {L c i : Int} (hL : 0 ≤ L ∧ L ≤ 2) (hc : 0 ≤ c ∧ c ≤ 63) (hi : 0 ≤ i ∧ i < 80) : -1 ≤ clV C L c i ∧ clV C L c i ≤ 15 := h _ (by omega) (by omega)
theorem clV_ok {C : Int → Int} (h : cOk C 15360) {L c : Int} (hL : 0 ≤ L ∧ L ≤ 2) (hc : 0 ≤ c ∧ c ≤ 63) : colOk (clV C L c) := fun i i0 i1 => cOk_at h hL hc ⟨i0, i1⟩
theorem gtV_b {C : Int → Int} (h : cOk C 15360) {L c z : Int} (hL : 0 ≤ L ∧ L ≤ 2) (hc : 0 ≤ c ∧ c ≤ 63) : -1 ≤ gtV C L c z ∧ gtV C L c z ≤ 15 := by
  unfold gtV
  split
  · omega
  · split
    · omega
    · exact h _ (by omega) (by omega)
/-- so far another row -/
def pfF (C X : Int → Int) (lo n : Int) : Int → Int := fun j => if lo ≤ j ∧ j < n then X j else C j
theorem pfF_0 (C X : Int → Int) (lo : Int) : pfF C X lo lo = C := by
  funext j
  unfold pfF
  rw [if_neg (by omega)]
theorem pfF_s {C X : Int → Int} {lo n : Int} (h : lo ≤ n) : up1 (pfF C X lo n) n (X n) = pfF C X lo (n + 1) := by
  funext j
  unfold up1 pfF
  by_cases hj : j = n
  · subst hj
    rw [if_pos rfl, if_pos (by omega)]
  · rw [if_neg hj]
    by_cases hk : lo ≤ j ∧ j < n
    · rw [if_pos hk, if_pos (by omega)]
    · rw [if_neg hk, if_neg (by omega)]
theorem pfF_ok {C X : Int → Int} {lo n N : Int} (h : cOk C N) (hx : ∀ j, lo ≤ j → j < n → -1 ≤ X j ∧ X j ≤ 15) : cOk (pfF C X lo n) N := by
  intro j j0 j1
  unfold pfF
  split
  · next q => exact hx j q.1 q.2
  · exact h j j0 j1
/-- a land at its beginning -/
def bgL (L : Int) : Int → Int := fun j => if (j - 5120 * L) % 80 < 40 then 15 else -1
theorem bgL_b (L j : Int) : -1 ≤ bgL L j ∧ bgL L j ≤ 15 := by
  unfold bgL
  split <;> omega
theorem clV_bg {C : Int → Int} {L c : Int} (hc : 0 ≤ c ∧ c ≤ 63) (D : Int → Int) : eq8 (clV (pfF C (bgL L) (5120 * L) (5120 * L + 5120)) L c) (bgF D) := by
  intro i i0 i1
  unfold clV pfF bgL bgF
  rw [if_pos (show 5120 * L ≤ 5120 * L + 80 * c + i ∧ 5120 * L + 80 * c + i < 5120 * L + 5120 by omega), if_pos (show 0 ≤ i ∧ i < 80 from ⟨i0, i1⟩)]
  by_cases h : i < 40
  · rw [if_pos h, if_pos (by omega)]
  · rw [if_neg h, if_neg (by omega)]
theorem clV_pfo {C X : Int → Int} {L L' c lo n : Int} (hL : L ≠ L') (hc : 0 ≤ c ∧ c ≤ 63) (h0 : 5120 * L ≤ lo) (h1 : n ≤ 5120 * L + 5120) : eq8 (clV (pfF C X lo n) L' c) (clV C L' c) := by
  intro i i0 i1
  unfold clV pfF
  rw [if_neg (by omega)]
theorem c_X12_get {G : GT} {S : Shp} {σ : Sto} {m : Nat} {L c z : Int} (hA : IsMod S m) (hL : 0 ≤ L ∧ L ≤ 2) (hc : 0 ≤ c ∧ c ≤ 63) (hz : -100000 ≤ z ∧ z ≤ 100000) : PMet G mX12_get 1 0 0 [.ref m, .int (iI (L)), .int (iI (c)), .int (iI (z))] S σ (isP (some (.int (iI (gtV (σ (m + 1)) L c z)))) S (σ)) := by
  obtain ⟨hM0, hM1, hM2, hM3, hM4, hM5, hM6, hM7, hM8, hM9, hM10, hM11, hM12, hM13, hM14, hM15, hM16, hM17, hM18, hM19, hM20, hM21, hM22, hM23, hM24, hM25, hM26, hM27, hM28, hM29, hM30, hM31, hM32, hM33, hM34⟩ := id hA
  refine PMet.of [(0, .ref m), (1, .int (iI (L))), (2, .int (iI (c))), (3, .int (iI (z)))] (by decide +kernel) rfl (Nat.le_of_ble_eq_true rfl) ?_
  refine PW.iload_n dX12_get_0 rfl ?_
  refine PW.bipush (by decide) dX12_get_1 ?_
  refine PW.icmp_ge 11 dX12_get_3 (by decide) (by first | assumption | (unfold inR; omega)) (by first | assumption | (unfold inR; omega)) (fun h3 => ?_) (fun h3 => ?_)
  · refine PW.iload_n dX12_get_11 rfl ?_
    refine PW.bipush (by decide) dX12_get_12 ?_
    refine PW.icmp_le 21 dX12_get_14 (by decide) (by first | assumption | (unfold inR; omega)) (by first | assumption | (unfold inR; omega)) (fun h14 => ?_) (fun h14 => ?_)
    · refine PW.aload_n dX12_get_21 rfl ?_
      refine PW.getR fl_X12_7 rfl (by assumption) rfl dX12_get_22 ?_
      refine PW.iload_n dX12_get_25 rfl ?_
      refine PW.iload_n dX12_get_26 rfl ?_
      refine PW.iload_n dX12_get_27 rfl ?_
      refine PW.callSr (c_X12_cellAt) cs_X12_cellAt lk_X12_123 dX12_get_28 rfl rfl rfl ?_
      refine PW.baload (by assumption) (by first | assumption | (unfold inR; omega)) (by omega) (by omega) dX12_get_31 ?_
      exact PW.iret rfl rfl dX12_get_32 ⟨ret_eq (by unfold gtV; first | rw [if_pos (by omega)] | (rw [if_neg (by omega)]; first | rw [if_pos (by omega)] | rw [if_neg (by omega)])), rfl, rfl⟩
    · refine PW.iconst dX12_get_17 ?_
      refine PW.goto 32 dX12_get_18 (by decide) ?_
      exact PW.iret rfl rfl dX12_get_32 ⟨ret_eq (by unfold gtV; first | rw [if_pos (by omega)] | (rw [if_neg (by omega)]; first | rw [if_pos (by omega)] | rw [if_neg (by omega)])), rfl, rfl⟩
  · refine PW.bipush (by decide) dX12_get_6 ?_
    refine PW.goto 32 dX12_get_8 (by decide) ?_
    exact PW.iret rfl rfl dX12_get_32 ⟨ret_eq (by unfold gtV; first | rw [if_pos (by omega)] | (rw [if_neg (by omega)]; first | rw [if_pos (by omega)] | rw [if_neg (by omega)])), rfl, rfl⟩
theorem start_in {G : GT} {S : Shp} {σ : Sto} {m : Nat} {L c : Int} {Q : Option Value → Shp → Sto → Prop} (hA : IsMod S m) (hL : 0 ≤ L ∧ L ≤ 2) (hc : 0 ≤ c ∧ c ≤ 63) (hK : PW (fm G mX12_start 1 0 0 Q) G S (upS σ (m + 1) (pfF (σ (m + 1)) (bgL L) (5120 * L) (5120 * L + 80 * (c + 1)))) 0 0 45 [(0, .ref m), (1, .int (iI L)), (2, .int (iI c))] []) : ∀ (t : Nat) (i : Int), -40 ≤ i → i ≤ 40 → 40 - i < t → PW (fm G mX12_start 1 0 0 Q) G S (upS σ (m + 1) (pfF (σ (m + 1)) (bgL L) (5120 * L) (5120 * L + 80 * c + (i + 40)))) 0 0 11 [(0, .ref m), (1, .int (iI (L))), (2, .int (iI (c))), (3, .int (iI (i)))] [] := by
  obtain ⟨hM0, hM1, hM2, hM3, hM4, hM5, hM6, hM7, hM8, hM9, hM10, hM11, hM12, hM13, hM14, hM15, hM16, hM17, hM18, hM19, hM20, hM21, hM22, hM23, hM24, hM25, hM26, hM27, hM28, hM29, hM30, hM31, hM32, hM33, hM34⟩ := id hA
  intro t
  induction t with
  | zero => intro i h1 h2 h3; omega
  | succ t ih =>
    intro i h1 h2 h3
    refine PW.iload_n dX12_start_11 rfl ?_
    refine PW.bipush (by decide) dX12_start_12 ?_
    refine PW.icmp_ge 45 dX12_start_14 (by decide) (by first | assumption | (unfold inR; omega)) (by first | assumption | (unfold inR; omega)) (fun h14 => ?_) (fun h14 => ?_)
    · have e : i = 40 := by omega
      subst e
      rw [show 5120 * L + 80 * c + (40 + 40) = 5120 * L + 80 * (c + 1) by omega]
      exact PW.keep _ (by simp) hK
    · refine PW.aload_n dX12_start_17 rfl ?_
      refine PW.getR fl_X12_7 rfl (by assumption) rfl dX12_start_18 ?_
      refine PW.iload_n dX12_start_21 rfl ?_
      refine PW.iload_n dX12_start_22 rfl ?_
      refine PW.iload_n dX12_start_23 rfl ?_
      refine PW.callSr (c_X12_cellAt) cs_X12_cellAt lk_X12_123 dX12_start_24 rfl rfl rfl ?_
      refine PW.iload_n dX12_start_27 rfl ?_
      refine PW.if_ge 36 dX12_start_28 (by decide) (by first | assumption | (unfold inR; omega)) (fun h28 => ?_) (fun h28 => ?_)
      · refine PW.iconst dX12_start_36 ?_
        refine PW.i2b dX12_start_37 ?_
        refine PW.bastore (by assumption) (by first | assumption | (unfold inR; omega)) (by omega) (by omega) (by rw [b8_id (by omega)]; exact narY (by omega)) dX12_start_38 ?_
        refine PW.st (upS σ (m + 1) (pfF (σ (m + 1)) (bgL L) (5120 * L) (5120 * L + 80 * c + (i + 1 + 40)))) (by
          rw [upS_upS, upS_same]
          refine congrArg (upS σ (m + 1)) ?_
          rw [show 5120 * L + 80 * c + i + 40 = 5120 * L + 80 * c + (i + 40) by omega, show 5120 * L + 80 * c + (i + 1 + 40) = 5120 * L + 80 * c + (i + 40) + 1 by omega, ← pfF_s (by omega)]
          congr 1
          unfold bgL
          first | rw [if_pos (by omega)] | rw [if_neg (by omega)]) ?_
        refine PW.iinc [(0, _), (1, _), (2, _), (3, _)] dX12_start_39 rfl rfl (Nat.le_of_ble_eq_true rfl) ?_
        refine PW.goto 11 dX12_start_42 (by decide) ?_
        exact ih (i + 1) (by omega) (by omega) (by omega)
      · refine PW.bipush (by decide) dX12_start_31 ?_
        refine PW.goto 37 dX12_start_33 (by decide) ?_
        refine PW.i2b dX12_start_37 ?_
        refine PW.bastore (by assumption) (by first | assumption | (unfold inR; omega)) (by omega) (by omega) (by rw [b8_id (by omega)]; exact narY (by omega)) dX12_start_38 ?_
        refine PW.st (upS σ (m + 1) (pfF (σ (m + 1)) (bgL L) (5120 * L) (5120 * L + 80 * c + (i + 1 + 40)))) (by
          rw [upS_upS, upS_same]
          refine congrArg (upS σ (m + 1)) ?_
          rw [show 5120 * L + 80 * c + i + 40 = 5120 * L + 80 * c + (i + 40) by omega, show 5120 * L + 80 * c + (i + 1 + 40) = 5120 * L + 80 * c + (i + 40) + 1 by omega, ← pfF_s (by omega)]
          congr 1
          unfold bgL
          first | rw [if_pos (by omega)] | rw [if_neg (by omega)]) ?_
        refine PW.iinc [(0, _), (1, _), (2, _), (3, _)] dX12_start_39 rfl rfl (Nat.le_of_ble_eq_true rfl) ?_
        refine PW.goto 11 dX12_start_42 (by decide) ?_
        exact ih (i + 1) (by omega) (by omega) (by omega)
theorem start_out {G : GT} {S : Shp} {σ : Sto} {m : Nat} {L : Int} {Q : Option Value → Shp → Sto → Prop} (hA : IsMod S m) (hL : 0 ≤ L ∧ L ≤ 2) (hQ : Q none S (upS σ (m + 1) (pfF (σ (m + 1)) (bgL L) (5120 * L) (5120 * L + 5120)))) : ∀ (t : Nat) (i : Int), 0 ≤ i → i ≤ 64 → 64 - i < t → PW (fm G mX12_start 1 0 0 Q) G S (upS σ (m + 1) (pfF (σ (m + 1)) (bgL L) (5120 * L) (5120 * L + 80 * i))) 0 0 2 [(0, .ref m), (1, .int (iI (L))), (2, .int (iI (i)))] [] := by
  obtain ⟨hM0, hM1, hM2, hM3, hM4, hM5, hM6, hM7, hM8, hM9, hM10, hM11, hM12, hM13, hM14, hM15, hM16, hM17, hM18, hM19, hM20, hM21, hM22, hM23, hM24, hM25, hM26, hM27, hM28, hM29, hM30, hM31, hM32, hM33, hM34⟩ := id hA
  intro t
  induction t with
  | zero => intro i h1 h2 h3; omega
  | succ t ih =>
    intro i h1 h2 h3
    refine PW.iload_n dX12_start_2 rfl ?_
    refine PW.bipush (by decide) dX12_start_3 ?_
    refine PW.icmp_ge 51 dX12_start_5 (by decide) (by first | assumption | (unfold inR; omega)) (by first | assumption | (unfold inR; omega)) (fun h5 => ?_) (fun h5 => ?_)
    · have hi : i = 64 := by omega
      subst hi
      exact PW.vret rfl dX12_start_51 hQ
    · refine PW.bipush (by decide) dX12_start_8 ?_
      refine PW.istore_n [(0, _), (1, _), (2, _), (3, _)] dX12_start_10 rfl (Nat.le_of_ble_eq_true rfl) ?_
      refine PW.st (upS σ (m + 1) (pfF (σ (m + 1)) (bgL L) (5120 * L) (5120 * L + 80 * i + (-40 + 40)))) (by rw [show 5120 * L + 80 * i + (-40 + 40) = 5120 * L + 80 * i by omega]) ?_
      refine start_in hA hL (by omega) ?_ 81 (-40) (by omega) (by omega) (by omega)
      refine PW.iinc [(0, _), (1, _), (2, _)] dX12_start_45 rfl rfl (Nat.le_of_ble_eq_true rfl) ?_
      refine PW.goto 2 dX12_start_48 (by decide) ?_
      exact ih (i + 1) (by omega) (by omega) (by omega)
theorem c_X12_start {G : GT} {S : Shp} {σ : Sto} {m : Nat} {L : Int} (hA : IsMod S m) (hL : 0 ≤ L ∧ L ≤ 2) : PMet G mX12_start 1 0 0 [.ref m, .int (iI L)] S σ (isP none S (upS σ (m + 1) (pfF (σ (m + 1)) (bgL L) (5120 * L) (5120 * L + 5120)))) := by
  refine PMet.of [(0, .ref m), (1, .int (iI (L)))] (by decide +kernel) rfl (Nat.le_of_ble_eq_true rfl) ?_
  refine PW.iconst dX12_start_0 ?_
  refine PW.istore_n [(0, _), (1, _), (2, _)] dX12_start_1 rfl (Nat.le_of_ble_eq_true rfl) ?_
  refine PW.st (upS σ (m + 1) (pfF (σ (m + 1)) (bgL L) (5120 * L) (5120 * L + 80 * 0))) (by rw [show 5120 * L + 80 * 0 = 5120 * L by omega, pfF_0, upS_self]) ?_
  exact start_out hA hL ⟨rfl, rfl, rfl⟩ 65 0 (by omega) (by omega) (by omega)
theorem mo_carry_loop {G : GT} {S : Shp} {σ : Sto} {m : Nat} {a b : Int} {Q : Option Value → Shp → Sto → Prop} (hA : IsMod S m) (hC : cOk (σ (m + 1)) 15360) (ha : 0 ≤ a ∧ a ≤ 2) (hb : 0 ≤ b ∧ b ≤ 2) (hab : a ≠ b) (hQ : Q none S (upS σ (m + 1) (pfF (σ (m + 1)) (fun j => σ (m + 1) (j - 5120 * b + 5120 * a)) (5120 * b) (5120 * b + 5120)))) : ∀ (t : Nat) (i : Int), 0 ≤ i → i ≤ 5120 → 5120 - i < t → PW (fm G mX12_carry 0 0 0 Q) G S (upS σ (m + 1) (pfF (σ (m + 1)) (fun j => σ (m + 1) (j - 5120 * b + 5120 * a)) (5120 * b) (5120 * b + i))) 0 0 2 [(0, .ref m), (1, .int (iI (a))), (2, .int (iI (b))), (3, .int (iI (i)))] [] := by
  obtain ⟨hM0, hM1, hM2, hM3, hM4, hM5, hM6, hM7, hM8, hM9, hM10, hM11, hM12, hM13, hM14, hM15, hM16, hM17, hM18, hM19, hM20, hM21, hM22, hM23, hM24, hM25, hM26, hM27, hM28, hM29, hM30, hM31, hM32, hM33, hM34⟩ := id hA
  intro t
  induction t with
  | zero => intro i h1 h2 h3; omega
  | succ t ih =>
    intro i h1 h2 h3
    have e1 : i < 5120 → (pfF (σ (m + 1)) (fun j => σ (m + 1) (j - 5120 * b + 5120 * a)) (5120 * b) (5120 * b + i)) (5120 * a + i) = σ (m + 1) (5120 * a + i) := fun _ => by
      unfold pfF
      rw [if_neg (by omega)]
    refine PW.iload_n dX12_carry_2 rfl ?_
    refine PW.sipush (by decide) dX12_carry_3 ?_
    refine PW.icmp_ge 39 dX12_carry_6 (by decide) (by first | assumption | (unfold inR; omega)) (by first | assumption | (unfold inR; omega)) (fun h6 => ?_) (fun h6 => ?_)
    · have hi : i = 5120 := by omega
      subst hi
      exact PW.vret rfl dX12_carry_39 hQ
    · refine PW.aload_n dX12_carry_9 rfl ?_
      refine PW.getR fl_X12_7 rfl (by assumption) rfl dX12_carry_10 ?_
      refine PW.sipush (by decide) dX12_carry_13 ?_
      refine PW.iload_n dX12_carry_16 rfl ?_
      refine PW.imul dX12_carry_17 ?_
      refine PW.iload_n dX12_carry_18 rfl ?_
      refine PW.iadd dX12_carry_19 ?_
      refine PW.aload_n dX12_carry_20 rfl ?_
      refine PW.getR fl_X12_7 rfl (by assumption) rfl dX12_carry_21 ?_
      refine PW.sipush (by decide) dX12_carry_24 ?_
      refine PW.iload_n dX12_carry_27 rfl ?_
      refine PW.imul dX12_carry_28 ?_
      refine PW.iload_n dX12_carry_29 rfl ?_
      refine PW.iadd dX12_carry_30 ?_
      refine PW.baload (by assumption) (by unfold inR; omega) (by omega) (by omega) dX12_carry_31 ?_
      refine PW.top (σ (m + 1) (5120 * a + i)) (by rw [upS_same]; exact e1 (by omega)) ?_
      have hv := hC (5120 * a + i) (by omega) (by omega)
      refine PW.bastore (by assumption) (by first | assumption | (unfold inR; omega)) (by omega) (by omega) (narY (by omega)) dX12_carry_32 ?_
      refine PW.st (upS σ (m + 1) (pfF (σ (m + 1)) (fun j => σ (m + 1) (j - 5120 * b + 5120 * a)) (5120 * b) (5120 * b + (i + 1)))) (by
        rw [upS_upS, upS_same]
        refine congrArg (upS σ (m + 1)) ?_
        rw [show 5120 * b + (i + 1) = 5120 * b + i + 1 by omega, ← pfF_s (by omega)]
        congr 2
        omega) ?_
      refine PW.iinc [(0, _), (1, _), (2, _), (3, _)] dX12_carry_33 rfl rfl (Nat.le_of_ble_eq_true rfl) ?_
      refine PW.goto 2 dX12_carry_36 (by decide) ?_
      exact ih (i + 1) (by omega) (by omega) (by omega)
theorem c_X12_carry {G : GT} {S : Shp} {σ : Sto} {m : Nat} {a b : Int} (hA : IsMod S m) (hC : cOk (σ (m + 1)) 15360) (ha : 0 ≤ a ∧ a ≤ 2) (hb : 0 ≤ b ∧ b ≤ 2) (hab : a ≠ b) : PMet G mX12_carry 0 0 0 [.ref m, .int (iI a), .int (iI b)] S σ (isP none S (upS σ (m + 1) (pfF (σ (m + 1)) (fun j => σ (m + 1) (j - 5120 * b + 5120 * a)) (5120 * b) (5120 * b + 5120)))) := by
  refine PMet.of [(0, .ref m), (1, .int (iI (a))), (2, .int (iI (b)))] (by decide +kernel) rfl (Nat.le_of_ble_eq_true rfl) ?_
  refine PW.iconst dX12_carry_0 ?_
  refine PW.istore_n [(0, _), (1, _), (2, _), (3, _)] dX12_carry_1 rfl (Nat.le_of_ble_eq_true rfl) ?_
  refine PW.st (upS σ (m + 1) (pfF (σ (m + 1)) (fun j => σ (m + 1) (j - 5120 * b + 5120 * a)) (5120 * b) (5120 * b + 0))) (by rw [Int.add_zero, pfF_0, upS_self]) ?_
  exact mo_carry_loop hA hC ha hb hab ⟨rfl, rfl, rfl⟩ 5121 0 (by omega) (by omega) (by omega)
theorem mo_skinOf_loop {G : GT} {S : Shp} {σ : Sto} {m : Nat} {L c : Int} {Q : Option Value → Shp → Sto → Prop} (hA : IsMod S m) (hC : cOk (σ (m + 1)) 15360) (hL : 0 ≤ L ∧ L ≤ 2) (hc : 0 ≤ c ∧ c ≤ 63) (hQ : Q (some (.int (iI (skF (clV (σ (m + 1)) L c))))) S σ) : ∀ (t : Nat) (i : Int), -41 ≤ i → i < 40 → i + 41 < t → (∀ j, i + 40 < j → j < 80 → (fun i => decide (¬ clV (σ (m + 1)) L c i = -1)) j = false) → PW (fm G mX12_skinOf 2 0 0 Q) G S (σ) 0 0 3 [(0, .ref m), (1, .int (iI (L))), (2, .int (iI (c))), (3, .int (iI (i)))] [] := by
  obtain ⟨hM0, hM1, hM2, hM3, hM4, hM5, hM6, hM7, hM8, hM9, hM10, hM11, hM12, hM13, hM14, hM15, hM16, hM17, hM18, hM19, hM20, hM21, hM22, hM23, hM24, hM25, hM26, hM27, hM28, hM29, hM30, hM31, hM32, hM33, hM34⟩ := id hA
  have fin : ∀ i : Int, -41 ≤ i → i < 40 → (∀ j, i + 40 < j → j < 80 → (fun i => decide (¬ clV (σ (m + 1)) L c i = -1)) j = false) → (-40 ≤ i → (fun i => decide (¬ clV (σ (m + 1)) L c i = -1)) (i + 40) = true) → skF (clV (σ (m + 1)) L c) = i := by
    intro i h1 h2 hn hi
    unfold skF
    by_cases h0 : -40 ≤ i
    · rw [lasI_hit (i := i + 40) (by omega) (hi h0) (by omega) (fun j q1 q2 => hn j q1 (by omega))]
      omega
    · rw [lasI_none (fun j q1 q2 => hn j (by omega) (by omega))]
      omega
  intro t
  induction t with
  | zero => intro i h1 h2 h3 g1; omega
  | succ t ih =>
    intro i h1 h2 h3 g1
    refine PW.iload_n dX12_skinOf_3 rfl ?_
    refine PW.bipush (by decide) dX12_skinOf_4 ?_
    refine PW.icmp_lt 26 dX12_skinOf_6 (by decide) (by first | assumption | (unfold inR; omega) | (have := gtV_b hC (z := i) hL hc; unfold inR; omega)) (by first | assumption | (unfold inR; omega) | (have := gtV_b hC (z := i) hL hc; unfold inR; omega)) (fun h6 => ?_) (fun h6 => ?_)
    · refine PW.iload_n dX12_skinOf_26 rfl ?_
      rw [fin i h1 h2 g1 (fun q => by
        first
          | (exfalso; omega)
          | (rw [gtV_in (by omega)] at h17; exact decide_eq_true (by omega)))] at hQ
      exact PW.iret rfl rfl dX12_skinOf_27 hQ
    · refine PW.aload_n dX12_skinOf_9 rfl ?_
      refine PW.iload_n dX12_skinOf_10 rfl ?_
      refine PW.iload_n dX12_skinOf_11 rfl ?_
      refine PW.iload_n dX12_skinOf_12 rfl ?_
      refine PW.callVr (c_X12_get hA (by omega) (by omega) (by omega)) cv_X12_get lk_X12_127 (by first | assumption | exact And.left (by assumption)) dX12_skinOf_13 rfl rfl rfl rfl ?_
      refine PW.iconst dX12_skinOf_16 ?_
      refine PW.icmp_ne 26 dX12_skinOf_17 (by decide) (by first | assumption | (unfold inR; omega) | (have := gtV_b hC (z := i) hL hc; unfold inR; omega)) (by first | assumption | (unfold inR; omega) | (have := gtV_b hC (z := i) hL hc; unfold inR; omega)) (fun h17 => ?_) (fun h17 => ?_)
      · refine PW.iload_n dX12_skinOf_26 rfl ?_
        rw [fin i h1 h2 g1 (fun q => by
          first
            | (exfalso; omega)
            | (rw [gtV_in (by omega)] at h17; exact decide_eq_true (by omega)))] at hQ
        exact PW.iret rfl rfl dX12_skinOf_27 hQ
      · refine PW.iinc [(0, _), (1, _), (2, _), (3, _)] dX12_skinOf_20 rfl rfl (Nat.le_of_ble_eq_true rfl) ?_
        refine PW.goto 3 dX12_skinOf_23 (by decide) ?_
        refine ih (i + -1) (by omega) (by omega) (by omega) (fun j q1 q2 => ?_)
        rw [gtV_in (by omega)] at h17
        by_cases hj : j = i + 40
        · rw [hj]; exact decide_eq_false (fun q => q (by omega))
        · exact g1 j (by omega) q2
theorem c_X12_skinOf {G : GT} {S : Shp} {σ : Sto} {m : Nat} {L c : Int} (hA : IsMod S m) (hC : cOk (σ (m + 1)) 15360) (hL : 0 ≤ L ∧ L ≤ 2) (hc : 0 ≤ c ∧ c ≤ 63) : PMet G mX12_skinOf 2 0 0 [.ref m, .int (iI L), .int (iI c)] S σ (isP (some (.int (iI (skF (clV (σ (m + 1)) L c))))) S σ) := by
  refine PMet.of [(0, .ref m), (1, .int (iI (L))), (2, .int (iI (c)))] (by decide +kernel) rfl (Nat.le_of_ble_eq_true rfl) ?_
  refine PW.bipush (by decide) dX12_skinOf_0 ?_
  refine PW.istore_n [(0, _), (1, _), (2, _), (3, _)] dX12_skinOf_2 rfl (Nat.le_of_ble_eq_true rfl) ?_
  exact mo_skinOf_loop hA hC hL hc ⟨rfl, rfl, rfl⟩ 81 39 (by omega) (by omega) (by omega) (fun j q1 q2 => by omega)
theorem mo_topOf_loop {G : GT} {S : Shp} {σ : Sto} {m : Nat} {L c b : Int} {Q : Option Value → Shp → Sto → Prop} (hA : IsMod S m) (hC : cOk (σ (m + 1)) 15360) (hL : 0 ≤ L ∧ L ≤ 2) (hc : 0 ≤ c ∧ c ≤ 63) (rb : inR b) (hQ : Q (some (.int (iI (toF (clV (σ (m + 1)) L c) b)))) S σ) : ∀ (t : Nat) (i : Int), -41 ≤ i → i < 40 → i + 41 < t → (∀ j, i + 40 < j → j < 80 → (fun i => decide (clV (σ (m + 1)) L c i = b)) j = false) → PW (fm G mX12_topOf 2 0 0 Q) G S (σ) 0 0 4 [(0, .ref m), (1, .int (iI (L))), (2, .int (iI (b))), (3, .int (iI (c))), (4, .int (iI (i)))] [] := by
  obtain ⟨hM0, hM1, hM2, hM3, hM4, hM5, hM6, hM7, hM8, hM9, hM10, hM11, hM12, hM13, hM14, hM15, hM16, hM17, hM18, hM19, hM20, hM21, hM22, hM23, hM24, hM25, hM26, hM27, hM28, hM29, hM30, hM31, hM32, hM33, hM34⟩ := id hA
  have fin : ∀ i : Int, -41 ≤ i → i < 40 → (∀ j, i + 40 < j → j < 80 → (fun i => decide (clV (σ (m + 1)) L c i = b)) j = false) → (-40 ≤ i → (fun i => decide (clV (σ (m + 1)) L c i = b)) (i + 40) = true) → toF (clV (σ (m + 1)) L c) b = i := by
    intro i h1 h2 hn hi
    unfold toF
    by_cases h0 : -40 ≤ i
    · rw [lasI_hit (i := i + 40) (by omega) (hi h0) (by omega) (fun j q1 q2 => hn j q1 (by omega))]
      omega
    · rw [lasI_none (fun j q1 q2 => hn j (by omega) (by omega))]
      omega
  intro t
  induction t with
  | zero => intro i h1 h2 h3 g1; omega
  | succ t ih =>
    intro i h1 h2 h3 g1
    refine PW.iload dX12_topOf_4 rfl ?_
    refine PW.bipush (by decide) dX12_topOf_6 ?_
    refine PW.icmp_lt 29 dX12_topOf_8 (by decide) (by first | assumption | (unfold inR; omega) | (have := gtV_b hC (z := i) hL hc; unfold inR; omega)) (by first | assumption | (unfold inR; omega) | (have := gtV_b hC (z := i) hL hc; unfold inR; omega)) (fun h8 => ?_) (fun h8 => ?_)
    · refine PW.iload dX12_topOf_29 rfl ?_
      rw [fin i h1 h2 g1 (fun q => by
        first
          | (exfalso; omega)
          | (rw [gtV_in (by omega)] at h20; exact decide_eq_true h20))] at hQ
      exact PW.iret rfl rfl dX12_topOf_31 hQ
    · refine PW.aload_n dX12_topOf_11 rfl ?_
      refine PW.iload_n dX12_topOf_12 rfl ?_
      refine PW.iload_n dX12_topOf_13 rfl ?_
      refine PW.iload dX12_topOf_14 rfl ?_
      refine PW.callVr (c_X12_get hA (by omega) (by omega) (by omega)) cv_X12_get lk_X12_127 (by first | assumption | exact And.left (by assumption)) dX12_topOf_16 rfl rfl rfl rfl ?_
      refine PW.iload_n dX12_topOf_19 rfl ?_
      refine PW.icmp_eq 29 dX12_topOf_20 (by decide) (by first | assumption | (unfold inR; omega) | (have := gtV_b hC (z := i) hL hc; unfold inR; omega)) (by first | assumption | (unfold inR; omega) | (have := gtV_b hC (z := i) hL hc; unfold inR; omega)) (fun h20 => ?_) (fun h20 => ?_)
      · refine PW.iload dX12_topOf_29 rfl ?_
        rw [fin i h1 h2 g1 (fun q => by
          first
            | (exfalso; omega)
            | (rw [gtV_in (by omega)] at h20; exact decide_eq_true h20))] at hQ
        exact PW.iret rfl rfl dX12_topOf_31 hQ
      · refine PW.iinc [(0, _), (1, _), (2, _), (3, _), (4, _)] dX12_topOf_23 rfl rfl (Nat.le_of_ble_eq_true rfl) ?_
        refine PW.goto 4 dX12_topOf_26 (by decide) ?_
        refine ih (i + -1) (by omega) (by omega) (by omega) (fun j q1 q2 => ?_)
        rw [gtV_in (by omega)] at h20
        by_cases hj : j = i + 40
        · rw [hj]; exact decide_eq_false (fun q => h20 q)
        · exact g1 j (by omega) q2
theorem c_X12_topOf {G : GT} {S : Shp} {σ : Sto} {m : Nat} {L c b : Int} (hA : IsMod S m) (hC : cOk (σ (m + 1)) 15360) (hL : 0 ≤ L ∧ L ≤ 2) (hc : 0 ≤ c ∧ c ≤ 63) (rb : inR b) : PMet G mX12_topOf 2 0 0 [.ref m, .int (iI L), .int (iI b), .int (iI c)] S σ (isP (some (.int (iI (toF (clV (σ (m + 1)) L c) b)))) S σ) := by
  refine PMet.of [(0, .ref m), (1, .int (iI (L))), (2, .int (iI (b))), (3, .int (iI (c)))] (by decide +kernel) rfl (Nat.le_of_ble_eq_true rfl) ?_
  refine PW.bipush (by decide) dX12_topOf_0 ?_
  refine PW.istore [(0, _), (1, _), (2, _), (3, _), (4, _)] dX12_topOf_2 rfl (Nat.le_of_ble_eq_true rfl) ?_
  exact mo_topOf_loop hA hC hL hc rb ⟨rfl, rfl, rfl⟩ 81 39 (by omega) (by omega) (by omega) (fun j q1 q2 => by omega)
theorem firI_st (P : Int → Bool) {i : Int} (h : 0 ≤ i) : (firI P (i + 1).toNat = -1 ↔ firI P i.toNat = -1 ∧ P i = false) := by
  rw [show (i + 1).toNat = i.toNat + 1 by omega]
  simp only [firI]
  rw [show ((i.toNat : Nat) : Int) = i by omega]
  by_cases h1 : firI P i.toNat = -1
  · rw [if_pos h1]
    by_cases h2 : P i = true
    · rw [if_pos h2, h2]
      exact ⟨fun q => by omega, fun q => absurd q.2 (by simp)⟩
    · rw [if_neg h2]
      exact ⟨fun _ => ⟨h1, by simpa using h2⟩, fun _ => rfl⟩
  · rw [if_neg h1]
    exact ⟨fun q => absurd q h1, fun q => absurd q.1 h1⟩
theorem mo_alike_loop {G : GT} {S : Shp} {σ : Sto} {m : Nat} {L K c : Int} {Q : Option Value → Shp → Sto → Prop} (hA : IsMod S m) (hC : cOk (σ (m + 1)) 15360) (hL : 0 ≤ L ∧ L ≤ 2) (hK : 0 ≤ K ∧ K ≤ 2) (hc : 0 ≤ c ∧ c ≤ 63) (hQ : Q (some (.int (iI (b01 (likP (clV (σ (m + 1)) L c) (clV (σ (m + 1)) K c)))))) S σ) : ∀ (t : Nat) (i : Int), -40 ≤ i → i ≤ 40 → 40 - i < t → PW (fm G mX12_isAlike 2 0 0 Q) G S (σ) 0 0 7 [(0, .ref m), (1, .int (iI (L))), (2, .int (iI (K))), (3, .int (iI (c))), (4, .int (iI (b01 (firI (likB (clV (σ (m + 1)) L c) (clV (σ (m + 1)) K c)) (i + 40).toNat = -1)))), (5, .int (iI (i)))] [] := by
  obtain ⟨hM0, hM1, hM2, hM3, hM4, hM5, hM6, hM7, hM8, hM9, hM10, hM11, hM12, hM13, hM14, hM15, hM16, hM17, hM18, hM19, hM20, hM21, hM22, hM23, hM24, hM25, hM26, hM27, hM28, hM29, hM30, hM31, hM32, hM33, hM34⟩ := id hA
  intro t
  induction t with
  | zero => intro i h1 h2 h3; omega
  | succ t ih =>
    intro i h1 h2 h3
    have f1 := firI_st (likB (clV (σ (m + 1)) L c) (clV (σ (m + 1)) K c)) (i := i + 40) (by omega)
    have c1 := gtV_b hC (z := i) hL hc
    have c2 := gtV_b hC (z := i) hK hc
    refine PW.iload dX12_isAlike_7 rfl ?_
    refine PW.bipush (by decide) dX12_isAlike_9 ?_
    refine PW.icmp_ge 51 dX12_isAlike_11 (by decide) (by first | assumption | (unfold inR; omega)) (by first | assumption | (unfold inR; omega)) (fun h11 => ?_) (fun h11 => ?_)
    · refine PW.iload dX12_isAlike_51 rfl ?_
      have hi : i = 40 := by omega
      subst hi
      rw [show (40 + 40 : Int).toNat = 80 from rfl]
      exact PW.iret rfl (narB _) dX12_isAlike_53 hQ
    · refine PW.iload dX12_isAlike_14 rfl ?_
      refine PW.if_eqB 42 dX12_isAlike_16 (by decide) (fun h16 => ?_) (fun h16 => ?_)
      · refine PW.iconst dX12_isAlike_42 ?_
        refine PW.istore [(0, _), (1, _), (2, _), (3, _), (4, _), (5, _)] dX12_isAlike_43 rfl (Nat.le_of_ble_eq_true rfl) ?_
        refine PW.iinc [(0, _), (1, _), (2, _), (3, _), (4, _), (5, _)] dX12_isAlike_45 rfl rfl (Nat.le_of_ble_eq_true rfl) ?_
        refine PW.goto 7 dX12_isAlike_48 (by decide) ?_
        have e := ih (i + 1) (by omega) (by omega) (by omega)
        rw [show i + 1 + 40 = i + 40 + 1 by omega] at e
        first
          | (rw [gtV_in (by omega), gtV_in (by omega)] at h35
             rw [b01_t (f1.mpr ⟨by assumption, decide_eq_false (fun q => q h35)⟩)] at e
             exact e)
          | (rw [gtV_in (by omega), gtV_in (by omega)] at h35
             rw [b01_f (fun q => by have := of_decide_eq_false (f1.mp q).2; exact this h35)] at e
             exact e)
          | (rw [b01_f (fun q => by have := (f1.mp q).1; contradiction)] at e
             exact e)
      · refine PW.aload_n dX12_isAlike_19 rfl ?_
        refine PW.iload_n dX12_isAlike_20 rfl ?_
        refine PW.iload_n dX12_isAlike_21 rfl ?_
        refine PW.iload dX12_isAlike_22 rfl ?_
        refine PW.callVr (c_X12_get hA (by omega) (by omega) (by omega)) cv_X12_get lk_X12_127 (by first | assumption | exact And.left (by assumption)) dX12_isAlike_24 rfl rfl rfl rfl ?_
        refine PW.aload_n dX12_isAlike_27 rfl ?_
        refine PW.iload_n dX12_isAlike_28 rfl ?_
        refine PW.iload_n dX12_isAlike_29 rfl ?_
        refine PW.iload dX12_isAlike_30 rfl ?_
        refine PW.callVr (c_X12_get hA (by omega) (by omega) (by omega)) cv_X12_get lk_X12_127 (by first | assumption | exact And.left (by assumption)) dX12_isAlike_32 rfl rfl rfl rfl ?_
        refine PW.icmp_ne 42 dX12_isAlike_35 (by decide) (by first | assumption | (unfold inR; omega)) (by first | assumption | (unfold inR; omega)) (fun h35 => ?_) (fun h35 => ?_)
        · refine PW.iconst dX12_isAlike_42 ?_
          refine PW.istore [(0, _), (1, _), (2, _), (3, _), (4, _), (5, _)] dX12_isAlike_43 rfl (Nat.le_of_ble_eq_true rfl) ?_
          refine PW.iinc [(0, _), (1, _), (2, _), (3, _), (4, _), (5, _)] dX12_isAlike_45 rfl rfl (Nat.le_of_ble_eq_true rfl) ?_
          refine PW.goto 7 dX12_isAlike_48 (by decide) ?_
          have e := ih (i + 1) (by omega) (by omega) (by omega)
          rw [show i + 1 + 40 = i + 40 + 1 by omega] at e
          first
            | (rw [gtV_in (by omega), gtV_in (by omega)] at h35
               rw [b01_t (f1.mpr ⟨by assumption, decide_eq_false (fun q => q h35)⟩)] at e
               exact e)
            | (rw [gtV_in (by omega), gtV_in (by omega)] at h35
               rw [b01_f (fun q => by have := of_decide_eq_false (f1.mp q).2; exact this h35)] at e
               exact e)
            | (rw [b01_f (fun q => by have := (f1.mp q).1; contradiction)] at e
               exact e)
        · refine PW.iconst dX12_isAlike_38 ?_
          refine PW.goto 43 dX12_isAlike_39 (by decide) ?_
          refine PW.istore [(0, _), (1, _), (2, _), (3, _), (4, _), (5, _)] dX12_isAlike_43 rfl (Nat.le_of_ble_eq_true rfl) ?_
          refine PW.iinc [(0, _), (1, _), (2, _), (3, _), (4, _), (5, _)] dX12_isAlike_45 rfl rfl (Nat.le_of_ble_eq_true rfl) ?_
          refine PW.goto 7 dX12_isAlike_48 (by decide) ?_
          have e := ih (i + 1) (by omega) (by omega) (by omega)
          rw [show i + 1 + 40 = i + 40 + 1 by omega] at e
          first
            | (rw [gtV_in (by omega), gtV_in (by omega)] at h35
               rw [b01_t (f1.mpr ⟨by assumption, decide_eq_false (fun q => q h35)⟩)] at e
               exact e)
            | (rw [gtV_in (by omega), gtV_in (by omega)] at h35
               rw [b01_f (fun q => by have := of_decide_eq_false (f1.mp q).2; exact this h35)] at e
               exact e)
            | (rw [b01_f (fun q => by have := (f1.mp q).1; contradiction)] at e
               exact e)
theorem c_X12_isAlike {G : GT} {S : Shp} {σ : Sto} {m : Nat} {L K c : Int} (hA : IsMod S m) (hC : cOk (σ (m + 1)) 15360) (hL : 0 ≤ L ∧ L ≤ 2) (hK : 0 ≤ K ∧ K ≤ 2) (hc : 0 ≤ c ∧ c ≤ 63) : PMet G mX12_isAlike 2 0 0 [.ref m, .int (iI L), .int (iI K), .int (iI c)] S σ (isP (some (.int (iI (b01 (likP (clV (σ (m + 1)) L c) (clV (σ (m + 1)) K c)))))) S σ) := by
  refine PMet.of [(0, .ref m), (1, .int (iI (L))), (2, .int (iI (K))), (3, .int (iI (c)))] (by decide +kernel) rfl (Nat.le_of_ble_eq_true rfl) ?_
  refine PW.iconst dX12_isAlike_0 ?_
  refine PW.istore [(0, _), (1, _), (2, _), (3, _), (4, _)] dX12_isAlike_1 rfl (Nat.le_of_ble_eq_true rfl) ?_
  refine PW.bipush (by decide) dX12_isAlike_3 ?_
  refine PW.istore [(0, _), (1, _), (2, _), (3, _), (4, _), (5, _)] dX12_isAlike_5 rfl (Nat.le_of_ble_eq_true rfl) ?_
  have k := mo_alike_loop (G := G) (S := S) hA hC hL hK hc (Q := isP (some (.int (iI (b01 (likP (clV (σ (m + 1)) L c) (clV (σ (m + 1)) K c)))))) S σ) ⟨rfl, rfl, rfl⟩ 81 (-40) (by omega) (by omega) (by omega)
  rw [b01_t (show firI (likB (clV (σ (m + 1)) L c) (clV (σ (m + 1)) K c)) (-40 + 40 : Int).toNat = -1 from rfl)] at k
  exact k
theorem mo_unl_loop {G : GT} {S : Shp} {σ : Sto} {m : Nat} {L K : Int} {Q : Option Value → Shp → Sto → Prop} (hA : IsMod S m) (hC : cOk (σ (m + 1)) 15360) (hL : 0 ≤ L ∧ L ≤ 2) (hK : 0 ≤ K ∧ K ≤ 2) (hQ : Q (some (.int (iI (smF (fun c => b01 (¬ likP (clV (σ (m + 1)) L c) (clV (σ (m + 1)) K c))) 64)))) S σ) : ∀ (t : Nat) (i : Int), 0 ≤ i → i ≤ 64 → 64 - i < t → PW (fm G mX12_unlikeColumns 3 0 0 Q) G S (σ) 0 0 5 [(0, .ref m), (1, .int (iI (L))), (2, .int (iI (K))), (3, .int (iI (smF (fun c => b01 (¬ likP (clV (σ (m + 1)) L c) (clV (σ (m + 1)) K c))) i))), (4, .int (iI (i)))] [] := by
  intro t
  induction t with
  | zero => intro i h1 h2 h3; omega
  | succ t ih =>
    intro i h1 h2 h3
    have hb := smF_01 (P := fun c => ¬ likP (clV (σ (m + 1)) L c) (clV (σ (m + 1)) K c)) h1
    refine PW.iload dX12_unlikeColumns_5 rfl ?_
    refine PW.bipush (by decide) dX12_unlikeColumns_7 ?_
    refine PW.icmp_ge 40 dX12_unlikeColumns_9 (by decide) (by first | assumption | (unfold inR; omega)) (by first | assumption | (unfold inR; omega)) (fun h9 => ?_) (fun h9 => ?_)
    · refine PW.iload_n dX12_unlikeColumns_40 rfl ?_
      have hi : i = 64 := by omega
      subst hi
      exact PW.iret rfl rfl dX12_unlikeColumns_41 hQ
    · refine PW.iload_n dX12_unlikeColumns_12 rfl ?_
      refine PW.aload_n dX12_unlikeColumns_13 rfl ?_
      refine PW.iload_n dX12_unlikeColumns_14 rfl ?_
      refine PW.iload_n dX12_unlikeColumns_15 rfl ?_
      refine PW.iload dX12_unlikeColumns_16 rfl ?_
      refine PW.callVr (c_X12_isAlike hA (by assumption) (by omega) (by omega) (by omega)) cv_X12_isAlike lk_X12_211 (by first | assumption | exact And.left (by assumption)) dX12_unlikeColumns_18 rfl rfl rfl rfl ?_
      refine PW.if_neB 28 dX12_unlikeColumns_21 (by decide) (fun h21 => ?_) (fun h21 => ?_)
      · refine PW.iconst dX12_unlikeColumns_28 ?_
        refine PW.callSr (c_X12_bit (by first | omega | exact b01_b _)) cs_X12_bit lk_X12_207 dX12_unlikeColumns_29 rfl rfl rfl ?_
        refine PW.iadd dX12_unlikeColumns_32 ?_
        refine PW.istore_n [(0, _), (1, _), (2, _), (3, _), (4, _)] dX12_unlikeColumns_33 rfl (Nat.le_of_ble_eq_true rfl) ?_
        refine PW.iinc [(0, _), (1, _), (2, _), (3, _), (4, _)] dX12_unlikeColumns_34 rfl rfl (Nat.le_of_ble_eq_true rfl) ?_
        refine PW.goto 5 dX12_unlikeColumns_37 (by decide) ?_
        have e := ih (i + 1) (by omega) (by omega) (by omega)
        rw [smF_s _ h1] at e
        first
          | (rw [b01_t (by assumption)] at e; exact e)
          | (rw [b01_f (fun q => q (by assumption))] at e; exact e)
      · refine PW.iconst dX12_unlikeColumns_24 ?_
        refine PW.goto 29 dX12_unlikeColumns_25 (by decide) ?_
        refine PW.callSr (c_X12_bit (by first | omega | exact b01_b _)) cs_X12_bit lk_X12_207 dX12_unlikeColumns_29 rfl rfl rfl ?_
        refine PW.iadd dX12_unlikeColumns_32 ?_
        refine PW.istore_n [(0, _), (1, _), (2, _), (3, _), (4, _)] dX12_unlikeColumns_33 rfl (Nat.le_of_ble_eq_true rfl) ?_
        refine PW.iinc [(0, _), (1, _), (2, _), (3, _), (4, _)] dX12_unlikeColumns_34 rfl rfl (Nat.le_of_ble_eq_true rfl) ?_
        refine PW.goto 5 dX12_unlikeColumns_37 (by decide) ?_
        have e := ih (i + 1) (by omega) (by omega) (by omega)
        rw [smF_s _ h1] at e
        first
          | (rw [b01_t (by assumption)] at e; exact e)
          | (rw [b01_f (fun q => q (by assumption))] at e; exact e)
theorem c_X12_unlikeColumns {G : GT} {S : Shp} {σ : Sto} {m : Nat} {L K : Int} (hA : IsMod S m) (hC : cOk (σ (m + 1)) 15360) (hL : 0 ≤ L ∧ L ≤ 2) (hK : 0 ≤ K ∧ K ≤ 2) : PMet G mX12_unlikeColumns 3 0 0 [.ref m, .int (iI L), .int (iI K)] S σ (isP (some (.int (iI (smF (fun c => b01 (¬ likP (clV (σ (m + 1)) L c) (clV (σ (m + 1)) K c))) 64)))) S σ) := by
  refine PMet.of [(0, .ref m), (1, .int (iI (L))), (2, .int (iI (K)))] (by decide +kernel) rfl (Nat.le_of_ble_eq_true rfl) ?_
  refine PW.iconst dX12_unlikeColumns_0 ?_
  refine PW.istore_n [(0, _), (1, _), (2, _), (3, _)] dX12_unlikeColumns_1 rfl (Nat.le_of_ble_eq_true rfl) ?_
  refine PW.iconst dX12_unlikeColumns_2 ?_
  refine PW.istore [(0, _), (1, _), (2, _), (3, _), (4, _)] dX12_unlikeColumns_3 rfl (Nat.le_of_ble_eq_true rfl) ?_
  exact mo_unl_loop hA hC hL hK ⟨rfl, rfl, rfl⟩ 65 0 (by omega) (by omega) (by omega)
theorem mo_amt_loop {G : GT} {S : Shp} {σ : Sto} {m : Nat} {L b : Int} {Q : Option Value → Shp → Sto → Prop} (hA : IsMod S m) (hC : cOk (σ (m + 1)) 15360) (hL : 0 ≤ L ∧ L ≤ 2) (rb : inR b) (hQ : Q (some (.int (iI (smF (fun j => b01 (σ (m + 1) (5120 * L + j) = b)) 5120)))) S σ) : ∀ (t : Nat) (i : Int), 0 ≤ i → i ≤ 5120 → 5120 - i < t → PW (fm G mX12_amountOf 1 0 0 Q) G S (σ) 0 0 5 [(0, .ref m), (1, .int (iI (L))), (2, .int (iI (b))), (3, .int (iI (smF (fun j => b01 (σ (m + 1) (5120 * L + j) = b)) i))), (4, .int (iI (i)))] [] := by
  obtain ⟨hM0, hM1, hM2, hM3, hM4, hM5, hM6, hM7, hM8, hM9, hM10, hM11, hM12, hM13, hM14, hM15, hM16, hM17, hM18, hM19, hM20, hM21, hM22, hM23, hM24, hM25, hM26, hM27, hM28, hM29, hM30, hM31, hM32, hM33, hM34⟩ := id hA
  intro t
  induction t with
  | zero => intro i h1 h2 h3; omega
  | succ t ih =>
    intro i h1 h2 h3
    have hb := smF_01 (P := fun j => σ (m + 1) (5120 * L + j) = b) h1
    refine PW.iload dX12_amountOf_5 rfl ?_
    refine PW.sipush (by decide) dX12_amountOf_7 ?_
    refine PW.icmp_ge 47 dX12_amountOf_10 (by decide) (by first | assumption | (unfold inR; omega)) (by first | assumption | (unfold inR; omega)) (fun h10 => ?_) (fun h10 => ?_)
    · refine PW.iload_n dX12_amountOf_47 rfl ?_
      have hi : i = 5120 := by omega
      subst hi
      exact PW.iret rfl rfl dX12_amountOf_48 hQ
    · refine PW.iload_n dX12_amountOf_13 rfl ?_
      refine PW.aload_n dX12_amountOf_14 rfl ?_
      refine PW.getR fl_X12_7 rfl (by assumption) rfl dX12_amountOf_15 ?_
      refine PW.sipush (by decide) dX12_amountOf_18 ?_
      refine PW.iload_n dX12_amountOf_21 rfl ?_
      refine PW.imul dX12_amountOf_22 ?_
      refine PW.iload dX12_amountOf_23 rfl ?_
      refine PW.iadd dX12_amountOf_25 ?_
      refine PW.baload (by assumption) (by first | assumption | (unfold inR; omega)) (by omega) (by omega) dX12_amountOf_26 ?_
      have hv := hC (5120 * L + i) (by omega) (by omega)
      refine PW.iload_n dX12_amountOf_27 rfl ?_
      refine PW.icmp_ne 35 dX12_amountOf_28 (by decide) (by first | assumption | (unfold inR; omega)) (by first | assumption | (unfold inR; omega)) (fun h28 => ?_) (fun h28 => ?_)
      · refine PW.iconst dX12_amountOf_35 ?_
        refine PW.callSr (c_X12_bit (by first | omega | exact b01_b _)) cs_X12_bit lk_X12_207 dX12_amountOf_36 rfl rfl rfl ?_
        refine PW.iadd dX12_amountOf_39 ?_
        refine PW.istore_n [(0, _), (1, _), (2, _), (3, _), (4, _)] dX12_amountOf_40 rfl (Nat.le_of_ble_eq_true rfl) ?_
        refine PW.iinc [(0, _), (1, _), (2, _), (3, _), (4, _)] dX12_amountOf_41 rfl rfl (Nat.le_of_ble_eq_true rfl) ?_
        refine PW.goto 5 dX12_amountOf_44 (by decide) ?_
        have e := ih (i + 1) (by omega) (by omega) (by omega)
        rw [smF_s _ h1] at e
        first
          | (rw [b01_t (by assumption)] at e; exact e)
          | (rw [b01_f (by assumption)] at e; exact e)
      · refine PW.iconst dX12_amountOf_31 ?_
        refine PW.goto 36 dX12_amountOf_32 (by decide) ?_
        refine PW.callSr (c_X12_bit (by first | omega | exact b01_b _)) cs_X12_bit lk_X12_207 dX12_amountOf_36 rfl rfl rfl ?_
        refine PW.iadd dX12_amountOf_39 ?_
        refine PW.istore_n [(0, _), (1, _), (2, _), (3, _), (4, _)] dX12_amountOf_40 rfl (Nat.le_of_ble_eq_true rfl) ?_
        refine PW.iinc [(0, _), (1, _), (2, _), (3, _), (4, _)] dX12_amountOf_41 rfl rfl (Nat.le_of_ble_eq_true rfl) ?_
        refine PW.goto 5 dX12_amountOf_44 (by decide) ?_
        have e := ih (i + 1) (by omega) (by omega) (by omega)
        rw [smF_s _ h1] at e
        first
          | (rw [b01_t (by assumption)] at e; exact e)
          | (rw [b01_f (by assumption)] at e; exact e)
theorem smF_add (f : Int → Int) {i : Int} (hi : 0 ≤ i) : ∀ k : Nat, smF f (i + k) = smF f i + smF (fun j => f (i + j)) k
  | 0 => by rw [show i + ((0 : Nat) : Int) = i by omega]; show smF f i = smF f i + 0; omega
  | k + 1 => by
    rw [show i + ((k + 1 : Nat) : Int) = (i + k) + 1 by omega, smF_s f (by omega), smF_add f hi k, show ((k + 1 : Nat) : Int) = (k : Int) + 1 by omega, smF_s _ (by omega)]
    omega
theorem smF_cut (f : Int → Int) : ∀ c : Nat, smF f (80 * (c : Int)) = smF (fun q => smF (fun j => f (80 * q + j)) 80) c
  | 0 => rfl
  | c + 1 => by
    rw [show 80 * ((c + 1 : Nat) : Int) = 80 * (c : Int) + (80 : Nat) by omega, smF_add f (by omega) 80, smF_cut f c, show ((c + 1 : Nat) : Int) = (c : Int) + 1 by omega, smF_s _ (by omega)]
    rfl
theorem amt_eq (C : Int → Int) (L b : Int) : smF (fun j => b01 (C (5120 * L + j) = b)) 5120 = smF (fun c => clF (clV C L c) b) 64 := by
  have h := smF_cut (fun j => b01 (C (5120 * L + j) = b)) 64
  rw [show 80 * ((64 : Nat) : Int) = 5120 by omega] at h
  rw [h]
  refine smF_congr fun c c0 c1 => ?_
  unfold clF clV
  refine smF_congr fun j j0 j1 => ?_
  rw [show 5120 * L + (80 * c + j) = 5120 * L + 80 * c + j by omega]
theorem c_X12_amountOf {G : GT} {S : Shp} {σ : Sto} {m : Nat} {L b : Int} (hA : IsMod S m) (hC : cOk (σ (m + 1)) 15360) (hL : 0 ≤ L ∧ L ≤ 2) (rb : inR b) : PMet G mX12_amountOf 1 0 0 [.ref m, .int (iI L), .int (iI b)] S σ (isP (some (.int (iI (smF (fun c => clF (clV (σ (m + 1)) L c) b) 64)))) S σ) := by
  refine PMet.of [(0, .ref m), (1, .int (iI (L))), (2, .int (iI (b)))] (by decide +kernel) rfl (Nat.le_of_ble_eq_true rfl) ?_
  refine PW.iconst dX12_amountOf_0 ?_
  refine PW.istore_n [(0, _), (1, _), (2, _), (3, _)] dX12_amountOf_1 rfl (Nat.le_of_ble_eq_true rfl) ?_
  refine PW.iconst dX12_amountOf_2 ?_
  refine PW.istore [(0, _), (1, _), (2, _), (3, _), (4, _)] dX12_amountOf_3 rfl (Nat.le_of_ble_eq_true rfl) ?_
  exact mo_amt_loop hA hC hL rb ⟨by rw [amt_eq], rfl, rfl⟩ 5121 0 (by omega) (by omega) (by omega)
theorem mo_lies_loop {G : GT} {S : Shp} {σ : Sto} {m : Nat} {L c b p : Int} {Q : Option Value → Shp → Sto → Prop} (hA : IsMod S m) (hC : cOk (σ (m + 1)) 15360) (hL : 0 ≤ L ∧ L ≤ 2) (hc : 0 ≤ c ∧ c ≤ 63) (rb : inR b) (rp : inR p) (hQ : Q (some (.int (iI (b01 (lieP (clV (σ (m + 1)) L c) b p))))) S σ) : ∀ (t : Nat) (i : Int), -39 ≤ i → i ≤ 40 → 40 - i < t → (¬ firI (lieB (clV (σ (m + 1)) L c) b p) (i + 40).toNat = -1 → lieP (clV (σ (m + 1)) L c) b p) → PW (fm G mX12_liesOver 2 0 0 Q) G S (σ) 0 0 7 [(0, .ref m), (1, .int (iI (L))), (2, .int (iI (c))), (3, .int (iI (b))), (4, .int (iI (p))), (5, .int (iI (b01 (¬ firI (lieB (clV (σ (m + 1)) L c) b p) (i + 40).toNat = -1)))), (6, .int (iI (i)))] [] := by
  obtain ⟨hM0, hM1, hM2, hM3, hM4, hM5, hM6, hM7, hM8, hM9, hM10, hM11, hM12, hM13, hM14, hM15, hM16, hM17, hM18, hM19, hM20, hM21, hM22, hM23, hM24, hM25, hM26, hM27, hM28, hM29, hM30, hM31, hM32, hM33, hM34⟩ := id hA
  intro t
  induction t with
  | zero => intro i h1 h2 h3 g1; omega
  | succ t ih =>
    intro i h1 h2 h3 g1
    have f1 := firI_st (lieB (clV (σ (m + 1)) L c) b p) (i := i + 40) (by omega)
    have d1 := gtV_b hC (z := i) hL hc
    have d2 := gtV_b hC (z := i - 1) hL hc
    refine PW.iload dX12_liesOver_7 rfl ?_
    refine PW.bipush (by decide) dX12_liesOver_9 ?_
    refine PW.icmp_ge 59 dX12_liesOver_11 (by decide) (by first | assumption | (unfold inR; omega)) (by first | assumption | (unfold inR; omega)) (fun h11 => ?_) (fun h11 => ?_)
    · refine PW.iload dX12_liesOver_59 rfl ?_
      first
        | (have hi : i = 40 := by omega
           subst hi
           rw [show (40 + 40 : Int).toNat = 80 from rfl]
           exact PW.iret rfl (narB _) dX12_liesOver_61 hQ)
        | (rw [b01_t (show ¬ firI (lieB (clV (σ (m + 1)) L c) b p) (i + 40).toNat = -1 by assumption)]
           rw [b01_t (g1 (by assumption))] at hQ
           exact PW.iret rfl rfl dX12_liesOver_61 hQ)
    · refine PW.iload dX12_liesOver_14 rfl ?_
      refine PW.if_neB 59 dX12_liesOver_16 (by decide) (fun h16 => ?_) (fun h16 => ?_)
      · refine PW.iload dX12_liesOver_59 rfl ?_
        first
          | (have hi : i = 40 := by omega
             subst hi
             rw [show (40 + 40 : Int).toNat = 80 from rfl]
             exact PW.iret rfl (narB _) dX12_liesOver_61 hQ)
          | (rw [b01_t (show ¬ firI (lieB (clV (σ (m + 1)) L c) b p) (i + 40).toNat = -1 by assumption)]
             rw [b01_t (g1 (by assumption))] at hQ
             exact PW.iret rfl rfl dX12_liesOver_61 hQ)
      · refine PW.aload_n dX12_liesOver_19 rfl ?_
        refine PW.iload_n dX12_liesOver_20 rfl ?_
        refine PW.iload_n dX12_liesOver_21 rfl ?_
        refine PW.iload dX12_liesOver_22 rfl ?_
        refine PW.callVr (c_X12_get hA (by omega) (by omega) (by omega)) cv_X12_get lk_X12_127 (by first | assumption | exact And.left (by assumption)) dX12_liesOver_24 rfl rfl rfl rfl ?_
        refine PW.iload_n dX12_liesOver_27 rfl ?_
        refine PW.icmp_ne 50 dX12_liesOver_28 (by decide) (by first | assumption | (unfold inR; omega)) (by first | assumption | (unfold inR; omega)) (fun h28 => ?_) (fun h28 => ?_)
        · refine PW.iconst dX12_liesOver_50 ?_
          refine PW.istore [(0, _), (1, _), (2, _), (3, _), (4, _), (5, _), (6, _)] dX12_liesOver_51 rfl (Nat.le_of_ble_eq_true rfl) ?_
          refine PW.iinc [(0, _), (1, _), (2, _), (3, _), (4, _), (5, _), (6, _)] dX12_liesOver_53 rfl rfl (Nat.le_of_ble_eq_true rfl) ?_
          refine PW.goto 7 dX12_liesOver_56 (by decide) ?_
          have e := ih (i + 1) (by omega) (by omega) (by omega)
          rw [show i + 1 + 40 = i + 40 + 1 by omega] at e
          have h0 : firI (lieB (clV (σ (m + 1)) L c) b p) (i + 40).toNat = -1 := Classical.byContradiction (fun q => by contradiction)
          first
            | (rw [gtV_in (by omega)] at h28 h43
               have ht : (lieB (clV (σ (m + 1)) L c) b p) (i + 40) = true := decide_eq_true ⟨by omega, h28, by rw [show i + 40 - 1 = i - 1 + 40 by omega]; exact h43⟩
               have hl : lieP (clV (σ (m + 1)) L c) b p := by
                 show ¬ firI _ 80 = -1
                 rw [firI_hit (i := i + 40) (by omega) ht (fun j q1 q2 => (firI_spec (P := lieB (clV (σ (m + 1)) L c) b p) (n := (i + 40).toNat)).1 h0 j q1 (by omega)) (by omega)]
                 omega
               rw [b01_t (show ¬ firI (lieB (clV (σ (m + 1)) L c) b p) (i + 40 + 1).toNat = -1 from fun q => by rw [(f1.mp q).2] at ht; cases ht)] at e
               exact e (fun _ => hl))
            | (have hf : (lieB (clV (σ (m + 1)) L c) b p) (i + 40) = false := decide_eq_false (fun q => by
                 obtain ⟨-, q1, q2⟩ := q
                 rw [show i + 40 - 1 = i - 1 + 40 by omega] at q2
                 rw [gtV_in (by omega)] at h28
                 first
                   | exact h28 q1
                   | (rw [gtV_in (by omega)] at h43; exact h43 q2))
               rw [b01_f (show ¬ ¬ firI (lieB (clV (σ (m + 1)) L c) b p) (i + 40 + 1).toNat = -1 from fun q => q (f1.mpr ⟨h0, hf⟩))] at e
               exact e (fun q => absurd (f1.mpr ⟨h0, hf⟩) q))
        · refine PW.aload_n dX12_liesOver_31 rfl ?_
          refine PW.iload_n dX12_liesOver_32 rfl ?_
          refine PW.iload_n dX12_liesOver_33 rfl ?_
          refine PW.iload dX12_liesOver_34 rfl ?_
          refine PW.iconst dX12_liesOver_36 ?_
          refine PW.isub dX12_liesOver_37 ?_
          refine PW.callVr (c_X12_get hA (by omega) (by omega) (by omega)) cv_X12_get lk_X12_127 (by first | assumption | exact And.left (by assumption)) dX12_liesOver_38 rfl rfl rfl rfl ?_
          refine PW.iload dX12_liesOver_41 rfl ?_
          refine PW.icmp_ne 50 dX12_liesOver_43 (by decide) (by first | assumption | (unfold inR; omega)) (by first | assumption | (unfold inR; omega)) (fun h43 => ?_) (fun h43 => ?_)
          · refine PW.iconst dX12_liesOver_50 ?_
            refine PW.istore [(0, _), (1, _), (2, _), (3, _), (4, _), (5, _), (6, _)] dX12_liesOver_51 rfl (Nat.le_of_ble_eq_true rfl) ?_
            refine PW.iinc [(0, _), (1, _), (2, _), (3, _), (4, _), (5, _), (6, _)] dX12_liesOver_53 rfl rfl (Nat.le_of_ble_eq_true rfl) ?_
            refine PW.goto 7 dX12_liesOver_56 (by decide) ?_
            have e := ih (i + 1) (by omega) (by omega) (by omega)
            rw [show i + 1 + 40 = i + 40 + 1 by omega] at e
            have h0 : firI (lieB (clV (σ (m + 1)) L c) b p) (i + 40).toNat = -1 := Classical.byContradiction (fun q => by contradiction)
            first
              | (rw [gtV_in (by omega)] at h28 h43
                 have ht : (lieB (clV (σ (m + 1)) L c) b p) (i + 40) = true := decide_eq_true ⟨by omega, h28, by rw [show i + 40 - 1 = i - 1 + 40 by omega]; exact h43⟩
                 have hl : lieP (clV (σ (m + 1)) L c) b p := by
                   show ¬ firI _ 80 = -1
                   rw [firI_hit (i := i + 40) (by omega) ht (fun j q1 q2 => (firI_spec (P := lieB (clV (σ (m + 1)) L c) b p) (n := (i + 40).toNat)).1 h0 j q1 (by omega)) (by omega)]
                   omega
                 rw [b01_t (show ¬ firI (lieB (clV (σ (m + 1)) L c) b p) (i + 40 + 1).toNat = -1 from fun q => by rw [(f1.mp q).2] at ht; cases ht)] at e
                 exact e (fun _ => hl))
              | (have hf : (lieB (clV (σ (m + 1)) L c) b p) (i + 40) = false := decide_eq_false (fun q => by
                   obtain ⟨-, q1, q2⟩ := q
                   rw [show i + 40 - 1 = i - 1 + 40 by omega] at q2
                   rw [gtV_in (by omega)] at h28
                   first
                     | exact h28 q1
                     | (rw [gtV_in (by omega)] at h43; exact h43 q2))
                 rw [b01_f (show ¬ ¬ firI (lieB (clV (σ (m + 1)) L c) b p) (i + 40 + 1).toNat = -1 from fun q => q (f1.mpr ⟨h0, hf⟩))] at e
                 exact e (fun q => absurd (f1.mpr ⟨h0, hf⟩) q))
          · refine PW.iconst dX12_liesOver_46 ?_
            refine PW.goto 51 dX12_liesOver_47 (by decide) ?_
            refine PW.istore [(0, _), (1, _), (2, _), (3, _), (4, _), (5, _), (6, _)] dX12_liesOver_51 rfl (Nat.le_of_ble_eq_true rfl) ?_
            refine PW.iinc [(0, _), (1, _), (2, _), (3, _), (4, _), (5, _), (6, _)] dX12_liesOver_53 rfl rfl (Nat.le_of_ble_eq_true rfl) ?_
            refine PW.goto 7 dX12_liesOver_56 (by decide) ?_
            have e := ih (i + 1) (by omega) (by omega) (by omega)
            rw [show i + 1 + 40 = i + 40 + 1 by omega] at e
            have h0 : firI (lieB (clV (σ (m + 1)) L c) b p) (i + 40).toNat = -1 := Classical.byContradiction (fun q => by contradiction)
            first
              | (rw [gtV_in (by omega)] at h28 h43
                 have ht : (lieB (clV (σ (m + 1)) L c) b p) (i + 40) = true := decide_eq_true ⟨by omega, h28, by rw [show i + 40 - 1 = i - 1 + 40 by omega]; exact h43⟩
                 have hl : lieP (clV (σ (m + 1)) L c) b p := by
                   show ¬ firI _ 80 = -1
                   rw [firI_hit (i := i + 40) (by omega) ht (fun j q1 q2 => (firI_spec (P := lieB (clV (σ (m + 1)) L c) b p) (n := (i + 40).toNat)).1 h0 j q1 (by omega)) (by omega)]
                   omega
                 rw [b01_t (show ¬ firI (lieB (clV (σ (m + 1)) L c) b p) (i + 40 + 1).toNat = -1 from fun q => by rw [(f1.mp q).2] at ht; cases ht)] at e
                 exact e (fun _ => hl))
              | (have hf : (lieB (clV (σ (m + 1)) L c) b p) (i + 40) = false := decide_eq_false (fun q => by
                   obtain ⟨-, q1, q2⟩ := q
                   rw [show i + 40 - 1 = i - 1 + 40 by omega] at q2
                   rw [gtV_in (by omega)] at h28
                   first
                     | exact h28 q1
                     | (rw [gtV_in (by omega)] at h43; exact h43 q2))
                 rw [b01_f (show ¬ ¬ firI (lieB (clV (σ (m + 1)) L c) b p) (i + 40 + 1).toNat = -1 from fun q => q (f1.mpr ⟨h0, hf⟩))] at e
                 exact e (fun q => absurd (f1.mpr ⟨h0, hf⟩) q))
theorem c_X12_liesOver {G : GT} {S : Shp} {σ : Sto} {m : Nat} {L c b p : Int} (hA : IsMod S m) (hC : cOk (σ (m + 1)) 15360) (hL : 0 ≤ L ∧ L ≤ 2) (hc : 0 ≤ c ∧ c ≤ 63) (rb : inR b) (rp : inR p) : PMet G mX12_liesOver 2 0 0 [.ref m, .int (iI L), .int (iI c), .int (iI b), .int (iI p)] S σ (isP (some (.int (iI (b01 (lieP (clV (σ (m + 1)) L c) b p))))) S σ) := by
  refine PMet.of [(0, .ref m), (1, .int (iI (L))), (2, .int (iI (c))), (3, .int (iI (b))), (4, .int (iI (p)))] (by decide +kernel) rfl (Nat.le_of_ble_eq_true rfl) ?_
  refine PW.iconst dX12_liesOver_0 ?_
  refine PW.istore [(0, _), (1, _), (2, _), (3, _), (4, _), (5, _)] dX12_liesOver_1 rfl (Nat.le_of_ble_eq_true rfl) ?_
  refine PW.bipush (by decide) dX12_liesOver_3 ?_
  refine PW.istore [(0, _), (1, _), (2, _), (3, _), (4, _), (5, _), (6, _)] dX12_liesOver_5 rfl (Nat.le_of_ble_eq_true rfl) ?_
  have e : firI (lieB (clV (σ (m + 1)) L c) b p) (-39 + 40 : Int).toNat = -1 := firI_none (fun j q1 q2 => decide_eq_false (fun q => by omega))
  have k := mo_lies_loop (G := G) hA hC hL hc rb rp (Q := isP (some (.int (iI (b01 (lieP (clV (σ (m + 1)) L c) b p))))) S σ) ⟨rfl, rfl, rfl⟩ 80 (-39) (by omega) (by omega) (by omega) (fun q => absurd e q)
  rw [b01_f (show ¬ ¬ firI (lieB (clV (σ (m + 1)) L c) b p) (-39 + 40 : Int).toNat = -1 from fun q => q e)] at k
  exact k

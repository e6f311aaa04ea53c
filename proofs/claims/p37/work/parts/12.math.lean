/-- reading a row of numbers that no index leaves -/
def gI (f : Int → Int) (N : Nat) (i : Int) : Int := if 0 ≤ i ∧ i < N then f i else 0
def flI (f : Int → Int) (fr en : Int) (N : Nat) (v : Int) : Int → Int := fun j => if fr ≤ j ∧ j < en ∧ 0 ≤ j ∧ j < N then v else f j
theorem narI (z : Int) : narrow .int (.int (iI z)) = .int (iI z) := rfl
theorem narB (P : Prop) [Decidable P] : narrow .boolean (.int (iI (b01 P))) = .int (iI (b01 P)) := by
  unfold b01
  split <;> rfl
theorem upS_upS (σ : Sto) (a : Nat) (f g : Int → Int) : upS (upS σ a f) a g = upS σ a g := by
  funext b
  by_cases h : b = a <;> simp [upS, h]
theorem upS_self (σ : Sto) (a : Nat) : upS σ a (σ a) = σ := by
  funext b
  by_cases h : b = a <;> simp [upS, h]
theorem PW.st {x : FX} {G : GT} {S : Shp} {σ : Sto} {k n pc : Nat} {l : LV} {st : List Value} (σ' : Sto) (h : σ = σ') (kk : PW x G S σ' k n pc l st) : PW x G S σ k n pc l st := by
  rw [h]
  exact kk
theorem PW.top {x : FX} {G : GT} {S : Shp} {σ : Sto} {k n pc : Nat} {l : LV} {st : List Value} {a : Int} (b : Int) (h : a = b) (kk : PW x G S σ k n pc l (.int (iI b) :: st)) : PW x G S σ k n pc l (.int (iI a) :: st) := by
  rw [h]
  exact kk
theorem bXor_neg {a b : Int} (ha : inR a) (hb : inR b) : bXor a b < 0 ↔ (a < 0 ↔ ¬ b < 0) := by
  have key : ∀ z : Int32, z.toInt < 0 ↔ z.toBitVec.msb = true := by
    intro z
    rw [BitVec.msb_eq_toInt]
    exact (decide_eq_true_iff).symm
  unfold bXor
  rw [key, show (iI a ^^^ iI b).toBitVec = (iI a).toBitVec ^^^ (iI b).toBitVec from rfl, BitVec.msb_xor]
  have h1 := key (iI a)
  have h2 := key (iI b)
  rw [iI_toInt ha] at h1
  rw [iI_toInt hb] at h2
  rw [h1, h2]
  cases (iI a).toBitVec.msb <;> cases (iI b).toBitVec.msb <;> simp
theorem bXor_R (a b : Int) : inR (bXor a b) := inR_of _
theorem tdv_R (a b : Int) : inR (tdv a b) := inR_of _
theorem tdv_eq {a b : Int} (ha : inR a) (hb : inR b) (h : a ≠ -2147483648) : tdv a b = a.tdiv b := by
  unfold tdv
  rw [Int32.toInt_div_of_ne_left _ _ (fun e => h (by have := congrArg Int32.toInt e; rw [iI_toInt ha] at this; exact this)), iI_toInt ha, iI_toInt hb]
def inR2 (q a : Int) : Prop := (0 ≤ a → -a ≤ q ∧ q ≤ a) ∧ (a ≤ 0 → a ≤ q ∧ q ≤ -a)
theorem fdv {a b : Int} (hb0 : b ≠ 0) : a.fdiv b = if (a < 0 ↔ ¬ b < 0) ∧ a.tdiv b * b ≠ a then a.tdiv b - 1 else a.tdiv b := by
  rw [Int.fdiv_eq_tdiv]
  by_cases hd : b ∣ a
  · have : a.tdiv b * b = a := Int.tdiv_mul_cancel hd
    rw [if_pos hd, if_neg (fun h => h.2 this)]
    omega
  · have hm : ¬ a.tdiv b * b = a := fun h => hd ⟨a.tdiv b, by rw [Int.mul_comm]; exact h.symm⟩
    rw [if_neg hd]
    by_cases h1 : 0 ≤ a
    · rw [if_pos h1]
      by_cases h2 : 0 ≤ b
      · rw [if_pos h2, if_neg (fun h => by have := h.1; omega)]
        omega
      · rw [if_neg h2, if_pos ⟨by omega, hm⟩]
    · rw [if_neg h1]
      by_cases h2 : 0 ≤ b
      · rw [if_pos h2, if_pos ⟨by omega, hm⟩, Int.sign_eq_one_of_pos (by omega)]
      · rw [if_neg h2, if_neg (fun h => by have := h.1; omega), Int.sign_eq_neg_one_of_neg (by omega)]
        omega
theorem tm_f (a b : Int) : (0 ≤ a → 0 ≤ a.tmod b ∧ a.tmod b ≤ a) ∧ (a ≤ 0 → a ≤ a.tmod b ∧ a.tmod b ≤ 0) ∧ a.tdiv b * b = a - a.tmod b ∧ inR2 (a.tdiv b) a := by
  have h1 := Int.natAbs_tmod a b
  have h2 : a.natAbs % b.natAbs ≤ a.natAbs := Nat.mod_le _ _
  have h5 := Int.natAbs_tdiv a b
  have h6 : a.natAbs.div b.natAbs ≤ a.natAbs := Nat.div_le_self _ _
  refine ⟨fun h => ?_, fun h => ?_, Int.tdiv_mul_self a b, ?_⟩
  · have h3 := Int.tmod_nonneg b h
    omega
  · have h3 := Int.tmod_nonneg b (show 0 ≤ -a by omega)
    rw [Int.neg_tmod] at h3
    omega
  · unfold inR2
    omega

theorem c_J9_max_7cf53 {G : GT} {S : Shp} {σ : Sto} {a b : Int} (ha : inR a) (hb : inR b) : PMet G mJ9_max_7cf53 0 0 0 [.int (iI a), .int (iI b)] S σ (isP (some (.int (iI (max a b)))) S σ) := by
  refine PMet.of [(0, .int (iI a)), (1, .int (iI b))] (by decide +kernel) rfl (Nat.le_of_ble_eq_true rfl) ?_
  refine PW.iload_n dJ9_max_7cf53_0 rfl ?_
  refine PW.iload_n dJ9_max_7cf53_1 rfl ?_
  refine PW.icmp_lt 9 dJ9_max_7cf53_2 (by decide) (by first | assumption | (unfold inR; omega)) (by first | assumption | (unfold inR; omega)) (fun h2 => ?_) (fun h2 => ?_)
  · refine PW.iload_n dJ9_max_7cf53_9 rfl ?_
    exact PW.iret rfl rfl dJ9_max_7cf53_10 ⟨ret_eq (by omega), rfl, rfl⟩
  · refine PW.iload_n dJ9_max_7cf53_5 rfl ?_
    refine PW.goto 10 dJ9_max_7cf53_6 (by decide) ?_
    exact PW.iret rfl rfl dJ9_max_7cf53_10 ⟨ret_eq (by omega), rfl, rfl⟩
theorem c_J9_min_7cf53 {G : GT} {S : Shp} {σ : Sto} {a b : Int} (ha : inR a) (hb : inR b) : PMet G mJ9_min_7cf53 0 0 0 [.int (iI a), .int (iI b)] S σ (isP (some (.int (iI (min a b)))) S σ) := by
  refine PMet.of [(0, .int (iI a)), (1, .int (iI b))] (by decide +kernel) rfl (Nat.le_of_ble_eq_true rfl) ?_
  refine PW.iload_n dJ9_min_7cf53_0 rfl ?_
  refine PW.iload_n dJ9_min_7cf53_1 rfl ?_
  refine PW.icmp_gt 9 dJ9_min_7cf53_2 (by decide) (by first | assumption | (unfold inR; omega)) (by first | assumption | (unfold inR; omega)) (fun h2 => ?_) (fun h2 => ?_)
  · refine PW.iload_n dJ9_min_7cf53_9 rfl ?_
    exact PW.iret rfl rfl dJ9_min_7cf53_10 ⟨ret_eq (by omega), rfl, rfl⟩
  · refine PW.iload_n dJ9_min_7cf53_5 rfl ?_
    refine PW.goto 10 dJ9_min_7cf53_6 (by decide) ?_
    exact PW.iret rfl rfl dJ9_min_7cf53_10 ⟨ret_eq (by omega), rfl, rfl⟩
theorem c_J9_floorDiv_7cf53 {G : GT} {S : Shp} {σ : Sto} {a b : Int} (ha : inR a) (hb : inR b) (hb0 : b ≠ 0) (h0 : a ≠ -2147483648) : PMet G mJ9_floorDiv_7cf53 0 0 0 [.int (iI a), .int (iI b)] S σ (isP (some (.int (iI (a.fdiv b)))) S σ) := by
  refine PMet.of [(0, .int (iI a)), (1, .int (iI b))] (by decide +kernel) rfl (Nat.le_of_ble_eq_true rfl) ?_
  refine PW.iload_n dJ9_floorDiv_7cf53_0 rfl ?_
  refine PW.iload_n dJ9_floorDiv_7cf53_1 rfl ?_
  refine PW.idiv hb hb0 dJ9_floorDiv_7cf53_2 ?_
  refine PW.top (a.tdiv b) (tdv_eq ha hb h0) ?_
  refine PW.istore_n [(0, _), (1, _), (2, _)] dJ9_floorDiv_7cf53_3 rfl (Nat.le_of_ble_eq_true rfl) ?_
  refine PW.iload_n dJ9_floorDiv_7cf53_4 rfl ?_
  refine PW.iload_n dJ9_floorDiv_7cf53_5 rfl ?_
  refine PW.ixor dJ9_floorDiv_7cf53_6 ?_
  refine PW.if_ge 21 dJ9_floorDiv_7cf53_7 (by decide) (by first | assumption | exact bXor_R _ _ | (have := tm_f a b; unfold inR2 at this; unfold inR at *; omega)) (fun h7 => ?_) (fun h7 => ?_)
  · refine PW.iload_n dJ9_floorDiv_7cf53_21 rfl ?_
    exact PW.iret rfl rfl dJ9_floorDiv_7cf53_22 ⟨ret_eq (by rw [fdv hb0, if_neg (fun h => by first | exact h.2 (by assumption) | (have := (bXor_neg ha hb).mpr h.1; omega))]), rfl, rfl⟩
  · refine PW.iload_n dJ9_floorDiv_7cf53_10 rfl ?_
    refine PW.iload_n dJ9_floorDiv_7cf53_11 rfl ?_
    refine PW.imul dJ9_floorDiv_7cf53_12 ?_
    refine PW.iload_n dJ9_floorDiv_7cf53_13 rfl ?_
    refine PW.icmp_eq 21 dJ9_floorDiv_7cf53_14 (by decide) (by first | assumption | exact bXor_R _ _ | (have := tm_f a b; unfold inR2 at this; unfold inR at *; omega)) (by first | assumption | exact bXor_R _ _ | (have := tm_f a b; unfold inR2 at this; unfold inR at *; omega)) (fun h14 => ?_) (fun h14 => ?_)
    · refine PW.iload_n dJ9_floorDiv_7cf53_21 rfl ?_
      exact PW.iret rfl rfl dJ9_floorDiv_7cf53_22 ⟨ret_eq (by rw [fdv hb0, if_neg (fun h => by first | exact h.2 (by assumption) | (have := (bXor_neg ha hb).mpr h.1; omega))]), rfl, rfl⟩
    · refine PW.iload_n dJ9_floorDiv_7cf53_17 rfl ?_
      refine PW.iconst dJ9_floorDiv_7cf53_18 ?_
      refine PW.isub dJ9_floorDiv_7cf53_19 ?_
      exact PW.iret rfl rfl dJ9_floorDiv_7cf53_20 ⟨ret_eq (by rw [fdv hb0, if_pos ⟨(bXor_neg ha hb).mp (by omega), h14⟩]), rfl, rfl⟩
theorem c_J9_floorMod_7cf53 {G : GT} {S : Shp} {σ : Sto} {a b : Int} (ha : inR a) (hb : inR b) (hb0 : b ≠ 0) (h0 : a ≠ -2147483648) : PMet G mJ9_floorMod_7cf53 0 0 0 [.int (iI a), .int (iI b)] S σ (isP (some (.int (iI (a.fmod b)))) S σ) := by
  refine PMet.of [(0, .int (iI a)), (1, .int (iI b))] (by decide +kernel) rfl (Nat.le_of_ble_eq_true rfl) ?_
  refine PW.iload_n dJ9_floorMod_7cf53_0 rfl ?_
  refine PW.iload_n dJ9_floorMod_7cf53_1 rfl ?_
  refine PW.irem hb hb0 dJ9_floorMod_7cf53_2 ?_
  refine PW.top (a.tmod b) (by rw [tdv_eq ha hb h0, Int.tdiv_mul_self]; omega) ?_
  refine PW.istore_n [(0, _), (1, _), (2, _)] dJ9_floorMod_7cf53_3 rfl (Nat.le_of_ble_eq_true rfl) ?_
  refine PW.iload_n dJ9_floorMod_7cf53_4 rfl ?_
  refine PW.iload_n dJ9_floorMod_7cf53_5 rfl ?_
  refine PW.ixor dJ9_floorMod_7cf53_6 ?_
  refine PW.if_ge 18 dJ9_floorMod_7cf53_7 (by decide) (by first | assumption | exact bXor_R _ _ | (have := tm_f a b; unfold inR2 at this; unfold inR at *; omega)) (fun h7 => ?_) (fun h7 => ?_)
  · refine PW.iload_n dJ9_floorMod_7cf53_18 rfl ?_
    exact PW.iret rfl rfl dJ9_floorMod_7cf53_19 ⟨ret_eq (by rw [Int.fmod_def, Int.mul_comm, fdv hb0, if_neg (fun h => by first | (have := (bXor_neg ha hb).mpr h.1; omega) | exact h.2 (by have := Int.tdiv_mul_self a b; omega)), Int.tdiv_mul_self]; omega), rfl, rfl⟩
  · refine PW.iload_n dJ9_floorMod_7cf53_10 rfl ?_
    refine PW.if_eq 18 dJ9_floorMod_7cf53_11 (by decide) (by first | assumption | exact bXor_R _ _ | (have := tm_f a b; unfold inR2 at this; unfold inR at *; omega)) (fun h11 => ?_) (fun h11 => ?_)
    · refine PW.iload_n dJ9_floorMod_7cf53_18 rfl ?_
      exact PW.iret rfl rfl dJ9_floorMod_7cf53_19 ⟨ret_eq (by rw [Int.fmod_def, Int.mul_comm, fdv hb0, if_neg (fun h => by first | (have := (bXor_neg ha hb).mpr h.1; omega) | exact h.2 (by have := Int.tdiv_mul_self a b; omega)), Int.tdiv_mul_self]; omega), rfl, rfl⟩
    · refine PW.iload_n dJ9_floorMod_7cf53_14 rfl ?_
      refine PW.iload_n dJ9_floorMod_7cf53_15 rfl ?_
      refine PW.iadd dJ9_floorMod_7cf53_16 ?_
      exact PW.iret rfl rfl dJ9_floorMod_7cf53_17 ⟨ret_eq (by rw [Int.fmod_def, Int.mul_comm, fdv hb0, if_pos ⟨(bXor_neg ha hb).mp (by omega), fun h => h11 (by have := Int.tdiv_mul_self a b; omega)⟩, Int.sub_mul, Int.tdiv_mul_self]; omega), rfl, rfl⟩

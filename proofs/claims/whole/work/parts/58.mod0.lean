/-- the model's cells: its rows stand behind it -/
def IsMod (S : Shp) (m : Nat) : Prop := At S m (sO 11 [fR (m + 1), fR (m + 2), fI, fR (m + 3), fR (m + 4), fR (m + 5), fR (m + 6), fR (m + 7), fI, fI, fI, fI, fI, fI, fR (m + 8), fR (m + 9), fI, fR (m + 10), fR (m + 11), fR (m + 12), fR (m + 13), fR (m + 14), fR (m + 15), fI, fR (m + 16), fR (m + 17), fR (m + 18), fR (m + 19), fR (m + 20), fI, fR (m + 21), fR (m + 22), fR (m + 23), fR (m + 24), fR (m + 25), fR (m + 26), fR (m + 27), fR (m + 28), fI, fR (m + 29), fR (m + 30), fI, fR (m + 31), fR (m + 32), fR (m + 33), fR (m + 34), fI, fI]) ∧ At S (m + 1) (sA 1 15360) ∧ At S (m + 2) (sA 1 80) ∧ At S (m + 3) (sA 0 16) ∧ At S (m + 4) (sA 0 80) ∧ At S (m + 5) (sA 2 16) ∧ At S (m + 6) (sA 0 5) ∧ At S (m + 7) (sA 0 300) ∧ At S (m + 8) (sA 0 16) ∧ At S (m + 9) (sA 0 80) ∧ At S (m + 10) (sA 0 16) ∧ At S (m + 11) (sA 2 4) ∧ At S (m + 12) (sA 0 4) ∧ At S (m + 13) (sA 0 64) ∧ At S (m + 14) (sA 0 320) ∧ At S (m + 15) (sA 2 64) ∧ At S (m + 16) (sA 0 30) ∧ At S (m + 17) (sA 0 30) ∧ At S (m + 18) (sA 0 30) ∧ At S (m + 19) (sA 0 30) ∧ At S (m + 20) (sA 0 30) ∧ At S (m + 21) (sA 0 24) ∧ At S (m + 22) (sA 0 24) ∧ At S (m + 23) (sA 0 24) ∧ At S (m + 24) (sA 0 256) ∧ At S (m + 25) (sA 0 8) ∧ At S (m + 26) (sA 0 8) ∧ At S (m + 27) (sA 0 13448) ∧ At S (m + 28) (sA 0 8) ∧ At S (m + 29) (sA 0 4) ∧ At S (m + 30) (sA 0 20) ∧ At S (m + 31) (sA 0 65) ∧ At S (m + 32) (sA 0 260) ∧ At S (m + 33) (sA 1 332800) ∧ At S (m + 34) (sA 0 4)
theorem zcmp_f (a b : Int) : (zcmp a b < 0 ↔ a < b) ∧ (0 < zcmp a b ↔ b < a) ∧ (-1 ≤ zcmp a b ∧ zcmp a b ≤ 1) := by
  unfold zcmp
  split
  · omega
  · split <;> omega
theorem zcmp_R (a b : Int) : inR (zcmp a b) := by
  have := zcmp_f a b
  unfold inR
  omega
theorem inL_R {a : Int} (h : inR a) : inL a := by unfold inR at h; unfold inL; omega
theorem tdv_nn {a b : Int} (h0 : 0 ≤ a) (ha : inR a) (hb : inR b) : tdv a b = a / b := by
  rw [tdv_eq ha hb (by omega), Int.tdiv_eq_ediv_of_nonneg h0]
theorem b8_id {a : Int} (h : -128 ≤ a ∧ a ≤ 127) : b8 a = a := by
  have key : ∀ n : Fin 256, b8 ((n.val : Int) - 128) = (n.val : Int) - 128 := by decide +kernel
  have := key ⟨(a + 128).toNat, by omega⟩
  dsimp only at this
  rw [show (((a + 128).toNat : Nat) : Int) - 128 = a by omega] at this
  exact this
theorem narY {a : Int} (h : -128 ≤ a ∧ a ≤ 127) : narrow .byte (.int (iI a)) = .int (iI a) := by
  have key : ∀ n : Fin 256, narrow .byte (.int (iI ((n.val : Int) - 128))) = .int (iI ((n.val : Int) - 128)) := by
    intro n
    show Value.int _ = Value.int _
    congr 1
    revert n
    decide +kernel
  have := key ⟨(a + 128).toNat, by omega⟩
  dsimp only at this
  rw [show (((a + 128).toNat : Nat) : Int) - 128 = a by omega] at this
  exact this
theorem nar0 : narrow .boolean (.int (iI 0)) = .int (iI 0) := rfl
theorem nar1 : narrow .boolean (.int (iI 1)) = .int (iI 1) := rfl
theorem c_X12_in {G : GT} {S : Shp} {σ : Sto} {v lo hi : Int} (hv : inL v) (hl : inL lo) (hh : inL hi) : PMet G mX12_in 0 0 0 [.long (lI v), .long (lI lo), .long (lI hi)] S σ (isP (some (.int (iI (b01 (lo ≤ v ∧ v ≤ hi))))) S σ) := by
  have z1 := zcmp_f v lo
  have z2 := zcmp_f v hi
  refine PMet.of [(0, .long (lI v)), (2, .long (lI lo)), (4, .long (lI hi))] (by decide +kernel) rfl (Nat.le_of_ble_eq_true rfl) ?_
  refine PW.lload_n dX12_in_0 rfl ?_
  refine PW.lload_n dX12_in_1 rfl ?_
  refine PW.lcmp hv hl dX12_in_2 ?_
  refine PW.if_lt 17 dX12_in_3 (by decide) (by first | (unfold inR; omega) | exact zcmp_R _ _ | assumption) (fun h3 => ?_) (fun h3 => ?_)
  · refine PW.iconst dX12_in_17 ?_
    exact PW.iret rfl (by first | rfl | exact narB _) dX12_in_18 ⟨ret_eq (by unfold b01; first | (exfalso; omega) | rw [if_pos (by omega)] | rw [if_neg (by omega)]), rfl, rfl⟩
  · refine PW.lload_n dX12_in_6 rfl ?_
    refine PW.lload dX12_in_7 rfl ?_
    refine PW.lcmp hv hh dX12_in_9 ?_
    refine PW.if_gt 17 dX12_in_10 (by decide) (by first | (unfold inR; omega) | exact zcmp_R _ _ | assumption) (fun h10 => ?_) (fun h10 => ?_)
    · refine PW.iconst dX12_in_17 ?_
      exact PW.iret rfl (by first | rfl | exact narB _) dX12_in_18 ⟨ret_eq (by unfold b01; first | (exfalso; omega) | rw [if_pos (by omega)] | rw [if_neg (by omega)]), rfl, rfl⟩
    · refine PW.iconst dX12_in_13 ?_
      refine PW.goto 18 dX12_in_14 (by decide) ?_
      exact PW.iret rfl (by first | rfl | exact narB _) dX12_in_18 ⟨ret_eq (by unfold b01; first | (exfalso; omega) | rw [if_pos (by omega)] | rw [if_neg (by omega)]), rfl, rfl⟩
theorem c_X12_bit {G : GT} {S : Shp} {σ : Sto} {v : Int} (hv : 0 ≤ v ∧ v ≤ 1) : PMet G mX12_bit 0 0 0 [.int (iI (v))] S σ (isP (some (.int (iI (v)))) S σ) := by
  refine PMet.of [(0, .int (iI (v)))] (by decide +kernel) rfl (Nat.le_of_ble_eq_true rfl) ?_
  refine PW.iload_n dX12_bit_0 rfl ?_
  refine PW.if_eq 8 dX12_bit_1 (by decide) (by first | assumption | (unfold inR; omega)) (fun h1 => ?_) (fun h1 => ?_)
  · refine PW.iconst dX12_bit_8 ?_
    exact PW.iret rfl rfl dX12_bit_9 ⟨ret_eq (by omega), rfl, rfl⟩
  · refine PW.iconst dX12_bit_4 ?_
    refine PW.goto 9 dX12_bit_5 (by decide) ?_
    exact PW.iret rfl rfl dX12_bit_9 ⟨ret_eq (by omega), rfl, rfl⟩
theorem c_X12_floor {G : GT} {S : Shp} {σ : Sto} {a b : Int} (hb : b = 2 ∨ b = 4) (ha : -1000000 ≤ a ∧ a ≤ 1000000) : PMet G mX12_floor 0 0 0 [.int (iI a), .int (iI b)] S σ (isP (some (.int (iI (a / b)))) S σ) := by
  refine PMet.of [(0, .int (iI (a))), (1, .int (iI (b)))] (by decide +kernel) rfl (Nat.le_of_ble_eq_true rfl) ?_
  refine PW.iload_n dX12_floor_0 rfl ?_
  refine PW.if_lt 10 dX12_floor_1 (by decide) (by first | assumption | (unfold inR; omega)) (fun h1 => ?_) (fun h1 => ?_)
  · refine PW.iconst dX12_floor_10 ?_
    refine PW.iload_n dX12_floor_11 rfl ?_
    refine PW.iconst dX12_floor_12 ?_
    refine PW.isub dX12_floor_13 ?_
    refine PW.iload_n dX12_floor_14 rfl ?_
    refine PW.isub dX12_floor_15 ?_
    refine PW.iload_n dX12_floor_16 rfl ?_
    refine PW.idiv (by unfold inR; omega) (by omega) dX12_floor_17 ?_
    refine PW.top ((b - 1 - a) / b) (tdv_nn (by omega) (by unfold inR; omega) (by unfold inR; omega)) ?_
    refine PW.isub dX12_floor_18 ?_
    exact PW.iret rfl rfl dX12_floor_19 ⟨ret_eq (by first | rfl | (rcases hb with rfl | rfl <;> omega)), rfl, rfl⟩
  · refine PW.iload_n dX12_floor_4 rfl ?_
    refine PW.iload_n dX12_floor_5 rfl ?_
    refine PW.idiv (by unfold inR; omega) (by omega) dX12_floor_6 ?_
    refine PW.top (a / b) (tdv_nn (by omega) (by unfold inR; omega) (by unfold inR; omega)) ?_
    refine PW.goto 19 dX12_floor_7 (by decide) ?_
    exact PW.iret rfl rfl dX12_floor_19 ⟨ret_eq (by first | rfl | (rcases hb with rfl | rfl <;> omega)), rfl, rfl⟩
theorem c_X12_cellAt {G : GT} {S : Shp} {σ : Sto} {l c z : Int}  : PMet G mX12_cellAt 0 0 0 [.int (iI (l)), .int (iI (c)), .int (iI (z))] S σ (isP (some (.int (iI (5120 * l + 80 * c + z + 40)))) S σ) := by
  refine PMet.of [(0, .int (iI (l))), (1, .int (iI (c))), (2, .int (iI (z)))] (by decide +kernel) rfl (Nat.le_of_ble_eq_true rfl) ?_
  refine PW.sipush (by decide) dX12_cellAt_0 ?_
  refine PW.iload_n dX12_cellAt_3 rfl ?_
  refine PW.imul dX12_cellAt_4 ?_
  refine PW.bipush (by decide) dX12_cellAt_5 ?_
  refine PW.iload_n dX12_cellAt_7 rfl ?_
  refine PW.imul dX12_cellAt_8 ?_
  refine PW.iadd dX12_cellAt_9 ?_
  refine PW.iload_n dX12_cellAt_10 rfl ?_
  refine PW.iadd dX12_cellAt_11 ?_
  refine PW.bipush (by decide) dX12_cellAt_12 ?_
  refine PW.iadd dX12_cellAt_14 ?_
  exact PW.iret rfl rfl dX12_cellAt_15 ⟨rfl, rfl, rfl⟩
theorem c_X12_step {G : GT} {S : Shp} {σ : Sto} {ax c : Int} (ra : inR ax) (hc : 0 ≤ c ∧ c ≤ 1000) : PMet G mX12_step 0 0 0 [.int (iI (ax)), .int (iI (c))] S σ (isP (some (.int (iI (soF ax (c % 8) (c / 8))))) S σ) := by
  refine PMet.of [(0, .int (iI (ax))), (1, .int (iI (c)))] (by decide +kernel) rfl (Nat.le_of_ble_eq_true rfl) ?_
  refine PW.iload_n dX12_step_0 rfl ?_
  refine PW.if_ne 11 dX12_step_1 (by decide) (by first | assumption | (unfold inR; omega)) (fun h1 => ?_) (fun h1 => ?_)
  · refine PW.iload_n dX12_step_11 rfl ?_
    refine PW.bipush (by decide) dX12_step_12 ?_
    refine PW.idiv (by unfold inR; omega) (by omega) dX12_step_14 ?_
    skip
    exact PW.iret rfl rfl dX12_step_15 ⟨ret_eq (by unfold soF; first | (rw [if_pos (by assumption)]; done) | (rw [if_neg (by assumption), tdv_nn (by omega) (by unfold inR; omega) (by unfold inR; omega)])), rfl, rfl⟩
  · refine PW.iload_n dX12_step_4 rfl ?_
    refine PW.bipush (by decide) dX12_step_5 ?_
    refine PW.irem (by unfold inR; omega) (by omega) dX12_step_7 ?_
    refine PW.top (c % 8) (by rw [tdv_nn (by omega) (by unfold inR; omega) (by unfold inR; omega)]; omega) ?_
    refine PW.goto 15 dX12_step_8 (by decide) ?_
    skip
    exact PW.iret rfl rfl dX12_step_15 ⟨ret_eq (by unfold soF; first | (rw [if_pos (by assumption)]; done) | (rw [if_neg (by assumption), tdv_nn (by omega) (by unfold inR; omega) (by unfold inR; omega)])), rfl, rfl⟩
theorem c_X12_many {G : GT} {S : Shp} {σ : Sto} {k : Int} (hk : 0 ≤ k ∧ k ≤ 5) : PMet G mX12_many 0 0 0 [.int (iI (k))] S σ (isP (some (.int (iI (xT 0 k)))) S σ) := by
  refine PMet.of [(0, .int (iI (k)))] (by decide +kernel) rfl (Nat.le_of_ble_eq_true rfl) ?_
  refine PW.iload_n dX12_many_0 rfl ?_
  refine PW.if_eq 9 dX12_many_1 (by decide) (by first | assumption | (unfold inR; omega)) (fun h1 => ?_) (fun h1 => ?_)
  · refine PW.iconst dX12_many_9 ?_
    refine PW.goto 32 dX12_many_10 (by decide) ?_
    exact PW.iret rfl rfl dX12_many_32 ⟨ret_eq (by rcases (show k = 0 ∨ k = 1 ∨ k = 2 ∨ k = 3 ∨ k = 4 ∨ k = 5 by omega) with rfl | rfl | rfl | rfl | rfl | rfl <;> first | (exfalso; omega) | decide +kernel), rfl, rfl⟩
  · refine PW.iload_n dX12_many_4 rfl ?_
    refine PW.iconst dX12_many_5 ?_
    refine PW.icmp_ne 13 dX12_many_6 (by decide) (by first | assumption | (unfold inR; omega)) (by first | assumption | (unfold inR; omega)) (fun h6 => ?_) (fun h6 => ?_)
    · refine PW.iload_n dX12_many_13 rfl ?_
      refine PW.iconst dX12_many_14 ?_
      refine PW.icmp_ne 22 dX12_many_15 (by decide) (by first | assumption | (unfold inR; omega)) (by first | assumption | (unfold inR; omega)) (fun h15 => ?_) (fun h15 => ?_)
      · refine PW.iload_n dX12_many_22 rfl ?_
        refine PW.iconst dX12_many_23 ?_
        refine PW.icmp_ne 31 dX12_many_24 (by decide) (by first | assumption | (unfold inR; omega)) (by first | assumption | (unfold inR; omega)) (fun h24 => ?_) (fun h24 => ?_)
        · refine PW.iconst dX12_many_31 ?_
          exact PW.iret rfl rfl dX12_many_32 ⟨ret_eq (by rcases (show k = 0 ∨ k = 1 ∨ k = 2 ∨ k = 3 ∨ k = 4 ∨ k = 5 by omega) with rfl | rfl | rfl | rfl | rfl | rfl <;> first | (exfalso; omega) | decide +kernel), rfl, rfl⟩
        · refine PW.iconst dX12_many_27 ?_
          refine PW.goto 32 dX12_many_28 (by decide) ?_
          exact PW.iret rfl rfl dX12_many_32 ⟨ret_eq (by rcases (show k = 0 ∨ k = 1 ∨ k = 2 ∨ k = 3 ∨ k = 4 ∨ k = 5 by omega) with rfl | rfl | rfl | rfl | rfl | rfl <;> first | (exfalso; omega) | decide +kernel), rfl, rfl⟩
      · refine PW.iconst dX12_many_18 ?_
        refine PW.goto 32 dX12_many_19 (by decide) ?_
        exact PW.iret rfl rfl dX12_many_32 ⟨ret_eq (by rcases (show k = 0 ∨ k = 1 ∨ k = 2 ∨ k = 3 ∨ k = 4 ∨ k = 5 by omega) with rfl | rfl | rfl | rfl | rfl | rfl <;> first | (exfalso; omega) | decide +kernel), rfl, rfl⟩
    · refine PW.iconst dX12_many_9 ?_
      refine PW.goto 32 dX12_many_10 (by decide) ?_
      exact PW.iret rfl rfl dX12_many_32 ⟨ret_eq (by rcases (show k = 0 ∨ k = 1 ∨ k = 2 ∨ k = 3 ∨ k = 4 ∨ k = 5 by omega) with rfl | rfl | rfl | rfl | rfl | rfl <;> first | (exfalso; omega) | decide +kernel), rfl, rfl⟩
theorem bd_0_0 {G : GT} {S : Shp} {σ : Sto} {P : Prop} [Decidable P] : PMet G mX12_bound 0 0 0 [.int (iI 0), .int (iI 0), .int (iI (b01 P))] S σ (isP (some (.int (iI (if P then xT 2 (5 * 0 + 0) else xT 3 (5 * 0 + 0))))) S σ) := by
  refine PMet.of [(0, .int (iI 0)), (1, .int (iI 0)), (2, .int (iI (b01 P)))] (by decide +kernel) rfl (Nat.le_of_ble_eq_true rfl) ?_
  refine PW.bipush (by decide) dX12_bound_0 ?_
  refine PW.iload_n dX12_bound_2 rfl ?_
  refine PW.imul dX12_bound_3 ?_
  refine PW.iload_n dX12_bound_4 rfl ?_
  refine PW.iadd dX12_bound_5 ?_
  refine PW.tsIn (234) 240 (by unfold inR; omega) dX12_bound_6 (by decide) (by decide) (by rfl) (by decide) ?_
  refine PW.iload_n dX12_bound_240 rfl ?_
  refine PW.if_eqB 248 dX12_bound_241 (by decide) (fun h241 => ?_) (fun h241 => ?_)
  · refine PW.bipush (by decide) dX12_bound_248 ?_
    exact PW.iret rfl rfl dX12_bound_250 ⟨ret_eq (by first | (rw [if_pos (by assumption)]; decide +kernel) | (rw [if_neg (by assumption)]; decide +kernel)), rfl, rfl⟩
  · refine PW.iconst dX12_bound_244 ?_
    refine PW.goto 250 dX12_bound_245 (by decide) ?_
    exact PW.iret rfl rfl dX12_bound_250 ⟨ret_eq (by first | (rw [if_pos (by assumption)]; decide +kernel) | (rw [if_neg (by assumption)]; decide +kernel)), rfl, rfl⟩
theorem bd_0_1 {G : GT} {S : Shp} {σ : Sto} {P : Prop} [Decidable P] : PMet G mX12_bound 0 0 0 [.int (iI 0), .int (iI 1), .int (iI (b01 P))] S σ (isP (some (.int (iI (if P then xT 2 (5 * 0 + 1) else xT 3 (5 * 0 + 1))))) S σ) := by
  refine PMet.of [(0, .int (iI 0)), (1, .int (iI 1)), (2, .int (iI (b01 P)))] (by decide +kernel) rfl (Nat.le_of_ble_eq_true rfl) ?_
  refine PW.bipush (by decide) dX12_bound_0 ?_
  refine PW.iload_n dX12_bound_2 rfl ?_
  refine PW.imul dX12_bound_3 ?_
  refine PW.iload_n dX12_bound_4 rfl ?_
  refine PW.iadd dX12_bound_5 ?_
  refine PW.tsIn (245) 251 (by unfold inR; omega) dX12_bound_6 (by decide) (by decide) (by rfl) (by decide) ?_
  refine PW.iload_n dX12_bound_251 rfl ?_
  refine PW.if_eqB 259 dX12_bound_252 (by decide) (fun h252 => ?_) (fun h252 => ?_)
  · refine PW.bipush (by decide) dX12_bound_259 ?_
    exact PW.iret rfl rfl dX12_bound_261 ⟨ret_eq (by first | (rw [if_pos (by assumption)]; decide +kernel) | (rw [if_neg (by assumption)]; decide +kernel)), rfl, rfl⟩
  · refine PW.iconst dX12_bound_255 ?_
    refine PW.goto 261 dX12_bound_256 (by decide) ?_
    exact PW.iret rfl rfl dX12_bound_261 ⟨ret_eq (by first | (rw [if_pos (by assumption)]; decide +kernel) | (rw [if_neg (by assumption)]; decide +kernel)), rfl, rfl⟩
theorem bd_1_0 {G : GT} {S : Shp} {σ : Sto} {P : Prop} [Decidable P] : PMet G mX12_bound 0 0 0 [.int (iI 1), .int (iI 0), .int (iI (b01 P))] S σ (isP (some (.int (iI (if P then xT 2 (5 * 1 + 0) else xT 3 (5 * 1 + 0))))) S σ) := by
  refine PMet.of [(0, .int (iI 1)), (1, .int (iI 0)), (2, .int (iI (b01 P)))] (by decide +kernel) rfl (Nat.le_of_ble_eq_true rfl) ?_
  refine PW.bipush (by decide) dX12_bound_0 ?_
  refine PW.iload_n dX12_bound_2 rfl ?_
  refine PW.imul dX12_bound_3 ?_
  refine PW.iload_n dX12_bound_4 rfl ?_
  refine PW.iadd dX12_bound_5 ?_
  refine PW.tsIn (335) 341 (by unfold inR; omega) dX12_bound_6 (by decide) (by decide) (by rfl) (by decide) ?_
  refine PW.iload_n dX12_bound_341 rfl ?_
  refine PW.if_eqB 350 dX12_bound_342 (by decide) (fun h342 => ?_) (fun h342 => ?_)
  · refine PW.bipush (by decide) dX12_bound_350 ?_
    exact PW.iret rfl rfl dX12_bound_352 ⟨ret_eq (by first | (rw [if_pos (by assumption)]; decide +kernel) | (rw [if_neg (by assumption)]; decide +kernel)), rfl, rfl⟩
  · refine PW.bipush (by decide) dX12_bound_345 ?_
    refine PW.goto 352 dX12_bound_347 (by decide) ?_
    exact PW.iret rfl rfl dX12_bound_352 ⟨ret_eq (by first | (rw [if_pos (by assumption)]; decide +kernel) | (rw [if_neg (by assumption)]; decide +kernel)), rfl, rfl⟩
theorem bd_1_1 {G : GT} {S : Shp} {σ : Sto} {P : Prop} [Decidable P] : PMet G mX12_bound 0 0 0 [.int (iI 1), .int (iI 1), .int (iI (b01 P))] S σ (isP (some (.int (iI (if P then xT 2 (5 * 1 + 1) else xT 3 (5 * 1 + 1))))) S σ) := by
  refine PMet.of [(0, .int (iI 1)), (1, .int (iI 1)), (2, .int (iI (b01 P)))] (by decide +kernel) rfl (Nat.le_of_ble_eq_true rfl) ?_
  refine PW.bipush (by decide) dX12_bound_0 ?_
  refine PW.iload_n dX12_bound_2 rfl ?_
  refine PW.imul dX12_bound_3 ?_
  refine PW.iload_n dX12_bound_4 rfl ?_
  refine PW.iadd dX12_bound_5 ?_
  refine PW.tsIn (335) 341 (by unfold inR; omega) dX12_bound_6 (by decide) (by decide) (by rfl) (by decide) ?_
  refine PW.iload_n dX12_bound_341 rfl ?_
  refine PW.if_eqB 350 dX12_bound_342 (by decide) (fun h342 => ?_) (fun h342 => ?_)
  · refine PW.bipush (by decide) dX12_bound_350 ?_
    exact PW.iret rfl rfl dX12_bound_352 ⟨ret_eq (by first | (rw [if_pos (by assumption)]; decide +kernel) | (rw [if_neg (by assumption)]; decide +kernel)), rfl, rfl⟩
  · refine PW.bipush (by decide) dX12_bound_345 ?_
    refine PW.goto 352 dX12_bound_347 (by decide) ?_
    exact PW.iret rfl rfl dX12_bound_352 ⟨ret_eq (by first | (rw [if_pos (by assumption)]; decide +kernel) | (rw [if_neg (by assumption)]; decide +kernel)), rfl, rfl⟩
theorem bd_2_0 {G : GT} {S : Shp} {σ : Sto} {P : Prop} [Decidable P] : PMet G mX12_bound 0 0 0 [.int (iI 2), .int (iI 0), .int (iI (b01 P))] S σ (isP (some (.int (iI (if P then xT 2 (5 * 2 + 0) else xT 3 (5 * 2 + 0))))) S σ) := by
  refine PMet.of [(0, .int (iI 2)), (1, .int (iI 0)), (2, .int (iI (b01 P)))] (by decide +kernel) rfl (Nat.le_of_ble_eq_true rfl) ?_
  refine PW.bipush (by decide) dX12_bound_0 ?_
  refine PW.iload_n dX12_bound_2 rfl ?_
  refine PW.imul dX12_bound_3 ?_
  refine PW.iload_n dX12_bound_4 rfl ?_
  refine PW.iadd dX12_bound_5 ?_
  refine PW.tsIn (256) 262 (by unfold inR; omega) dX12_bound_6 (by decide) (by decide) (by rfl) (by decide) ?_
  refine PW.iload_n dX12_bound_262 rfl ?_
  refine PW.if_eqB 270 dX12_bound_263 (by decide) (fun h263 => ?_) (fun h263 => ?_)
  · refine PW.iconst dX12_bound_270 ?_
    exact PW.iret rfl rfl dX12_bound_271 ⟨ret_eq (by first | (rw [if_pos (by assumption)]; decide +kernel) | (rw [if_neg (by assumption)]; decide +kernel)), rfl, rfl⟩
  · refine PW.iconst dX12_bound_266 ?_
    refine PW.goto 271 dX12_bound_267 (by decide) ?_
    exact PW.iret rfl rfl dX12_bound_271 ⟨ret_eq (by first | (rw [if_pos (by assumption)]; decide +kernel) | (rw [if_neg (by assumption)]; decide +kernel)), rfl, rfl⟩
theorem bd_2_1 {G : GT} {S : Shp} {σ : Sto} {P : Prop} [Decidable P] : PMet G mX12_bound 0 0 0 [.int (iI 2), .int (iI 1), .int (iI (b01 P))] S σ (isP (some (.int (iI (if P then xT 2 (5 * 2 + 1) else xT 3 (5 * 2 + 1))))) S σ) := by
  refine PMet.of [(0, .int (iI 2)), (1, .int (iI 1)), (2, .int (iI (b01 P)))] (by decide +kernel) rfl (Nat.le_of_ble_eq_true rfl) ?_
  refine PW.bipush (by decide) dX12_bound_0 ?_
  refine PW.iload_n dX12_bound_2 rfl ?_
  refine PW.imul dX12_bound_3 ?_
  refine PW.iload_n dX12_bound_4 rfl ?_
  refine PW.iadd dX12_bound_5 ?_
  refine PW.tsIn (335) 341 (by unfold inR; omega) dX12_bound_6 (by decide) (by decide) (by rfl) (by decide) ?_
  refine PW.iload_n dX12_bound_341 rfl ?_
  refine PW.if_eqB 350 dX12_bound_342 (by decide) (fun h342 => ?_) (fun h342 => ?_)
  · refine PW.bipush (by decide) dX12_bound_350 ?_
    exact PW.iret rfl rfl dX12_bound_352 ⟨ret_eq (by first | (rw [if_pos (by assumption)]; decide +kernel) | (rw [if_neg (by assumption)]; decide +kernel)), rfl, rfl⟩
  · refine PW.bipush (by decide) dX12_bound_345 ?_
    refine PW.goto 352 dX12_bound_347 (by decide) ?_
    exact PW.iret rfl rfl dX12_bound_352 ⟨ret_eq (by first | (rw [if_pos (by assumption)]; decide +kernel) | (rw [if_neg (by assumption)]; decide +kernel)), rfl, rfl⟩
theorem bd_2_2 {G : GT} {S : Shp} {σ : Sto} {P : Prop} [Decidable P] : PMet G mX12_bound 0 0 0 [.int (iI 2), .int (iI 2), .int (iI (b01 P))] S σ (isP (some (.int (iI (if P then xT 2 (5 * 2 + 2) else xT 3 (5 * 2 + 2))))) S σ) := by
  refine PMet.of [(0, .int (iI 2)), (1, .int (iI 2)), (2, .int (iI (b01 P)))] (by decide +kernel) rfl (Nat.le_of_ble_eq_true rfl) ?_
  refine PW.bipush (by decide) dX12_bound_0 ?_
  refine PW.iload_n dX12_bound_2 rfl ?_
  refine PW.imul dX12_bound_3 ?_
  refine PW.iload_n dX12_bound_4 rfl ?_
  refine PW.iadd dX12_bound_5 ?_
  refine PW.tsIn (266) 272 (by unfold inR; omega) dX12_bound_6 (by decide) (by decide) (by rfl) (by decide) ?_
  refine PW.iload_n dX12_bound_272 rfl ?_
  refine PW.if_eqB 280 dX12_bound_273 (by decide) (fun h273 => ?_) (fun h273 => ?_)
  · refine PW.bipush (by decide) dX12_bound_280 ?_
    exact PW.iret rfl rfl dX12_bound_282 ⟨ret_eq (by first | (rw [if_pos (by assumption)]; decide +kernel) | (rw [if_neg (by assumption)]; decide +kernel)), rfl, rfl⟩
  · refine PW.iconst dX12_bound_276 ?_
    refine PW.goto 282 dX12_bound_277 (by decide) ?_
    exact PW.iret rfl rfl dX12_bound_282 ⟨ret_eq (by first | (rw [if_pos (by assumption)]; decide +kernel) | (rw [if_neg (by assumption)]; decide +kernel)), rfl, rfl⟩
theorem bd_2_3 {G : GT} {S : Shp} {σ : Sto} {P : Prop} [Decidable P] : PMet G mX12_bound 0 0 0 [.int (iI 2), .int (iI 3), .int (iI (b01 P))] S σ (isP (some (.int (iI (if P then xT 2 (5 * 2 + 3) else xT 3 (5 * 2 + 3))))) S σ) := by
  refine PMet.of [(0, .int (iI 2)), (1, .int (iI 3)), (2, .int (iI (b01 P)))] (by decide +kernel) rfl (Nat.le_of_ble_eq_true rfl) ?_
  refine PW.bipush (by decide) dX12_bound_0 ?_
  refine PW.iload_n dX12_bound_2 rfl ?_
  refine PW.imul dX12_bound_3 ?_
  refine PW.iload_n dX12_bound_4 rfl ?_
  refine PW.iadd dX12_bound_5 ?_
  refine PW.tsIn (277) 283 (by unfold inR; omega) dX12_bound_6 (by decide) (by decide) (by rfl) (by decide) ?_
  refine PW.iload_n dX12_bound_283 rfl ?_
  refine PW.if_eqB 291 dX12_bound_284 (by decide) (fun h284 => ?_) (fun h284 => ?_)
  · refine PW.bipush (by decide) dX12_bound_291 ?_
    exact PW.iret rfl rfl dX12_bound_293 ⟨ret_eq (by first | (rw [if_pos (by assumption)]; decide +kernel) | (rw [if_neg (by assumption)]; decide +kernel)), rfl, rfl⟩
  · refine PW.iconst dX12_bound_287 ?_
    refine PW.goto 293 dX12_bound_288 (by decide) ?_
    exact PW.iret rfl rfl dX12_bound_293 ⟨ret_eq (by first | (rw [if_pos (by assumption)]; decide +kernel) | (rw [if_neg (by assumption)]; decide +kernel)), rfl, rfl⟩
theorem bd_3_0 {G : GT} {S : Shp} {σ : Sto} {P : Prop} [Decidable P] : PMet G mX12_bound 0 0 0 [.int (iI 3), .int (iI 0), .int (iI (b01 P))] S σ (isP (some (.int (iI (if P then xT 2 (5 * 3 + 0) else xT 3 (5 * 3 + 0))))) S σ) := by
  refine PMet.of [(0, .int (iI 3)), (1, .int (iI 0)), (2, .int (iI (b01 P)))] (by decide +kernel) rfl (Nat.le_of_ble_eq_true rfl) ?_
  refine PW.bipush (by decide) dX12_bound_0 ?_
  refine PW.iload_n dX12_bound_2 rfl ?_
  refine PW.imul dX12_bound_3 ?_
  refine PW.iload_n dX12_bound_4 rfl ?_
  refine PW.iadd dX12_bound_5 ?_
  refine PW.tsIn (256) 262 (by unfold inR; omega) dX12_bound_6 (by decide) (by decide) (by rfl) (by decide) ?_
  refine PW.iload_n dX12_bound_262 rfl ?_
  refine PW.if_eqB 270 dX12_bound_263 (by decide) (fun h263 => ?_) (fun h263 => ?_)
  · refine PW.iconst dX12_bound_270 ?_
    exact PW.iret rfl rfl dX12_bound_271 ⟨ret_eq (by first | (rw [if_pos (by assumption)]; decide +kernel) | (rw [if_neg (by assumption)]; decide +kernel)), rfl, rfl⟩
  · refine PW.iconst dX12_bound_266 ?_
    refine PW.goto 271 dX12_bound_267 (by decide) ?_
    exact PW.iret rfl rfl dX12_bound_271 ⟨ret_eq (by first | (rw [if_pos (by assumption)]; decide +kernel) | (rw [if_neg (by assumption)]; decide +kernel)), rfl, rfl⟩
theorem bd_3_1 {G : GT} {S : Shp} {σ : Sto} {P : Prop} [Decidable P] : PMet G mX12_bound 0 0 0 [.int (iI 3), .int (iI 1), .int (iI (b01 P))] S σ (isP (some (.int (iI (if P then xT 2 (5 * 3 + 1) else xT 3 (5 * 3 + 1))))) S σ) := by
  refine PMet.of [(0, .int (iI 3)), (1, .int (iI 1)), (2, .int (iI (b01 P)))] (by decide +kernel) rfl (Nat.le_of_ble_eq_true rfl) ?_
  refine PW.bipush (by decide) dX12_bound_0 ?_
  refine PW.iload_n dX12_bound_2 rfl ?_
  refine PW.imul dX12_bound_3 ?_
  refine PW.iload_n dX12_bound_4 rfl ?_
  refine PW.iadd dX12_bound_5 ?_
  refine PW.tsIn (277) 283 (by unfold inR; omega) dX12_bound_6 (by decide) (by decide) (by rfl) (by decide) ?_
  refine PW.iload_n dX12_bound_283 rfl ?_
  refine PW.if_eqB 291 dX12_bound_284 (by decide) (fun h284 => ?_) (fun h284 => ?_)
  · refine PW.bipush (by decide) dX12_bound_291 ?_
    exact PW.iret rfl rfl dX12_bound_293 ⟨ret_eq (by first | (rw [if_pos (by assumption)]; decide +kernel) | (rw [if_neg (by assumption)]; decide +kernel)), rfl, rfl⟩
  · refine PW.iconst dX12_bound_287 ?_
    refine PW.goto 293 dX12_bound_288 (by decide) ?_
    exact PW.iret rfl rfl dX12_bound_293 ⟨ret_eq (by first | (rw [if_pos (by assumption)]; decide +kernel) | (rw [if_neg (by assumption)]; decide +kernel)), rfl, rfl⟩
theorem bd_3_2 {G : GT} {S : Shp} {σ : Sto} {P : Prop} [Decidable P] : PMet G mX12_bound 0 0 0 [.int (iI 3), .int (iI 2), .int (iI (b01 P))] S σ (isP (some (.int (iI (if P then xT 2 (5 * 3 + 2) else xT 3 (5 * 3 + 2))))) S σ) := by
  refine PMet.of [(0, .int (iI 3)), (1, .int (iI 2)), (2, .int (iI (b01 P)))] (by decide +kernel) rfl (Nat.le_of_ble_eq_true rfl) ?_
  refine PW.bipush (by decide) dX12_bound_0 ?_
  refine PW.iload_n dX12_bound_2 rfl ?_
  refine PW.imul dX12_bound_3 ?_
  refine PW.iload_n dX12_bound_4 rfl ?_
  refine PW.iadd dX12_bound_5 ?_
  refine PW.tsIn (288) 294 (by unfold inR; omega) dX12_bound_6 (by decide) (by decide) (by rfl) (by decide) ?_
  refine PW.iload_n dX12_bound_294 rfl ?_
  refine PW.if_eqB 303 dX12_bound_295 (by decide) (fun h295 => ?_) (fun h295 => ?_)
  · refine PW.bipush (by decide) dX12_bound_303 ?_
    exact PW.iret rfl rfl dX12_bound_305 ⟨ret_eq (by first | (rw [if_pos (by assumption)]; decide +kernel) | (rw [if_neg (by assumption)]; decide +kernel)), rfl, rfl⟩
  · refine PW.bipush (by decide) dX12_bound_298 ?_
    refine PW.goto 305 dX12_bound_300 (by decide) ?_
    exact PW.iret rfl rfl dX12_bound_305 ⟨ret_eq (by first | (rw [if_pos (by assumption)]; decide +kernel) | (rw [if_neg (by assumption)]; decide +kernel)), rfl, rfl⟩
theorem bd_3_3 {G : GT} {S : Shp} {σ : Sto} {P : Prop} [Decidable P] : PMet G mX12_bound 0 0 0 [.int (iI 3), .int (iI 3), .int (iI (b01 P))] S σ (isP (some (.int (iI (if P then xT 2 (5 * 3 + 3) else xT 3 (5 * 3 + 3))))) S σ) := by
  refine PMet.of [(0, .int (iI 3)), (1, .int (iI 3)), (2, .int (iI (b01 P)))] (by decide +kernel) rfl (Nat.le_of_ble_eq_true rfl) ?_
  refine PW.bipush (by decide) dX12_bound_0 ?_
  refine PW.iload_n dX12_bound_2 rfl ?_
  refine PW.imul dX12_bound_3 ?_
  refine PW.iload_n dX12_bound_4 rfl ?_
  refine PW.iadd dX12_bound_5 ?_
  refine PW.tsIn (300) 306 (by unfold inR; omega) dX12_bound_6 (by decide) (by decide) (by rfl) (by decide) ?_
  refine PW.iload_n dX12_bound_306 rfl ?_
  refine PW.if_eqB 315 dX12_bound_307 (by decide) (fun h307 => ?_) (fun h307 => ?_)
  · refine PW.iconst dX12_bound_315 ?_
    exact PW.iret rfl rfl dX12_bound_316 ⟨ret_eq (by first | (rw [if_pos (by assumption)]; decide +kernel) | (rw [if_neg (by assumption)]; decide +kernel)), rfl, rfl⟩
  · refine PW.bipush (by decide) dX12_bound_310 ?_
    refine PW.goto 316 dX12_bound_312 (by decide) ?_
    exact PW.iret rfl rfl dX12_bound_316 ⟨ret_eq (by first | (rw [if_pos (by assumption)]; decide +kernel) | (rw [if_neg (by assumption)]; decide +kernel)), rfl, rfl⟩
theorem bd_4_0 {G : GT} {S : Shp} {σ : Sto} {P : Prop} [Decidable P] : PMet G mX12_bound 0 0 0 [.int (iI 4), .int (iI 0), .int (iI (b01 P))] S σ (isP (some (.int (iI (if P then xT 2 (5 * 4 + 0) else xT 3 (5 * 4 + 0))))) S σ) := by
  refine PMet.of [(0, .int (iI 4)), (1, .int (iI 0)), (2, .int (iI (b01 P)))] (by decide +kernel) rfl (Nat.le_of_ble_eq_true rfl) ?_
  refine PW.bipush (by decide) dX12_bound_0 ?_
  refine PW.iload_n dX12_bound_2 rfl ?_
  refine PW.imul dX12_bound_3 ?_
  refine PW.iload_n dX12_bound_4 rfl ?_
  refine PW.iadd dX12_bound_5 ?_
  refine PW.tsIn (311) 317 (by unfold inR; omega) dX12_bound_6 (by decide) (by decide) (by rfl) (by decide) ?_
  refine PW.iload_n dX12_bound_317 rfl ?_
  refine PW.if_eqB 326 dX12_bound_318 (by decide) (fun h318 => ?_) (fun h318 => ?_)
  · refine PW.bipush (by decide) dX12_bound_326 ?_
    exact PW.iret rfl rfl dX12_bound_328 ⟨ret_eq (by first | (rw [if_pos (by assumption)]; decide +kernel) | (rw [if_neg (by assumption)]; decide +kernel)), rfl, rfl⟩
  · refine PW.bipush (by decide) dX12_bound_321 ?_
    refine PW.goto 328 dX12_bound_323 (by decide) ?_
    exact PW.iret rfl rfl dX12_bound_328 ⟨ret_eq (by first | (rw [if_pos (by assumption)]; decide +kernel) | (rw [if_neg (by assumption)]; decide +kernel)), rfl, rfl⟩
theorem bd_4_1 {G : GT} {S : Shp} {σ : Sto} {P : Prop} [Decidable P] : PMet G mX12_bound 0 0 0 [.int (iI 4), .int (iI 1), .int (iI (b01 P))] S σ (isP (some (.int (iI (if P then xT 2 (5 * 4 + 1) else xT 3 (5 * 4 + 1))))) S σ) := by
  refine PMet.of [(0, .int (iI 4)), (1, .int (iI 1)), (2, .int (iI (b01 P)))] (by decide +kernel) rfl (Nat.le_of_ble_eq_true rfl) ?_
  refine PW.bipush (by decide) dX12_bound_0 ?_
  refine PW.iload_n dX12_bound_2 rfl ?_
  refine PW.imul dX12_bound_3 ?_
  refine PW.iload_n dX12_bound_4 rfl ?_
  refine PW.iadd dX12_bound_5 ?_
  refine PW.tsIn (335) 341 (by unfold inR; omega) dX12_bound_6 (by decide) (by decide) (by rfl) (by decide) ?_
  refine PW.iload_n dX12_bound_341 rfl ?_
  refine PW.if_eqB 350 dX12_bound_342 (by decide) (fun h342 => ?_) (fun h342 => ?_)
  · refine PW.bipush (by decide) dX12_bound_350 ?_
    exact PW.iret rfl rfl dX12_bound_352 ⟨ret_eq (by first | (rw [if_pos (by assumption)]; decide +kernel) | (rw [if_neg (by assumption)]; decide +kernel)), rfl, rfl⟩
  · refine PW.bipush (by decide) dX12_bound_345 ?_
    refine PW.goto 352 dX12_bound_347 (by decide) ?_
    exact PW.iret rfl rfl dX12_bound_352 ⟨ret_eq (by first | (rw [if_pos (by assumption)]; decide +kernel) | (rw [if_neg (by assumption)]; decide +kernel)), rfl, rfl⟩
theorem bd_4_2 {G : GT} {S : Shp} {σ : Sto} {P : Prop} [Decidable P] : PMet G mX12_bound 0 0 0 [.int (iI 4), .int (iI 2), .int (iI (b01 P))] S σ (isP (some (.int (iI (if P then xT 2 (5 * 4 + 2) else xT 3 (5 * 4 + 2))))) S σ) := by
  refine PMet.of [(0, .int (iI 4)), (1, .int (iI 2)), (2, .int (iI (b01 P)))] (by decide +kernel) rfl (Nat.le_of_ble_eq_true rfl) ?_
  refine PW.bipush (by decide) dX12_bound_0 ?_
  refine PW.iload_n dX12_bound_2 rfl ?_
  refine PW.imul dX12_bound_3 ?_
  refine PW.iload_n dX12_bound_4 rfl ?_
  refine PW.iadd dX12_bound_5 ?_
  refine PW.tsIn (335) 341 (by unfold inR; omega) dX12_bound_6 (by decide) (by decide) (by rfl) (by decide) ?_
  refine PW.iload_n dX12_bound_341 rfl ?_
  refine PW.if_eqB 350 dX12_bound_342 (by decide) (fun h342 => ?_) (fun h342 => ?_)
  · refine PW.bipush (by decide) dX12_bound_350 ?_
    exact PW.iret rfl rfl dX12_bound_352 ⟨ret_eq (by first | (rw [if_pos (by assumption)]; decide +kernel) | (rw [if_neg (by assumption)]; decide +kernel)), rfl, rfl⟩
  · refine PW.bipush (by decide) dX12_bound_345 ?_
    refine PW.goto 352 dX12_bound_347 (by decide) ?_
    exact PW.iret rfl rfl dX12_bound_352 ⟨ret_eq (by first | (rw [if_pos (by assumption)]; decide +kernel) | (rw [if_neg (by assumption)]; decide +kernel)), rfl, rfl⟩
theorem bd_5_0 {G : GT} {S : Shp} {σ : Sto} {P : Prop} [Decidable P] : PMet G mX12_bound 0 0 0 [.int (iI 5), .int (iI 0), .int (iI (b01 P))] S σ (isP (some (.int (iI (if P then xT 2 (5 * 5 + 0) else xT 3 (5 * 5 + 0))))) S σ) := by
  refine PMet.of [(0, .int (iI 5)), (1, .int (iI 0)), (2, .int (iI (b01 P)))] (by decide +kernel) rfl (Nat.le_of_ble_eq_true rfl) ?_
  refine PW.bipush (by decide) dX12_bound_0 ?_
  refine PW.iload_n dX12_bound_2 rfl ?_
  refine PW.imul dX12_bound_3 ?_
  refine PW.iload_n dX12_bound_4 rfl ?_
  refine PW.iadd dX12_bound_5 ?_
  refine PW.tsIn (234) 240 (by unfold inR; omega) dX12_bound_6 (by decide) (by decide) (by rfl) (by decide) ?_
  refine PW.iload_n dX12_bound_240 rfl ?_
  refine PW.if_eqB 248 dX12_bound_241 (by decide) (fun h241 => ?_) (fun h241 => ?_)
  · refine PW.bipush (by decide) dX12_bound_248 ?_
    exact PW.iret rfl rfl dX12_bound_250 ⟨ret_eq (by first | (rw [if_pos (by assumption)]; decide +kernel) | (rw [if_neg (by assumption)]; decide +kernel)), rfl, rfl⟩
  · refine PW.iconst dX12_bound_244 ?_
    refine PW.goto 250 dX12_bound_245 (by decide) ?_
    exact PW.iret rfl rfl dX12_bound_250 ⟨ret_eq (by first | (rw [if_pos (by assumption)]; decide +kernel) | (rw [if_neg (by assumption)]; decide +kernel)), rfl, rfl⟩
theorem bd_5_1 {G : GT} {S : Shp} {σ : Sto} {P : Prop} [Decidable P] : PMet G mX12_bound 0 0 0 [.int (iI 5), .int (iI 1), .int (iI (b01 P))] S σ (isP (some (.int (iI (if P then xT 2 (5 * 5 + 1) else xT 3 (5 * 5 + 1))))) S σ) := by
  refine PMet.of [(0, .int (iI 5)), (1, .int (iI 1)), (2, .int (iI (b01 P)))] (by decide +kernel) rfl (Nat.le_of_ble_eq_true rfl) ?_
  refine PW.bipush (by decide) dX12_bound_0 ?_
  refine PW.iload_n dX12_bound_2 rfl ?_
  refine PW.imul dX12_bound_3 ?_
  refine PW.iload_n dX12_bound_4 rfl ?_
  refine PW.iadd dX12_bound_5 ?_
  refine PW.tsIn (256) 262 (by unfold inR; omega) dX12_bound_6 (by decide) (by decide) (by rfl) (by decide) ?_
  refine PW.iload_n dX12_bound_262 rfl ?_
  refine PW.if_eqB 270 dX12_bound_263 (by decide) (fun h263 => ?_) (fun h263 => ?_)
  · refine PW.iconst dX12_bound_270 ?_
    exact PW.iret rfl rfl dX12_bound_271 ⟨ret_eq (by first | (rw [if_pos (by assumption)]; decide +kernel) | (rw [if_neg (by assumption)]; decide +kernel)), rfl, rfl⟩
  · refine PW.iconst dX12_bound_266 ?_
    refine PW.goto 271 dX12_bound_267 (by decide) ?_
    exact PW.iret rfl rfl dX12_bound_271 ⟨ret_eq (by first | (rw [if_pos (by assumption)]; decide +kernel) | (rw [if_neg (by assumption)]; decide +kernel)), rfl, rfl⟩
theorem bd_5_2 {G : GT} {S : Shp} {σ : Sto} {P : Prop} [Decidable P] : PMet G mX12_bound 0 0 0 [.int (iI 5), .int (iI 2), .int (iI (b01 P))] S σ (isP (some (.int (iI (if P then xT 2 (5 * 5 + 2) else xT 3 (5 * 5 + 2))))) S σ) := by
  refine PMet.of [(0, .int (iI 5)), (1, .int (iI 2)), (2, .int (iI (b01 P)))] (by decide +kernel) rfl (Nat.le_of_ble_eq_true rfl) ?_
  refine PW.bipush (by decide) dX12_bound_0 ?_
  refine PW.iload_n dX12_bound_2 rfl ?_
  refine PW.imul dX12_bound_3 ?_
  refine PW.iload_n dX12_bound_4 rfl ?_
  refine PW.iadd dX12_bound_5 ?_
  refine PW.tsIn (277) 283 (by unfold inR; omega) dX12_bound_6 (by decide) (by decide) (by rfl) (by decide) ?_
  refine PW.iload_n dX12_bound_283 rfl ?_
  refine PW.if_eqB 291 dX12_bound_284 (by decide) (fun h284 => ?_) (fun h284 => ?_)
  · refine PW.bipush (by decide) dX12_bound_291 ?_
    exact PW.iret rfl rfl dX12_bound_293 ⟨ret_eq (by first | (rw [if_pos (by assumption)]; decide +kernel) | (rw [if_neg (by assumption)]; decide +kernel)), rfl, rfl⟩
  · refine PW.iconst dX12_bound_287 ?_
    refine PW.goto 293 dX12_bound_288 (by decide) ?_
    exact PW.iret rfl rfl dX12_bound_293 ⟨ret_eq (by first | (rw [if_pos (by assumption)]; decide +kernel) | (rw [if_neg (by assumption)]; decide +kernel)), rfl, rfl⟩
theorem bd_5_3 {G : GT} {S : Shp} {σ : Sto} {P : Prop} [Decidable P] : PMet G mX12_bound 0 0 0 [.int (iI 5), .int (iI 3), .int (iI (b01 P))] S σ (isP (some (.int (iI (if P then xT 2 (5 * 5 + 3) else xT 3 (5 * 5 + 3))))) S σ) := by
  refine PMet.of [(0, .int (iI 5)), (1, .int (iI 3)), (2, .int (iI (b01 P)))] (by decide +kernel) rfl (Nat.le_of_ble_eq_true rfl) ?_
  refine PW.bipush (by decide) dX12_bound_0 ?_
  refine PW.iload_n dX12_bound_2 rfl ?_
  refine PW.imul dX12_bound_3 ?_
  refine PW.iload_n dX12_bound_4 rfl ?_
  refine PW.iadd dX12_bound_5 ?_
  refine PW.tsIn (277) 283 (by unfold inR; omega) dX12_bound_6 (by decide) (by decide) (by rfl) (by decide) ?_
  refine PW.iload_n dX12_bound_283 rfl ?_
  refine PW.if_eqB 291 dX12_bound_284 (by decide) (fun h284 => ?_) (fun h284 => ?_)
  · refine PW.bipush (by decide) dX12_bound_291 ?_
    exact PW.iret rfl rfl dX12_bound_293 ⟨ret_eq (by first | (rw [if_pos (by assumption)]; decide +kernel) | (rw [if_neg (by assumption)]; decide +kernel)), rfl, rfl⟩
  · refine PW.iconst dX12_bound_287 ?_
    refine PW.goto 293 dX12_bound_288 (by decide) ?_
    exact PW.iret rfl rfl dX12_bound_293 ⟨ret_eq (by first | (rw [if_pos (by assumption)]; decide +kernel) | (rw [if_neg (by assumption)]; decide +kernel)), rfl, rfl⟩
theorem bd_5_4 {G : GT} {S : Shp} {σ : Sto} {P : Prop} [Decidable P] : PMet G mX12_bound 0 0 0 [.int (iI 5), .int (iI 4), .int (iI (b01 P))] S σ (isP (some (.int (iI (if P then xT 2 (5 * 5 + 4) else xT 3 (5 * 5 + 4))))) S σ) := by
  refine PMet.of [(0, .int (iI 5)), (1, .int (iI 4)), (2, .int (iI (b01 P)))] (by decide +kernel) rfl (Nat.le_of_ble_eq_true rfl) ?_
  refine PW.bipush (by decide) dX12_bound_0 ?_
  refine PW.iload_n dX12_bound_2 rfl ?_
  refine PW.imul dX12_bound_3 ?_
  refine PW.iload_n dX12_bound_4 rfl ?_
  refine PW.iadd dX12_bound_5 ?_
  refine PW.tsIn (323) 329 (by unfold inR; omega) dX12_bound_6 (by decide) (by decide) (by rfl) (by decide) ?_
  refine PW.iload_n dX12_bound_329 rfl ?_
  refine PW.if_eqB 338 dX12_bound_330 (by decide) (fun h330 => ?_) (fun h330 => ?_)
  · refine PW.bipush (by decide) dX12_bound_338 ?_
    exact PW.iret rfl rfl dX12_bound_340 ⟨ret_eq (by first | (rw [if_pos (by assumption)]; decide +kernel) | (rw [if_neg (by assumption)]; decide +kernel)), rfl, rfl⟩
  · refine PW.bipush (by decide) dX12_bound_333 ?_
    refine PW.goto 340 dX12_bound_335 (by decide) ?_
    exact PW.iret rfl rfl dX12_bound_340 ⟨ret_eq (by first | (rw [if_pos (by assumption)]; decide +kernel) | (rw [if_neg (by assumption)]; decide +kernel)), rfl, rfl⟩
theorem c_X12_bound {G : GT} {S : Shp} {σ : Sto} {k i : Int} {P : Prop} [Decidable P] (hk : 0 ≤ k ∧ k ≤ 5) (hi : 0 ≤ i ∧ i < xT 0 k) : PMet G mX12_bound 0 0 0 [.int (iI k), .int (iI i), .int (iI (b01 P))] S σ (isP (some (.int (iI (if P then xT 2 (5 * k + i) else xT 3 (5 * k + i))))) S σ) := by
  rcases (show k = 0 ∨ k = 1 ∨ k = 2 ∨ k = 3 ∨ k = 4 ∨ k = 5 by omega) with rfl | rfl | rfl | rfl | rfl | rfl
  · have hx : xT 0 0 = 2 := by decide +kernel
    rw [hx] at hi
    rcases (show i = 0 ∨ i = 1 by omega) with rfl | rfl
    · exact bd_0_0
    · exact bd_0_1
  · have hx : xT 0 1 = 2 := by decide +kernel
    rw [hx] at hi
    rcases (show i = 0 ∨ i = 1 by omega) with rfl | rfl
    · exact bd_1_0
    · exact bd_1_1
  · have hx : xT 0 2 = 4 := by decide +kernel
    rw [hx] at hi
    rcases (show i = 0 ∨ i = 1 ∨ i = 2 ∨ i = 3 by omega) with rfl | rfl | rfl | rfl
    · exact bd_2_0
    · exact bd_2_1
    · exact bd_2_2
    · exact bd_2_3
  · have hx : xT 0 3 = 4 := by decide +kernel
    rw [hx] at hi
    rcases (show i = 0 ∨ i = 1 ∨ i = 2 ∨ i = 3 by omega) with rfl | rfl | rfl | rfl
    · exact bd_3_0
    · exact bd_3_1
    · exact bd_3_2
    · exact bd_3_3
  · have hx : xT 0 4 = 3 := by decide +kernel
    rw [hx] at hi
    rcases (show i = 0 ∨ i = 1 ∨ i = 2 by omega) with rfl | rfl | rfl
    · exact bd_4_0
    · exact bd_4_1
    · exact bd_4_2
  · have hx : xT 0 5 = 5 := by decide +kernel
    rw [hx] at hi
    rcases (show i = 0 ∨ i = 1 ∨ i = 2 ∨ i = 3 ∨ i = 4 by omega) with rfl | rfl | rfl | rfl | rfl
    · exact bd_5_0
    · exact bd_5_1
    · exact bd_5_2
    · exact bd_5_3
    · exact bd_5_4

theorem c_X12_isNumber {G : GT} {S : Shp} {σ : Sto} {k i v : Int} (hk : 0 ≤ k ∧ k ≤ 5) (hi : 0 ≤ i ∧ i < xT 0 k) (rv : inR v) : PMet G mX12_isNumber 1 0 0 [.int (iI (k)), .int (iI (i)), .int (iI (v))] S σ (isP (some (.int (iI (b01 (xT 2 (5 * k + i) ≤ v ∧ v ≤ xT 3 (5 * k + i)))))) S σ) := by
  refine PMet.of [(0, .int (iI (k))), (1, .int (iI (i))), (2, .int (iI (v)))] (by decide +kernel) rfl (Nat.le_of_ble_eq_true rfl) ?_
  refine PW.iload_n dX12_isNumber_0 rfl ?_
  refine PW.i2l (by first | assumption | (unfold inR; omega)) dX12_isNumber_1 ?_
  refine PW.iload_n dX12_isNumber_2 rfl ?_
  refine PW.iload_n dX12_isNumber_3 rfl ?_
  refine PW.iconst dX12_isNumber_4 ?_
  refine PW.callSr (c_X12_bound (P := True) hk hi) cs_X12_bound lk_X12_130 dX12_isNumber_5 rfl rfl rfl ?_
  refine PW.top (xT 2 (5 * k + i)) (by rw [if_pos trivial]) ?_
  refine PW.i2l (xT_r _ _) dX12_isNumber_8 ?_
  refine PW.iload_n dX12_isNumber_9 rfl ?_
  refine PW.iload_n dX12_isNumber_10 rfl ?_
  refine PW.iconst dX12_isNumber_11 ?_
  refine PW.callSr (c_X12_bound (P := False) hk hi) cs_X12_bound lk_X12_130 dX12_isNumber_12 rfl rfl rfl ?_
  refine PW.top (xT 3 (5 * k + i)) (by rw [if_neg not_false]) ?_
  refine PW.i2l (xT_r _ _) dX12_isNumber_15 ?_
  refine PW.callSr (c_X12_in (inL_R rv) (inL_R (xT_r _ _)) (inL_R (xT_r _ _))) cs_X12_in lk_X12_134 dX12_isNumber_16 rfl rfl rfl ?_
  exact PW.iret rfl (by first | rfl | exact narB _) dX12_isNumber_19 ⟨rfl, rfl, rfl⟩
theorem c_X12_isAxis {G : GT} {S : Shp} {σ : Sto} {k q : Int} (rk : inR k) (rq : inR q) : PMet G mX12_isAxis 0 0 0 [.int (iI (k)), .int (iI (q))] S σ (isP (some (.int (iI (b01 (axPl k q))))) S σ) := by
  refine PMet.of [(0, .int (iI (k))), (1, .int (iI (q)))] (by decide +kernel) rfl (Nat.le_of_ble_eq_true rfl) ?_
  refine PW.iload_n dX12_isAxis_0 rfl ?_
  refine PW.iconst dX12_isAxis_1 ?_
  refine PW.icmp_eq 10 dX12_isAxis_2 (by decide) (by first | assumption | (unfold inR; omega)) (by first | assumption | (unfold inR; omega)) (fun h2 => ?_) (fun h2 => ?_)
  · refine PW.iload_n dX12_isAxis_10 rfl ?_
    refine PW.if_eq 24 dX12_isAxis_11 (by decide) (by first | assumption | (unfold inR; omega)) (fun h11 => ?_) (fun h11 => ?_)
    · refine PW.iconst dX12_isAxis_24 ?_
      refine PW.goto 29 dX12_isAxis_25 (by decide) ?_
      exact PW.iret rfl (by first | rfl | exact narB _) dX12_isAxis_29 ⟨ret_eq (by unfold b01; first | (exfalso; omega) | rw [if_pos (by omega)] | rw [if_neg (by omega)]), rfl, rfl⟩
    · refine PW.iload_n dX12_isAxis_14 rfl ?_
      refine PW.iconst dX12_isAxis_15 ?_
      refine PW.icmp_ne 28 dX12_isAxis_16 (by decide) (by first | assumption | (unfold inR; omega)) (by first | assumption | (unfold inR; omega)) (fun h16 => ?_) (fun h16 => ?_)
      · refine PW.iconst dX12_isAxis_28 ?_
        exact PW.iret rfl (by first | rfl | exact narB _) dX12_isAxis_29 ⟨ret_eq (by unfold b01; first | (exfalso; omega) | rw [if_pos (by omega)] | rw [if_neg (by omega)]), rfl, rfl⟩
      · refine PW.iload_n dX12_isAxis_19 rfl ?_
        refine PW.iconst dX12_isAxis_20 ?_
        refine PW.icmp_ne 28 dX12_isAxis_21 (by decide) (by first | assumption | (unfold inR; omega)) (by first | assumption | (unfold inR; omega)) (fun h21 => ?_) (fun h21 => ?_)
        · refine PW.iconst dX12_isAxis_28 ?_
          exact PW.iret rfl (by first | rfl | exact narB _) dX12_isAxis_29 ⟨ret_eq (by unfold b01; first | (exfalso; omega) | rw [if_pos (by omega)] | rw [if_neg (by omega)]), rfl, rfl⟩
        · refine PW.iconst dX12_isAxis_24 ?_
          refine PW.goto 29 dX12_isAxis_25 (by decide) ?_
          exact PW.iret rfl (by first | rfl | exact narB _) dX12_isAxis_29 ⟨ret_eq (by unfold b01; first | (exfalso; omega) | rw [if_pos (by omega)] | rw [if_neg (by omega)]), rfl, rfl⟩
  · refine PW.iload_n dX12_isAxis_5 rfl ?_
    refine PW.iconst dX12_isAxis_6 ?_
    refine PW.icmp_ne 14 dX12_isAxis_7 (by decide) (by first | assumption | (unfold inR; omega)) (by first | assumption | (unfold inR; omega)) (fun h7 => ?_) (fun h7 => ?_)
    · refine PW.iload_n dX12_isAxis_14 rfl ?_
      refine PW.iconst dX12_isAxis_15 ?_
      refine PW.icmp_ne 28 dX12_isAxis_16 (by decide) (by first | assumption | (unfold inR; omega)) (by first | assumption | (unfold inR; omega)) (fun h16 => ?_) (fun h16 => ?_)
      · refine PW.iconst dX12_isAxis_28 ?_
        exact PW.iret rfl (by first | rfl | exact narB _) dX12_isAxis_29 ⟨ret_eq (by unfold b01; first | (exfalso; omega) | rw [if_pos (by omega)] | rw [if_neg (by omega)]), rfl, rfl⟩
      · refine PW.iload_n dX12_isAxis_19 rfl ?_
        refine PW.iconst dX12_isAxis_20 ?_
        refine PW.icmp_ne 28 dX12_isAxis_21 (by decide) (by first | assumption | (unfold inR; omega)) (by first | assumption | (unfold inR; omega)) (fun h21 => ?_) (fun h21 => ?_)
        · refine PW.iconst dX12_isAxis_28 ?_
          exact PW.iret rfl (by first | rfl | exact narB _) dX12_isAxis_29 ⟨ret_eq (by unfold b01; first | (exfalso; omega) | rw [if_pos (by omega)] | rw [if_neg (by omega)]), rfl, rfl⟩
        · refine PW.iconst dX12_isAxis_24 ?_
          refine PW.goto 29 dX12_isAxis_25 (by decide) ?_
          exact PW.iret rfl (by first | rfl | exact narB _) dX12_isAxis_29 ⟨ret_eq (by unfold b01; first | (exfalso; omega) | rw [if_pos (by omega)] | rw [if_neg (by omega)]), rfl, rfl⟩
    · refine PW.iload_n dX12_isAxis_10 rfl ?_
      refine PW.if_eq 24 dX12_isAxis_11 (by decide) (by first | assumption | (unfold inR; omega)) (fun h11 => ?_) (fun h11 => ?_)
      · refine PW.iconst dX12_isAxis_24 ?_
        refine PW.goto 29 dX12_isAxis_25 (by decide) ?_
        exact PW.iret rfl (by first | rfl | exact narB _) dX12_isAxis_29 ⟨ret_eq (by unfold b01; first | (exfalso; omega) | rw [if_pos (by omega)] | rw [if_neg (by omega)]), rfl, rfl⟩
      · refine PW.iload_n dX12_isAxis_14 rfl ?_
        refine PW.iconst dX12_isAxis_15 ?_
        refine PW.icmp_ne 28 dX12_isAxis_16 (by decide) (by first | assumption | (unfold inR; omega)) (by first | assumption | (unfold inR; omega)) (fun h16 => ?_) (fun h16 => ?_)
        · refine PW.iconst dX12_isAxis_28 ?_
          exact PW.iret rfl (by first | rfl | exact narB _) dX12_isAxis_29 ⟨ret_eq (by unfold b01; first | (exfalso; omega) | rw [if_pos (by omega)] | rw [if_neg (by omega)]), rfl, rfl⟩
        · refine PW.iload_n dX12_isAxis_19 rfl ?_
          refine PW.iconst dX12_isAxis_20 ?_
          refine PW.icmp_ne 28 dX12_isAxis_21 (by decide) (by first | assumption | (unfold inR; omega)) (by first | assumption | (unfold inR; omega)) (fun h21 => ?_) (fun h21 => ?_)
          · refine PW.iconst dX12_isAxis_28 ?_
            exact PW.iret rfl (by first | rfl | exact narB _) dX12_isAxis_29 ⟨ret_eq (by unfold b01; first | (exfalso; omega) | rw [if_pos (by omega)] | rw [if_neg (by omega)]), rfl, rfl⟩
          · refine PW.iconst dX12_isAxis_24 ?_
            refine PW.goto 29 dX12_isAxis_25 (by decide) ?_
            exact PW.iret rfl (by first | rfl | exact narB _) dX12_isAxis_29 ⟨ret_eq (by unfold b01; first | (exfalso; omega) | rw [if_pos (by omega)] | rw [if_neg (by omega)]), rfl, rfl⟩
theorem c_X12_isPlace {G : GT} {S : Shp} {σ : Sto} {x y : Int} (rx : inR x) (ry : inR y) : PMet G mX12_isPlace 1 0 0 [.int (iI (x)), .int (iI (y))] S σ (isP (some (.int (iI (b01 ((0 ≤ x ∧ x < 8) ∧ (0 ≤ y ∧ y < 8)))))) S σ) := by
  refine PMet.of [(0, .int (iI (x))), (1, .int (iI (y)))] (by decide +kernel) rfl (Nat.le_of_ble_eq_true rfl) ?_
  refine PW.iload_n dX12_isPlace_0 rfl ?_
  refine PW.i2l (by first | assumption | (unfold inR; omega)) dX12_isPlace_1 ?_
  refine PW.lconst (z := 0) rfl dX12_isPlace_2 ?_
  refine PW.ldc2 (7) kc_X12_298 rfl rfl dX12_isPlace_3 ?_
  refine PW.callSr (c_X12_in (by first | (unfold inL; omega) | exact inL_R (by assumption)) (by first | (unfold inL; omega) | exact inL_R (by assumption)) (by first | (unfold inL; omega) | exact inL_R (by assumption))) cs_X12_in lk_X12_134 dX12_isPlace_6 rfl rfl rfl ?_
  refine PW.if_eqB 28 dX12_isPlace_9 (by decide) (fun h9 => ?_) (fun h9 => ?_)
  · refine PW.iconst dX12_isPlace_28 ?_
    exact PW.iret rfl (by first | rfl | exact narB _) dX12_isPlace_29 ⟨ret_eq (by unfold b01; first | (exfalso; omega) | rw [if_pos (by omega)] | rw [if_neg (by omega)]), rfl, rfl⟩
  · refine PW.iload_n dX12_isPlace_12 rfl ?_
    refine PW.i2l (by first | assumption | (unfold inR; omega)) dX12_isPlace_13 ?_
    refine PW.lconst (z := 0) rfl dX12_isPlace_14 ?_
    refine PW.ldc2 (7) kc_X12_298 rfl rfl dX12_isPlace_15 ?_
    refine PW.callSr (c_X12_in (by first | (unfold inL; omega) | exact inL_R (by assumption)) (by first | (unfold inL; omega) | exact inL_R (by assumption)) (by first | (unfold inL; omega) | exact inL_R (by assumption))) cs_X12_in lk_X12_134 dX12_isPlace_18 rfl rfl rfl ?_
    refine PW.if_eqB 28 dX12_isPlace_21 (by decide) (fun h21 => ?_) (fun h21 => ?_)
    · refine PW.iconst dX12_isPlace_28 ?_
      exact PW.iret rfl (by first | rfl | exact narB _) dX12_isPlace_29 ⟨ret_eq (by unfold b01; first | (exfalso; omega) | rw [if_pos (by omega)] | rw [if_neg (by omega)]), rfl, rfl⟩
    · refine PW.iconst dX12_isPlace_24 ?_
      refine PW.goto 29 dX12_isPlace_25 (by decide) ?_
      exact PW.iret rfl (by first | rfl | exact narB _) dX12_isPlace_29 ⟨ret_eq (by unfold b01; first | (exfalso; omega) | rw [if_pos (by omega)] | rw [if_neg (by omega)]), rfl, rfl⟩
theorem c_X12_isHeight {G : GT} {S : Shp} {σ : Sto} {z : Int} (rz : inR z) : PMet G mX12_isHeight 1 0 0 [.int (iI (z))] S σ (isP (some (.int (iI (b01 (-40 ≤ z ∧ z ≤ 39))))) S σ) := by
  refine PMet.of [(0, .int (iI (z)))] (by decide +kernel) rfl (Nat.le_of_ble_eq_true rfl) ?_
  refine PW.iload_n dX12_isHeight_0 rfl ?_
  refine PW.i2l (by first | assumption | (unfold inR; omega)) dX12_isHeight_1 ?_
  refine PW.ldc2 (-40) kc_X12_300 rfl rfl dX12_isHeight_2 ?_
  refine PW.ldc2 (39) kc_X12_302 rfl rfl dX12_isHeight_5 ?_
  refine PW.callSr (c_X12_in (by first | (unfold inL; omega) | exact inL_R (by assumption)) (by first | (unfold inL; omega) | exact inL_R (by assumption)) (by first | (unfold inL; omega) | exact inL_R (by assumption))) cs_X12_in lk_X12_134 dX12_isHeight_8 rfl rfl rfl ?_
  exact PW.iret rfl (by first | rfl | exact narB _) dX12_isHeight_11 ⟨rfl, rfl, rfl⟩
theorem c_X12_mainNumber {G : GT} {S : Shp} {σ : Sto} {k : Int} (hk : 0 ≤ k ∧ k ≤ 5) : PMet G mX12_mainNumber 0 0 0 [.int (iI (k))] S σ (isP (some (.int (iI (xT 1 k)))) S σ) := by
  refine PMet.of [(0, .int (iI (k)))] (by decide +kernel) rfl (Nat.le_of_ble_eq_true rfl) ?_
  refine PW.iload_n dX12_mainNumber_0 rfl ?_
  rcases (show k = 0 ∨ k = 1 ∨ k = 2 ∨ k = 3 ∨ k = 4 ∨ k = 5 by omega) with h1 | h1 | h1 | h1 | h1 | h1
  · refine PW.tsIn (39) 40 (by first | assumption | (unfold inR; omega)) dX12_mainNumber_1 (by omega) (by omega) (by rw [h1]; rfl) (by decide) ?_
    refine PW.iconst dX12_mainNumber_40 ?_
    exact PW.iret rfl rfl dX12_mainNumber_41 ⟨ret_eq (by rw [h1]; decide +kernel), rfl, rfl⟩
  · refine PW.tsIn (45) 46 (by first | assumption | (unfold inR; omega)) dX12_mainNumber_1 (by omega) (by omega) (by rw [h1]; rfl) (by decide) ?_
    refine PW.iconst dX12_mainNumber_46 ?_
    exact PW.iret rfl rfl dX12_mainNumber_47 ⟨ret_eq (by rw [h1]; decide +kernel), rfl, rfl⟩
  · refine PW.tsIn (39) 40 (by first | assumption | (unfold inR; omega)) dX12_mainNumber_1 (by omega) (by omega) (by rw [h1]; rfl) (by decide) ?_
    refine PW.iconst dX12_mainNumber_40 ?_
    exact PW.iret rfl rfl dX12_mainNumber_41 ⟨ret_eq (by rw [h1]; decide +kernel), rfl, rfl⟩
  · refine PW.tsIn (41) 42 (by first | assumption | (unfold inR; omega)) dX12_mainNumber_1 (by omega) (by omega) (by rw [h1]; rfl) (by decide) ?_
    refine PW.iconst dX12_mainNumber_42 ?_
    exact PW.iret rfl rfl dX12_mainNumber_43 ⟨ret_eq (by rw [h1]; decide +kernel), rfl, rfl⟩
  · refine PW.tsIn (45) 46 (by first | assumption | (unfold inR; omega)) dX12_mainNumber_1 (by omega) (by omega) (by rw [h1]; rfl) (by decide) ?_
    refine PW.iconst dX12_mainNumber_46 ?_
    exact PW.iret rfl rfl dX12_mainNumber_47 ⟨ret_eq (by rw [h1]; decide +kernel), rfl, rfl⟩
  · refine PW.tsIn (43) 44 (by first | assumption | (unfold inR; omega)) dX12_mainNumber_1 (by omega) (by omega) (by rw [h1]; rfl) (by decide) ?_
    refine PW.iconst dX12_mainNumber_44 ?_
    exact PW.iret rfl rfl dX12_mainNumber_45 ⟨ret_eq (by rw [h1]; decide +kernel), rfl, rfl⟩
theorem c_X12_bendAt {G : GT} {S : Shp} {σ : Sto} {s b c : Int}  : PMet G mX12_bendAt 0 0 0 [.int (iI (s)), .int (iI (b)), .int (iI (c))] S σ (isP (some (.int (iI (1681 * s + 41 * b + c)))) S σ) := by
  refine PMet.of [(0, .int (iI (s))), (1, .int (iI (b))), (2, .int (iI (c)))] (by decide +kernel) rfl (Nat.le_of_ble_eq_true rfl) ?_
  refine PW.sipush (by decide) dX12_bendAt_0 ?_
  refine PW.iload_n dX12_bendAt_3 rfl ?_
  refine PW.imul dX12_bendAt_4 ?_
  refine PW.bipush (by decide) dX12_bendAt_5 ?_
  refine PW.iload_n dX12_bendAt_7 rfl ?_
  refine PW.imul dX12_bendAt_8 ?_
  refine PW.iadd dX12_bendAt_9 ?_
  refine PW.iload_n dX12_bendAt_10 rfl ?_
  refine PW.iadd dX12_bendAt_11 ?_
  exact PW.iret rfl rfl dX12_bendAt_12 ⟨rfl, rfl, rfl⟩
def giF (g : Int → Int) (a b c d e : Int) : Int → Int := fun i => if i = 0 then a else if i = 1 then b else if i = 2 then c else if i = 3 then d else if i = 4 then e else g i
theorem c_X12_give {G : GT} {S : Shp} {σ : Sto} {m : Nat} {a b c d e : Int} (hA : IsMod S m) : PMet G mX12_give 0 0 0 [.ref m, .int (iI (a)), .int (iI (b)), .int (iI (c)), .int (iI (d)), .int (iI (e))] S σ (isP none S (upS σ (m + 6) (giF (σ (m + 6)) a b c d e))) := by
  obtain ⟨hM0, hM1, hM2, hM3, hM4, hM5, hM6, hM7, hM8, hM9, hM10, hM11, hM12, hM13, hM14, hM15, hM16, hM17, hM18, hM19, hM20, hM21, hM22, hM23, hM24, hM25, hM26, hM27, hM28, hM29, hM30, hM31, hM32, hM33, hM34⟩ := id hA
  refine PMet.of [(0, .ref m), (1, .int (iI (a))), (2, .int (iI (b))), (3, .int (iI (c))), (4, .int (iI (d))), (5, .int (iI (e)))] (by decide +kernel) rfl (Nat.le_of_ble_eq_true rfl) ?_
  refine PW.aload_n dX12_give_0 rfl ?_
  refine PW.getR fl_X12_27 rfl (by assumption) rfl dX12_give_1 ?_
  refine PW.iconst dX12_give_4 ?_
  refine PW.iload_n dX12_give_5 rfl ?_
  refine PW.iastore (by assumption) (by first | assumption | (unfold inR; omega)) (by omega) (by omega) dX12_give_6 ?_
  refine PW.aload_n dX12_give_7 rfl ?_
  refine PW.getR fl_X12_27 rfl (by assumption) rfl dX12_give_8 ?_
  refine PW.iconst dX12_give_11 ?_
  refine PW.iload_n dX12_give_12 rfl ?_
  refine PW.iastore (by assumption) (by first | assumption | (unfold inR; omega)) (by omega) (by omega) dX12_give_13 ?_
  refine PW.aload_n dX12_give_14 rfl ?_
  refine PW.getR fl_X12_27 rfl (by assumption) rfl dX12_give_15 ?_
  refine PW.iconst dX12_give_18 ?_
  refine PW.iload_n dX12_give_19 rfl ?_
  refine PW.iastore (by assumption) (by first | assumption | (unfold inR; omega)) (by omega) (by omega) dX12_give_20 ?_
  refine PW.aload_n dX12_give_21 rfl ?_
  refine PW.getR fl_X12_27 rfl (by assumption) rfl dX12_give_22 ?_
  refine PW.iconst dX12_give_25 ?_
  refine PW.iload dX12_give_26 rfl ?_
  refine PW.iastore (by assumption) (by first | assumption | (unfold inR; omega)) (by omega) (by omega) dX12_give_28 ?_
  refine PW.aload_n dX12_give_29 rfl ?_
  refine PW.getR fl_X12_27 rfl (by assumption) rfl dX12_give_30 ?_
  refine PW.iconst dX12_give_33 ?_
  refine PW.iload dX12_give_34 rfl ?_
  refine PW.iastore (by assumption) (by first | assumption | (unfold inR; omega)) (by omega) (by omega) dX12_give_36 ?_
  refine PW.vret rfl dX12_give_37 ⟨rfl, rfl, ?_⟩
  simp only [upS_upS, upS_same]
  refine congrArg (upS σ (m + 6)) (funext fun j => ?_)
  unfold giF up1
  by_cases q0 : j = 0
  · subst q0; rfl
  by_cases q1 : j = 1
  · subst q1; rfl
  by_cases q2 : j = 2
  · subst q2; rfl
  by_cases q3 : j = 3
  · subst q3; rfl
  by_cases q4 : j = 4
  · subst q4; rfl
  simp only [q0, q1, q2, q3, q4, if_false]

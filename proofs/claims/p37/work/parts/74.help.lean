/-- the script's i-th int, or a number of its own behind its end -/
def ceF (G : GT) (i : Int) : Int := if i < scL G then scI G i else 747796405 * (i + 1)
def loF (v n : Int) : Int := (bAnd v 2147483647).tmod n
theorem bAnd_pos (v : Int) : 0 ≤ bAnd v 2147483647 := by
  unfold bAnd
  have h : (iI v &&& iI 2147483647).toBitVec.toNat ≤ 2147483647 := by
    rw [Int32.toBitVec_and, BitVec.toNat_and]
    exact Nat.le_trans Nat.and_le_right (by decide)
  rw [show (iI v &&& iI 2147483647).toInt = (iI v &&& iI 2147483647).toBitVec.toInt from rfl, BitVec.toInt_eq_toNat_of_lt (by omega)]
  omega
theorem loF_b (v : Int) {n : Int} (hn : 1 ≤ n) : 0 ≤ loF v n ∧ loF v n < n := ⟨Int.tmod_nonneg _ (bAnd_pos v), Int.tmod_lt_of_pos _ (by omega)⟩
theorem c_L_cell {G : GT} {S : Shp} {σ : Sto} {i : Int} (hi : 0 ≤ i ∧ i ≤ 100000) : PMet G mL_cell 0 0 0 [.ref 1000021, .int (iI i)] S σ (isP (some (.int (iI (ceF G i)))) S σ) := by
  refine PMet.of [(0, .ref 1000021), (1, .int (iI (i)))] (by decide +kernel) rfl (Nat.le_of_ble_eq_true rfl) ?_
  refine PW.iload_n dL_cell_0 rfl ?_
  refine PW.aload_n dL_cell_1 rfl ?_
  refine PW.slen dL_cell_2 (fun hsl => ?_)
  refine PW.icmp_ge 12 dL_cell_3 (by decide) (by first | assumption | (unfold inR; omega)) (by first | assumption | (unfold inR; omega)) (fun h3 => ?_) (fun h3 => ?_)
  · refine PW.ldc (747796405) kc_L_7 rfl rfl dL_cell_12 ?_
    refine PW.iload_n dL_cell_14 rfl ?_
    refine PW.iconst dL_cell_15 ?_
    refine PW.iadd dL_cell_16 ?_
    refine PW.imul dL_cell_17 ?_
    exact PW.iret rfl rfl dL_cell_18 ⟨ret_eq (by unfold ceF; first | rw [if_pos (by omega)] | rw [if_neg (by omega)]), rfl, rfl⟩
  · refine PW.aload_n dL_cell_6 rfl ?_
    refine PW.iload_n dL_cell_7 rfl ?_
    refine PW.sld (by unfold inR; omega) (by omega) (by omega) dL_cell_8 ?_
    refine PW.goto 18 dL_cell_9 (by decide) ?_
    exact PW.iret rfl rfl dL_cell_18 ⟨ret_eq (by unfold ceF; first | rw [if_pos (by omega)] | rw [if_neg (by omega)]), rfl, rfl⟩
theorem c_L_low {G : GT} {S : Shp} {σ : Sto} {v n : Int} (hn : 1 ≤ n ∧ n ≤ 1000) : PMet G mL_low 0 0 0 [.int (iI v), .int (iI n)] S σ (isP (some (.int (iI (loF v n)))) S σ) := by
  have hp := bAnd_pos v
  refine PMet.of [(0, .int (iI (v))), (1, .int (iI (n)))] (by decide +kernel) rfl (Nat.le_of_ble_eq_true rfl) ?_
  refine PW.iload_n dL_low_0 rfl ?_
  refine PW.ldc (2147483647) kc_L_8 rfl rfl dL_low_1 ?_
  refine PW.iand dL_low_3 ?_
  refine PW.iload_n dL_low_4 rfl ?_
  refine PW.irem (by first | assumption | (unfold inR; omega)) (by omega) dL_low_5 ?_
  refine PW.top (loF v n) (by rw [tdv_eq (show inR (bAnd v 2147483647) from inR_of _) (by unfold inR; omega) (by omega), Int.tdiv_mul_self]; show _ = (bAnd v 2147483647).tmod n; omega) ?_
  exact PW.iret rfl rfl dL_low_6 ⟨rfl, rfl, rfl⟩
theorem draw_0_0 {G : GT} {S : Shp} {σ : Sto} {v : Int} : PMet G mL_draw 1 0 0 [.int (iI (0)), .int (iI (0)), .int (iI v)] S σ (fun r S' τ => r.isSome = true ∧ ∃ w : Int, r = some (.int (iI w)) ∧ S' = S ∧ τ = σ ∧ suF 0 0 w ∧ (-40 ≤ w ∧ w ≤ 39)) := by
  have b15 := loF_b v (n := 15) (by decide)
  have b8 := loF_b v (n := 8) (by decide)
  have b2 := loF_b v (n := 2) (by decide)
  have b7 := loF_b v (n := 7) (by decide)
  have b33 := loF_b v (n := 33) (by decide)
  have b5 := loF_b v (n := 5) (by decide)
  have b70 := loF_b v (n := 70) (by decide)
  have b17 := loF_b v (n := 17) (by decide)
  refine PMet.of [(0, .int (iI (0))), (1, .int (iI (0))), (2, .int (iI (v)))] (by decide +kernel) rfl (Nat.le_of_ble_eq_true rfl) ?_
  refine PW.bipush (by decide) dL_draw_0 ?_
  refine PW.iload_n dL_draw_2 rfl ?_
  refine PW.imul dL_draw_3 ?_
  refine PW.iload_n dL_draw_4 rfl ?_
  refine PW.iadd dL_draw_5 ?_
  rcases (show (10 * 0 + 0 : Int) = 0 by omega) with h6
  · refine PW.tsIn (234) 240 (by first | assumption | (unfold inR; omega)) dL_draw_6 (by omega) (by omega) (by rw [h6]; rfl) (by decide) ?_
    refine PW.iload_n dL_draw_240 rfl ?_
    refine PW.bipush (by decide) dL_draw_241 ?_
    refine PW.callSr (c_L_low (by omega)) cs_L_low lk_L_19 dL_draw_243 rfl rfl rfl ?_
    exact PW.iret rfl rfl dL_draw_246 ⟨rfl, _, rfl, rfl, rfl, Or.inr ⟨by rw [show xT 2 (5 * 0 + 0) = 0 by decide]; omega, by rw [show xT 3 (5 * 0 + 0) = 14 by decide]; omega⟩, by omega⟩
theorem draw_0_1 {G : GT} {S : Shp} {σ : Sto} {v : Int} : PMet G mL_draw 1 0 0 [.int (iI (0)), .int (iI (1)), .int (iI v)] S σ (fun r S' τ => r.isSome = true ∧ ∃ w : Int, r = some (.int (iI w)) ∧ S' = S ∧ τ = σ ∧ suF 0 1 w ∧ (-40 ≤ w ∧ w ≤ 39)) := by
  have b15 := loF_b v (n := 15) (by decide)
  have b8 := loF_b v (n := 8) (by decide)
  have b2 := loF_b v (n := 2) (by decide)
  have b7 := loF_b v (n := 7) (by decide)
  have b33 := loF_b v (n := 33) (by decide)
  have b5 := loF_b v (n := 5) (by decide)
  have b70 := loF_b v (n := 70) (by decide)
  have b17 := loF_b v (n := 17) (by decide)
  refine PMet.of [(0, .int (iI (0))), (1, .int (iI (1))), (2, .int (iI (v)))] (by decide +kernel) rfl (Nat.le_of_ble_eq_true rfl) ?_
  refine PW.bipush (by decide) dL_draw_0 ?_
  refine PW.iload_n dL_draw_2 rfl ?_
  refine PW.imul dL_draw_3 ?_
  refine PW.iload_n dL_draw_4 rfl ?_
  refine PW.iadd dL_draw_5 ?_
  rcases (show (10 * 0 + 1 : Int) = 1 by omega) with h6
  · refine PW.tsIn (241) 247 (by first | assumption | (unfold inR; omega)) dL_draw_6 (by omega) (by omega) (by rw [h6]; rfl) (by decide) ?_
    refine PW.iconst dL_draw_247 ?_
    refine PW.iload_n dL_draw_248 rfl ?_
    refine PW.bipush (by decide) dL_draw_249 ?_
    refine PW.callSr (c_L_low (by omega)) cs_L_low lk_L_19 dL_draw_251 rfl rfl rfl ?_
    refine PW.iadd dL_draw_254 ?_
    exact PW.iret rfl rfl dL_draw_255 ⟨rfl, _, rfl, rfl, rfl, Or.inr ⟨by rw [show xT 2 (5 * 0 + 1) = 1 by decide]; omega, by rw [show xT 3 (5 * 0 + 1) = 8 by decide]; omega⟩, by omega⟩
theorem draw_0_2 {G : GT} {S : Shp} {σ : Sto} {v : Int} : PMet G mL_draw 1 0 0 [.int (iI (0)), .int (iI (2)), .int (iI v)] S σ (fun r S' τ => r.isSome = true ∧ ∃ w : Int, r = some (.int (iI w)) ∧ S' = S ∧ τ = σ ∧ suF 0 2 w ∧ (-40 ≤ w ∧ w ≤ 39)) := by
  have b15 := loF_b v (n := 15) (by decide)
  have b8 := loF_b v (n := 8) (by decide)
  have b2 := loF_b v (n := 2) (by decide)
  have b7 := loF_b v (n := 7) (by decide)
  have b33 := loF_b v (n := 33) (by decide)
  have b5 := loF_b v (n := 5) (by decide)
  have b70 := loF_b v (n := 70) (by decide)
  have b17 := loF_b v (n := 17) (by decide)
  refine PMet.of [(0, .int (iI (0))), (1, .int (iI (2))), (2, .int (iI (v)))] (by decide +kernel) rfl (Nat.le_of_ble_eq_true rfl) ?_
  refine PW.bipush (by decide) dL_draw_0 ?_
  refine PW.iload_n dL_draw_2 rfl ?_
  refine PW.imul dL_draw_3 ?_
  refine PW.iload_n dL_draw_4 rfl ?_
  refine PW.iadd dL_draw_5 ?_
  rcases (show (10 * 0 + 2 : Int) = 2 by omega) with h6
  · refine PW.tsIn (324) 330 (by first | assumption | (unfold inR; omega)) dL_draw_6 (by omega) (by omega) (by rw [h6]; rfl) (by decide) ?_
    refine PW.iload_n dL_draw_330 rfl ?_
    refine PW.bipush (by decide) dL_draw_331 ?_
    refine PW.callSr (c_L_low (by omega)) cs_L_low lk_L_19 dL_draw_333 rfl rfl rfl ?_
    refine PW.bipush (by decide) dL_draw_336 ?_
    refine PW.isub dL_draw_338 ?_
    exact PW.iret rfl rfl dL_draw_339 ⟨rfl, _, rfl, rfl, rfl, Or.inl (by decide), by omega⟩
theorem draw_0_3 {G : GT} {S : Shp} {σ : Sto} {v : Int} : PMet G mL_draw 1 0 0 [.int (iI (0)), .int (iI (3)), .int (iI v)] S σ (fun r S' τ => r.isSome = true ∧ ∃ w : Int, r = some (.int (iI w)) ∧ S' = S ∧ τ = σ ∧ suF 0 3 w ∧ (-40 ≤ w ∧ w ≤ 39)) := by
  have b15 := loF_b v (n := 15) (by decide)
  have b8 := loF_b v (n := 8) (by decide)
  have b2 := loF_b v (n := 2) (by decide)
  have b7 := loF_b v (n := 7) (by decide)
  have b33 := loF_b v (n := 33) (by decide)
  have b5 := loF_b v (n := 5) (by decide)
  have b70 := loF_b v (n := 70) (by decide)
  have b17 := loF_b v (n := 17) (by decide)
  refine PMet.of [(0, .int (iI (0))), (1, .int (iI (3))), (2, .int (iI (v)))] (by decide +kernel) rfl (Nat.le_of_ble_eq_true rfl) ?_
  refine PW.bipush (by decide) dL_draw_0 ?_
  refine PW.iload_n dL_draw_2 rfl ?_
  refine PW.imul dL_draw_3 ?_
  refine PW.iload_n dL_draw_4 rfl ?_
  refine PW.iadd dL_draw_5 ?_
  rcases (show (10 * 0 + 3 : Int) = 3 by omega) with h6
  · refine PW.tsIn (324) 330 (by first | assumption | (unfold inR; omega)) dL_draw_6 (by omega) (by omega) (by rw [h6]; rfl) (by decide) ?_
    refine PW.iload_n dL_draw_330 rfl ?_
    refine PW.bipush (by decide) dL_draw_331 ?_
    refine PW.callSr (c_L_low (by omega)) cs_L_low lk_L_19 dL_draw_333 rfl rfl rfl ?_
    refine PW.bipush (by decide) dL_draw_336 ?_
    refine PW.isub dL_draw_338 ?_
    exact PW.iret rfl rfl dL_draw_339 ⟨rfl, _, rfl, rfl, rfl, Or.inl (by decide), by omega⟩
theorem draw_1_0 {G : GT} {S : Shp} {σ : Sto} {v : Int} : PMet G mL_draw 1 0 0 [.int (iI (1)), .int (iI (0)), .int (iI v)] S σ (fun r S' τ => r.isSome = true ∧ ∃ w : Int, r = some (.int (iI w)) ∧ S' = S ∧ τ = σ ∧ suF 1 0 w ∧ (-40 ≤ w ∧ w ≤ 39)) := by
  have b15 := loF_b v (n := 15) (by decide)
  have b8 := loF_b v (n := 8) (by decide)
  have b2 := loF_b v (n := 2) (by decide)
  have b7 := loF_b v (n := 7) (by decide)
  have b33 := loF_b v (n := 33) (by decide)
  have b5 := loF_b v (n := 5) (by decide)
  have b70 := loF_b v (n := 70) (by decide)
  have b17 := loF_b v (n := 17) (by decide)
  refine PMet.of [(0, .int (iI (1))), (1, .int (iI (0))), (2, .int (iI (v)))] (by decide +kernel) rfl (Nat.le_of_ble_eq_true rfl) ?_
  refine PW.bipush (by decide) dL_draw_0 ?_
  refine PW.iload_n dL_draw_2 rfl ?_
  refine PW.imul dL_draw_3 ?_
  refine PW.iload_n dL_draw_4 rfl ?_
  refine PW.iadd dL_draw_5 ?_
  rcases (show (10 * 1 + 0 : Int) = 10 by omega) with h6
  · refine PW.tsIn (324) 330 (by first | assumption | (unfold inR; omega)) dL_draw_6 (by omega) (by omega) (by rw [h6]; rfl) (by decide) ?_
    refine PW.iload_n dL_draw_330 rfl ?_
    refine PW.bipush (by decide) dL_draw_331 ?_
    refine PW.callSr (c_L_low (by omega)) cs_L_low lk_L_19 dL_draw_333 rfl rfl rfl ?_
    refine PW.bipush (by decide) dL_draw_336 ?_
    refine PW.isub dL_draw_338 ?_
    exact PW.iret rfl rfl dL_draw_339 ⟨rfl, _, rfl, rfl, rfl, Or.inr ⟨by rw [show xT 2 (5 * 1 + 0) = -8 by decide]; omega, by rw [show xT 3 (5 * 1 + 0) = 8 by decide]; omega⟩, by omega⟩
theorem draw_1_1 {G : GT} {S : Shp} {σ : Sto} {v : Int} : PMet G mL_draw 1 0 0 [.int (iI (1)), .int (iI (1)), .int (iI v)] S σ (fun r S' τ => r.isSome = true ∧ ∃ w : Int, r = some (.int (iI w)) ∧ S' = S ∧ τ = σ ∧ suF 1 1 w ∧ (-40 ≤ w ∧ w ≤ 39)) := by
  have b15 := loF_b v (n := 15) (by decide)
  have b8 := loF_b v (n := 8) (by decide)
  have b2 := loF_b v (n := 2) (by decide)
  have b7 := loF_b v (n := 7) (by decide)
  have b33 := loF_b v (n := 33) (by decide)
  have b5 := loF_b v (n := 5) (by decide)
  have b70 := loF_b v (n := 70) (by decide)
  have b17 := loF_b v (n := 17) (by decide)
  refine PMet.of [(0, .int (iI (1))), (1, .int (iI (1))), (2, .int (iI (v)))] (by decide +kernel) rfl (Nat.le_of_ble_eq_true rfl) ?_
  refine PW.bipush (by decide) dL_draw_0 ?_
  refine PW.iload_n dL_draw_2 rfl ?_
  refine PW.imul dL_draw_3 ?_
  refine PW.iload_n dL_draw_4 rfl ?_
  refine PW.iadd dL_draw_5 ?_
  rcases (show (10 * 1 + 1 : Int) = 11 by omega) with h6
  · refine PW.tsIn (324) 330 (by first | assumption | (unfold inR; omega)) dL_draw_6 (by omega) (by omega) (by rw [h6]; rfl) (by decide) ?_
    refine PW.iload_n dL_draw_330 rfl ?_
    refine PW.bipush (by decide) dL_draw_331 ?_
    refine PW.callSr (c_L_low (by omega)) cs_L_low lk_L_19 dL_draw_333 rfl rfl rfl ?_
    refine PW.bipush (by decide) dL_draw_336 ?_
    refine PW.isub dL_draw_338 ?_
    exact PW.iret rfl rfl dL_draw_339 ⟨rfl, _, rfl, rfl, rfl, Or.inr ⟨by rw [show xT 2 (5 * 1 + 1) = -8 by decide]; omega, by rw [show xT 3 (5 * 1 + 1) = 8 by decide]; omega⟩, by omega⟩
theorem draw_1_2 {G : GT} {S : Shp} {σ : Sto} {v : Int} : PMet G mL_draw 1 0 0 [.int (iI (1)), .int (iI (2)), .int (iI v)] S σ (fun r S' τ => r.isSome = true ∧ ∃ w : Int, r = some (.int (iI w)) ∧ S' = S ∧ τ = σ ∧ suF 1 2 w ∧ (-40 ≤ w ∧ w ≤ 39)) := by
  have b15 := loF_b v (n := 15) (by decide)
  have b8 := loF_b v (n := 8) (by decide)
  have b2 := loF_b v (n := 2) (by decide)
  have b7 := loF_b v (n := 7) (by decide)
  have b33 := loF_b v (n := 33) (by decide)
  have b5 := loF_b v (n := 5) (by decide)
  have b70 := loF_b v (n := 70) (by decide)
  have b17 := loF_b v (n := 17) (by decide)
  refine PMet.of [(0, .int (iI (1))), (1, .int (iI (2))), (2, .int (iI (v)))] (by decide +kernel) rfl (Nat.le_of_ble_eq_true rfl) ?_
  refine PW.bipush (by decide) dL_draw_0 ?_
  refine PW.iload_n dL_draw_2 rfl ?_
  refine PW.imul dL_draw_3 ?_
  refine PW.iload_n dL_draw_4 rfl ?_
  refine PW.iadd dL_draw_5 ?_
  rcases (show (10 * 1 + 2 : Int) = 12 by omega) with h6
  · refine PW.tsIn (324) 330 (by first | assumption | (unfold inR; omega)) dL_draw_6 (by omega) (by omega) (by rw [h6]; rfl) (by decide) ?_
    refine PW.iload_n dL_draw_330 rfl ?_
    refine PW.bipush (by decide) dL_draw_331 ?_
    refine PW.callSr (c_L_low (by omega)) cs_L_low lk_L_19 dL_draw_333 rfl rfl rfl ?_
    refine PW.bipush (by decide) dL_draw_336 ?_
    refine PW.isub dL_draw_338 ?_
    exact PW.iret rfl rfl dL_draw_339 ⟨rfl, _, rfl, rfl, rfl, Or.inl (by decide), by omega⟩
theorem draw_1_3 {G : GT} {S : Shp} {σ : Sto} {v : Int} : PMet G mL_draw 1 0 0 [.int (iI (1)), .int (iI (3)), .int (iI v)] S σ (fun r S' τ => r.isSome = true ∧ ∃ w : Int, r = some (.int (iI w)) ∧ S' = S ∧ τ = σ ∧ suF 1 3 w ∧ (-40 ≤ w ∧ w ≤ 39)) := by
  have b15 := loF_b v (n := 15) (by decide)
  have b8 := loF_b v (n := 8) (by decide)
  have b2 := loF_b v (n := 2) (by decide)
  have b7 := loF_b v (n := 7) (by decide)
  have b33 := loF_b v (n := 33) (by decide)
  have b5 := loF_b v (n := 5) (by decide)
  have b70 := loF_b v (n := 70) (by decide)
  have b17 := loF_b v (n := 17) (by decide)
  refine PMet.of [(0, .int (iI (1))), (1, .int (iI (3))), (2, .int (iI (v)))] (by decide +kernel) rfl (Nat.le_of_ble_eq_true rfl) ?_
  refine PW.bipush (by decide) dL_draw_0 ?_
  refine PW.iload_n dL_draw_2 rfl ?_
  refine PW.imul dL_draw_3 ?_
  refine PW.iload_n dL_draw_4 rfl ?_
  refine PW.iadd dL_draw_5 ?_
  rcases (show (10 * 1 + 3 : Int) = 13 by omega) with h6
  · refine PW.tsIn (324) 330 (by first | assumption | (unfold inR; omega)) dL_draw_6 (by omega) (by omega) (by rw [h6]; rfl) (by decide) ?_
    refine PW.iload_n dL_draw_330 rfl ?_
    refine PW.bipush (by decide) dL_draw_331 ?_
    refine PW.callSr (c_L_low (by omega)) cs_L_low lk_L_19 dL_draw_333 rfl rfl rfl ?_
    refine PW.bipush (by decide) dL_draw_336 ?_
    refine PW.isub dL_draw_338 ?_
    exact PW.iret rfl rfl dL_draw_339 ⟨rfl, _, rfl, rfl, rfl, Or.inl (by decide), by omega⟩
theorem draw_2_0 {G : GT} {S : Shp} {σ : Sto} {v : Int} : PMet G mL_draw 1 0 0 [.int (iI (2)), .int (iI (0)), .int (iI v)] S σ (fun r S' τ => r.isSome = true ∧ ∃ w : Int, r = some (.int (iI w)) ∧ S' = S ∧ τ = σ ∧ suF 2 0 w ∧ (-40 ≤ w ∧ w ≤ 39)) := by
  have b15 := loF_b v (n := 15) (by decide)
  have b8 := loF_b v (n := 8) (by decide)
  have b2 := loF_b v (n := 2) (by decide)
  have b7 := loF_b v (n := 7) (by decide)
  have b33 := loF_b v (n := 33) (by decide)
  have b5 := loF_b v (n := 5) (by decide)
  have b70 := loF_b v (n := 70) (by decide)
  have b17 := loF_b v (n := 17) (by decide)
  refine PMet.of [(0, .int (iI (2))), (1, .int (iI (0))), (2, .int (iI (v)))] (by decide +kernel) rfl (Nat.le_of_ble_eq_true rfl) ?_
  refine PW.bipush (by decide) dL_draw_0 ?_
  refine PW.iload_n dL_draw_2 rfl ?_
  refine PW.imul dL_draw_3 ?_
  refine PW.iload_n dL_draw_4 rfl ?_
  refine PW.iadd dL_draw_5 ?_
  rcases (show (10 * 2 + 0 : Int) = 20 by omega) with h6
  · refine PW.tsIn (250) 256 (by first | assumption | (unfold inR; omega)) dL_draw_6 (by omega) (by omega) (by rw [h6]; rfl) (by decide) ?_
    refine PW.iload_n dL_draw_256 rfl ?_
    refine PW.iconst dL_draw_257 ?_
    refine PW.callSr (c_L_low (by omega)) cs_L_low lk_L_19 dL_draw_258 rfl rfl rfl ?_
    exact PW.iret rfl rfl dL_draw_261 ⟨rfl, _, rfl, rfl, rfl, Or.inr ⟨by rw [show xT 2 (5 * 2 + 0) = 0 by decide]; omega, by rw [show xT 3 (5 * 2 + 0) = 1 by decide]; omega⟩, by omega⟩
theorem draw_2_1 {G : GT} {S : Shp} {σ : Sto} {v : Int} : PMet G mL_draw 1 0 0 [.int (iI (2)), .int (iI (1)), .int (iI v)] S σ (fun r S' τ => r.isSome = true ∧ ∃ w : Int, r = some (.int (iI w)) ∧ S' = S ∧ τ = σ ∧ suF 2 1 w ∧ (-40 ≤ w ∧ w ≤ 39)) := by
  have b15 := loF_b v (n := 15) (by decide)
  have b8 := loF_b v (n := 8) (by decide)
  have b2 := loF_b v (n := 2) (by decide)
  have b7 := loF_b v (n := 7) (by decide)
  have b33 := loF_b v (n := 33) (by decide)
  have b5 := loF_b v (n := 5) (by decide)
  have b70 := loF_b v (n := 70) (by decide)
  have b17 := loF_b v (n := 17) (by decide)
  refine PMet.of [(0, .int (iI (2))), (1, .int (iI (1))), (2, .int (iI (v)))] (by decide +kernel) rfl (Nat.le_of_ble_eq_true rfl) ?_
  refine PW.bipush (by decide) dL_draw_0 ?_
  refine PW.iload_n dL_draw_2 rfl ?_
  refine PW.imul dL_draw_3 ?_
  refine PW.iload_n dL_draw_4 rfl ?_
  refine PW.iadd dL_draw_5 ?_
  rcases (show (10 * 2 + 1 : Int) = 21 by omega) with h6
  · refine PW.tsIn (324) 330 (by first | assumption | (unfold inR; omega)) dL_draw_6 (by omega) (by omega) (by rw [h6]; rfl) (by decide) ?_
    refine PW.iload_n dL_draw_330 rfl ?_
    refine PW.bipush (by decide) dL_draw_331 ?_
    refine PW.callSr (c_L_low (by omega)) cs_L_low lk_L_19 dL_draw_333 rfl rfl rfl ?_
    refine PW.bipush (by decide) dL_draw_336 ?_
    refine PW.isub dL_draw_338 ?_
    exact PW.iret rfl rfl dL_draw_339 ⟨rfl, _, rfl, rfl, rfl, Or.inr ⟨by rw [show xT 2 (5 * 2 + 1) = -8 by decide]; omega, by rw [show xT 3 (5 * 2 + 1) = 8 by decide]; omega⟩, by omega⟩
theorem draw_2_2 {G : GT} {S : Shp} {σ : Sto} {v : Int} : PMet G mL_draw 1 0 0 [.int (iI (2)), .int (iI (2)), .int (iI v)] S σ (fun r S' τ => r.isSome = true ∧ ∃ w : Int, r = some (.int (iI w)) ∧ S' = S ∧ τ = σ ∧ suF 2 2 w ∧ (-40 ≤ w ∧ w ≤ 39)) := by
  have b15 := loF_b v (n := 15) (by decide)
  have b8 := loF_b v (n := 8) (by decide)
  have b2 := loF_b v (n := 2) (by decide)
  have b7 := loF_b v (n := 7) (by decide)
  have b33 := loF_b v (n := 33) (by decide)
  have b5 := loF_b v (n := 5) (by decide)
  have b70 := loF_b v (n := 70) (by decide)
  have b17 := loF_b v (n := 17) (by decide)
  refine PMet.of [(0, .int (iI (2))), (1, .int (iI (2))), (2, .int (iI (v)))] (by decide +kernel) rfl (Nat.le_of_ble_eq_true rfl) ?_
  refine PW.bipush (by decide) dL_draw_0 ?_
  refine PW.iload_n dL_draw_2 rfl ?_
  refine PW.imul dL_draw_3 ?_
  refine PW.iload_n dL_draw_4 rfl ?_
  refine PW.iadd dL_draw_5 ?_
  rcases (show (10 * 2 + 2 : Int) = 22 by omega) with h6
  · refine PW.tsIn (256) 262 (by first | assumption | (unfold inR; omega)) dL_draw_6 (by omega) (by omega) (by rw [h6]; rfl) (by decide) ?_
    refine PW.iconst dL_draw_262 ?_
    refine PW.iload_n dL_draw_263 rfl ?_
    refine PW.bipush (by decide) dL_draw_264 ?_
    refine PW.callSr (c_L_low (by omega)) cs_L_low lk_L_19 dL_draw_266 rfl rfl rfl ?_
    refine PW.iadd dL_draw_269 ?_
    exact PW.iret rfl rfl dL_draw_270 ⟨rfl, _, rfl, rfl, rfl, Or.inr ⟨by rw [show xT 2 (5 * 2 + 2) = 2 by decide]; omega, by rw [show xT 3 (5 * 2 + 2) = 8 by decide]; omega⟩, by omega⟩
theorem draw_2_3 {G : GT} {S : Shp} {σ : Sto} {v : Int} : PMet G mL_draw 1 0 0 [.int (iI (2)), .int (iI (3)), .int (iI v)] S σ (fun r S' τ => r.isSome = true ∧ ∃ w : Int, r = some (.int (iI w)) ∧ S' = S ∧ τ = σ ∧ suF 2 3 w ∧ (-40 ≤ w ∧ w ≤ 39)) := by
  have b15 := loF_b v (n := 15) (by decide)
  have b8 := loF_b v (n := 8) (by decide)
  have b2 := loF_b v (n := 2) (by decide)
  have b7 := loF_b v (n := 7) (by decide)
  have b33 := loF_b v (n := 33) (by decide)
  have b5 := loF_b v (n := 5) (by decide)
  have b70 := loF_b v (n := 70) (by decide)
  have b17 := loF_b v (n := 17) (by decide)
  refine PMet.of [(0, .int (iI (2))), (1, .int (iI (3))), (2, .int (iI (v)))] (by decide +kernel) rfl (Nat.le_of_ble_eq_true rfl) ?_
  refine PW.bipush (by decide) dL_draw_0 ?_
  refine PW.iload_n dL_draw_2 rfl ?_
  refine PW.imul dL_draw_3 ?_
  refine PW.iload_n dL_draw_4 rfl ?_
  refine PW.iadd dL_draw_5 ?_
  rcases (show (10 * 2 + 3 : Int) = 23 by omega) with h6
  · refine PW.tsIn (265) 271 (by first | assumption | (unfold inR; omega)) dL_draw_6 (by omega) (by omega) (by rw [h6]; rfl) (by decide) ?_
    refine PW.iload_n dL_draw_271 rfl ?_
    refine PW.bipush (by decide) dL_draw_272 ?_
    refine PW.callSr (c_L_low (by omega)) cs_L_low lk_L_19 dL_draw_274 rfl rfl rfl ?_
    exact PW.iret rfl rfl dL_draw_277 ⟨rfl, _, rfl, rfl, rfl, Or.inr ⟨by rw [show xT 2 (5 * 2 + 3) = 0 by decide]; omega, by rw [show xT 3 (5 * 2 + 3) = 7 by decide]; omega⟩, by omega⟩
theorem draw_3_0 {G : GT} {S : Shp} {σ : Sto} {v : Int} : PMet G mL_draw 1 0 0 [.int (iI (3)), .int (iI (0)), .int (iI v)] S σ (fun r S' τ => r.isSome = true ∧ ∃ w : Int, r = some (.int (iI w)) ∧ S' = S ∧ τ = σ ∧ suF 3 0 w ∧ (-40 ≤ w ∧ w ≤ 39)) := by
  have b15 := loF_b v (n := 15) (by decide)
  have b8 := loF_b v (n := 8) (by decide)
  have b2 := loF_b v (n := 2) (by decide)
  have b7 := loF_b v (n := 7) (by decide)
  have b33 := loF_b v (n := 33) (by decide)
  have b5 := loF_b v (n := 5) (by decide)
  have b70 := loF_b v (n := 70) (by decide)
  have b17 := loF_b v (n := 17) (by decide)
  refine PMet.of [(0, .int (iI (3))), (1, .int (iI (0))), (2, .int (iI (v)))] (by decide +kernel) rfl (Nat.le_of_ble_eq_true rfl) ?_
  refine PW.bipush (by decide) dL_draw_0 ?_
  refine PW.iload_n dL_draw_2 rfl ?_
  refine PW.imul dL_draw_3 ?_
  refine PW.iload_n dL_draw_4 rfl ?_
  refine PW.iadd dL_draw_5 ?_
  rcases (show (10 * 3 + 0 : Int) = 30 by omega) with h6
  · refine PW.tsIn (250) 256 (by first | assumption | (unfold inR; omega)) dL_draw_6 (by omega) (by omega) (by rw [h6]; rfl) (by decide) ?_
    refine PW.iload_n dL_draw_256 rfl ?_
    refine PW.iconst dL_draw_257 ?_
    refine PW.callSr (c_L_low (by omega)) cs_L_low lk_L_19 dL_draw_258 rfl rfl rfl ?_
    exact PW.iret rfl rfl dL_draw_261 ⟨rfl, _, rfl, rfl, rfl, Or.inr ⟨by rw [show xT 2 (5 * 3 + 0) = 0 by decide]; omega, by rw [show xT 3 (5 * 3 + 0) = 1 by decide]; omega⟩, by omega⟩
theorem draw_3_1 {G : GT} {S : Shp} {σ : Sto} {v : Int} : PMet G mL_draw 1 0 0 [.int (iI (3)), .int (iI (1)), .int (iI v)] S σ (fun r S' τ => r.isSome = true ∧ ∃ w : Int, r = some (.int (iI w)) ∧ S' = S ∧ τ = σ ∧ suF 3 1 w ∧ (-40 ≤ w ∧ w ≤ 39)) := by
  have b15 := loF_b v (n := 15) (by decide)
  have b8 := loF_b v (n := 8) (by decide)
  have b2 := loF_b v (n := 2) (by decide)
  have b7 := loF_b v (n := 7) (by decide)
  have b33 := loF_b v (n := 33) (by decide)
  have b5 := loF_b v (n := 5) (by decide)
  have b70 := loF_b v (n := 70) (by decide)
  have b17 := loF_b v (n := 17) (by decide)
  refine PMet.of [(0, .int (iI (3))), (1, .int (iI (1))), (2, .int (iI (v)))] (by decide +kernel) rfl (Nat.le_of_ble_eq_true rfl) ?_
  refine PW.bipush (by decide) dL_draw_0 ?_
  refine PW.iload_n dL_draw_2 rfl ?_
  refine PW.imul dL_draw_3 ?_
  refine PW.iload_n dL_draw_4 rfl ?_
  refine PW.iadd dL_draw_5 ?_
  rcases (show (10 * 3 + 1 : Int) = 31 by omega) with h6
  · refine PW.tsIn (265) 271 (by first | assumption | (unfold inR; omega)) dL_draw_6 (by omega) (by omega) (by rw [h6]; rfl) (by decide) ?_
    refine PW.iload_n dL_draw_271 rfl ?_
    refine PW.bipush (by decide) dL_draw_272 ?_
    refine PW.callSr (c_L_low (by omega)) cs_L_low lk_L_19 dL_draw_274 rfl rfl rfl ?_
    exact PW.iret rfl rfl dL_draw_277 ⟨rfl, _, rfl, rfl, rfl, Or.inr ⟨by rw [show xT 2 (5 * 3 + 1) = 0 by decide]; omega, by rw [show xT 3 (5 * 3 + 1) = 7 by decide]; omega⟩, by omega⟩
theorem draw_3_2 {G : GT} {S : Shp} {σ : Sto} {v : Int} : PMet G mL_draw 1 0 0 [.int (iI (3)), .int (iI (2)), .int (iI v)] S σ (fun r S' τ => r.isSome = true ∧ ∃ w : Int, r = some (.int (iI w)) ∧ S' = S ∧ τ = σ ∧ suF 3 2 w ∧ (-40 ≤ w ∧ w ≤ 39)) := by
  have b15 := loF_b v (n := 15) (by decide)
  have b8 := loF_b v (n := 8) (by decide)
  have b2 := loF_b v (n := 2) (by decide)
  have b7 := loF_b v (n := 7) (by decide)
  have b33 := loF_b v (n := 33) (by decide)
  have b5 := loF_b v (n := 5) (by decide)
  have b70 := loF_b v (n := 70) (by decide)
  have b17 := loF_b v (n := 17) (by decide)
  refine PMet.of [(0, .int (iI (3))), (1, .int (iI (2))), (2, .int (iI (v)))] (by decide +kernel) rfl (Nat.le_of_ble_eq_true rfl) ?_
  refine PW.bipush (by decide) dL_draw_0 ?_
  refine PW.iload_n dL_draw_2 rfl ?_
  refine PW.imul dL_draw_3 ?_
  refine PW.iload_n dL_draw_4 rfl ?_
  refine PW.iadd dL_draw_5 ?_
  rcases (show (10 * 3 + 2 : Int) = 32 by omega) with h6
  · refine PW.tsIn (272) 278 (by first | assumption | (unfold inR; omega)) dL_draw_6 (by omega) (by omega) (by rw [h6]; rfl) (by decide) ?_
    refine PW.iload_n dL_draw_278 rfl ?_
    refine PW.bipush (by decide) dL_draw_279 ?_
    refine PW.callSr (c_L_low (by omega)) cs_L_low lk_L_19 dL_draw_281 rfl rfl rfl ?_
    refine PW.bipush (by decide) dL_draw_284 ?_
    refine PW.isub dL_draw_286 ?_
    exact PW.iret rfl rfl dL_draw_287 ⟨rfl, _, rfl, rfl, rfl, Or.inr ⟨by rw [show xT 2 (5 * 3 + 2) = -16 by decide]; omega, by rw [show xT 3 (5 * 3 + 2) = 16 by decide]; omega⟩, by omega⟩
theorem draw_3_3 {G : GT} {S : Shp} {σ : Sto} {v : Int} : PMet G mL_draw 1 0 0 [.int (iI (3)), .int (iI (3)), .int (iI v)] S σ (fun r S' τ => r.isSome = true ∧ ∃ w : Int, r = some (.int (iI w)) ∧ S' = S ∧ τ = σ ∧ suF 3 3 w ∧ (-40 ≤ w ∧ w ≤ 39)) := by
  have b15 := loF_b v (n := 15) (by decide)
  have b8 := loF_b v (n := 8) (by decide)
  have b2 := loF_b v (n := 2) (by decide)
  have b7 := loF_b v (n := 7) (by decide)
  have b33 := loF_b v (n := 33) (by decide)
  have b5 := loF_b v (n := 5) (by decide)
  have b70 := loF_b v (n := 70) (by decide)
  have b17 := loF_b v (n := 17) (by decide)
  refine PMet.of [(0, .int (iI (3))), (1, .int (iI (3))), (2, .int (iI (v)))] (by decide +kernel) rfl (Nat.le_of_ble_eq_true rfl) ?_
  refine PW.bipush (by decide) dL_draw_0 ?_
  refine PW.iload_n dL_draw_2 rfl ?_
  refine PW.imul dL_draw_3 ?_
  refine PW.iload_n dL_draw_4 rfl ?_
  refine PW.iadd dL_draw_5 ?_
  rcases (show (10 * 3 + 3 : Int) = 33 by omega) with h6
  · refine PW.tsIn (282) 288 (by first | assumption | (unfold inR; omega)) dL_draw_6 (by omega) (by omega) (by rw [h6]; rfl) (by decide) ?_
    refine PW.iload_n dL_draw_288 rfl ?_
    refine PW.iconst dL_draw_289 ?_
    refine PW.callSr (c_L_low (by omega)) cs_L_low lk_L_19 dL_draw_290 rfl rfl rfl ?_
    refine PW.iconst dL_draw_293 ?_
    refine PW.isub dL_draw_294 ?_
    exact PW.iret rfl rfl dL_draw_295 ⟨rfl, _, rfl, rfl, rfl, Or.inr ⟨by rw [show xT 2 (5 * 3 + 3) = -2 by decide]; omega, by rw [show xT 3 (5 * 3 + 3) = 2 by decide]; omega⟩, by omega⟩
theorem draw_4_0 {G : GT} {S : Shp} {σ : Sto} {v : Int} : PMet G mL_draw 1 0 0 [.int (iI (4)), .int (iI (0)), .int (iI v)] S σ (fun r S' τ => r.isSome = true ∧ ∃ w : Int, r = some (.int (iI w)) ∧ S' = S ∧ τ = σ ∧ suF 4 0 w ∧ (-40 ≤ w ∧ w ≤ 39)) := by
  have b15 := loF_b v (n := 15) (by decide)
  have b8 := loF_b v (n := 8) (by decide)
  have b2 := loF_b v (n := 2) (by decide)
  have b7 := loF_b v (n := 7) (by decide)
  have b33 := loF_b v (n := 33) (by decide)
  have b5 := loF_b v (n := 5) (by decide)
  have b70 := loF_b v (n := 70) (by decide)
  have b17 := loF_b v (n := 17) (by decide)
  refine PMet.of [(0, .int (iI (4))), (1, .int (iI (0))), (2, .int (iI (v)))] (by decide +kernel) rfl (Nat.le_of_ble_eq_true rfl) ?_
  refine PW.bipush (by decide) dL_draw_0 ?_
  refine PW.iload_n dL_draw_2 rfl ?_
  refine PW.imul dL_draw_3 ?_
  refine PW.iload_n dL_draw_4 rfl ?_
  refine PW.iadd dL_draw_5 ?_
  rcases (show (10 * 4 + 0 : Int) = 40 by omega) with h6
  · refine PW.tsIn (290) 296 (by first | assumption | (unfold inR; omega)) dL_draw_6 (by omega) (by omega) (by rw [h6]; rfl) (by decide) ?_
    refine PW.iload_n dL_draw_296 rfl ?_
    refine PW.bipush (by decide) dL_draw_297 ?_
    refine PW.callSr (c_L_low (by omega)) cs_L_low lk_L_19 dL_draw_299 rfl rfl rfl ?_
    refine PW.bipush (by decide) dL_draw_302 ?_
    refine PW.isub dL_draw_304 ?_
    exact PW.iret rfl rfl dL_draw_305 ⟨rfl, _, rfl, rfl, rfl, Or.inr ⟨by rw [show xT 2 (5 * 4 + 0) = -30 by decide]; omega, by rw [show xT 3 (5 * 4 + 0) = 39 by decide]; omega⟩, by omega⟩
theorem draw_4_1 {G : GT} {S : Shp} {σ : Sto} {v : Int} : PMet G mL_draw 1 0 0 [.int (iI (4)), .int (iI (1)), .int (iI v)] S σ (fun r S' τ => r.isSome = true ∧ ∃ w : Int, r = some (.int (iI w)) ∧ S' = S ∧ τ = σ ∧ suF 4 1 w ∧ (-40 ≤ w ∧ w ≤ 39)) := by
  have b15 := loF_b v (n := 15) (by decide)
  have b8 := loF_b v (n := 8) (by decide)
  have b2 := loF_b v (n := 2) (by decide)
  have b7 := loF_b v (n := 7) (by decide)
  have b33 := loF_b v (n := 33) (by decide)
  have b5 := loF_b v (n := 5) (by decide)
  have b70 := loF_b v (n := 70) (by decide)
  have b17 := loF_b v (n := 17) (by decide)
  refine PMet.of [(0, .int (iI (4))), (1, .int (iI (1))), (2, .int (iI (v)))] (by decide +kernel) rfl (Nat.le_of_ble_eq_true rfl) ?_
  refine PW.bipush (by decide) dL_draw_0 ?_
  refine PW.iload_n dL_draw_2 rfl ?_
  refine PW.imul dL_draw_3 ?_
  refine PW.iload_n dL_draw_4 rfl ?_
  refine PW.iadd dL_draw_5 ?_
  rcases (show (10 * 4 + 1 : Int) = 41 by omega) with h6
  · refine PW.tsIn (324) 330 (by first | assumption | (unfold inR; omega)) dL_draw_6 (by omega) (by omega) (by rw [h6]; rfl) (by decide) ?_
    refine PW.iload_n dL_draw_330 rfl ?_
    refine PW.bipush (by decide) dL_draw_331 ?_
    refine PW.callSr (c_L_low (by omega)) cs_L_low lk_L_19 dL_draw_333 rfl rfl rfl ?_
    refine PW.bipush (by decide) dL_draw_336 ?_
    refine PW.isub dL_draw_338 ?_
    exact PW.iret rfl rfl dL_draw_339 ⟨rfl, _, rfl, rfl, rfl, Or.inr ⟨by rw [show xT 2 (5 * 4 + 1) = -8 by decide]; omega, by rw [show xT 3 (5 * 4 + 1) = 8 by decide]; omega⟩, by omega⟩
theorem draw_4_2 {G : GT} {S : Shp} {σ : Sto} {v : Int} : PMet G mL_draw 1 0 0 [.int (iI (4)), .int (iI (2)), .int (iI v)] S σ (fun r S' τ => r.isSome = true ∧ ∃ w : Int, r = some (.int (iI w)) ∧ S' = S ∧ τ = σ ∧ suF 4 2 w ∧ (-40 ≤ w ∧ w ≤ 39)) := by
  have b15 := loF_b v (n := 15) (by decide)
  have b8 := loF_b v (n := 8) (by decide)
  have b2 := loF_b v (n := 2) (by decide)
  have b7 := loF_b v (n := 7) (by decide)
  have b33 := loF_b v (n := 33) (by decide)
  have b5 := loF_b v (n := 5) (by decide)
  have b70 := loF_b v (n := 70) (by decide)
  have b17 := loF_b v (n := 17) (by decide)
  refine PMet.of [(0, .int (iI (4))), (1, .int (iI (2))), (2, .int (iI (v)))] (by decide +kernel) rfl (Nat.le_of_ble_eq_true rfl) ?_
  refine PW.bipush (by decide) dL_draw_0 ?_
  refine PW.iload_n dL_draw_2 rfl ?_
  refine PW.imul dL_draw_3 ?_
  refine PW.iload_n dL_draw_4 rfl ?_
  refine PW.iadd dL_draw_5 ?_
  rcases (show (10 * 4 + 2 : Int) = 42 by omega) with h6
  · refine PW.tsIn (324) 330 (by first | assumption | (unfold inR; omega)) dL_draw_6 (by omega) (by omega) (by rw [h6]; rfl) (by decide) ?_
    refine PW.iload_n dL_draw_330 rfl ?_
    refine PW.bipush (by decide) dL_draw_331 ?_
    refine PW.callSr (c_L_low (by omega)) cs_L_low lk_L_19 dL_draw_333 rfl rfl rfl ?_
    refine PW.bipush (by decide) dL_draw_336 ?_
    refine PW.isub dL_draw_338 ?_
    exact PW.iret rfl rfl dL_draw_339 ⟨rfl, _, rfl, rfl, rfl, Or.inr ⟨by rw [show xT 2 (5 * 4 + 2) = -8 by decide]; omega, by rw [show xT 3 (5 * 4 + 2) = 8 by decide]; omega⟩, by omega⟩
theorem draw_4_3 {G : GT} {S : Shp} {σ : Sto} {v : Int} : PMet G mL_draw 1 0 0 [.int (iI (4)), .int (iI (3)), .int (iI v)] S σ (fun r S' τ => r.isSome = true ∧ ∃ w : Int, r = some (.int (iI w)) ∧ S' = S ∧ τ = σ ∧ suF 4 3 w ∧ (-40 ≤ w ∧ w ≤ 39)) := by
  have b15 := loF_b v (n := 15) (by decide)
  have b8 := loF_b v (n := 8) (by decide)
  have b2 := loF_b v (n := 2) (by decide)
  have b7 := loF_b v (n := 7) (by decide)
  have b33 := loF_b v (n := 33) (by decide)
  have b5 := loF_b v (n := 5) (by decide)
  have b70 := loF_b v (n := 70) (by decide)
  have b17 := loF_b v (n := 17) (by decide)
  refine PMet.of [(0, .int (iI (4))), (1, .int (iI (3))), (2, .int (iI (v)))] (by decide +kernel) rfl (Nat.le_of_ble_eq_true rfl) ?_
  refine PW.bipush (by decide) dL_draw_0 ?_
  refine PW.iload_n dL_draw_2 rfl ?_
  refine PW.imul dL_draw_3 ?_
  refine PW.iload_n dL_draw_4 rfl ?_
  refine PW.iadd dL_draw_5 ?_
  rcases (show (10 * 4 + 3 : Int) = 43 by omega) with h6
  · refine PW.tsIn (324) 330 (by first | assumption | (unfold inR; omega)) dL_draw_6 (by omega) (by omega) (by rw [h6]; rfl) (by decide) ?_
    refine PW.iload_n dL_draw_330 rfl ?_
    refine PW.bipush (by decide) dL_draw_331 ?_
    refine PW.callSr (c_L_low (by omega)) cs_L_low lk_L_19 dL_draw_333 rfl rfl rfl ?_
    refine PW.bipush (by decide) dL_draw_336 ?_
    refine PW.isub dL_draw_338 ?_
    exact PW.iret rfl rfl dL_draw_339 ⟨rfl, _, rfl, rfl, rfl, Or.inl (by decide), by omega⟩
theorem c_L_draw {G : GT} {S : Shp} {σ : Sto} {k i v : Int} (hk : 0 ≤ k ∧ k ≤ 4) (hi : 0 ≤ i ∧ i ≤ 3) : PMet G mL_draw 1 0 0 [.int (iI k), .int (iI i), .int (iI v)] S σ (fun r S' τ => r.isSome = true ∧ ∃ w : Int, r = some (.int (iI w)) ∧ S' = S ∧ τ = σ ∧ suF k i w ∧ (-40 ≤ w ∧ w ≤ 39)) := by
  rcases (show k = 0 ∨ k = 1 ∨ k = 2 ∨ k = 3 ∨ k = 4 by omega) with rfl | rfl | rfl | rfl | rfl
  · rcases (show i = 0 ∨ i = 1 ∨ i = 2 ∨ i = 3 by omega) with rfl | rfl | rfl | rfl
    · exact draw_0_0
    · exact draw_0_1
    · exact draw_0_2
    · exact draw_0_3
  · rcases (show i = 0 ∨ i = 1 ∨ i = 2 ∨ i = 3 by omega) with rfl | rfl | rfl | rfl
    · exact draw_1_0
    · exact draw_1_1
    · exact draw_1_2
    · exact draw_1_3
  · rcases (show i = 0 ∨ i = 1 ∨ i = 2 ∨ i = 3 by omega) with rfl | rfl | rfl | rfl
    · exact draw_2_0
    · exact draw_2_1
    · exact draw_2_2
    · exact draw_2_3
  · rcases (show i = 0 ∨ i = 1 ∨ i = 2 ∨ i = 3 by omega) with rfl | rfl | rfl | rfl
    · exact draw_3_0
    · exact draw_3_1
    · exact draw_3_2
    · exact draw_3_3
  · rcases (show i = 0 ∨ i = 1 ∨ i = 2 ∨ i = 3 by omega) with rfl | rfl | rfl | rfl
    · exact draw_4_0
    · exact draw_4_1
    · exact draw_4_2
    · exact draw_4_3


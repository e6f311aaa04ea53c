/-- the sights of the model are those of f -/
def mSg (τ : Sto) (m : Nat) (f : Int → Int) (n : Int) : Prop := τ m 23 = n ∧ (0 ≤ n ∧ n ≤ 30) ∧ ∀ i, 0 ≤ i → i < n → sgWf f i ∧ τ (m + 16) i = f (5 * i) ∧ τ (m + 17) i = f (5 * i + 1) ∧ τ (m + 18) i = f (5 * i + 2) ∧ τ (m + 19) i = f (5 * i + 3) ∧ τ (m + 20) i = f (5 * i + 4)
theorem mSg_congr {σ τ : Sto} {m : Nat} {f : Int → Int} {n : Int} (e0 : τ m 23 = σ m 23) (e : ∀ b, m + 16 ≤ b → b ≤ m + 20 → τ b = σ b) (h : mSg σ m f n) : mSg τ m f n := by
  unfold mSg
  rw [e0, e (m + 16) (by omega) (by omega), e (m + 17) (by omega) (by omega), e (m + 18) (by omega) (by omega), e (m + 19) (by omega) (by omega), e (m + 20) (by omega) (by omega)]
  exact h
theorem c_X12_isSight {G : GT} {S : Shp} {σ : Sto} {k x y b p q : Int} (rk : inR k) (rx : inR x) (ry : inR y) (rb : inR b) (rp : inR p) (rq : inR q) : PMet G mX12_isSight 2 0 0 [.int (iI (k)), .int (iI (x)), .int (iI (y)), .int (iI (b)), .int (iI (p)), .int (iI (q))] S σ (isP (some (.int (iI (b01 (sgOk k x y b p q))))) S σ) := by
  refine PMet.of [(0, .int (iI (k))), (1, .int (iI (x))), (2, .int (iI (y))), (3, .int (iI (b))), (4, .int (iI (p))), (5, .int (iI (q)))] (by decide +kernel) rfl (Nat.le_of_ble_eq_true rfl) ?_
  refine PW.iload_n dX12_isSight_0 rfl ?_
  refine PW.iload_n dX12_isSight_1 rfl ?_
  refine PW.callSr (c_X12_isPlace (by first | assumption | (unfold inR; omega)) (by first | assumption | (unfold inR; omega))) cs_X12_isPlace lk_X12_304 dX12_isSight_2 rfl rfl rfl ?_
  refine PW.if_eqB 31 dX12_isSight_5 (by decide) (fun h5 => ?_) (fun h5 => ?_)
  · refine PW.iconst dX12_isSight_31 ?_
    first
      | exact PW.iret rfl (by first | rfl | exact narB _) dX12_isSight_32 ⟨ret_eq (b01_congr (by omega)), rfl, rfl⟩
      | exact PW.iret rfl (by first | rfl | exact narB _) dX12_isSight_32 ⟨ret_eq (b01_t (by unfold sgOk soF; first | (rw [if_pos (by omega)]; omega) | (rw [if_neg (by omega)]; omega) | omega)).symm, rfl, rfl⟩
      | exact PW.iret rfl (by first | rfl | exact narB _) dX12_isSight_32 ⟨ret_eq (b01_f (fun r => by have r2 := r.2.2.2.2.2.2.1; unfold soF at r2; first | (rw [if_pos (by omega)] at r2; omega) | (rw [if_neg (by omega)] at r2; omega) | omega)).symm, rfl, rfl⟩
      | exact PW.iret rfl (by first | rfl | exact narB _) dX12_isSight_32 ⟨ret_eq (b01_f (by omega)).symm, rfl, rfl⟩
      | exact PW.iret rfl (by first | rfl | exact narB _) dX12_isSight_32 ⟨ret_eq (b01_t (by omega)).symm, rfl, rfl⟩
  · refine PW.iload_n dX12_isSight_8 rfl ?_
    refine PW.i2l (by first | assumption | (unfold inR; omega)) dX12_isSight_9 ?_
    refine PW.iload_n dX12_isSight_10 rfl ?_
    refine PW.iconst dX12_isSight_11 ?_
    refine PW.icmp_ge 21 dX12_isSight_12 (by decide) (by first | assumption | (unfold inR; omega)) (by first | assumption | (unfold inR; omega)) (fun h12 => ?_) (fun h12 => ?_)
    · refine PW.lconst (z := 0) rfl dX12_isSight_21 ?_
      refine PW.ldc2 (15) kc_X12_310 rfl rfl dX12_isSight_22 ?_
      refine PW.callSr (c_X12_in (by first | (unfold inL; omega) | exact inL_R (by assumption)) (by first | (unfold inL; omega) | exact inL_R (by assumption)) (by first | (unfold inL; omega) | exact inL_R (by assumption))) cs_X12_in lk_X12_134 dX12_isSight_25 rfl rfl rfl ?_
      refine PW.if_neB 33 dX12_isSight_28 (by decide) (fun h28 => ?_) (fun h28 => ?_)
      · refine PW.iload_n dX12_isSight_33 rfl ?_
        rcases (show k = 0 ∨ k = 1 ∨ k = 2 ∨ k = 3 ∨ k = 4 ∨ (k < 0 ∨ 4 < k) by omega) with h34 | h34 | h34 | h34 | h34 | h34
        · refine PW.tsIn (34) 68 (by first | assumption | (unfold inR; omega)) dX12_isSight_34 (by omega) (by omega) (by rw [h34]; rfl) (by decide) ?_
          refine PW.iconst dX12_isSight_68 ?_
          first
            | exact PW.iret rfl (by first | rfl | exact narB _) dX12_isSight_69 ⟨ret_eq (b01_congr (by omega)), rfl, rfl⟩
            | exact PW.iret rfl (by first | rfl | exact narB _) dX12_isSight_69 ⟨ret_eq (b01_t (by unfold sgOk soF; first | (rw [if_pos (by omega)]; omega) | (rw [if_neg (by omega)]; omega) | omega)).symm, rfl, rfl⟩
            | exact PW.iret rfl (by first | rfl | exact narB _) dX12_isSight_69 ⟨ret_eq (b01_f (fun r => by have r2 := r.2.2.2.2.2.2.1; unfold soF at r2; first | (rw [if_pos (by omega)] at r2; omega) | (rw [if_neg (by omega)] at r2; omega) | omega)).symm, rfl, rfl⟩
            | exact PW.iret rfl (by first | rfl | exact narB _) dX12_isSight_69 ⟨ret_eq (b01_f (by omega)).symm, rfl, rfl⟩
            | exact PW.iret rfl (by first | rfl | exact narB _) dX12_isSight_69 ⟨ret_eq (b01_t (by omega)).symm, rfl, rfl⟩
        · refine PW.tsIn (36) 70 (by first | assumption | (unfold inR; omega)) dX12_isSight_34 (by omega) (by omega) (by rw [h34]; rfl) (by decide) ?_
          refine PW.iload dX12_isSight_70 rfl ?_
          refine PW.callSr (c_X12_isHeight (by first | assumption | (unfold inR; omega))) cs_X12_isHeight lk_X12_307 dX12_isSight_72 rfl rfl rfl ?_
          first
            | exact PW.iret rfl (by first | rfl | exact narB _) dX12_isSight_75 ⟨ret_eq (b01_congr (by omega)), rfl, rfl⟩
            | exact PW.iret rfl (by first | rfl | exact narB _) dX12_isSight_75 ⟨ret_eq (b01_t (by unfold sgOk soF; first | (rw [if_pos (by omega)]; omega) | (rw [if_neg (by omega)]; omega) | omega)).symm, rfl, rfl⟩
            | exact PW.iret rfl (by first | rfl | exact narB _) dX12_isSight_75 ⟨ret_eq (b01_f (fun r => by have r2 := r.2.2.2.2.2.2.1; unfold soF at r2; first | (rw [if_pos (by omega)] at r2; omega) | (rw [if_neg (by omega)] at r2; omega) | omega)).symm, rfl, rfl⟩
            | exact PW.iret rfl (by first | rfl | exact narB _) dX12_isSight_75 ⟨ret_eq (b01_f (by omega)).symm, rfl, rfl⟩
            | exact PW.iret rfl (by first | rfl | exact narB _) dX12_isSight_75 ⟨ret_eq (b01_t (by omega)).symm, rfl, rfl⟩
        · refine PW.tsIn (42) 76 (by first | assumption | (unfold inR; omega)) dX12_isSight_34 (by omega) (by omega) (by rw [h34]; rfl) (by decide) ?_
          refine PW.iload dX12_isSight_76 rfl ?_
          refine PW.callSr (c_X12_isHeight (by first | assumption | (unfold inR; omega))) cs_X12_isHeight lk_X12_307 dX12_isSight_78 rfl rfl rfl ?_
          refine PW.if_eqB 103 dX12_isSight_81 (by decide) (fun h81 => ?_) (fun h81 => ?_)
          · refine PW.iconst dX12_isSight_103 ?_
            first
              | exact PW.iret rfl (by first | rfl | exact narB _) dX12_isSight_104 ⟨ret_eq (b01_congr (by omega)), rfl, rfl⟩
              | exact PW.iret rfl (by first | rfl | exact narB _) dX12_isSight_104 ⟨ret_eq (b01_t (by unfold sgOk soF; first | (rw [if_pos (by omega)]; omega) | (rw [if_neg (by omega)]; omega) | omega)).symm, rfl, rfl⟩
              | exact PW.iret rfl (by first | rfl | exact narB _) dX12_isSight_104 ⟨ret_eq (b01_f (fun r => by have r2 := r.2.2.2.2.2.2.1; unfold soF at r2; first | (rw [if_pos (by omega)] at r2; omega) | (rw [if_neg (by omega)] at r2; omega) | omega)).symm, rfl, rfl⟩
              | exact PW.iret rfl (by first | rfl | exact narB _) dX12_isSight_104 ⟨ret_eq (b01_f (by omega)).symm, rfl, rfl⟩
              | exact PW.iret rfl (by first | rfl | exact narB _) dX12_isSight_104 ⟨ret_eq (b01_t (by omega)).symm, rfl, rfl⟩
          · refine PW.iload dX12_isSight_84 rfl ?_
            refine PW.callSr (c_X12_isHeight (by first | assumption | (unfold inR; omega))) cs_X12_isHeight lk_X12_307 dX12_isSight_86 rfl rfl rfl ?_
            refine PW.if_eqB 103 dX12_isSight_89 (by decide) (fun h89 => ?_) (fun h89 => ?_)
            · refine PW.iconst dX12_isSight_103 ?_
              first
                | exact PW.iret rfl (by first | rfl | exact narB _) dX12_isSight_104 ⟨ret_eq (b01_congr (by omega)), rfl, rfl⟩
                | exact PW.iret rfl (by first | rfl | exact narB _) dX12_isSight_104 ⟨ret_eq (b01_t (by unfold sgOk soF; first | (rw [if_pos (by omega)]; omega) | (rw [if_neg (by omega)]; omega) | omega)).symm, rfl, rfl⟩
                | exact PW.iret rfl (by first | rfl | exact narB _) dX12_isSight_104 ⟨ret_eq (b01_f (fun r => by have r2 := r.2.2.2.2.2.2.1; unfold soF at r2; first | (rw [if_pos (by omega)] at r2; omega) | (rw [if_neg (by omega)] at r2; omega) | omega)).symm, rfl, rfl⟩
                | exact PW.iret rfl (by first | rfl | exact narB _) dX12_isSight_104 ⟨ret_eq (b01_f (by omega)).symm, rfl, rfl⟩
                | exact PW.iret rfl (by first | rfl | exact narB _) dX12_isSight_104 ⟨ret_eq (b01_t (by omega)).symm, rfl, rfl⟩
            · refine PW.iload dX12_isSight_92 rfl ?_
              refine PW.iload dX12_isSight_94 rfl ?_
              refine PW.icmp_gt 103 dX12_isSight_96 (by decide) (by first | assumption | (unfold inR; omega)) (by first | assumption | (unfold inR; omega)) (fun h96 => ?_) (fun h96 => ?_)
              · refine PW.iconst dX12_isSight_103 ?_
                first
                  | exact PW.iret rfl (by first | rfl | exact narB _) dX12_isSight_104 ⟨ret_eq (b01_congr (by omega)), rfl, rfl⟩
                  | exact PW.iret rfl (by first | rfl | exact narB _) dX12_isSight_104 ⟨ret_eq (b01_t (by unfold sgOk soF; first | (rw [if_pos (by omega)]; omega) | (rw [if_neg (by omega)]; omega) | omega)).symm, rfl, rfl⟩
                  | exact PW.iret rfl (by first | rfl | exact narB _) dX12_isSight_104 ⟨ret_eq (b01_f (fun r => by have r2 := r.2.2.2.2.2.2.1; unfold soF at r2; first | (rw [if_pos (by omega)] at r2; omega) | (rw [if_neg (by omega)] at r2; omega) | omega)).symm, rfl, rfl⟩
                  | exact PW.iret rfl (by first | rfl | exact narB _) dX12_isSight_104 ⟨ret_eq (b01_f (by omega)).symm, rfl, rfl⟩
                  | exact PW.iret rfl (by first | rfl | exact narB _) dX12_isSight_104 ⟨ret_eq (b01_t (by omega)).symm, rfl, rfl⟩
              · refine PW.iconst dX12_isSight_99 ?_
                refine PW.goto 104 dX12_isSight_100 (by decide) ?_
                first
                  | exact PW.iret rfl (by first | rfl | exact narB _) dX12_isSight_104 ⟨ret_eq (b01_congr (by omega)), rfl, rfl⟩
                  | exact PW.iret rfl (by first | rfl | exact narB _) dX12_isSight_104 ⟨ret_eq (b01_t (by unfold sgOk soF; first | (rw [if_pos (by omega)]; omega) | (rw [if_neg (by omega)]; omega) | omega)).symm, rfl, rfl⟩
                  | exact PW.iret rfl (by first | rfl | exact narB _) dX12_isSight_104 ⟨ret_eq (b01_f (fun r => by have r2 := r.2.2.2.2.2.2.1; unfold soF at r2; first | (rw [if_pos (by omega)] at r2; omega) | (rw [if_neg (by omega)] at r2; omega) | omega)).symm, rfl, rfl⟩
                  | exact PW.iret rfl (by first | rfl | exact narB _) dX12_isSight_104 ⟨ret_eq (b01_f (by omega)).symm, rfl, rfl⟩
                  | exact PW.iret rfl (by first | rfl | exact narB _) dX12_isSight_104 ⟨ret_eq (b01_t (by omega)).symm, rfl, rfl⟩
        · refine PW.tsIn (71) 105 (by first | assumption | (unfold inR; omega)) dX12_isSight_34 (by omega) (by omega) (by rw [h34]; rfl) (by decide) ?_
          refine PW.iload dX12_isSight_105 rfl ?_
          refine PW.i2l (by first | assumption | (unfold inR; omega)) dX12_isSight_107 ?_
          refine PW.lconst (z := 0) rfl dX12_isSight_108 ?_
          refine PW.lconst (z := 1) rfl dX12_isSight_109 ?_
          refine PW.callSr (c_X12_in (by first | (unfold inL; omega) | exact inL_R (by assumption)) (by first | (unfold inL; omega) | exact inL_R (by assumption)) (by first | (unfold inL; omega) | exact inL_R (by assumption))) cs_X12_in lk_X12_134 dX12_isSight_110 rfl rfl rfl ?_
          refine PW.if_eqB 150 dX12_isSight_113 (by decide) (fun h113 => ?_) (fun h113 => ?_)
          · refine PW.iconst dX12_isSight_150 ?_
            first
              | exact PW.iret rfl (by first | rfl | exact narB _) dX12_isSight_151 ⟨ret_eq (b01_congr (by omega)), rfl, rfl⟩
              | exact PW.iret rfl (by first | rfl | exact narB _) dX12_isSight_151 ⟨ret_eq (b01_t (by unfold sgOk soF; first | (rw [if_pos (by omega)]; omega) | (rw [if_neg (by omega)]; omega) | omega)).symm, rfl, rfl⟩
              | exact PW.iret rfl (by first | rfl | exact narB _) dX12_isSight_151 ⟨ret_eq (b01_f (fun r => by have r2 := r.2.2.2.2.2.2.1; unfold soF at r2; first | (rw [if_pos (by omega)] at r2; omega) | (rw [if_neg (by omega)] at r2; omega) | omega)).symm, rfl, rfl⟩
              | exact PW.iret rfl (by first | rfl | exact narB _) dX12_isSight_151 ⟨ret_eq (b01_f (by omega)).symm, rfl, rfl⟩
              | exact PW.iret rfl (by first | rfl | exact narB _) dX12_isSight_151 ⟨ret_eq (b01_t (by omega)).symm, rfl, rfl⟩
          · refine PW.iload dX12_isSight_116 rfl ?_
            refine PW.i2l (by first | assumption | (unfold inR; omega)) dX12_isSight_118 ?_
            refine PW.ldc2 (-79) kc_X12_348 rfl rfl dX12_isSight_119 ?_
            refine PW.ldc2 (79) kc_X12_350 rfl rfl dX12_isSight_122 ?_
            refine PW.callSr (c_X12_in (by first | (unfold inL; omega) | exact inL_R (by assumption)) (by first | (unfold inL; omega) | exact inL_R (by assumption)) (by first | (unfold inL; omega) | exact inL_R (by assumption))) cs_X12_in lk_X12_134 dX12_isSight_125 rfl rfl rfl ?_
            refine PW.if_eqB 150 dX12_isSight_128 (by decide) (fun h128 => ?_) (fun h128 => ?_)
            · refine PW.iconst dX12_isSight_150 ?_
              first
                | exact PW.iret rfl (by first | rfl | exact narB _) dX12_isSight_151 ⟨ret_eq (b01_congr (by omega)), rfl, rfl⟩
                | exact PW.iret rfl (by first | rfl | exact narB _) dX12_isSight_151 ⟨ret_eq (b01_t (by unfold sgOk soF; first | (rw [if_pos (by omega)]; omega) | (rw [if_neg (by omega)]; omega) | omega)).symm, rfl, rfl⟩
                | exact PW.iret rfl (by first | rfl | exact narB _) dX12_isSight_151 ⟨ret_eq (b01_f (fun r => by have r2 := r.2.2.2.2.2.2.1; unfold soF at r2; first | (rw [if_pos (by omega)] at r2; omega) | (rw [if_neg (by omega)] at r2; omega) | omega)).symm, rfl, rfl⟩
                | exact PW.iret rfl (by first | rfl | exact narB _) dX12_isSight_151 ⟨ret_eq (b01_f (by omega)).symm, rfl, rfl⟩
                | exact PW.iret rfl (by first | rfl | exact narB _) dX12_isSight_151 ⟨ret_eq (b01_t (by omega)).symm, rfl, rfl⟩
            · refine PW.iload dX12_isSight_131 rfl ?_
              refine PW.if_ne 140 dX12_isSight_133 (by decide) (by first | assumption | (unfold inR; omega)) (fun h133 => ?_) (fun h133 => ?_)
              · refine PW.iload_n dX12_isSight_140 rfl ?_
                refine PW.bipush (by decide) dX12_isSight_141 ?_
                refine PW.icmp_ge 150 dX12_isSight_143 (by decide) (by first | assumption | (unfold inR; omega)) (by first | assumption | (unfold inR; omega)) (fun h143 => ?_) (fun h143 => ?_)
                · refine PW.iconst dX12_isSight_150 ?_
                  first
                    | exact PW.iret rfl (by first | rfl | exact narB _) dX12_isSight_151 ⟨ret_eq (b01_congr (by omega)), rfl, rfl⟩
                    | exact PW.iret rfl (by first | rfl | exact narB _) dX12_isSight_151 ⟨ret_eq (b01_t (by unfold sgOk soF; first | (rw [if_pos (by omega)]; omega) | (rw [if_neg (by omega)]; omega) | omega)).symm, rfl, rfl⟩
                    | exact PW.iret rfl (by first | rfl | exact narB _) dX12_isSight_151 ⟨ret_eq (b01_f (fun r => by have r2 := r.2.2.2.2.2.2.1; unfold soF at r2; first | (rw [if_pos (by omega)] at r2; omega) | (rw [if_neg (by omega)] at r2; omega) | omega)).symm, rfl, rfl⟩
                    | exact PW.iret rfl (by first | rfl | exact narB _) dX12_isSight_151 ⟨ret_eq (b01_f (by omega)).symm, rfl, rfl⟩
                    | exact PW.iret rfl (by first | rfl | exact narB _) dX12_isSight_151 ⟨ret_eq (b01_t (by omega)).symm, rfl, rfl⟩
                · refine PW.iconst dX12_isSight_146 ?_
                  refine PW.goto 151 dX12_isSight_147 (by decide) ?_
                  first
                    | exact PW.iret rfl (by first | rfl | exact narB _) dX12_isSight_151 ⟨ret_eq (b01_congr (by omega)), rfl, rfl⟩
                    | exact PW.iret rfl (by first | rfl | exact narB _) dX12_isSight_151 ⟨ret_eq (b01_t (by unfold sgOk soF; first | (rw [if_pos (by omega)]; omega) | (rw [if_neg (by omega)]; omega) | omega)).symm, rfl, rfl⟩
                    | exact PW.iret rfl (by first | rfl | exact narB _) dX12_isSight_151 ⟨ret_eq (b01_f (fun r => by have r2 := r.2.2.2.2.2.2.1; unfold soF at r2; first | (rw [if_pos (by omega)] at r2; omega) | (rw [if_neg (by omega)] at r2; omega) | omega)).symm, rfl, rfl⟩
                    | exact PW.iret rfl (by first | rfl | exact narB _) dX12_isSight_151 ⟨ret_eq (b01_f (by omega)).symm, rfl, rfl⟩
                    | exact PW.iret rfl (by first | rfl | exact narB _) dX12_isSight_151 ⟨ret_eq (b01_t (by omega)).symm, rfl, rfl⟩
              · refine PW.iload_n dX12_isSight_136 rfl ?_
                refine PW.goto 141 dX12_isSight_137 (by decide) ?_
                refine PW.bipush (by decide) dX12_isSight_141 ?_
                refine PW.icmp_ge 150 dX12_isSight_143 (by decide) (by first | assumption | (unfold inR; omega)) (by first | assumption | (unfold inR; omega)) (fun h143 => ?_) (fun h143 => ?_)
                · refine PW.iconst dX12_isSight_150 ?_
                  first
                    | exact PW.iret rfl (by first | rfl | exact narB _) dX12_isSight_151 ⟨ret_eq (b01_congr (by omega)), rfl, rfl⟩
                    | exact PW.iret rfl (by first | rfl | exact narB _) dX12_isSight_151 ⟨ret_eq (b01_t (by unfold sgOk soF; first | (rw [if_pos (by omega)]; omega) | (rw [if_neg (by omega)]; omega) | omega)).symm, rfl, rfl⟩
                    | exact PW.iret rfl (by first | rfl | exact narB _) dX12_isSight_151 ⟨ret_eq (b01_f (fun r => by have r2 := r.2.2.2.2.2.2.1; unfold soF at r2; first | (rw [if_pos (by omega)] at r2; omega) | (rw [if_neg (by omega)] at r2; omega) | omega)).symm, rfl, rfl⟩
                    | exact PW.iret rfl (by first | rfl | exact narB _) dX12_isSight_151 ⟨ret_eq (b01_f (by omega)).symm, rfl, rfl⟩
                    | exact PW.iret rfl (by first | rfl | exact narB _) dX12_isSight_151 ⟨ret_eq (b01_t (by omega)).symm, rfl, rfl⟩
                · refine PW.iconst dX12_isSight_146 ?_
                  refine PW.goto 151 dX12_isSight_147 (by decide) ?_
                  first
                    | exact PW.iret rfl (by first | rfl | exact narB _) dX12_isSight_151 ⟨ret_eq (b01_congr (by omega)), rfl, rfl⟩
                    | exact PW.iret rfl (by first | rfl | exact narB _) dX12_isSight_151 ⟨ret_eq (b01_t (by unfold sgOk soF; first | (rw [if_pos (by omega)]; omega) | (rw [if_neg (by omega)]; omega) | omega)).symm, rfl, rfl⟩
                    | exact PW.iret rfl (by first | rfl | exact narB _) dX12_isSight_151 ⟨ret_eq (b01_f (fun r => by have r2 := r.2.2.2.2.2.2.1; unfold soF at r2; first | (rw [if_pos (by omega)] at r2; omega) | (rw [if_neg (by omega)] at r2; omega) | omega)).symm, rfl, rfl⟩
                    | exact PW.iret rfl (by first | rfl | exact narB _) dX12_isSight_151 ⟨ret_eq (b01_f (by omega)).symm, rfl, rfl⟩
                    | exact PW.iret rfl (by first | rfl | exact narB _) dX12_isSight_151 ⟨ret_eq (b01_t (by omega)).symm, rfl, rfl⟩
        · refine PW.tsIn (118) 152 (by first | assumption | (unfold inR; omega)) dX12_isSight_34 (by omega) (by omega) (by rw [h34]; rfl) (by decide) ?_
          refine PW.iload dX12_isSight_152 rfl ?_
          refine PW.i2l (by first | assumption | (unfold inR; omega)) dX12_isSight_154 ?_
          refine PW.lconst (z := 0) rfl dX12_isSight_155 ?_
          refine PW.ldc2 (15) kc_X12_310 rfl rfl dX12_isSight_156 ?_
          refine PW.callSr (c_X12_in (by first | (unfold inL; omega) | exact inL_R (by assumption)) (by first | (unfold inL; omega) | exact inL_R (by assumption)) (by first | (unfold inL; omega) | exact inL_R (by assumption))) cs_X12_in lk_X12_134 dX12_isSight_159 rfl rfl rfl ?_
          first
            | exact PW.iret rfl (by first | rfl | exact narB _) dX12_isSight_162 ⟨ret_eq (b01_congr (by omega)), rfl, rfl⟩
            | exact PW.iret rfl (by first | rfl | exact narB _) dX12_isSight_162 ⟨ret_eq (b01_t (by unfold sgOk soF; first | (rw [if_pos (by omega)]; omega) | (rw [if_neg (by omega)]; omega) | omega)).symm, rfl, rfl⟩
            | exact PW.iret rfl (by first | rfl | exact narB _) dX12_isSight_162 ⟨ret_eq (b01_f (fun r => by have r2 := r.2.2.2.2.2.2.1; unfold soF at r2; first | (rw [if_pos (by omega)] at r2; omega) | (rw [if_neg (by omega)] at r2; omega) | omega)).symm, rfl, rfl⟩
            | exact PW.iret rfl (by first | rfl | exact narB _) dX12_isSight_162 ⟨ret_eq (b01_f (by omega)).symm, rfl, rfl⟩
            | exact PW.iret rfl (by first | rfl | exact narB _) dX12_isSight_162 ⟨ret_eq (b01_t (by omega)).symm, rfl, rfl⟩
        · refine PW.tsOut 163 (by first | assumption | (unfold inR; omega)) dX12_isSight_34 (by omega) (by decide) ?_
          refine PW.iconst dX12_isSight_163 ?_
          first
            | exact PW.iret rfl (by first | rfl | exact narB _) dX12_isSight_164 ⟨ret_eq (b01_congr (by omega)), rfl, rfl⟩
            | exact PW.iret rfl (by first | rfl | exact narB _) dX12_isSight_164 ⟨ret_eq (b01_t (by unfold sgOk soF; first | (rw [if_pos (by omega)]; omega) | (rw [if_neg (by omega)]; omega) | omega)).symm, rfl, rfl⟩
            | exact PW.iret rfl (by first | rfl | exact narB _) dX12_isSight_164 ⟨ret_eq (b01_f (fun r => by have r2 := r.2.2.2.2.2.2.1; unfold soF at r2; first | (rw [if_pos (by omega)] at r2; omega) | (rw [if_neg (by omega)] at r2; omega) | omega)).symm, rfl, rfl⟩
            | exact PW.iret rfl (by first | rfl | exact narB _) dX12_isSight_164 ⟨ret_eq (b01_f (by omega)).symm, rfl, rfl⟩
            | exact PW.iret rfl (by first | rfl | exact narB _) dX12_isSight_164 ⟨ret_eq (b01_t (by omega)).symm, rfl, rfl⟩
      · refine PW.iconst dX12_isSight_31 ?_
        first
          | exact PW.iret rfl (by first | rfl | exact narB _) dX12_isSight_32 ⟨ret_eq (b01_congr (by omega)), rfl, rfl⟩
          | exact PW.iret rfl (by first | rfl | exact narB _) dX12_isSight_32 ⟨ret_eq (b01_t (by unfold sgOk soF; first | (rw [if_pos (by omega)]; omega) | (rw [if_neg (by omega)]; omega) | omega)).symm, rfl, rfl⟩
          | exact PW.iret rfl (by first | rfl | exact narB _) dX12_isSight_32 ⟨ret_eq (b01_f (fun r => by have r2 := r.2.2.2.2.2.2.1; unfold soF at r2; first | (rw [if_pos (by omega)] at r2; omega) | (rw [if_neg (by omega)] at r2; omega) | omega)).symm, rfl, rfl⟩
          | exact PW.iret rfl (by first | rfl | exact narB _) dX12_isSight_32 ⟨ret_eq (b01_f (by omega)).symm, rfl, rfl⟩
          | exact PW.iret rfl (by first | rfl | exact narB _) dX12_isSight_32 ⟨ret_eq (b01_t (by omega)).symm, rfl, rfl⟩
    · refine PW.ldc2 (-1) kc_X12_346 rfl rfl dX12_isSight_15 ?_
      refine PW.goto 22 dX12_isSight_18 (by decide) ?_
      refine PW.ldc2 (15) kc_X12_310 rfl rfl dX12_isSight_22 ?_
      refine PW.callSr (c_X12_in (by first | (unfold inL; omega) | exact inL_R (by assumption)) (by first | (unfold inL; omega) | exact inL_R (by assumption)) (by first | (unfold inL; omega) | exact inL_R (by assumption))) cs_X12_in lk_X12_134 dX12_isSight_25 rfl rfl rfl ?_
      refine PW.if_neB 33 dX12_isSight_28 (by decide) (fun h28 => ?_) (fun h28 => ?_)
      · refine PW.iload_n dX12_isSight_33 rfl ?_
        rcases (show k = 0 ∨ k = 1 ∨ k = 2 ∨ k = 3 ∨ k = 4 ∨ (k < 0 ∨ 4 < k) by omega) with h34 | h34 | h34 | h34 | h34 | h34
        · refine PW.tsIn (34) 68 (by first | assumption | (unfold inR; omega)) dX12_isSight_34 (by omega) (by omega) (by rw [h34]; rfl) (by decide) ?_
          refine PW.iconst dX12_isSight_68 ?_
          first
            | exact PW.iret rfl (by first | rfl | exact narB _) dX12_isSight_69 ⟨ret_eq (b01_congr (by omega)), rfl, rfl⟩
            | exact PW.iret rfl (by first | rfl | exact narB _) dX12_isSight_69 ⟨ret_eq (b01_t (by unfold sgOk soF; first | (rw [if_pos (by omega)]; omega) | (rw [if_neg (by omega)]; omega) | omega)).symm, rfl, rfl⟩
            | exact PW.iret rfl (by first | rfl | exact narB _) dX12_isSight_69 ⟨ret_eq (b01_f (fun r => by have r2 := r.2.2.2.2.2.2.1; unfold soF at r2; first | (rw [if_pos (by omega)] at r2; omega) | (rw [if_neg (by omega)] at r2; omega) | omega)).symm, rfl, rfl⟩
            | exact PW.iret rfl (by first | rfl | exact narB _) dX12_isSight_69 ⟨ret_eq (b01_f (by omega)).symm, rfl, rfl⟩
            | exact PW.iret rfl (by first | rfl | exact narB _) dX12_isSight_69 ⟨ret_eq (b01_t (by omega)).symm, rfl, rfl⟩
        · refine PW.tsIn (36) 70 (by first | assumption | (unfold inR; omega)) dX12_isSight_34 (by omega) (by omega) (by rw [h34]; rfl) (by decide) ?_
          refine PW.iload dX12_isSight_70 rfl ?_
          refine PW.callSr (c_X12_isHeight (by first | assumption | (unfold inR; omega))) cs_X12_isHeight lk_X12_307 dX12_isSight_72 rfl rfl rfl ?_
          first
            | exact PW.iret rfl (by first | rfl | exact narB _) dX12_isSight_75 ⟨ret_eq (b01_congr (by omega)), rfl, rfl⟩
            | exact PW.iret rfl (by first | rfl | exact narB _) dX12_isSight_75 ⟨ret_eq (b01_t (by unfold sgOk soF; first | (rw [if_pos (by omega)]; omega) | (rw [if_neg (by omega)]; omega) | omega)).symm, rfl, rfl⟩
            | exact PW.iret rfl (by first | rfl | exact narB _) dX12_isSight_75 ⟨ret_eq (b01_f (fun r => by have r2 := r.2.2.2.2.2.2.1; unfold soF at r2; first | (rw [if_pos (by omega)] at r2; omega) | (rw [if_neg (by omega)] at r2; omega) | omega)).symm, rfl, rfl⟩
            | exact PW.iret rfl (by first | rfl | exact narB _) dX12_isSight_75 ⟨ret_eq (b01_f (by omega)).symm, rfl, rfl⟩
            | exact PW.iret rfl (by first | rfl | exact narB _) dX12_isSight_75 ⟨ret_eq (b01_t (by omega)).symm, rfl, rfl⟩
        · refine PW.tsIn (42) 76 (by first | assumption | (unfold inR; omega)) dX12_isSight_34 (by omega) (by omega) (by rw [h34]; rfl) (by decide) ?_
          refine PW.iload dX12_isSight_76 rfl ?_
          refine PW.callSr (c_X12_isHeight (by first | assumption | (unfold inR; omega))) cs_X12_isHeight lk_X12_307 dX12_isSight_78 rfl rfl rfl ?_
          refine PW.if_eqB 103 dX12_isSight_81 (by decide) (fun h81 => ?_) (fun h81 => ?_)
          · refine PW.iconst dX12_isSight_103 ?_
            first
              | exact PW.iret rfl (by first | rfl | exact narB _) dX12_isSight_104 ⟨ret_eq (b01_congr (by omega)), rfl, rfl⟩
              | exact PW.iret rfl (by first | rfl | exact narB _) dX12_isSight_104 ⟨ret_eq (b01_t (by unfold sgOk soF; first | (rw [if_pos (by omega)]; omega) | (rw [if_neg (by omega)]; omega) | omega)).symm, rfl, rfl⟩
              | exact PW.iret rfl (by first | rfl | exact narB _) dX12_isSight_104 ⟨ret_eq (b01_f (fun r => by have r2 := r.2.2.2.2.2.2.1; unfold soF at r2; first | (rw [if_pos (by omega)] at r2; omega) | (rw [if_neg (by omega)] at r2; omega) | omega)).symm, rfl, rfl⟩
              | exact PW.iret rfl (by first | rfl | exact narB _) dX12_isSight_104 ⟨ret_eq (b01_f (by omega)).symm, rfl, rfl⟩
              | exact PW.iret rfl (by first | rfl | exact narB _) dX12_isSight_104 ⟨ret_eq (b01_t (by omega)).symm, rfl, rfl⟩
          · refine PW.iload dX12_isSight_84 rfl ?_
            refine PW.callSr (c_X12_isHeight (by first | assumption | (unfold inR; omega))) cs_X12_isHeight lk_X12_307 dX12_isSight_86 rfl rfl rfl ?_
            refine PW.if_eqB 103 dX12_isSight_89 (by decide) (fun h89 => ?_) (fun h89 => ?_)
            · refine PW.iconst dX12_isSight_103 ?_
              first
                | exact PW.iret rfl (by first | rfl | exact narB _) dX12_isSight_104 ⟨ret_eq (b01_congr (by omega)), rfl, rfl⟩
                | exact PW.iret rfl (by first | rfl | exact narB _) dX12_isSight_104 ⟨ret_eq (b01_t (by unfold sgOk soF; first | (rw [if_pos (by omega)]; omega) | (rw [if_neg (by omega)]; omega) | omega)).symm, rfl, rfl⟩
                | exact PW.iret rfl (by first | rfl | exact narB _) dX12_isSight_104 ⟨ret_eq (b01_f (fun r => by have r2 := r.2.2.2.2.2.2.1; unfold soF at r2; first | (rw [if_pos (by omega)] at r2; omega) | (rw [if_neg (by omega)] at r2; omega) | omega)).symm, rfl, rfl⟩
                | exact PW.iret rfl (by first | rfl | exact narB _) dX12_isSight_104 ⟨ret_eq (b01_f (by omega)).symm, rfl, rfl⟩
                | exact PW.iret rfl (by first | rfl | exact narB _) dX12_isSight_104 ⟨ret_eq (b01_t (by omega)).symm, rfl, rfl⟩
            · refine PW.iload dX12_isSight_92 rfl ?_
              refine PW.iload dX12_isSight_94 rfl ?_
              refine PW.icmp_gt 103 dX12_isSight_96 (by decide) (by first | assumption | (unfold inR; omega)) (by first | assumption | (unfold inR; omega)) (fun h96 => ?_) (fun h96 => ?_)
              · refine PW.iconst dX12_isSight_103 ?_
                first
                  | exact PW.iret rfl (by first | rfl | exact narB _) dX12_isSight_104 ⟨ret_eq (b01_congr (by omega)), rfl, rfl⟩
                  | exact PW.iret rfl (by first | rfl | exact narB _) dX12_isSight_104 ⟨ret_eq (b01_t (by unfold sgOk soF; first | (rw [if_pos (by omega)]; omega) | (rw [if_neg (by omega)]; omega) | omega)).symm, rfl, rfl⟩
                  | exact PW.iret rfl (by first | rfl | exact narB _) dX12_isSight_104 ⟨ret_eq (b01_f (fun r => by have r2 := r.2.2.2.2.2.2.1; unfold soF at r2; first | (rw [if_pos (by omega)] at r2; omega) | (rw [if_neg (by omega)] at r2; omega) | omega)).symm, rfl, rfl⟩
                  | exact PW.iret rfl (by first | rfl | exact narB _) dX12_isSight_104 ⟨ret_eq (b01_f (by omega)).symm, rfl, rfl⟩
                  | exact PW.iret rfl (by first | rfl | exact narB _) dX12_isSight_104 ⟨ret_eq (b01_t (by omega)).symm, rfl, rfl⟩
              · refine PW.iconst dX12_isSight_99 ?_
                refine PW.goto 104 dX12_isSight_100 (by decide) ?_
                first
                  | exact PW.iret rfl (by first | rfl | exact narB _) dX12_isSight_104 ⟨ret_eq (b01_congr (by omega)), rfl, rfl⟩
                  | exact PW.iret rfl (by first | rfl | exact narB _) dX12_isSight_104 ⟨ret_eq (b01_t (by unfold sgOk soF; first | (rw [if_pos (by omega)]; omega) | (rw [if_neg (by omega)]; omega) | omega)).symm, rfl, rfl⟩
                  | exact PW.iret rfl (by first | rfl | exact narB _) dX12_isSight_104 ⟨ret_eq (b01_f (fun r => by have r2 := r.2.2.2.2.2.2.1; unfold soF at r2; first | (rw [if_pos (by omega)] at r2; omega) | (rw [if_neg (by omega)] at r2; omega) | omega)).symm, rfl, rfl⟩
                  | exact PW.iret rfl (by first | rfl | exact narB _) dX12_isSight_104 ⟨ret_eq (b01_f (by omega)).symm, rfl, rfl⟩
                  | exact PW.iret rfl (by first | rfl | exact narB _) dX12_isSight_104 ⟨ret_eq (b01_t (by omega)).symm, rfl, rfl⟩
        · refine PW.tsIn (71) 105 (by first | assumption | (unfold inR; omega)) dX12_isSight_34 (by omega) (by omega) (by rw [h34]; rfl) (by decide) ?_
          refine PW.iload dX12_isSight_105 rfl ?_
          refine PW.i2l (by first | assumption | (unfold inR; omega)) dX12_isSight_107 ?_
          refine PW.lconst (z := 0) rfl dX12_isSight_108 ?_
          refine PW.lconst (z := 1) rfl dX12_isSight_109 ?_
          refine PW.callSr (c_X12_in (by first | (unfold inL; omega) | exact inL_R (by assumption)) (by first | (unfold inL; omega) | exact inL_R (by assumption)) (by first | (unfold inL; omega) | exact inL_R (by assumption))) cs_X12_in lk_X12_134 dX12_isSight_110 rfl rfl rfl ?_
          refine PW.if_eqB 150 dX12_isSight_113 (by decide) (fun h113 => ?_) (fun h113 => ?_)
          · refine PW.iconst dX12_isSight_150 ?_
            first
              | exact PW.iret rfl (by first | rfl | exact narB _) dX12_isSight_151 ⟨ret_eq (b01_congr (by omega)), rfl, rfl⟩
              | exact PW.iret rfl (by first | rfl | exact narB _) dX12_isSight_151 ⟨ret_eq (b01_t (by unfold sgOk soF; first | (rw [if_pos (by omega)]; omega) | (rw [if_neg (by omega)]; omega) | omega)).symm, rfl, rfl⟩
              | exact PW.iret rfl (by first | rfl | exact narB _) dX12_isSight_151 ⟨ret_eq (b01_f (fun r => by have r2 := r.2.2.2.2.2.2.1; unfold soF at r2; first | (rw [if_pos (by omega)] at r2; omega) | (rw [if_neg (by omega)] at r2; omega) | omega)).symm, rfl, rfl⟩
              | exact PW.iret rfl (by first | rfl | exact narB _) dX12_isSight_151 ⟨ret_eq (b01_f (by omega)).symm, rfl, rfl⟩
              | exact PW.iret rfl (by first | rfl | exact narB _) dX12_isSight_151 ⟨ret_eq (b01_t (by omega)).symm, rfl, rfl⟩
          · refine PW.iload dX12_isSight_116 rfl ?_
            refine PW.i2l (by first | assumption | (unfold inR; omega)) dX12_isSight_118 ?_
            refine PW.ldc2 (-79) kc_X12_348 rfl rfl dX12_isSight_119 ?_
            refine PW.ldc2 (79) kc_X12_350 rfl rfl dX12_isSight_122 ?_
            refine PW.callSr (c_X12_in (by first | (unfold inL; omega) | exact inL_R (by assumption)) (by first | (unfold inL; omega) | exact inL_R (by assumption)) (by first | (unfold inL; omega) | exact inL_R (by assumption))) cs_X12_in lk_X12_134 dX12_isSight_125 rfl rfl rfl ?_
            refine PW.if_eqB 150 dX12_isSight_128 (by decide) (fun h128 => ?_) (fun h128 => ?_)
            · refine PW.iconst dX12_isSight_150 ?_
              first
                | exact PW.iret rfl (by first | rfl | exact narB _) dX12_isSight_151 ⟨ret_eq (b01_congr (by omega)), rfl, rfl⟩
                | exact PW.iret rfl (by first | rfl | exact narB _) dX12_isSight_151 ⟨ret_eq (b01_t (by unfold sgOk soF; first | (rw [if_pos (by omega)]; omega) | (rw [if_neg (by omega)]; omega) | omega)).symm, rfl, rfl⟩
                | exact PW.iret rfl (by first | rfl | exact narB _) dX12_isSight_151 ⟨ret_eq (b01_f (fun r => by have r2 := r.2.2.2.2.2.2.1; unfold soF at r2; first | (rw [if_pos (by omega)] at r2; omega) | (rw [if_neg (by omega)] at r2; omega) | omega)).symm, rfl, rfl⟩
                | exact PW.iret rfl (by first | rfl | exact narB _) dX12_isSight_151 ⟨ret_eq (b01_f (by omega)).symm, rfl, rfl⟩
                | exact PW.iret rfl (by first | rfl | exact narB _) dX12_isSight_151 ⟨ret_eq (b01_t (by omega)).symm, rfl, rfl⟩
            · refine PW.iload dX12_isSight_131 rfl ?_
              refine PW.if_ne 140 dX12_isSight_133 (by decide) (by first | assumption | (unfold inR; omega)) (fun h133 => ?_) (fun h133 => ?_)
              · refine PW.iload_n dX12_isSight_140 rfl ?_
                refine PW.bipush (by decide) dX12_isSight_141 ?_
                refine PW.icmp_ge 150 dX12_isSight_143 (by decide) (by first | assumption | (unfold inR; omega)) (by first | assumption | (unfold inR; omega)) (fun h143 => ?_) (fun h143 => ?_)
                · refine PW.iconst dX12_isSight_150 ?_
                  first
                    | exact PW.iret rfl (by first | rfl | exact narB _) dX12_isSight_151 ⟨ret_eq (b01_congr (by omega)), rfl, rfl⟩
                    | exact PW.iret rfl (by first | rfl | exact narB _) dX12_isSight_151 ⟨ret_eq (b01_t (by unfold sgOk soF; first | (rw [if_pos (by omega)]; omega) | (rw [if_neg (by omega)]; omega) | omega)).symm, rfl, rfl⟩
                    | exact PW.iret rfl (by first | rfl | exact narB _) dX12_isSight_151 ⟨ret_eq (b01_f (fun r => by have r2 := r.2.2.2.2.2.2.1; unfold soF at r2; first | (rw [if_pos (by omega)] at r2; omega) | (rw [if_neg (by omega)] at r2; omega) | omega)).symm, rfl, rfl⟩
                    | exact PW.iret rfl (by first | rfl | exact narB _) dX12_isSight_151 ⟨ret_eq (b01_f (by omega)).symm, rfl, rfl⟩
                    | exact PW.iret rfl (by first | rfl | exact narB _) dX12_isSight_151 ⟨ret_eq (b01_t (by omega)).symm, rfl, rfl⟩
                · refine PW.iconst dX12_isSight_146 ?_
                  refine PW.goto 151 dX12_isSight_147 (by decide) ?_
                  first
                    | exact PW.iret rfl (by first | rfl | exact narB _) dX12_isSight_151 ⟨ret_eq (b01_congr (by omega)), rfl, rfl⟩
                    | exact PW.iret rfl (by first | rfl | exact narB _) dX12_isSight_151 ⟨ret_eq (b01_t (by unfold sgOk soF; first | (rw [if_pos (by omega)]; omega) | (rw [if_neg (by omega)]; omega) | omega)).symm, rfl, rfl⟩
                    | exact PW.iret rfl (by first | rfl | exact narB _) dX12_isSight_151 ⟨ret_eq (b01_f (fun r => by have r2 := r.2.2.2.2.2.2.1; unfold soF at r2; first | (rw [if_pos (by omega)] at r2; omega) | (rw [if_neg (by omega)] at r2; omega) | omega)).symm, rfl, rfl⟩
                    | exact PW.iret rfl (by first | rfl | exact narB _) dX12_isSight_151 ⟨ret_eq (b01_f (by omega)).symm, rfl, rfl⟩
                    | exact PW.iret rfl (by first | rfl | exact narB _) dX12_isSight_151 ⟨ret_eq (b01_t (by omega)).symm, rfl, rfl⟩
              · refine PW.iload_n dX12_isSight_136 rfl ?_
                refine PW.goto 141 dX12_isSight_137 (by decide) ?_
                refine PW.bipush (by decide) dX12_isSight_141 ?_
                refine PW.icmp_ge 150 dX12_isSight_143 (by decide) (by first | assumption | (unfold inR; omega)) (by first | assumption | (unfold inR; omega)) (fun h143 => ?_) (fun h143 => ?_)
                · refine PW.iconst dX12_isSight_150 ?_
                  first
                    | exact PW.iret rfl (by first | rfl | exact narB _) dX12_isSight_151 ⟨ret_eq (b01_congr (by omega)), rfl, rfl⟩
                    | exact PW.iret rfl (by first | rfl | exact narB _) dX12_isSight_151 ⟨ret_eq (b01_t (by unfold sgOk soF; first | (rw [if_pos (by omega)]; omega) | (rw [if_neg (by omega)]; omega) | omega)).symm, rfl, rfl⟩
                    | exact PW.iret rfl (by first | rfl | exact narB _) dX12_isSight_151 ⟨ret_eq (b01_f (fun r => by have r2 := r.2.2.2.2.2.2.1; unfold soF at r2; first | (rw [if_pos (by omega)] at r2; omega) | (rw [if_neg (by omega)] at r2; omega) | omega)).symm, rfl, rfl⟩
                    | exact PW.iret rfl (by first | rfl | exact narB _) dX12_isSight_151 ⟨ret_eq (b01_f (by omega)).symm, rfl, rfl⟩
                    | exact PW.iret rfl (by first | rfl | exact narB _) dX12_isSight_151 ⟨ret_eq (b01_t (by omega)).symm, rfl, rfl⟩
                · refine PW.iconst dX12_isSight_146 ?_
                  refine PW.goto 151 dX12_isSight_147 (by decide) ?_
                  first
                    | exact PW.iret rfl (by first | rfl | exact narB _) dX12_isSight_151 ⟨ret_eq (b01_congr (by omega)), rfl, rfl⟩
                    | exact PW.iret rfl (by first | rfl | exact narB _) dX12_isSight_151 ⟨ret_eq (b01_t (by unfold sgOk soF; first | (rw [if_pos (by omega)]; omega) | (rw [if_neg (by omega)]; omega) | omega)).symm, rfl, rfl⟩
                    | exact PW.iret rfl (by first | rfl | exact narB _) dX12_isSight_151 ⟨ret_eq (b01_f (fun r => by have r2 := r.2.2.2.2.2.2.1; unfold soF at r2; first | (rw [if_pos (by omega)] at r2; omega) | (rw [if_neg (by omega)] at r2; omega) | omega)).symm, rfl, rfl⟩
                    | exact PW.iret rfl (by first | rfl | exact narB _) dX12_isSight_151 ⟨ret_eq (b01_f (by omega)).symm, rfl, rfl⟩
                    | exact PW.iret rfl (by first | rfl | exact narB _) dX12_isSight_151 ⟨ret_eq (b01_t (by omega)).symm, rfl, rfl⟩
        · refine PW.tsIn (118) 152 (by first | assumption | (unfold inR; omega)) dX12_isSight_34 (by omega) (by omega) (by rw [h34]; rfl) (by decide) ?_
          refine PW.iload dX12_isSight_152 rfl ?_
          refine PW.i2l (by first | assumption | (unfold inR; omega)) dX12_isSight_154 ?_
          refine PW.lconst (z := 0) rfl dX12_isSight_155 ?_
          refine PW.ldc2 (15) kc_X12_310 rfl rfl dX12_isSight_156 ?_
          refine PW.callSr (c_X12_in (by first | (unfold inL; omega) | exact inL_R (by assumption)) (by first | (unfold inL; omega) | exact inL_R (by assumption)) (by first | (unfold inL; omega) | exact inL_R (by assumption))) cs_X12_in lk_X12_134 dX12_isSight_159 rfl rfl rfl ?_
          first
            | exact PW.iret rfl (by first | rfl | exact narB _) dX12_isSight_162 ⟨ret_eq (b01_congr (by omega)), rfl, rfl⟩
            | exact PW.iret rfl (by first | rfl | exact narB _) dX12_isSight_162 ⟨ret_eq (b01_t (by unfold sgOk soF; first | (rw [if_pos (by omega)]; omega) | (rw [if_neg (by omega)]; omega) | omega)).symm, rfl, rfl⟩
            | exact PW.iret rfl (by first | rfl | exact narB _) dX12_isSight_162 ⟨ret_eq (b01_f (fun r => by have r2 := r.2.2.2.2.2.2.1; unfold soF at r2; first | (rw [if_pos (by omega)] at r2; omega) | (rw [if_neg (by omega)] at r2; omega) | omega)).symm, rfl, rfl⟩
            | exact PW.iret rfl (by first | rfl | exact narB _) dX12_isSight_162 ⟨ret_eq (b01_f (by omega)).symm, rfl, rfl⟩
            | exact PW.iret rfl (by first | rfl | exact narB _) dX12_isSight_162 ⟨ret_eq (b01_t (by omega)).symm, rfl, rfl⟩
        · refine PW.tsOut 163 (by first | assumption | (unfold inR; omega)) dX12_isSight_34 (by omega) (by decide) ?_
          refine PW.iconst dX12_isSight_163 ?_
          first
            | exact PW.iret rfl (by first | rfl | exact narB _) dX12_isSight_164 ⟨ret_eq (b01_congr (by omega)), rfl, rfl⟩
            | exact PW.iret rfl (by first | rfl | exact narB _) dX12_isSight_164 ⟨ret_eq (b01_t (by unfold sgOk soF; first | (rw [if_pos (by omega)]; omega) | (rw [if_neg (by omega)]; omega) | omega)).symm, rfl, rfl⟩
            | exact PW.iret rfl (by first | rfl | exact narB _) dX12_isSight_164 ⟨ret_eq (b01_f (fun r => by have r2 := r.2.2.2.2.2.2.1; unfold soF at r2; first | (rw [if_pos (by omega)] at r2; omega) | (rw [if_neg (by omega)] at r2; omega) | omega)).symm, rfl, rfl⟩
            | exact PW.iret rfl (by first | rfl | exact narB _) dX12_isSight_164 ⟨ret_eq (b01_f (by omega)).symm, rfl, rfl⟩
            | exact PW.iret rfl (by first | rfl | exact narB _) dX12_isSight_164 ⟨ret_eq (b01_t (by omega)).symm, rfl, rfl⟩
      · refine PW.iconst dX12_isSight_31 ?_
        first
          | exact PW.iret rfl (by first | rfl | exact narB _) dX12_isSight_32 ⟨ret_eq (b01_congr (by omega)), rfl, rfl⟩
          | exact PW.iret rfl (by first | rfl | exact narB _) dX12_isSight_32 ⟨ret_eq (b01_t (by unfold sgOk soF; first | (rw [if_pos (by omega)]; omega) | (rw [if_neg (by omega)]; omega) | omega)).symm, rfl, rfl⟩
          | exact PW.iret rfl (by first | rfl | exact narB _) dX12_isSight_32 ⟨ret_eq (b01_f (fun r => by have r2 := r.2.2.2.2.2.2.1; unfold soF at r2; first | (rw [if_pos (by omega)] at r2; omega) | (rw [if_neg (by omega)] at r2; omega) | omega)).symm, rfl, rfl⟩
          | exact PW.iret rfl (by first | rfl | exact narB _) dX12_isSight_32 ⟨ret_eq (b01_f (by omega)).symm, rfl, rfl⟩
          | exact PW.iret rfl (by first | rfl | exact narB _) dX12_isSight_32 ⟨ret_eq (b01_t (by omega)).symm, rfl, rfl⟩
theorem sgF_at {f : Int → Int} {n k c b p q : Int} : sgF f n k c b p q (5 * n) = k ∧ sgF f n k c b p q (5 * n + 1) = c ∧ sgF f n k c b p q (5 * n + 2) = b ∧ sgF f n k c b p q (5 * n + 3) = p ∧ sgF f n k c b p q (5 * n + 4) = q := by
  unfold sgF
  refine ⟨if_pos rfl, ?_, ?_, ?_, ?_⟩
  · rw [if_neg (by omega), if_pos rfl]
  · rw [if_neg (by omega), if_neg (by omega), if_pos rfl]
  · rw [if_neg (by omega), if_neg (by omega), if_neg (by omega), if_pos rfl]
  · rw [if_neg (by omega), if_neg (by omega), if_neg (by omega), if_neg (by omega), if_pos rfl]
theorem sgF_ne {f : Int → Int} {n k c b p q j : Int} (h : j < 5 * n) : sgF f n k c b p q j = f j := by
  unfold sgF
  rw [if_neg (by omega), if_neg (by omega), if_neg (by omega), if_neg (by omega), if_neg (by omega)]
theorem sgWf_new {f : Int → Int} {n k x y b p q : Int} (h : sgOk k x y b p q) (rp : inR p) (rq : inR q) : sgWf (sgF f n k (8 * y + x) b p q) n := by
  obtain ⟨e0, e1, e2, e3, e4⟩ := sgF_at (f := f) (n := n) (k := k) (c := 8 * y + x) (b := b) (p := p) (q := q)
  have h2 := h.2.1
  have h3 := h.2.2.1
  unfold sgWf
  rw [e0, e1, e2, e3, e4, show (8 * y + x) % 8 = x by omega, show (8 * y + x) / 8 = y by omega]
  exact ⟨by omega, ⟨rp, rq⟩, h⟩
theorem sgWf_old {f : Int → Int} {n k c b p q i : Int} (hi : i < n) (h : sgWf f i) : sgWf (sgF f n k c b p q) i := by
  unfold sgWf
  rw [sgF_ne (by omega), sgF_ne (by omega), sgF_ne (by omega), sgF_ne (by omega), sgF_ne (by omega)]
  exact h
theorem mSg_ad {σ τ : Sto} {m : Nat} {f : Int → Int} {n k x y b p q : Int} (h : mSg σ m f n) (hn : n < 30) (ho : sgOk k x y b p q) (rp : inR p) (rq : inR q) (e0 : τ m 23 = n + 1) (e1 : τ (m + 16) = up1 (σ (m + 16)) n k) (e2 : τ (m + 17) = up1 (σ (m + 17)) n (8 * y + x)) (e3 : τ (m + 18) = up1 (σ (m + 18)) n b) (e4 : τ (m + 19) = up1 (σ (m + 19)) n p) (e5 : τ (m + 20) = up1 (σ (m + 20)) n q) : mSg τ m (sgF f n k (8 * y + x) b p q) (n + 1) := by
  obtain ⟨h0, h1, h2⟩ := h
  refine ⟨e0, by omega, fun i i0 i1 => ?_⟩
  rw [e1, e2, e3, e4, e5]
  by_cases hi : i = n
  · obtain ⟨a0, a1, a2, a3, a4⟩ := sgF_at (f := f) (n := n) (k := k) (c := 8 * y + x) (b := b) (p := p) (q := q)
    rw [hi, up1_same, up1_same, up1_same, up1_same, up1_same, a0, a1, a2, a3, a4]
    exact ⟨sgWf_new ho rp rq, rfl, rfl, rfl, rfl, rfl⟩
  · obtain ⟨b0, b1, b2, b3, b4, b5⟩ := h2 i i0 (by omega)
    rw [up1_ne hi, up1_ne hi, up1_ne hi, up1_ne hi, up1_ne hi, sgF_ne (by omega), sgF_ne (by omega), sgF_ne (by omega), sgF_ne (by omega), sgF_ne (by omega)]
    exact ⟨sgWf_old (by omega) b0, b1, b2, b3, b4, b5⟩
theorem c_X12_sight {G : GT} {S : Shp} {σ : Sto} {m : Nat} {n k x y b p q : Int} {f : Int → Int} (hA : IsMod S m) (hs : mSg σ m f n) (rk : inR k) (rx : inR x) (ry : inR y) (rb : inR b) (rp : inR p) (rq : inR q) : PMet G mX12_sight 3 0 0 [.ref m, .int (iI (k)), .int (iI (x)), .int (iI (y)), .int (iI (b)), .int (iI (p)), .int (iI (q))] S σ (fun r S' τ => S' = S ∧ r = some (.int (iI (if ¬ (sgOk k x y b p q) then -100002 else if 30 ≤ n then -100004 else n))) ∧ (∀ b, b < m ∨ (m < b ∧ b < m + 16) ∨ m + 20 < b → τ b = σ b) ∧ (∀ j, j ≠ 23 → τ m j = σ m j) ∧ mSg τ m (if (sgOk k x y b p q) ∧ n < 30 then sgF f n k (8 * y + x) b p q else f) (if (sgOk k x y b p q) ∧ n < 30 then n + 1 else n)) := by
  obtain ⟨hM0, hM1, hM2, hM3, hM4, hM5, hM6, hM7, hM8, hM9, hM10, hM11, hM12, hM13, hM14, hM15, hM16, hM17, hM18, hM19, hM20, hM21, hM22, hM23, hM24, hM25, hM26, hM27, hM28, hM29, hM30, hM31, hM32, hM33, hM34⟩ := id hA
  have hn := hs.1
  have hnb := hs.2.1
  refine PMet.of [(0, .ref m), (1, .int (iI (k))), (2, .int (iI (x))), (3, .int (iI (y))), (4, .int (iI (b))), (5, .int (iI (p))), (6, .int (iI (q)))] (by decide +kernel) rfl (Nat.le_of_ble_eq_true rfl) ?_
  refine PW.iload_n dX12_sight_0 rfl ?_
  refine PW.iload_n dX12_sight_1 rfl ?_
  refine PW.iload_n dX12_sight_2 rfl ?_
  refine PW.iload dX12_sight_3 rfl ?_
  refine PW.iload dX12_sight_5 rfl ?_
  refine PW.iload dX12_sight_7 rfl ?_
  refine PW.callSr (c_X12_isSight (by first | assumption | (unfold inR; omega)) (by first | assumption | (unfold inR; omega)) (by first | assumption | (unfold inR; omega)) (by first | assumption | (unfold inR; omega)) (by first | assumption | (unfold inR; omega)) (by first | assumption | (unfold inR; omega))) cs_X12_isSight lk_X12_352 dX12_sight_9 rfl rfl rfl ?_
  refine PW.if_neB 18 dX12_sight_12 (by decide) (fun h12 => ?_) (fun h12 => ?_)
  · refine PW.aload_n dX12_sight_18 rfl ?_
    refine PW.getI 23 fl_X12_227 rfl (by assumption) rfl rfl dX12_sight_19 ?_
    refine PW.top n (by exact hn) ?_
    refine PW.bipush (by decide) dX12_sight_22 ?_
    refine PW.icmp_ne 30 dX12_sight_24 (by decide) (by first | (unfold inR; omega) | assumption) (by first | (unfold inR; omega) | assumption) (fun h24 => ?_) (fun h24 => ?_)
    · refine PW.aload_n dX12_sight_30 rfl ?_
      refine PW.getR fl_X12_61 rfl (by assumption) rfl dX12_sight_31 ?_
      refine PW.aload_n dX12_sight_34 rfl ?_
      refine PW.getI 23 fl_X12_227 rfl (by assumption) rfl rfl dX12_sight_35 ?_
      refine PW.top n (by exact hn) ?_
      refine PW.iload_n dX12_sight_38 rfl ?_
      refine PW.iastore (by assumption) (by first | (unfold inR; omega) | assumption) (by omega) (by omega) dX12_sight_39 ?_
      refine PW.aload_n dX12_sight_40 rfl ?_
      refine PW.getR fl_X12_64 rfl (by assumption) rfl dX12_sight_41 ?_
      refine PW.aload_n dX12_sight_44 rfl ?_
      refine PW.getI 23 fl_X12_227 rfl (by assumption) rfl rfl dX12_sight_45 ?_
      refine PW.top n (by rw [upS_ne (by omega)]; exact hn) ?_
      refine PW.bipush (by decide) dX12_sight_48 ?_
      refine PW.iload_n dX12_sight_50 rfl ?_
      refine PW.imul dX12_sight_51 ?_
      refine PW.iload_n dX12_sight_52 rfl ?_
      refine PW.iadd dX12_sight_53 ?_
      refine PW.iastore (by assumption) (by first | (unfold inR; omega) | assumption) (by omega) (by omega) dX12_sight_54 ?_
      refine PW.aload_n dX12_sight_55 rfl ?_
      refine PW.getR fl_X12_67 rfl (by assumption) rfl dX12_sight_56 ?_
      refine PW.aload_n dX12_sight_59 rfl ?_
      refine PW.getI 23 fl_X12_227 rfl (by assumption) rfl rfl dX12_sight_60 ?_
      refine PW.top n (by rw [upS_ne (by omega), upS_ne (by omega)]; exact hn) ?_
      refine PW.iload dX12_sight_63 rfl ?_
      refine PW.iastore (by assumption) (by first | (unfold inR; omega) | assumption) (by omega) (by omega) dX12_sight_65 ?_
      refine PW.aload_n dX12_sight_66 rfl ?_
      refine PW.getR fl_X12_70 rfl (by assumption) rfl dX12_sight_67 ?_
      refine PW.aload_n dX12_sight_70 rfl ?_
      refine PW.getI 23 fl_X12_227 rfl (by assumption) rfl rfl dX12_sight_71 ?_
      refine PW.top n (by rw [upS_ne (by omega), upS_ne (by omega), upS_ne (by omega)]; exact hn) ?_
      refine PW.iload dX12_sight_74 rfl ?_
      refine PW.iastore (by assumption) (by first | (unfold inR; omega) | assumption) (by omega) (by omega) dX12_sight_76 ?_
      refine PW.aload_n dX12_sight_77 rfl ?_
      refine PW.getR fl_X12_73 rfl (by assumption) rfl dX12_sight_78 ?_
      refine PW.aload_n dX12_sight_81 rfl ?_
      refine PW.getI 23 fl_X12_227 rfl (by assumption) rfl rfl dX12_sight_82 ?_
      refine PW.top n (by rw [upS_ne (by omega), upS_ne (by omega), upS_ne (by omega), upS_ne (by omega)]; exact hn) ?_
      refine PW.iload dX12_sight_85 rfl ?_
      refine PW.iastore (by assumption) (by first | (unfold inR; omega) | assumption) (by omega) (by omega) dX12_sight_87 ?_
      refine PW.aload_n dX12_sight_88 rfl ?_
      refine PW.dup rfl dX12_sight_89 ?_
      refine PW.getI 23 fl_X12_227 rfl (by assumption) rfl rfl dX12_sight_90 ?_
      refine PW.top n (by rw [upS_ne (by omega), upS_ne (by omega), upS_ne (by omega), upS_ne (by omega), upS_ne (by omega)]; exact hn) ?_
      refine PW.iconst dX12_sight_93 ?_
      refine PW.iadd dX12_sight_94 ?_
      refine PW.putI 23 fl_X12_227 rfl (fun h => absurd h (by decide)) (by assumption) rfl rfl rfl rfl dX12_sight_95 ?_
      refine PW.aload_n dX12_sight_98 rfl ?_
      refine PW.getI 23 fl_X12_227 rfl (by assumption) rfl rfl dX12_sight_99 ?_
      refine PW.top (n + 1) (by rw [upS_same, up1_same]) ?_
      refine PW.iconst dX12_sight_102 ?_
      refine PW.isub dX12_sight_103 ?_
      have ho : sgOk k x y b p q := by assumption
      refine PW.iret rfl rfl dX12_sight_104 ⟨rfl, ret_eq (by rw [if_neg (fun r => r ho), if_neg (by omega)]; omega), fun b' hb => ?_, fun j hj => ?_, ?_⟩
      · simp only [upS_ne (show b' ≠ m by omega), upS_ne (show b' ≠ m + 16 by omega), upS_ne (show b' ≠ m + 17 by omega), upS_ne (show b' ≠ m + 18 by omega), upS_ne (show b' ≠ m + 19 by omega), upS_ne (show b' ≠ m + 20 by omega)]
      · rw [upS_same, up1_ne hj]
        rw [upS_ne (by omega), upS_ne (by omega), upS_ne (by omega), upS_ne (by omega), upS_ne (by omega)]
      · rw [if_pos ⟨ho, by omega⟩, if_pos ⟨ho, by omega⟩]
        refine mSg_ad hs (by omega) ho rp rq (by rw [upS_same, up1_same]) ?_ ?_ ?_ ?_ ?_
        · rw [upS_ne (by omega), upS_ne (by omega), upS_ne (by omega), upS_ne (by omega), upS_ne (by omega), upS_same]
        · rw [upS_ne (by omega), upS_ne (by omega), upS_ne (by omega), upS_ne (by omega), upS_same, upS_ne (by omega)]
        · rw [upS_ne (by omega), upS_ne (by omega), upS_ne (by omega), upS_same, upS_ne (by omega), upS_ne (by omega)]
        · rw [upS_ne (by omega), upS_ne (by omega), upS_same, upS_ne (by omega), upS_ne (by omega), upS_ne (by omega)]
        · rw [upS_ne (by omega), upS_same, upS_ne (by omega), upS_ne (by omega), upS_ne (by omega), upS_ne (by omega)]
    · refine PW.ldc (-100004) kc_X12_196 rfl rfl dX12_sight_27 ?_
      exact PW.iret rfl rfl dX12_sight_29 ⟨rfl, ret_eq (by rw [if_neg (fun r => r (by assumption)), if_pos (by omega)]), fun _ _ => rfl, fun _ _ => rfl, by rw [if_neg (fun r => by have := r.2; omega), if_neg (fun r => by have := r.2; omega)]; exact hs⟩
  · refine PW.ldc (-100002) kc_X12_195 rfl rfl dX12_sight_15 ?_
    exact PW.iret rfl rfl dX12_sight_17 ⟨rfl, ret_eq (by rw [if_pos (by assumption)]), fun _ _ => rfl, fun _ _ => rfl, by rw [if_neg (fun r => absurd r.1 (by assumption)), if_neg (fun r => absurd r.1 (by assumption))]; exact hs⟩
theorem c_X12_forget {G : GT} {S : Shp} {σ : Sto} {m : Nat} {n : Int} {f : Int → Int} (hA : IsMod S m) (hs : mSg σ m f n) : PMet G mX12_forget 0 0 0 [.ref m] S σ (fun r S' τ => S' = S ∧ r = some (.int (iI (if n = 0 then -100003 else n - 1))) ∧ (∀ b, b < m ∨ (m < b ∧ b < m + 16) ∨ m + 20 < b → τ b = σ b) ∧ (∀ j, j ≠ 23 → τ m j = σ m j) ∧ mSg τ m (f) (if n = 0 then n else n - 1)) := by
  obtain ⟨hM0, hM1, hM2, hM3, hM4, hM5, hM6, hM7, hM8, hM9, hM10, hM11, hM12, hM13, hM14, hM15, hM16, hM17, hM18, hM19, hM20, hM21, hM22, hM23, hM24, hM25, hM26, hM27, hM28, hM29, hM30, hM31, hM32, hM33, hM34⟩ := id hA
  have hn := hs.1
  have hnb := hs.2.1
  refine PMet.of [(0, .ref m)] (by decide +kernel) rfl (Nat.le_of_ble_eq_true rfl) ?_
  refine PW.aload_n dX12_forget_0 rfl ?_
  refine PW.getI 23 fl_X12_227 rfl (by assumption) rfl rfl dX12_forget_1 ?_
  refine PW.top n (by exact hn) ?_
  refine PW.if_ne 10 dX12_forget_4 (by decide) (by first | (unfold inR; omega) | assumption) (fun h4 => ?_) (fun h4 => ?_)
  · refine PW.aload_n dX12_forget_10 rfl ?_
    refine PW.dup rfl dX12_forget_11 ?_
    refine PW.getI 23 fl_X12_227 rfl (by assumption) rfl rfl dX12_forget_12 ?_
    refine PW.top n (by exact hn) ?_
    refine PW.iconst dX12_forget_15 ?_
    refine PW.isub dX12_forget_16 ?_
    refine PW.putI 23 fl_X12_227 rfl (fun h => absurd h (by decide)) (by assumption) rfl rfl rfl rfl dX12_forget_17 ?_
    refine PW.aload_n dX12_forget_20 rfl ?_
    refine PW.getI 23 fl_X12_227 rfl (by assumption) rfl rfl dX12_forget_21 ?_
    refine PW.top (n - 1) (by rw [upS_same, up1_same]) ?_
    refine PW.iret rfl rfl dX12_forget_24 ⟨rfl, ret_eq (by rw [if_neg (by omega)]), fun b hb => upS_ne (by omega), fun j hj => by rw [upS_same, up1_ne hj], ?_⟩
    rw [if_neg (by omega)]
    refine ⟨by rw [upS_same, up1_same], by omega, fun i i0 i1 => ?_⟩
    rw [upS_ne (by omega), upS_ne (by omega), upS_ne (by omega), upS_ne (by omega), upS_ne (by omega)]
    exact hs.2.2 i i0 (by omega)
  · refine PW.ldc (-100003) kc_X12_200 rfl rfl dX12_forget_7 ?_
    exact PW.iret rfl rfl dX12_forget_9 ⟨rfl, ret_eq (by rw [if_pos (by omega)]), fun _ _ => rfl, fun _ _ => rfl, by rw [if_pos (by omega)]; exact hs⟩
theorem nx_is (f : Int → Int) (i : Int) : (f (5 * i) = 3 → f (5 * i + 3) = 0 → nxF f i = f (5 * i + 1) + 1) ∧ (f (5 * i) = 3 → ¬ f (5 * i + 3) = 0 → nxF f i = f (5 * i + 1) + 8) := by
  unfold nxF
  constructor
  · intro h1 h2
    rw [if_pos h1, if_pos h2]
  · intro h1 h2
    rw [if_pos h1, if_neg h2]
section
variable {f : Int → Int} {i : Int} {ld : Int → Int → Int}
theorem metK0 (h : f (5 * i) = 0) (q : sbF (ld (f (5 * i + 1))) = f (5 * i + 2)) : metS f i ld := Or.inl ⟨h, q⟩
theorem metK0' (h : f (5 * i) = 0) (r : metS f i ld) : sbF (ld (f (5 * i + 1))) = f (5 * i + 2) := by
  rcases r with r | r | r | r | r
  · exact r.2
  all_goals (exfalso; have := r.1; omega)
theorem metK1 (h : f (5 * i) = 1) (q : ld (f (5 * i + 1)) (f (5 * i + 3) + 40) = f (5 * i + 2)) : metS f i ld := Or.inr (Or.inl ⟨h, q⟩)
theorem metK1' (h : f (5 * i) = 1) (r : metS f i ld) : ld (f (5 * i + 1)) (f (5 * i + 3) + 40) = f (5 * i + 2) := by
  rcases r with r | r | r | r | r
  · exfalso; have := r.1; omega
  · exact r.2
  all_goals (exfalso; have := r.1; omega)
theorem metK2 (h : f (5 * i) = 2) (q1 : ¬ toF (ld (f (5 * i + 1))) (f (5 * i + 2)) = -41) (q2 : f (5 * i + 3) ≤ toF (ld (f (5 * i + 1))) (f (5 * i + 2))) (q3 : toF (ld (f (5 * i + 1))) (f (5 * i + 2)) ≤ f (5 * i + 4)) : metS f i ld := Or.inr (Or.inr (Or.inl ⟨h, q1, q2, q3⟩))
theorem metK2' (h : f (5 * i) = 2) (r : metS f i ld) : ¬ toF (ld (f (5 * i + 1))) (f (5 * i + 2)) = -41 ∧ f (5 * i + 3) ≤ toF (ld (f (5 * i + 1))) (f (5 * i + 2)) ∧ toF (ld (f (5 * i + 1))) (f (5 * i + 2)) ≤ f (5 * i + 4) := by
  rcases r with r | r | r | r | r
  · exfalso; have := r.1; omega
  · exfalso; have := r.1; omega
  · exact r.2
  all_goals (exfalso; have := r.1; omega)
theorem metK3 (h : f (5 * i) = 3) (q1 : ¬ toF (ld (f (5 * i + 1))) (f (5 * i + 2)) = -41) (q2 : ¬ toF (ld (nxF f i)) (f (5 * i + 2)) = -41) (q3 : toF (ld (nxF f i)) (f (5 * i + 2)) - toF (ld (f (5 * i + 1))) (f (5 * i + 2)) = f (5 * i + 4)) : metS f i ld := Or.inr (Or.inr (Or.inr (Or.inl ⟨h, q1, q2, q3⟩)))
theorem metK3' (h : f (5 * i) = 3) (r : metS f i ld) : ¬ toF (ld (f (5 * i + 1))) (f (5 * i + 2)) = -41 ∧ ¬ toF (ld (nxF f i)) (f (5 * i + 2)) = -41 ∧ toF (ld (nxF f i)) (f (5 * i + 2)) - toF (ld (f (5 * i + 1))) (f (5 * i + 2)) = f (5 * i + 4) := by
  rcases r with r | r | r | r | r
  · exfalso; have := r.1; omega
  · exfalso; have := r.1; omega
  · exfalso; have := r.1; omega
  · exact r.2
  · exfalso; have := r.1; omega
theorem metK4 (h : f (5 * i) < 0 ∨ 3 < f (5 * i)) (w : 0 ≤ f (5 * i) ∧ f (5 * i) ≤ 4) : metS f i ld ↔ lieP (ld (f (5 * i + 1))) (f (5 * i + 2)) (f (5 * i + 3)) := by
  constructor
  · intro r
    rcases r with r | r | r | r | r
    · exfalso; have := r.1; omega
    · exfalso; have := r.1; omega
    · exfalso; have := r.1; omega
    · exfalso; have := r.1; omega
    · exact r.2
  · intro r
    exact Or.inr (Or.inr (Or.inr (Or.inr ⟨by omega, r⟩)))
end
theorem c_X12_isMet {G : GT} {S : Shp} {σ : Sto} {m : Nat} {n i L : Int} {f : Int → Int} (hA : IsMod S m) (hC : cOk (σ (m + 1)) 15360) (hL : 0 ≤ L ∧ L ≤ 2) (hs : mSg σ m f n) (hi : 0 ≤ i ∧ i < n) : PMet G mX12_isMet 3 0 0 [.ref m, .int (iI L), .int (iI i)] S σ (isP (some (.int (iI (b01 (metS f i (clV (σ (m + 1)) L)))))) S σ) := by
  obtain ⟨hM0, hM1, hM2, hM3, hM4, hM5, hM6, hM7, hM8, hM9, hM10, hM11, hM12, hM13, hM14, hM15, hM16, hM17, hM18, hM19, hM20, hM21, hM22, hM23, hM24, hM25, hM26, hM27, hM28, hM29, hM30, hM31, hM32, hM33, hM34⟩ := id hA
  have hnb := hs.2.1
  obtain ⟨w, s0, s1, s2, s3, s4⟩ := hs.2.2 i hi.1 hi.2
  have hnx := nxF_b w
  obtain ⟨w1, ⟨w2, w2'⟩, w3⟩ := id w
  obtain ⟨u0, u1, u2, u3, u4, u5, u6, u7⟩ := id w3
  have tb1 := toF_b ((clV (σ (m + 1)) L) (f (5 * i + 1))) (f (5 * i + 2))
  have tb2 := toF_b ((clV (σ (m + 1)) L) (nxF f i)) (f (5 * i + 2))
  have sb := skF_b ((clV (σ (m + 1)) L) (f (5 * i + 1)))
  have sbb := sbF_b (clV_ok hC hL (c := f (5 * i + 1)) (by omega))
  have hgb := fun z => gtV_b hC (z := z) hL (c := f (5 * i + 1)) (by omega)
  refine PMet.of [(0, .ref m), (1, .int (iI (L))), (2, .int (iI (i)))] (by decide +kernel) rfl (Nat.le_of_ble_eq_true rfl) ?_
  refine PW.aload_n dX12_isMet_0 rfl ?_
  refine PW.getR fl_X12_64 rfl (by assumption) rfl dX12_isMet_1 ?_
  refine PW.iload_n dX12_isMet_4 rfl ?_
  refine PW.iaload (by assumption) (by unfold inR; omega) (by omega) (by omega) dX12_isMet_5 ?_
  refine PW.top (f (5 * i + 1)) (by exact s1) ?_
  refine PW.istore_n [(0, _), (1, _), (2, _), (3, _)] dX12_isMet_6 rfl (Nat.le_of_ble_eq_true rfl) ?_
  refine PW.aload_n dX12_isMet_7 rfl ?_
  refine PW.getR fl_X12_67 rfl (by assumption) rfl dX12_isMet_8 ?_
  refine PW.iload_n dX12_isMet_11 rfl ?_
  refine PW.iaload (by assumption) (by unfold inR; omega) (by omega) (by omega) dX12_isMet_12 ?_
  refine PW.top (f (5 * i + 2)) (by exact s2) ?_
  refine PW.istore [(0, _), (1, _), (2, _), (3, _), (4, _)] dX12_isMet_13 rfl (Nat.le_of_ble_eq_true rfl) ?_
  refine PW.iload dX12_isMet_15 rfl ?_
  refine PW.if_ge 25 dX12_isMet_17 (by decide) (by first | assumption | (unfold inR; omega) | (have := hgb (skF ((clV (σ (m + 1)) L) (f (5 * i + 1)))); unfold inR; omega) | (have := hgb (f (5 * i + 3)); unfold inR; omega)) (fun h17 => ?_) (fun h17 => ?_)
  · refine PW.aload_n dX12_isMet_25 rfl ?_
    refine PW.iload_n dX12_isMet_26 rfl ?_
    refine PW.iload dX12_isMet_27 rfl ?_
    refine PW.iload_n dX12_isMet_29 rfl ?_
    refine PW.callVr (c_X12_topOf hA hC hL (by omega) (by unfold inR; omega)) cv_X12_topOf lk_X12_312 (by first | assumption | exact And.left (by assumption)) dX12_isMet_30 rfl rfl rfl rfl ?_
    refine PW.istore [(0, _), (1, _), (2, _), (3, _), (4, _), (5, _)] dX12_isMet_33 rfl (Nat.le_of_ble_eq_true rfl) ?_
    refine PW.aload_n dX12_isMet_35 rfl ?_
    refine PW.getR fl_X12_61 rfl (by assumption) rfl dX12_isMet_36 ?_
    refine PW.iload_n dX12_isMet_39 rfl ?_
    refine PW.iaload (by assumption) (by unfold inR; omega) (by omega) (by omega) dX12_isMet_40 ?_
    refine PW.top (f (5 * i)) (by exact s0) ?_
    rcases (show f (5 * i) = 0 ∨ f (5 * i) = 1 ∨ f (5 * i) = 2 ∨ f (5 * i) = 3 ∨ (f (5 * i) < 0 ∨ 3 < f (5 * i)) by omega) with h41 | h41 | h41 | h41 | h41
    · refine PW.tsIn (31) 72 (by first | assumption | (unfold inR; omega) | (have := hgb (skF ((clV (σ (m + 1)) L) (f (5 * i + 1)))); unfold inR; omega) | (have := hgb (f (5 * i + 3)); unfold inR; omega)) dX12_isMet_41 (by omega) (by omega) (by rw [h41]; rfl) (by decide) ?_
      refine PW.aload_n dX12_isMet_72 rfl ?_
      refine PW.iload_n dX12_isMet_73 rfl ?_
      refine PW.iload_n dX12_isMet_74 rfl ?_
      refine PW.callVr (c_X12_skinOf hA hC hL (by omega)) cv_X12_skinOf lk_X12_155 (by first | assumption | exact And.left (by assumption)) dX12_isMet_75 rfl rfl rfl rfl ?_
      refine PW.istore [(0, _), (1, _), (2, _), (3, _), (4, _), (5, _), (6, _)] dX12_isMet_78 rfl (Nat.le_of_ble_eq_true rfl) ?_
      refine PW.iload dX12_isMet_80 rfl ?_
      refine PW.iload dX12_isMet_82 rfl ?_
      refine PW.bipush (by decide) dX12_isMet_84 ?_
      refine PW.icmp_ge 93 dX12_isMet_86 (by decide) (by first | assumption | (unfold inR; omega) | (have := hgb (skF ((clV (σ (m + 1)) L) (f (5 * i + 1)))); unfold inR; omega) | (have := hgb (f (5 * i + 3)); unfold inR; omega)) (by first | assumption | (unfold inR; omega) | (have := hgb (skF ((clV (σ (m + 1)) L) (f (5 * i + 1)))); unfold inR; omega) | (have := hgb (f (5 * i + 3)); unfold inR; omega)) (fun h86 => ?_) (fun h86 => ?_)
      · refine PW.aload_n dX12_isMet_93 rfl ?_
        refine PW.iload_n dX12_isMet_94 rfl ?_
        refine PW.iload_n dX12_isMet_95 rfl ?_
        refine PW.iload dX12_isMet_96 rfl ?_
        refine PW.callVr (c_X12_get hA hL (by omega) (by omega)) cv_X12_get lk_X12_127 (by first | assumption | exact And.left (by assumption)) dX12_isMet_98 rfl rfl rfl rfl ?_
        refine PW.icmp_ne 108 dX12_isMet_101 (by decide) (by first | assumption | (unfold inR; omega) | (have := hgb (skF ((clV (σ (m + 1)) L) (f (5 * i + 1)))); unfold inR; omega) | (have := hgb (f (5 * i + 3)); unfold inR; omega)) (by first | assumption | (unfold inR; omega) | (have := hgb (skF ((clV (σ (m + 1)) L) (f (5 * i + 1)))); unfold inR; omega) | (have := hgb (f (5 * i + 3)); unfold inR; omega)) (fun h101 => ?_) (fun h101 => ?_)
        · refine PW.iconst dX12_isMet_108 ?_
          refine PW.iret rfl (by first | rfl | exact narB _) dX12_isMet_109 ⟨ret_eq ?_, rfl, rfl⟩
          first
            | (refine (b01_t (metK0 (by omega) ?_)).symm
               unfold sbF
               first
                 | (rw [if_pos (by omega)]; omega)
                 | (rw [if_neg (by omega), ← gtV_in (by omega)]; omega))
            | (refine (b01_f (fun r => ?_)).symm
               have r2 := metK0' (by omega) r
               unfold sbF at r2
               first
                 | (rw [if_pos (by omega)] at r2; omega)
                 | (rw [if_neg (by omega), ← gtV_in (by omega)] at r2; omega))
            | (have hp := u4 (by omega)
               refine (b01_t (metK1 (by omega) ?_)).symm
               rw [← gtV_in (by omega)]
               assumption)
            | (have hp := u4 (by omega)
               refine (b01_f (fun r => ?_)).symm
               have r2 := metK1' (by omega) r
               rw [← gtV_in (by omega)] at r2
               contradiction)
            | (refine (b01_t (metK2 (by omega) (by omega) (by omega) (by omega))).symm
               done)
            | (refine (b01_f (fun r => ?_)).symm
               have r2 := metK2' (by omega) r
               omega)
            | (refine (b01_t (metK3 (by omega) (by omega) (by omega) (by omega))).symm
               done)
            | (refine (b01_f (fun r => ?_)).symm
               have r2 := metK3' (by omega) r
               omega)
          
        · refine PW.iconst dX12_isMet_104 ?_
          refine PW.goto 109 dX12_isMet_105 (by decide) ?_
          refine PW.iret rfl (by first | rfl | exact narB _) dX12_isMet_109 ⟨ret_eq ?_, rfl, rfl⟩
          first
            | (refine (b01_t (metK0 (by omega) ?_)).symm
               unfold sbF
               first
                 | (rw [if_pos (by omega)]; omega)
                 | (rw [if_neg (by omega), ← gtV_in (by omega)]; omega))
            | (refine (b01_f (fun r => ?_)).symm
               have r2 := metK0' (by omega) r
               unfold sbF at r2
               first
                 | (rw [if_pos (by omega)] at r2; omega)
                 | (rw [if_neg (by omega), ← gtV_in (by omega)] at r2; omega))
            | (have hp := u4 (by omega)
               refine (b01_t (metK1 (by omega) ?_)).symm
               rw [← gtV_in (by omega)]
               assumption)
            | (have hp := u4 (by omega)
               refine (b01_f (fun r => ?_)).symm
               have r2 := metK1' (by omega) r
               rw [← gtV_in (by omega)] at r2
               contradiction)
            | (refine (b01_t (metK2 (by omega) (by omega) (by omega) (by omega))).symm
               done)
            | (refine (b01_f (fun r => ?_)).symm
               have r2 := metK2' (by omega) r
               omega)
            | (refine (b01_t (metK3 (by omega) (by omega) (by omega) (by omega))).symm
               done)
            | (refine (b01_f (fun r => ?_)).symm
               have r2 := metK3' (by omega) r
               omega)
          
      · refine PW.iconst dX12_isMet_89 ?_
        refine PW.goto 101 dX12_isMet_90 (by decide) ?_
        refine PW.icmp_ne 108 dX12_isMet_101 (by decide) (by first | assumption | (unfold inR; omega) | (have := hgb (skF ((clV (σ (m + 1)) L) (f (5 * i + 1)))); unfold inR; omega) | (have := hgb (f (5 * i + 3)); unfold inR; omega)) (by first | assumption | (unfold inR; omega) | (have := hgb (skF ((clV (σ (m + 1)) L) (f (5 * i + 1)))); unfold inR; omega) | (have := hgb (f (5 * i + 3)); unfold inR; omega)) (fun h101 => ?_) (fun h101 => ?_)
        · refine PW.iconst dX12_isMet_108 ?_
          refine PW.iret rfl (by first | rfl | exact narB _) dX12_isMet_109 ⟨ret_eq ?_, rfl, rfl⟩
          first
            | (refine (b01_t (metK0 (by omega) ?_)).symm
               unfold sbF
               first
                 | (rw [if_pos (by omega)]; omega)
                 | (rw [if_neg (by omega), ← gtV_in (by omega)]; omega))
            | (refine (b01_f (fun r => ?_)).symm
               have r2 := metK0' (by omega) r
               unfold sbF at r2
               first
                 | (rw [if_pos (by omega)] at r2; omega)
                 | (rw [if_neg (by omega), ← gtV_in (by omega)] at r2; omega))
            | (have hp := u4 (by omega)
               refine (b01_t (metK1 (by omega) ?_)).symm
               rw [← gtV_in (by omega)]
               assumption)
            | (have hp := u4 (by omega)
               refine (b01_f (fun r => ?_)).symm
               have r2 := metK1' (by omega) r
               rw [← gtV_in (by omega)] at r2
               contradiction)
            | (refine (b01_t (metK2 (by omega) (by omega) (by omega) (by omega))).symm
               done)
            | (refine (b01_f (fun r => ?_)).symm
               have r2 := metK2' (by omega) r
               omega)
            | (refine (b01_t (metK3 (by omega) (by omega) (by omega) (by omega))).symm
               done)
            | (refine (b01_f (fun r => ?_)).symm
               have r2 := metK3' (by omega) r
               omega)
          
        · refine PW.iconst dX12_isMet_104 ?_
          refine PW.goto 109 dX12_isMet_105 (by decide) ?_
          refine PW.iret rfl (by first | rfl | exact narB _) dX12_isMet_109 ⟨ret_eq ?_, rfl, rfl⟩
          first
            | (refine (b01_t (metK0 (by omega) ?_)).symm
               unfold sbF
               first
                 | (rw [if_pos (by omega)]; omega)
                 | (rw [if_neg (by omega), ← gtV_in (by omega)]; omega))
            | (refine (b01_f (fun r => ?_)).symm
               have r2 := metK0' (by omega) r
               unfold sbF at r2
               first
                 | (rw [if_pos (by omega)] at r2; omega)
                 | (rw [if_neg (by omega), ← gtV_in (by omega)] at r2; omega))
            | (have hp := u4 (by omega)
               refine (b01_t (metK1 (by omega) ?_)).symm
               rw [← gtV_in (by omega)]
               assumption)
            | (have hp := u4 (by omega)
               refine (b01_f (fun r => ?_)).symm
               have r2 := metK1' (by omega) r
               rw [← gtV_in (by omega)] at r2
               contradiction)
            | (refine (b01_t (metK2 (by omega) (by omega) (by omega) (by omega))).symm
               done)
            | (refine (b01_f (fun r => ?_)).symm
               have r2 := metK2' (by omega) r
               omega)
            | (refine (b01_t (metK3 (by omega) (by omega) (by omega) (by omega))).symm
               done)
            | (refine (b01_f (fun r => ?_)).symm
               have r2 := metK3' (by omega) r
               omega)
          
    · refine PW.tsIn (69) 110 (by first | assumption | (unfold inR; omega) | (have := hgb (skF ((clV (σ (m + 1)) L) (f (5 * i + 1)))); unfold inR; omega) | (have := hgb (f (5 * i + 3)); unfold inR; omega)) dX12_isMet_41 (by omega) (by omega) (by rw [h41]; rfl) (by decide) ?_
      refine PW.aload_n dX12_isMet_110 rfl ?_
      refine PW.iload_n dX12_isMet_111 rfl ?_
      refine PW.iload_n dX12_isMet_112 rfl ?_
      refine PW.aload_n dX12_isMet_113 rfl ?_
      refine PW.getR fl_X12_70 rfl (by assumption) rfl dX12_isMet_114 ?_
      refine PW.iload_n dX12_isMet_117 rfl ?_
      refine PW.iaload (by assumption) (by unfold inR; omega) (by omega) (by omega) dX12_isMet_118 ?_
      refine PW.top (f (5 * i + 3)) (by exact s3) ?_
      refine PW.callVr (c_X12_get hA hL (by omega) (by have := u4 (by omega); omega)) cv_X12_get lk_X12_127 (by first | assumption | exact And.left (by assumption)) dX12_isMet_119 rfl rfl rfl rfl ?_
      refine PW.iload dX12_isMet_122 rfl ?_
      refine PW.icmp_ne 131 dX12_isMet_124 (by decide) (by first | assumption | (unfold inR; omega) | (have := hgb (skF ((clV (σ (m + 1)) L) (f (5 * i + 1)))); unfold inR; omega) | (have := hgb (f (5 * i + 3)); unfold inR; omega)) (by first | assumption | (unfold inR; omega) | (have := hgb (skF ((clV (σ (m + 1)) L) (f (5 * i + 1)))); unfold inR; omega) | (have := hgb (f (5 * i + 3)); unfold inR; omega)) (fun h124 => ?_) (fun h124 => ?_)
      · refine PW.iconst dX12_isMet_131 ?_
        refine PW.iret rfl (by first | rfl | exact narB _) dX12_isMet_132 ⟨ret_eq ?_, rfl, rfl⟩
        first
          | (refine (b01_t (metK0 (by omega) ?_)).symm
             unfold sbF
             first
               | (rw [if_pos (by omega)]; omega)
               | (rw [if_neg (by omega), ← gtV_in (by omega)]; omega))
          | (refine (b01_f (fun r => ?_)).symm
             have r2 := metK0' (by omega) r
             unfold sbF at r2
             first
               | (rw [if_pos (by omega)] at r2; omega)
               | (rw [if_neg (by omega), ← gtV_in (by omega)] at r2; omega))
          | (have hp := u4 (by omega)
             refine (b01_t (metK1 (by omega) ?_)).symm
             rw [← gtV_in (by omega)]
             assumption)
          | (have hp := u4 (by omega)
             refine (b01_f (fun r => ?_)).symm
             have r2 := metK1' (by omega) r
             rw [← gtV_in (by omega)] at r2
             contradiction)
          | (refine (b01_t (metK2 (by omega) (by omega) (by omega) (by omega))).symm
             done)
          | (refine (b01_f (fun r => ?_)).symm
             have r2 := metK2' (by omega) r
             omega)
          | (refine (b01_t (metK3 (by omega) (by omega) (by omega) (by omega))).symm
             done)
          | (refine (b01_f (fun r => ?_)).symm
             have r2 := metK3' (by omega) r
             omega)
        
      · refine PW.iconst dX12_isMet_127 ?_
        refine PW.goto 132 dX12_isMet_128 (by decide) ?_
        refine PW.iret rfl (by first | rfl | exact narB _) dX12_isMet_132 ⟨ret_eq ?_, rfl, rfl⟩
        first
          | (refine (b01_t (metK0 (by omega) ?_)).symm
             unfold sbF
             first
               | (rw [if_pos (by omega)]; omega)
               | (rw [if_neg (by omega), ← gtV_in (by omega)]; omega))
          | (refine (b01_f (fun r => ?_)).symm
             have r2 := metK0' (by omega) r
             unfold sbF at r2
             first
               | (rw [if_pos (by omega)] at r2; omega)
               | (rw [if_neg (by omega), ← gtV_in (by omega)] at r2; omega))
          | (have hp := u4 (by omega)
             refine (b01_t (metK1 (by omega) ?_)).symm
             rw [← gtV_in (by omega)]
             assumption)
          | (have hp := u4 (by omega)
             refine (b01_f (fun r => ?_)).symm
             have r2 := metK1' (by omega) r
             rw [← gtV_in (by omega)] at r2
             contradiction)
          | (refine (b01_t (metK2 (by omega) (by omega) (by omega) (by omega))).symm
             done)
          | (refine (b01_f (fun r => ?_)).symm
             have r2 := metK2' (by omega) r
             omega)
          | (refine (b01_t (metK3 (by omega) (by omega) (by omega) (by omega))).symm
             done)
          | (refine (b01_f (fun r => ?_)).symm
             have r2 := metK3' (by omega) r
             omega)
        
    · refine PW.tsIn (92) 133 (by first | assumption | (unfold inR; omega) | (have := hgb (skF ((clV (σ (m + 1)) L) (f (5 * i + 1)))); unfold inR; omega) | (have := hgb (f (5 * i + 3)); unfold inR; omega)) dX12_isMet_41 (by omega) (by omega) (by rw [h41]; rfl) (by decide) ?_
      refine PW.iload dX12_isMet_133 rfl ?_
      refine PW.bipush (by decide) dX12_isMet_135 ?_
      refine PW.icmp_lt 167 dX12_isMet_137 (by decide) (by first | assumption | (unfold inR; omega) | (have := hgb (skF ((clV (σ (m + 1)) L) (f (5 * i + 1)))); unfold inR; omega) | (have := hgb (f (5 * i + 3)); unfold inR; omega)) (by first | assumption | (unfold inR; omega) | (have := hgb (skF ((clV (σ (m + 1)) L) (f (5 * i + 1)))); unfold inR; omega) | (have := hgb (f (5 * i + 3)); unfold inR; omega)) (fun h137 => ?_) (fun h137 => ?_)
      · refine PW.iconst dX12_isMet_167 ?_
        refine PW.iret rfl (by first | rfl | exact narB _) dX12_isMet_168 ⟨ret_eq ?_, rfl, rfl⟩
        first
          | (refine (b01_t (metK0 (by omega) ?_)).symm
             unfold sbF
             first
               | (rw [if_pos (by omega)]; omega)
               | (rw [if_neg (by omega), ← gtV_in (by omega)]; omega))
          | (refine (b01_f (fun r => ?_)).symm
             have r2 := metK0' (by omega) r
             unfold sbF at r2
             first
               | (rw [if_pos (by omega)] at r2; omega)
               | (rw [if_neg (by omega), ← gtV_in (by omega)] at r2; omega))
          | (have hp := u4 (by omega)
             refine (b01_t (metK1 (by omega) ?_)).symm
             rw [← gtV_in (by omega)]
             assumption)
          | (have hp := u4 (by omega)
             refine (b01_f (fun r => ?_)).symm
             have r2 := metK1' (by omega) r
             rw [← gtV_in (by omega)] at r2
             contradiction)
          | (refine (b01_t (metK2 (by omega) (by omega) (by omega) (by omega))).symm
             done)
          | (refine (b01_f (fun r => ?_)).symm
             have r2 := metK2' (by omega) r
             omega)
          | (refine (b01_t (metK3 (by omega) (by omega) (by omega) (by omega))).symm
             done)
          | (refine (b01_f (fun r => ?_)).symm
             have r2 := metK3' (by omega) r
             omega)
        
      · refine PW.iload dX12_isMet_140 rfl ?_
        refine PW.i2l (by first | assumption | (unfold inR; omega) | (have := hgb (skF ((clV (σ (m + 1)) L) (f (5 * i + 1)))); unfold inR; omega) | (have := hgb (f (5 * i + 3)); unfold inR; omega)) dX12_isMet_142 ?_
        refine PW.aload_n dX12_isMet_143 rfl ?_
        refine PW.getR fl_X12_70 rfl (by assumption) rfl dX12_isMet_144 ?_
        refine PW.iload_n dX12_isMet_147 rfl ?_
        refine PW.iaload (by assumption) (by unfold inR; omega) (by omega) (by omega) dX12_isMet_148 ?_
        refine PW.top (f (5 * i + 3)) (by exact s3) ?_
        refine PW.i2l (by first | assumption | (unfold inR; omega) | (have := hgb (skF ((clV (σ (m + 1)) L) (f (5 * i + 1)))); unfold inR; omega) | (have := hgb (f (5 * i + 3)); unfold inR; omega)) dX12_isMet_149 ?_
        refine PW.aload_n dX12_isMet_150 rfl ?_
        refine PW.getR fl_X12_73 rfl (by assumption) rfl dX12_isMet_151 ?_
        refine PW.iload_n dX12_isMet_154 rfl ?_
        refine PW.iaload (by assumption) (by unfold inR; omega) (by omega) (by omega) dX12_isMet_155 ?_
        refine PW.top (f (5 * i + 4)) (by exact s4) ?_
        refine PW.i2l (by first | assumption | (unfold inR; omega) | (have := hgb (skF ((clV (σ (m + 1)) L) (f (5 * i + 1)))); unfold inR; omega) | (have := hgb (f (5 * i + 3)); unfold inR; omega)) dX12_isMet_156 ?_
        refine PW.callSr (c_X12_in (by first | (unfold inL; omega) | exact inL_R (by assumption)) (by first | (unfold inL; omega) | exact inL_R (by assumption)) (by first | (unfold inL; omega) | exact inL_R (by assumption))) cs_X12_in lk_X12_134 dX12_isMet_157 rfl rfl rfl ?_
        refine PW.if_eqB 167 dX12_isMet_160 (by decide) (fun h160 => ?_) (fun h160 => ?_)
        · refine PW.iconst dX12_isMet_167 ?_
          refine PW.iret rfl (by first | rfl | exact narB _) dX12_isMet_168 ⟨ret_eq ?_, rfl, rfl⟩
          first
            | (refine (b01_t (metK0 (by omega) ?_)).symm
               unfold sbF
               first
                 | (rw [if_pos (by omega)]; omega)
                 | (rw [if_neg (by omega), ← gtV_in (by omega)]; omega))
            | (refine (b01_f (fun r => ?_)).symm
               have r2 := metK0' (by omega) r
               unfold sbF at r2
               first
                 | (rw [if_pos (by omega)] at r2; omega)
                 | (rw [if_neg (by omega), ← gtV_in (by omega)] at r2; omega))
            | (have hp := u4 (by omega)
               refine (b01_t (metK1 (by omega) ?_)).symm
               rw [← gtV_in (by omega)]
               assumption)
            | (have hp := u4 (by omega)
               refine (b01_f (fun r => ?_)).symm
               have r2 := metK1' (by omega) r
               rw [← gtV_in (by omega)] at r2
               contradiction)
            | (refine (b01_t (metK2 (by omega) (by omega) (by omega) (by omega))).symm
               done)
            | (refine (b01_f (fun r => ?_)).symm
               have r2 := metK2' (by omega) r
               omega)
            | (refine (b01_t (metK3 (by omega) (by omega) (by omega) (by omega))).symm
               done)
            | (refine (b01_f (fun r => ?_)).symm
               have r2 := metK3' (by omega) r
               omega)
          
        · refine PW.iconst dX12_isMet_163 ?_
          refine PW.goto 168 dX12_isMet_164 (by decide) ?_
          refine PW.iret rfl (by first | rfl | exact narB _) dX12_isMet_168 ⟨ret_eq ?_, rfl, rfl⟩
          first
            | (refine (b01_t (metK0 (by omega) ?_)).symm
               unfold sbF
               first
                 | (rw [if_pos (by omega)]; omega)
                 | (rw [if_neg (by omega), ← gtV_in (by omega)]; omega))
            | (refine (b01_f (fun r => ?_)).symm
               have r2 := metK0' (by omega) r
               unfold sbF at r2
               first
                 | (rw [if_pos (by omega)] at r2; omega)
                 | (rw [if_neg (by omega), ← gtV_in (by omega)] at r2; omega))
            | (have hp := u4 (by omega)
               refine (b01_t (metK1 (by omega) ?_)).symm
               rw [← gtV_in (by omega)]
               assumption)
            | (have hp := u4 (by omega)
               refine (b01_f (fun r => ?_)).symm
               have r2 := metK1' (by omega) r
               rw [← gtV_in (by omega)] at r2
               contradiction)
            | (refine (b01_t (metK2 (by omega) (by omega) (by omega) (by omega))).symm
               done)
            | (refine (b01_f (fun r => ?_)).symm
               have r2 := metK2' (by omega) r
               omega)
            | (refine (b01_t (metK3 (by omega) (by omega) (by omega) (by omega))).symm
               done)
            | (refine (b01_f (fun r => ?_)).symm
               have r2 := metK3' (by omega) r
               omega)
          
    · refine PW.tsIn (128) 169 (by first | assumption | (unfold inR; omega) | (have := hgb (skF ((clV (σ (m + 1)) L) (f (5 * i + 1)))); unfold inR; omega) | (have := hgb (f (5 * i + 3)); unfold inR; omega)) dX12_isMet_41 (by omega) (by omega) (by rw [h41]; rfl) (by decide) ?_
      refine PW.aload_n dX12_isMet_169 rfl ?_
      refine PW.iload_n dX12_isMet_170 rfl ?_
      refine PW.iload dX12_isMet_171 rfl ?_
      refine PW.iload_n dX12_isMet_173 rfl ?_
      refine PW.aload_n dX12_isMet_174 rfl ?_
      refine PW.getR fl_X12_70 rfl (by assumption) rfl dX12_isMet_175 ?_
      refine PW.iload_n dX12_isMet_178 rfl ?_
      refine PW.iaload (by assumption) (by unfold inR; omega) (by omega) (by omega) dX12_isMet_179 ?_
      refine PW.top (f (5 * i + 3)) (by exact s3) ?_
      refine PW.if_ne 187 dX12_isMet_180 (by decide) (by first | assumption | (unfold inR; omega) | (have := hgb (skF ((clV (σ (m + 1)) L) (f (5 * i + 1)))); unfold inR; omega) | (have := hgb (f (5 * i + 3)); unfold inR; omega)) (fun h180 => ?_) (fun h180 => ?_)
      · refine PW.bipush (by decide) dX12_isMet_187 ?_
        refine PW.iadd dX12_isMet_189 ?_
        refine PW.callVr (c_X12_topOf hA hC hL (by have := nx_is f i; omega) (by unfold inR; omega)) cv_X12_topOf lk_X12_312 (by first | assumption | exact And.left (by assumption)) dX12_isMet_190 rfl rfl rfl rfl ?_
        first
          | (refine PW.top (toF ((clV (σ (m + 1)) L) (nxF f i)) (f (5 * i + 2))) (by have e := nx_is f i; rw [show f (5 * i + 1) + 1 = nxF f i by omega]) ?_)
          | (refine PW.top (toF ((clV (σ (m + 1)) L) (nxF f i)) (f (5 * i + 2))) (by have e := nx_is f i; rw [show f (5 * i + 1) + 8 = nxF f i by omega]) ?_)
        refine PW.istore [(0, _), (1, _), (2, _), (3, _), (4, _), (5, _), (7, _)] dX12_isMet_193 rfl (Nat.le_of_ble_eq_true rfl) ?_
        refine PW.iload dX12_isMet_195 rfl ?_
        refine PW.bipush (by decide) dX12_isMet_197 ?_
        refine PW.icmp_lt 227 dX12_isMet_199 (by decide) (by first | assumption | (unfold inR; omega) | (have := hgb (skF ((clV (σ (m + 1)) L) (f (5 * i + 1)))); unfold inR; omega) | (have := hgb (f (5 * i + 3)); unfold inR; omega)) (by first | assumption | (unfold inR; omega) | (have := hgb (skF ((clV (σ (m + 1)) L) (f (5 * i + 1)))); unfold inR; omega) | (have := hgb (f (5 * i + 3)); unfold inR; omega)) (fun h199 => ?_) (fun h199 => ?_)
        · refine PW.iconst dX12_isMet_227 ?_
          refine PW.iret rfl (by first | rfl | exact narB _) dX12_isMet_228 ⟨ret_eq ?_, rfl, rfl⟩
          first
            | (refine (b01_t (metK0 (by omega) ?_)).symm
               unfold sbF
               first
                 | (rw [if_pos (by omega)]; omega)
                 | (rw [if_neg (by omega), ← gtV_in (by omega)]; omega))
            | (refine (b01_f (fun r => ?_)).symm
               have r2 := metK0' (by omega) r
               unfold sbF at r2
               first
                 | (rw [if_pos (by omega)] at r2; omega)
                 | (rw [if_neg (by omega), ← gtV_in (by omega)] at r2; omega))
            | (have hp := u4 (by omega)
               refine (b01_t (metK1 (by omega) ?_)).symm
               rw [← gtV_in (by omega)]
               assumption)
            | (have hp := u4 (by omega)
               refine (b01_f (fun r => ?_)).symm
               have r2 := metK1' (by omega) r
               rw [← gtV_in (by omega)] at r2
               contradiction)
            | (refine (b01_t (metK2 (by omega) (by omega) (by omega) (by omega))).symm
               done)
            | (refine (b01_f (fun r => ?_)).symm
               have r2 := metK2' (by omega) r
               omega)
            | (refine (b01_t (metK3 (by omega) (by omega) (by omega) (by omega))).symm
               done)
            | (refine (b01_f (fun r => ?_)).symm
               have r2 := metK3' (by omega) r
               omega)
          
        · refine PW.iload dX12_isMet_202 rfl ?_
          refine PW.bipush (by decide) dX12_isMet_204 ?_
          refine PW.icmp_lt 227 dX12_isMet_206 (by decide) (by first | assumption | (unfold inR; omega) | (have := hgb (skF ((clV (σ (m + 1)) L) (f (5 * i + 1)))); unfold inR; omega) | (have := hgb (f (5 * i + 3)); unfold inR; omega)) (by first | assumption | (unfold inR; omega) | (have := hgb (skF ((clV (σ (m + 1)) L) (f (5 * i + 1)))); unfold inR; omega) | (have := hgb (f (5 * i + 3)); unfold inR; omega)) (fun h206 => ?_) (fun h206 => ?_)
          · refine PW.iconst dX12_isMet_227 ?_
            refine PW.iret rfl (by first | rfl | exact narB _) dX12_isMet_228 ⟨ret_eq ?_, rfl, rfl⟩
            first
              | (refine (b01_t (metK0 (by omega) ?_)).symm
                 unfold sbF
                 first
                   | (rw [if_pos (by omega)]; omega)
                   | (rw [if_neg (by omega), ← gtV_in (by omega)]; omega))
              | (refine (b01_f (fun r => ?_)).symm
                 have r2 := metK0' (by omega) r
                 unfold sbF at r2
                 first
                   | (rw [if_pos (by omega)] at r2; omega)
                   | (rw [if_neg (by omega), ← gtV_in (by omega)] at r2; omega))
              | (have hp := u4 (by omega)
                 refine (b01_t (metK1 (by omega) ?_)).symm
                 rw [← gtV_in (by omega)]
                 assumption)
              | (have hp := u4 (by omega)
                 refine (b01_f (fun r => ?_)).symm
                 have r2 := metK1' (by omega) r
                 rw [← gtV_in (by omega)] at r2
                 contradiction)
              | (refine (b01_t (metK2 (by omega) (by omega) (by omega) (by omega))).symm
                 done)
              | (refine (b01_f (fun r => ?_)).symm
                 have r2 := metK2' (by omega) r
                 omega)
              | (refine (b01_t (metK3 (by omega) (by omega) (by omega) (by omega))).symm
                 done)
              | (refine (b01_f (fun r => ?_)).symm
                 have r2 := metK3' (by omega) r
                 omega)
            
          · refine PW.iload dX12_isMet_209 rfl ?_
            refine PW.iload dX12_isMet_211 rfl ?_
            refine PW.isub dX12_isMet_213 ?_
            refine PW.aload_n dX12_isMet_214 rfl ?_
            refine PW.getR fl_X12_73 rfl (by assumption) rfl dX12_isMet_215 ?_
            refine PW.iload_n dX12_isMet_218 rfl ?_
            refine PW.iaload (by assumption) (by unfold inR; omega) (by omega) (by omega) dX12_isMet_219 ?_
            refine PW.top (f (5 * i + 4)) (by exact s4) ?_
            refine PW.icmp_ne 227 dX12_isMet_220 (by decide) (by first | assumption | (unfold inR; omega) | (have := hgb (skF ((clV (σ (m + 1)) L) (f (5 * i + 1)))); unfold inR; omega) | (have := hgb (f (5 * i + 3)); unfold inR; omega)) (by first | assumption | (unfold inR; omega) | (have := hgb (skF ((clV (σ (m + 1)) L) (f (5 * i + 1)))); unfold inR; omega) | (have := hgb (f (5 * i + 3)); unfold inR; omega)) (fun h220 => ?_) (fun h220 => ?_)
            · refine PW.iconst dX12_isMet_227 ?_
              refine PW.iret rfl (by first | rfl | exact narB _) dX12_isMet_228 ⟨ret_eq ?_, rfl, rfl⟩
              first
                | (refine (b01_t (metK0 (by omega) ?_)).symm
                   unfold sbF
                   first
                     | (rw [if_pos (by omega)]; omega)
                     | (rw [if_neg (by omega), ← gtV_in (by omega)]; omega))
                | (refine (b01_f (fun r => ?_)).symm
                   have r2 := metK0' (by omega) r
                   unfold sbF at r2
                   first
                     | (rw [if_pos (by omega)] at r2; omega)
                     | (rw [if_neg (by omega), ← gtV_in (by omega)] at r2; omega))
                | (have hp := u4 (by omega)
                   refine (b01_t (metK1 (by omega) ?_)).symm
                   rw [← gtV_in (by omega)]
                   assumption)
                | (have hp := u4 (by omega)
                   refine (b01_f (fun r => ?_)).symm
                   have r2 := metK1' (by omega) r
                   rw [← gtV_in (by omega)] at r2
                   contradiction)
                | (refine (b01_t (metK2 (by omega) (by omega) (by omega) (by omega))).symm
                   done)
                | (refine (b01_f (fun r => ?_)).symm
                   have r2 := metK2' (by omega) r
                   omega)
                | (refine (b01_t (metK3 (by omega) (by omega) (by omega) (by omega))).symm
                   done)
                | (refine (b01_f (fun r => ?_)).symm
                   have r2 := metK3' (by omega) r
                   omega)
              
            · refine PW.iconst dX12_isMet_223 ?_
              refine PW.goto 228 dX12_isMet_224 (by decide) ?_
              refine PW.iret rfl (by first | rfl | exact narB _) dX12_isMet_228 ⟨ret_eq ?_, rfl, rfl⟩
              first
                | (refine (b01_t (metK0 (by omega) ?_)).symm
                   unfold sbF
                   first
                     | (rw [if_pos (by omega)]; omega)
                     | (rw [if_neg (by omega), ← gtV_in (by omega)]; omega))
                | (refine (b01_f (fun r => ?_)).symm
                   have r2 := metK0' (by omega) r
                   unfold sbF at r2
                   first
                     | (rw [if_pos (by omega)] at r2; omega)
                     | (rw [if_neg (by omega), ← gtV_in (by omega)] at r2; omega))
                | (have hp := u4 (by omega)
                   refine (b01_t (metK1 (by omega) ?_)).symm
                   rw [← gtV_in (by omega)]
                   assumption)
                | (have hp := u4 (by omega)
                   refine (b01_f (fun r => ?_)).symm
                   have r2 := metK1' (by omega) r
                   rw [← gtV_in (by omega)] at r2
                   contradiction)
                | (refine (b01_t (metK2 (by omega) (by omega) (by omega) (by omega))).symm
                   done)
                | (refine (b01_f (fun r => ?_)).symm
                   have r2 := metK2' (by omega) r
                   omega)
                | (refine (b01_t (metK3 (by omega) (by omega) (by omega) (by omega))).symm
                   done)
                | (refine (b01_f (fun r => ?_)).symm
                   have r2 := metK3' (by omega) r
                   omega)
              
      · refine PW.iconst dX12_isMet_183 ?_
        refine PW.goto 189 dX12_isMet_184 (by decide) ?_
        refine PW.iadd dX12_isMet_189 ?_
        refine PW.callVr (c_X12_topOf hA hC hL (by have := nx_is f i; omega) (by unfold inR; omega)) cv_X12_topOf lk_X12_312 (by first | assumption | exact And.left (by assumption)) dX12_isMet_190 rfl rfl rfl rfl ?_
        first
          | (refine PW.top (toF ((clV (σ (m + 1)) L) (nxF f i)) (f (5 * i + 2))) (by have e := nx_is f i; rw [show f (5 * i + 1) + 1 = nxF f i by omega]) ?_)
          | (refine PW.top (toF ((clV (σ (m + 1)) L) (nxF f i)) (f (5 * i + 2))) (by have e := nx_is f i; rw [show f (5 * i + 1) + 8 = nxF f i by omega]) ?_)
        refine PW.istore [(0, _), (1, _), (2, _), (3, _), (4, _), (5, _), (7, _)] dX12_isMet_193 rfl (Nat.le_of_ble_eq_true rfl) ?_
        refine PW.iload dX12_isMet_195 rfl ?_
        refine PW.bipush (by decide) dX12_isMet_197 ?_
        refine PW.icmp_lt 227 dX12_isMet_199 (by decide) (by first | assumption | (unfold inR; omega) | (have := hgb (skF ((clV (σ (m + 1)) L) (f (5 * i + 1)))); unfold inR; omega) | (have := hgb (f (5 * i + 3)); unfold inR; omega)) (by first | assumption | (unfold inR; omega) | (have := hgb (skF ((clV (σ (m + 1)) L) (f (5 * i + 1)))); unfold inR; omega) | (have := hgb (f (5 * i + 3)); unfold inR; omega)) (fun h199 => ?_) (fun h199 => ?_)
        · refine PW.iconst dX12_isMet_227 ?_
          refine PW.iret rfl (by first | rfl | exact narB _) dX12_isMet_228 ⟨ret_eq ?_, rfl, rfl⟩
          first
            | (refine (b01_t (metK0 (by omega) ?_)).symm
               unfold sbF
               first
                 | (rw [if_pos (by omega)]; omega)
                 | (rw [if_neg (by omega), ← gtV_in (by omega)]; omega))
            | (refine (b01_f (fun r => ?_)).symm
               have r2 := metK0' (by omega) r
               unfold sbF at r2
               first
                 | (rw [if_pos (by omega)] at r2; omega)
                 | (rw [if_neg (by omega), ← gtV_in (by omega)] at r2; omega))
            | (have hp := u4 (by omega)
               refine (b01_t (metK1 (by omega) ?_)).symm
               rw [← gtV_in (by omega)]
               assumption)
            | (have hp := u4 (by omega)
               refine (b01_f (fun r => ?_)).symm
               have r2 := metK1' (by omega) r
               rw [← gtV_in (by omega)] at r2
               contradiction)
            | (refine (b01_t (metK2 (by omega) (by omega) (by omega) (by omega))).symm
               done)
            | (refine (b01_f (fun r => ?_)).symm
               have r2 := metK2' (by omega) r
               omega)
            | (refine (b01_t (metK3 (by omega) (by omega) (by omega) (by omega))).symm
               done)
            | (refine (b01_f (fun r => ?_)).symm
               have r2 := metK3' (by omega) r
               omega)
          
        · refine PW.iload dX12_isMet_202 rfl ?_
          refine PW.bipush (by decide) dX12_isMet_204 ?_
          refine PW.icmp_lt 227 dX12_isMet_206 (by decide) (by first | assumption | (unfold inR; omega) | (have := hgb (skF ((clV (σ (m + 1)) L) (f (5 * i + 1)))); unfold inR; omega) | (have := hgb (f (5 * i + 3)); unfold inR; omega)) (by first | assumption | (unfold inR; omega) | (have := hgb (skF ((clV (σ (m + 1)) L) (f (5 * i + 1)))); unfold inR; omega) | (have := hgb (f (5 * i + 3)); unfold inR; omega)) (fun h206 => ?_) (fun h206 => ?_)
          · refine PW.iconst dX12_isMet_227 ?_
            refine PW.iret rfl (by first | rfl | exact narB _) dX12_isMet_228 ⟨ret_eq ?_, rfl, rfl⟩
            first
              | (refine (b01_t (metK0 (by omega) ?_)).symm
                 unfold sbF
                 first
                   | (rw [if_pos (by omega)]; omega)
                   | (rw [if_neg (by omega), ← gtV_in (by omega)]; omega))
              | (refine (b01_f (fun r => ?_)).symm
                 have r2 := metK0' (by omega) r
                 unfold sbF at r2
                 first
                   | (rw [if_pos (by omega)] at r2; omega)
                   | (rw [if_neg (by omega), ← gtV_in (by omega)] at r2; omega))
              | (have hp := u4 (by omega)
                 refine (b01_t (metK1 (by omega) ?_)).symm
                 rw [← gtV_in (by omega)]
                 assumption)
              | (have hp := u4 (by omega)
                 refine (b01_f (fun r => ?_)).symm
                 have r2 := metK1' (by omega) r
                 rw [← gtV_in (by omega)] at r2
                 contradiction)
              | (refine (b01_t (metK2 (by omega) (by omega) (by omega) (by omega))).symm
                 done)
              | (refine (b01_f (fun r => ?_)).symm
                 have r2 := metK2' (by omega) r
                 omega)
              | (refine (b01_t (metK3 (by omega) (by omega) (by omega) (by omega))).symm
                 done)
              | (refine (b01_f (fun r => ?_)).symm
                 have r2 := metK3' (by omega) r
                 omega)
            
          · refine PW.iload dX12_isMet_209 rfl ?_
            refine PW.iload dX12_isMet_211 rfl ?_
            refine PW.isub dX12_isMet_213 ?_
            refine PW.aload_n dX12_isMet_214 rfl ?_
            refine PW.getR fl_X12_73 rfl (by assumption) rfl dX12_isMet_215 ?_
            refine PW.iload_n dX12_isMet_218 rfl ?_
            refine PW.iaload (by assumption) (by unfold inR; omega) (by omega) (by omega) dX12_isMet_219 ?_
            refine PW.top (f (5 * i + 4)) (by exact s4) ?_
            refine PW.icmp_ne 227 dX12_isMet_220 (by decide) (by first | assumption | (unfold inR; omega) | (have := hgb (skF ((clV (σ (m + 1)) L) (f (5 * i + 1)))); unfold inR; omega) | (have := hgb (f (5 * i + 3)); unfold inR; omega)) (by first | assumption | (unfold inR; omega) | (have := hgb (skF ((clV (σ (m + 1)) L) (f (5 * i + 1)))); unfold inR; omega) | (have := hgb (f (5 * i + 3)); unfold inR; omega)) (fun h220 => ?_) (fun h220 => ?_)
            · refine PW.iconst dX12_isMet_227 ?_
              refine PW.iret rfl (by first | rfl | exact narB _) dX12_isMet_228 ⟨ret_eq ?_, rfl, rfl⟩
              first
                | (refine (b01_t (metK0 (by omega) ?_)).symm
                   unfold sbF
                   first
                     | (rw [if_pos (by omega)]; omega)
                     | (rw [if_neg (by omega), ← gtV_in (by omega)]; omega))
                | (refine (b01_f (fun r => ?_)).symm
                   have r2 := metK0' (by omega) r
                   unfold sbF at r2
                   first
                     | (rw [if_pos (by omega)] at r2; omega)
                     | (rw [if_neg (by omega), ← gtV_in (by omega)] at r2; omega))
                | (have hp := u4 (by omega)
                   refine (b01_t (metK1 (by omega) ?_)).symm
                   rw [← gtV_in (by omega)]
                   assumption)
                | (have hp := u4 (by omega)
                   refine (b01_f (fun r => ?_)).symm
                   have r2 := metK1' (by omega) r
                   rw [← gtV_in (by omega)] at r2
                   contradiction)
                | (refine (b01_t (metK2 (by omega) (by omega) (by omega) (by omega))).symm
                   done)
                | (refine (b01_f (fun r => ?_)).symm
                   have r2 := metK2' (by omega) r
                   omega)
                | (refine (b01_t (metK3 (by omega) (by omega) (by omega) (by omega))).symm
                   done)
                | (refine (b01_f (fun r => ?_)).symm
                   have r2 := metK3' (by omega) r
                   omega)
              
            · refine PW.iconst dX12_isMet_223 ?_
              refine PW.goto 228 dX12_isMet_224 (by decide) ?_
              refine PW.iret rfl (by first | rfl | exact narB _) dX12_isMet_228 ⟨ret_eq ?_, rfl, rfl⟩
              first
                | (refine (b01_t (metK0 (by omega) ?_)).symm
                   unfold sbF
                   first
                     | (rw [if_pos (by omega)]; omega)
                     | (rw [if_neg (by omega), ← gtV_in (by omega)]; omega))
                | (refine (b01_f (fun r => ?_)).symm
                   have r2 := metK0' (by omega) r
                   unfold sbF at r2
                   first
                     | (rw [if_pos (by omega)] at r2; omega)
                     | (rw [if_neg (by omega), ← gtV_in (by omega)] at r2; omega))
                | (have hp := u4 (by omega)
                   refine (b01_t (metK1 (by omega) ?_)).symm
                   rw [← gtV_in (by omega)]
                   assumption)
                | (have hp := u4 (by omega)
                   refine (b01_f (fun r => ?_)).symm
                   have r2 := metK1' (by omega) r
                   rw [← gtV_in (by omega)] at r2
                   contradiction)
                | (refine (b01_t (metK2 (by omega) (by omega) (by omega) (by omega))).symm
                   done)
                | (refine (b01_f (fun r => ?_)).symm
                   have r2 := metK2' (by omega) r
                   omega)
                | (refine (b01_t (metK3 (by omega) (by omega) (by omega) (by omega))).symm
                   done)
                | (refine (b01_f (fun r => ?_)).symm
                   have r2 := metK3' (by omega) r
                   omega)
              
    · refine PW.tsOut 229 (by first | assumption | (unfold inR; omega) | (have := hgb (skF ((clV (σ (m + 1)) L) (f (5 * i + 1)))); unfold inR; omega) | (have := hgb (f (5 * i + 3)); unfold inR; omega)) dX12_isMet_41 (by omega) (by decide) ?_
      refine PW.aload_n dX12_isMet_229 rfl ?_
      refine PW.iload_n dX12_isMet_230 rfl ?_
      refine PW.iload_n dX12_isMet_231 rfl ?_
      refine PW.iload dX12_isMet_232 rfl ?_
      refine PW.aload_n dX12_isMet_234 rfl ?_
      refine PW.getR fl_X12_70 rfl (by assumption) rfl dX12_isMet_235 ?_
      refine PW.iload_n dX12_isMet_238 rfl ?_
      refine PW.iaload (by assumption) (by unfold inR; omega) (by omega) (by omega) dX12_isMet_239 ?_
      refine PW.top (f (5 * i + 3)) (by exact s3) ?_
      refine PW.callVr (c_X12_liesOver hA hC hL (by omega) (by unfold inR; omega) (by assumption)) cv_X12_liesOver lk_X12_355 (by first | assumption | exact And.left (by assumption)) dX12_isMet_240 rfl rfl rfl rfl ?_
      exact PW.iret rfl (narB _) dX12_isMet_243 ⟨ret_eq (b01_congr (metK4 (by omega) u0).symm), rfl, rfl⟩
  · refine PW.bipush (by decide) dX12_isMet_20 ?_
    refine PW.goto 33 dX12_isMet_22 (by decide) ?_
    refine PW.istore [(0, _), (1, _), (2, _), (3, _), (4, _), (5, _)] dX12_isMet_33 rfl (Nat.le_of_ble_eq_true rfl) ?_
    refine PW.aload_n dX12_isMet_35 rfl ?_
    refine PW.getR fl_X12_61 rfl (by assumption) rfl dX12_isMet_36 ?_
    refine PW.iload_n dX12_isMet_39 rfl ?_
    refine PW.iaload (by assumption) (by unfold inR; omega) (by omega) (by omega) dX12_isMet_40 ?_
    refine PW.top (f (5 * i)) (by exact s0) ?_
    rcases (show f (5 * i) = 0 ∨ f (5 * i) = 1 ∨ f (5 * i) = 2 ∨ f (5 * i) = 3 ∨ (f (5 * i) < 0 ∨ 3 < f (5 * i)) by omega) with h41 | h41 | h41 | h41 | h41
    · refine PW.tsIn (31) 72 (by first | assumption | (unfold inR; omega) | (have := hgb (skF ((clV (σ (m + 1)) L) (f (5 * i + 1)))); unfold inR; omega) | (have := hgb (f (5 * i + 3)); unfold inR; omega)) dX12_isMet_41 (by omega) (by omega) (by rw [h41]; rfl) (by decide) ?_
      refine PW.aload_n dX12_isMet_72 rfl ?_
      refine PW.iload_n dX12_isMet_73 rfl ?_
      refine PW.iload_n dX12_isMet_74 rfl ?_
      refine PW.callVr (c_X12_skinOf hA hC hL (by omega)) cv_X12_skinOf lk_X12_155 (by first | assumption | exact And.left (by assumption)) dX12_isMet_75 rfl rfl rfl rfl ?_
      refine PW.istore [(0, _), (1, _), (2, _), (3, _), (4, _), (5, _), (6, _)] dX12_isMet_78 rfl (Nat.le_of_ble_eq_true rfl) ?_
      refine PW.iload dX12_isMet_80 rfl ?_
      refine PW.iload dX12_isMet_82 rfl ?_
      refine PW.bipush (by decide) dX12_isMet_84 ?_
      refine PW.icmp_ge 93 dX12_isMet_86 (by decide) (by first | assumption | (unfold inR; omega) | (have := hgb (skF ((clV (σ (m + 1)) L) (f (5 * i + 1)))); unfold inR; omega) | (have := hgb (f (5 * i + 3)); unfold inR; omega)) (by first | assumption | (unfold inR; omega) | (have := hgb (skF ((clV (σ (m + 1)) L) (f (5 * i + 1)))); unfold inR; omega) | (have := hgb (f (5 * i + 3)); unfold inR; omega)) (fun h86 => ?_) (fun h86 => ?_)
      · refine PW.aload_n dX12_isMet_93 rfl ?_
        refine PW.iload_n dX12_isMet_94 rfl ?_
        refine PW.iload_n dX12_isMet_95 rfl ?_
        refine PW.iload dX12_isMet_96 rfl ?_
        refine PW.callVr (c_X12_get hA hL (by omega) (by omega)) cv_X12_get lk_X12_127 (by first | assumption | exact And.left (by assumption)) dX12_isMet_98 rfl rfl rfl rfl ?_
        refine PW.icmp_ne 108 dX12_isMet_101 (by decide) (by first | assumption | (unfold inR; omega) | (have := hgb (skF ((clV (σ (m + 1)) L) (f (5 * i + 1)))); unfold inR; omega) | (have := hgb (f (5 * i + 3)); unfold inR; omega)) (by first | assumption | (unfold inR; omega) | (have := hgb (skF ((clV (σ (m + 1)) L) (f (5 * i + 1)))); unfold inR; omega) | (have := hgb (f (5 * i + 3)); unfold inR; omega)) (fun h101 => ?_) (fun h101 => ?_)
        · refine PW.iconst dX12_isMet_108 ?_
          refine PW.iret rfl (by first | rfl | exact narB _) dX12_isMet_109 ⟨ret_eq ?_, rfl, rfl⟩
          first
            | (refine (b01_t (metK0 (by omega) ?_)).symm
               unfold sbF
               first
                 | (rw [if_pos (by omega)]; omega)
                 | (rw [if_neg (by omega), ← gtV_in (by omega)]; omega))
            | (refine (b01_f (fun r => ?_)).symm
               have r2 := metK0' (by omega) r
               unfold sbF at r2
               first
                 | (rw [if_pos (by omega)] at r2; omega)
                 | (rw [if_neg (by omega), ← gtV_in (by omega)] at r2; omega))
            | (have hp := u4 (by omega)
               refine (b01_t (metK1 (by omega) ?_)).symm
               rw [← gtV_in (by omega)]
               assumption)
            | (have hp := u4 (by omega)
               refine (b01_f (fun r => ?_)).symm
               have r2 := metK1' (by omega) r
               rw [← gtV_in (by omega)] at r2
               contradiction)
            | (refine (b01_t (metK2 (by omega) (by omega) (by omega) (by omega))).symm
               done)
            | (refine (b01_f (fun r => ?_)).symm
               have r2 := metK2' (by omega) r
               omega)
            | (refine (b01_t (metK3 (by omega) (by omega) (by omega) (by omega))).symm
               done)
            | (refine (b01_f (fun r => ?_)).symm
               have r2 := metK3' (by omega) r
               omega)
          
        · refine PW.iconst dX12_isMet_104 ?_
          refine PW.goto 109 dX12_isMet_105 (by decide) ?_
          refine PW.iret rfl (by first | rfl | exact narB _) dX12_isMet_109 ⟨ret_eq ?_, rfl, rfl⟩
          first
            | (refine (b01_t (metK0 (by omega) ?_)).symm
               unfold sbF
               first
                 | (rw [if_pos (by omega)]; omega)
                 | (rw [if_neg (by omega), ← gtV_in (by omega)]; omega))
            | (refine (b01_f (fun r => ?_)).symm
               have r2 := metK0' (by omega) r
               unfold sbF at r2
               first
                 | (rw [if_pos (by omega)] at r2; omega)
                 | (rw [if_neg (by omega), ← gtV_in (by omega)] at r2; omega))
            | (have hp := u4 (by omega)
               refine (b01_t (metK1 (by omega) ?_)).symm
               rw [← gtV_in (by omega)]
               assumption)
            | (have hp := u4 (by omega)
               refine (b01_f (fun r => ?_)).symm
               have r2 := metK1' (by omega) r
               rw [← gtV_in (by omega)] at r2
               contradiction)
            | (refine (b01_t (metK2 (by omega) (by omega) (by omega) (by omega))).symm
               done)
            | (refine (b01_f (fun r => ?_)).symm
               have r2 := metK2' (by omega) r
               omega)
            | (refine (b01_t (metK3 (by omega) (by omega) (by omega) (by omega))).symm
               done)
            | (refine (b01_f (fun r => ?_)).symm
               have r2 := metK3' (by omega) r
               omega)
          
      · refine PW.iconst dX12_isMet_89 ?_
        refine PW.goto 101 dX12_isMet_90 (by decide) ?_
        refine PW.icmp_ne 108 dX12_isMet_101 (by decide) (by first | assumption | (unfold inR; omega) | (have := hgb (skF ((clV (σ (m + 1)) L) (f (5 * i + 1)))); unfold inR; omega) | (have := hgb (f (5 * i + 3)); unfold inR; omega)) (by first | assumption | (unfold inR; omega) | (have := hgb (skF ((clV (σ (m + 1)) L) (f (5 * i + 1)))); unfold inR; omega) | (have := hgb (f (5 * i + 3)); unfold inR; omega)) (fun h101 => ?_) (fun h101 => ?_)
        · refine PW.iconst dX12_isMet_108 ?_
          refine PW.iret rfl (by first | rfl | exact narB _) dX12_isMet_109 ⟨ret_eq ?_, rfl, rfl⟩
          first
            | (refine (b01_t (metK0 (by omega) ?_)).symm
               unfold sbF
               first
                 | (rw [if_pos (by omega)]; omega)
                 | (rw [if_neg (by omega), ← gtV_in (by omega)]; omega))
            | (refine (b01_f (fun r => ?_)).symm
               have r2 := metK0' (by omega) r
               unfold sbF at r2
               first
                 | (rw [if_pos (by omega)] at r2; omega)
                 | (rw [if_neg (by omega), ← gtV_in (by omega)] at r2; omega))
            | (have hp := u4 (by omega)
               refine (b01_t (metK1 (by omega) ?_)).symm
               rw [← gtV_in (by omega)]
               assumption)
            | (have hp := u4 (by omega)
               refine (b01_f (fun r => ?_)).symm
               have r2 := metK1' (by omega) r
               rw [← gtV_in (by omega)] at r2
               contradiction)
            | (refine (b01_t (metK2 (by omega) (by omega) (by omega) (by omega))).symm
               done)
            | (refine (b01_f (fun r => ?_)).symm
               have r2 := metK2' (by omega) r
               omega)
            | (refine (b01_t (metK3 (by omega) (by omega) (by omega) (by omega))).symm
               done)
            | (refine (b01_f (fun r => ?_)).symm
               have r2 := metK3' (by omega) r
               omega)
          
        · refine PW.iconst dX12_isMet_104 ?_
          refine PW.goto 109 dX12_isMet_105 (by decide) ?_
          refine PW.iret rfl (by first | rfl | exact narB _) dX12_isMet_109 ⟨ret_eq ?_, rfl, rfl⟩
          first
            | (refine (b01_t (metK0 (by omega) ?_)).symm
               unfold sbF
               first
                 | (rw [if_pos (by omega)]; omega)
                 | (rw [if_neg (by omega), ← gtV_in (by omega)]; omega))
            | (refine (b01_f (fun r => ?_)).symm
               have r2 := metK0' (by omega) r
               unfold sbF at r2
               first
                 | (rw [if_pos (by omega)] at r2; omega)
                 | (rw [if_neg (by omega), ← gtV_in (by omega)] at r2; omega))
            | (have hp := u4 (by omega)
               refine (b01_t (metK1 (by omega) ?_)).symm
               rw [← gtV_in (by omega)]
               assumption)
            | (have hp := u4 (by omega)
               refine (b01_f (fun r => ?_)).symm
               have r2 := metK1' (by omega) r
               rw [← gtV_in (by omega)] at r2
               contradiction)
            | (refine (b01_t (metK2 (by omega) (by omega) (by omega) (by omega))).symm
               done)
            | (refine (b01_f (fun r => ?_)).symm
               have r2 := metK2' (by omega) r
               omega)
            | (refine (b01_t (metK3 (by omega) (by omega) (by omega) (by omega))).symm
               done)
            | (refine (b01_f (fun r => ?_)).symm
               have r2 := metK3' (by omega) r
               omega)
          
    · refine PW.tsIn (69) 110 (by first | assumption | (unfold inR; omega) | (have := hgb (skF ((clV (σ (m + 1)) L) (f (5 * i + 1)))); unfold inR; omega) | (have := hgb (f (5 * i + 3)); unfold inR; omega)) dX12_isMet_41 (by omega) (by omega) (by rw [h41]; rfl) (by decide) ?_
      refine PW.aload_n dX12_isMet_110 rfl ?_
      refine PW.iload_n dX12_isMet_111 rfl ?_
      refine PW.iload_n dX12_isMet_112 rfl ?_
      refine PW.aload_n dX12_isMet_113 rfl ?_
      refine PW.getR fl_X12_70 rfl (by assumption) rfl dX12_isMet_114 ?_
      refine PW.iload_n dX12_isMet_117 rfl ?_
      refine PW.iaload (by assumption) (by unfold inR; omega) (by omega) (by omega) dX12_isMet_118 ?_
      refine PW.top (f (5 * i + 3)) (by exact s3) ?_
      refine PW.callVr (c_X12_get hA hL (by omega) (by have := u4 (by omega); omega)) cv_X12_get lk_X12_127 (by first | assumption | exact And.left (by assumption)) dX12_isMet_119 rfl rfl rfl rfl ?_
      refine PW.iload dX12_isMet_122 rfl ?_
      refine PW.icmp_ne 131 dX12_isMet_124 (by decide) (by first | assumption | (unfold inR; omega) | (have := hgb (skF ((clV (σ (m + 1)) L) (f (5 * i + 1)))); unfold inR; omega) | (have := hgb (f (5 * i + 3)); unfold inR; omega)) (by first | assumption | (unfold inR; omega) | (have := hgb (skF ((clV (σ (m + 1)) L) (f (5 * i + 1)))); unfold inR; omega) | (have := hgb (f (5 * i + 3)); unfold inR; omega)) (fun h124 => ?_) (fun h124 => ?_)
      · refine PW.iconst dX12_isMet_131 ?_
        refine PW.iret rfl (by first | rfl | exact narB _) dX12_isMet_132 ⟨ret_eq ?_, rfl, rfl⟩
        first
          | (refine (b01_t (metK0 (by omega) ?_)).symm
             unfold sbF
             first
               | (rw [if_pos (by omega)]; omega)
               | (rw [if_neg (by omega), ← gtV_in (by omega)]; omega))
          | (refine (b01_f (fun r => ?_)).symm
             have r2 := metK0' (by omega) r
             unfold sbF at r2
             first
               | (rw [if_pos (by omega)] at r2; omega)
               | (rw [if_neg (by omega), ← gtV_in (by omega)] at r2; omega))
          | (have hp := u4 (by omega)
             refine (b01_t (metK1 (by omega) ?_)).symm
             rw [← gtV_in (by omega)]
             assumption)
          | (have hp := u4 (by omega)
             refine (b01_f (fun r => ?_)).symm
             have r2 := metK1' (by omega) r
             rw [← gtV_in (by omega)] at r2
             contradiction)
          | (refine (b01_t (metK2 (by omega) (by omega) (by omega) (by omega))).symm
             done)
          | (refine (b01_f (fun r => ?_)).symm
             have r2 := metK2' (by omega) r
             omega)
          | (refine (b01_t (metK3 (by omega) (by omega) (by omega) (by omega))).symm
             done)
          | (refine (b01_f (fun r => ?_)).symm
             have r2 := metK3' (by omega) r
             omega)
        
      · refine PW.iconst dX12_isMet_127 ?_
        refine PW.goto 132 dX12_isMet_128 (by decide) ?_
        refine PW.iret rfl (by first | rfl | exact narB _) dX12_isMet_132 ⟨ret_eq ?_, rfl, rfl⟩
        first
          | (refine (b01_t (metK0 (by omega) ?_)).symm
             unfold sbF
             first
               | (rw [if_pos (by omega)]; omega)
               | (rw [if_neg (by omega), ← gtV_in (by omega)]; omega))
          | (refine (b01_f (fun r => ?_)).symm
             have r2 := metK0' (by omega) r
             unfold sbF at r2
             first
               | (rw [if_pos (by omega)] at r2; omega)
               | (rw [if_neg (by omega), ← gtV_in (by omega)] at r2; omega))
          | (have hp := u4 (by omega)
             refine (b01_t (metK1 (by omega) ?_)).symm
             rw [← gtV_in (by omega)]
             assumption)
          | (have hp := u4 (by omega)
             refine (b01_f (fun r => ?_)).symm
             have r2 := metK1' (by omega) r
             rw [← gtV_in (by omega)] at r2
             contradiction)
          | (refine (b01_t (metK2 (by omega) (by omega) (by omega) (by omega))).symm
             done)
          | (refine (b01_f (fun r => ?_)).symm
             have r2 := metK2' (by omega) r
             omega)
          | (refine (b01_t (metK3 (by omega) (by omega) (by omega) (by omega))).symm
             done)
          | (refine (b01_f (fun r => ?_)).symm
             have r2 := metK3' (by omega) r
             omega)
        
    · refine PW.tsIn (92) 133 (by first | assumption | (unfold inR; omega) | (have := hgb (skF ((clV (σ (m + 1)) L) (f (5 * i + 1)))); unfold inR; omega) | (have := hgb (f (5 * i + 3)); unfold inR; omega)) dX12_isMet_41 (by omega) (by omega) (by rw [h41]; rfl) (by decide) ?_
      refine PW.iload dX12_isMet_133 rfl ?_
      refine PW.bipush (by decide) dX12_isMet_135 ?_
      refine PW.icmp_lt 167 dX12_isMet_137 (by decide) (by first | assumption | (unfold inR; omega) | (have := hgb (skF ((clV (σ (m + 1)) L) (f (5 * i + 1)))); unfold inR; omega) | (have := hgb (f (5 * i + 3)); unfold inR; omega)) (by first | assumption | (unfold inR; omega) | (have := hgb (skF ((clV (σ (m + 1)) L) (f (5 * i + 1)))); unfold inR; omega) | (have := hgb (f (5 * i + 3)); unfold inR; omega)) (fun h137 => ?_) (fun h137 => ?_)
      · refine PW.iconst dX12_isMet_167 ?_
        refine PW.iret rfl (by first | rfl | exact narB _) dX12_isMet_168 ⟨ret_eq ?_, rfl, rfl⟩
        first
          | (refine (b01_t (metK0 (by omega) ?_)).symm
             unfold sbF
             first
               | (rw [if_pos (by omega)]; omega)
               | (rw [if_neg (by omega), ← gtV_in (by omega)]; omega))
          | (refine (b01_f (fun r => ?_)).symm
             have r2 := metK0' (by omega) r
             unfold sbF at r2
             first
               | (rw [if_pos (by omega)] at r2; omega)
               | (rw [if_neg (by omega), ← gtV_in (by omega)] at r2; omega))
          | (have hp := u4 (by omega)
             refine (b01_t (metK1 (by omega) ?_)).symm
             rw [← gtV_in (by omega)]
             assumption)
          | (have hp := u4 (by omega)
             refine (b01_f (fun r => ?_)).symm
             have r2 := metK1' (by omega) r
             rw [← gtV_in (by omega)] at r2
             contradiction)
          | (refine (b01_t (metK2 (by omega) (by omega) (by omega) (by omega))).symm
             done)
          | (refine (b01_f (fun r => ?_)).symm
             have r2 := metK2' (by omega) r
             omega)
          | (refine (b01_t (metK3 (by omega) (by omega) (by omega) (by omega))).symm
             done)
          | (refine (b01_f (fun r => ?_)).symm
             have r2 := metK3' (by omega) r
             omega)
        
      · refine PW.iload dX12_isMet_140 rfl ?_
        refine PW.i2l (by first | assumption | (unfold inR; omega) | (have := hgb (skF ((clV (σ (m + 1)) L) (f (5 * i + 1)))); unfold inR; omega) | (have := hgb (f (5 * i + 3)); unfold inR; omega)) dX12_isMet_142 ?_
        refine PW.aload_n dX12_isMet_143 rfl ?_
        refine PW.getR fl_X12_70 rfl (by assumption) rfl dX12_isMet_144 ?_
        refine PW.iload_n dX12_isMet_147 rfl ?_
        refine PW.iaload (by assumption) (by unfold inR; omega) (by omega) (by omega) dX12_isMet_148 ?_
        refine PW.top (f (5 * i + 3)) (by exact s3) ?_
        refine PW.i2l (by first | assumption | (unfold inR; omega) | (have := hgb (skF ((clV (σ (m + 1)) L) (f (5 * i + 1)))); unfold inR; omega) | (have := hgb (f (5 * i + 3)); unfold inR; omega)) dX12_isMet_149 ?_
        refine PW.aload_n dX12_isMet_150 rfl ?_
        refine PW.getR fl_X12_73 rfl (by assumption) rfl dX12_isMet_151 ?_
        refine PW.iload_n dX12_isMet_154 rfl ?_
        refine PW.iaload (by assumption) (by unfold inR; omega) (by omega) (by omega) dX12_isMet_155 ?_
        refine PW.top (f (5 * i + 4)) (by exact s4) ?_
        refine PW.i2l (by first | assumption | (unfold inR; omega) | (have := hgb (skF ((clV (σ (m + 1)) L) (f (5 * i + 1)))); unfold inR; omega) | (have := hgb (f (5 * i + 3)); unfold inR; omega)) dX12_isMet_156 ?_
        refine PW.callSr (c_X12_in (by first | (unfold inL; omega) | exact inL_R (by assumption)) (by first | (unfold inL; omega) | exact inL_R (by assumption)) (by first | (unfold inL; omega) | exact inL_R (by assumption))) cs_X12_in lk_X12_134 dX12_isMet_157 rfl rfl rfl ?_
        refine PW.if_eqB 167 dX12_isMet_160 (by decide) (fun h160 => ?_) (fun h160 => ?_)
        · refine PW.iconst dX12_isMet_167 ?_
          refine PW.iret rfl (by first | rfl | exact narB _) dX12_isMet_168 ⟨ret_eq ?_, rfl, rfl⟩
          first
            | (refine (b01_t (metK0 (by omega) ?_)).symm
               unfold sbF
               first
                 | (rw [if_pos (by omega)]; omega)
                 | (rw [if_neg (by omega), ← gtV_in (by omega)]; omega))
            | (refine (b01_f (fun r => ?_)).symm
               have r2 := metK0' (by omega) r
               unfold sbF at r2
               first
                 | (rw [if_pos (by omega)] at r2; omega)
                 | (rw [if_neg (by omega), ← gtV_in (by omega)] at r2; omega))
            | (have hp := u4 (by omega)
               refine (b01_t (metK1 (by omega) ?_)).symm
               rw [← gtV_in (by omega)]
               assumption)
            | (have hp := u4 (by omega)
               refine (b01_f (fun r => ?_)).symm
               have r2 := metK1' (by omega) r
               rw [← gtV_in (by omega)] at r2
               contradiction)
            | (refine (b01_t (metK2 (by omega) (by omega) (by omega) (by omega))).symm
               done)
            | (refine (b01_f (fun r => ?_)).symm
               have r2 := metK2' (by omega) r
               omega)
            | (refine (b01_t (metK3 (by omega) (by omega) (by omega) (by omega))).symm
               done)
            | (refine (b01_f (fun r => ?_)).symm
               have r2 := metK3' (by omega) r
               omega)
          
        · refine PW.iconst dX12_isMet_163 ?_
          refine PW.goto 168 dX12_isMet_164 (by decide) ?_
          refine PW.iret rfl (by first | rfl | exact narB _) dX12_isMet_168 ⟨ret_eq ?_, rfl, rfl⟩
          first
            | (refine (b01_t (metK0 (by omega) ?_)).symm
               unfold sbF
               first
                 | (rw [if_pos (by omega)]; omega)
                 | (rw [if_neg (by omega), ← gtV_in (by omega)]; omega))
            | (refine (b01_f (fun r => ?_)).symm
               have r2 := metK0' (by omega) r
               unfold sbF at r2
               first
                 | (rw [if_pos (by omega)] at r2; omega)
                 | (rw [if_neg (by omega), ← gtV_in (by omega)] at r2; omega))
            | (have hp := u4 (by omega)
               refine (b01_t (metK1 (by omega) ?_)).symm
               rw [← gtV_in (by omega)]
               assumption)
            | (have hp := u4 (by omega)
               refine (b01_f (fun r => ?_)).symm
               have r2 := metK1' (by omega) r
               rw [← gtV_in (by omega)] at r2
               contradiction)
            | (refine (b01_t (metK2 (by omega) (by omega) (by omega) (by omega))).symm
               done)
            | (refine (b01_f (fun r => ?_)).symm
               have r2 := metK2' (by omega) r
               omega)
            | (refine (b01_t (metK3 (by omega) (by omega) (by omega) (by omega))).symm
               done)
            | (refine (b01_f (fun r => ?_)).symm
               have r2 := metK3' (by omega) r
               omega)
          
    · refine PW.tsIn (128) 169 (by first | assumption | (unfold inR; omega) | (have := hgb (skF ((clV (σ (m + 1)) L) (f (5 * i + 1)))); unfold inR; omega) | (have := hgb (f (5 * i + 3)); unfold inR; omega)) dX12_isMet_41 (by omega) (by omega) (by rw [h41]; rfl) (by decide) ?_
      refine PW.aload_n dX12_isMet_169 rfl ?_
      refine PW.iload_n dX12_isMet_170 rfl ?_
      refine PW.iload dX12_isMet_171 rfl ?_
      refine PW.iload_n dX12_isMet_173 rfl ?_
      refine PW.aload_n dX12_isMet_174 rfl ?_
      refine PW.getR fl_X12_70 rfl (by assumption) rfl dX12_isMet_175 ?_
      refine PW.iload_n dX12_isMet_178 rfl ?_
      refine PW.iaload (by assumption) (by unfold inR; omega) (by omega) (by omega) dX12_isMet_179 ?_
      refine PW.top (f (5 * i + 3)) (by exact s3) ?_
      refine PW.if_ne 187 dX12_isMet_180 (by decide) (by first | assumption | (unfold inR; omega) | (have := hgb (skF ((clV (σ (m + 1)) L) (f (5 * i + 1)))); unfold inR; omega) | (have := hgb (f (5 * i + 3)); unfold inR; omega)) (fun h180 => ?_) (fun h180 => ?_)
      · refine PW.bipush (by decide) dX12_isMet_187 ?_
        refine PW.iadd dX12_isMet_189 ?_
        refine PW.callVr (c_X12_topOf hA hC hL (by have := nx_is f i; omega) (by unfold inR; omega)) cv_X12_topOf lk_X12_312 (by first | assumption | exact And.left (by assumption)) dX12_isMet_190 rfl rfl rfl rfl ?_
        first
          | (refine PW.top (toF ((clV (σ (m + 1)) L) (nxF f i)) (f (5 * i + 2))) (by have e := nx_is f i; rw [show f (5 * i + 1) + 1 = nxF f i by omega]) ?_)
          | (refine PW.top (toF ((clV (σ (m + 1)) L) (nxF f i)) (f (5 * i + 2))) (by have e := nx_is f i; rw [show f (5 * i + 1) + 8 = nxF f i by omega]) ?_)
        refine PW.istore [(0, _), (1, _), (2, _), (3, _), (4, _), (5, _), (7, _)] dX12_isMet_193 rfl (Nat.le_of_ble_eq_true rfl) ?_
        refine PW.iload dX12_isMet_195 rfl ?_
        refine PW.bipush (by decide) dX12_isMet_197 ?_
        refine PW.icmp_lt 227 dX12_isMet_199 (by decide) (by first | assumption | (unfold inR; omega) | (have := hgb (skF ((clV (σ (m + 1)) L) (f (5 * i + 1)))); unfold inR; omega) | (have := hgb (f (5 * i + 3)); unfold inR; omega)) (by first | assumption | (unfold inR; omega) | (have := hgb (skF ((clV (σ (m + 1)) L) (f (5 * i + 1)))); unfold inR; omega) | (have := hgb (f (5 * i + 3)); unfold inR; omega)) (fun h199 => ?_) (fun h199 => ?_)
        · refine PW.iconst dX12_isMet_227 ?_
          refine PW.iret rfl (by first | rfl | exact narB _) dX12_isMet_228 ⟨ret_eq ?_, rfl, rfl⟩
          first
            | (refine (b01_t (metK0 (by omega) ?_)).symm
               unfold sbF
               first
                 | (rw [if_pos (by omega)]; omega)
                 | (rw [if_neg (by omega), ← gtV_in (by omega)]; omega))
            | (refine (b01_f (fun r => ?_)).symm
               have r2 := metK0' (by omega) r
               unfold sbF at r2
               first
                 | (rw [if_pos (by omega)] at r2; omega)
                 | (rw [if_neg (by omega), ← gtV_in (by omega)] at r2; omega))
            | (have hp := u4 (by omega)
               refine (b01_t (metK1 (by omega) ?_)).symm
               rw [← gtV_in (by omega)]
               assumption)
            | (have hp := u4 (by omega)
               refine (b01_f (fun r => ?_)).symm
               have r2 := metK1' (by omega) r
               rw [← gtV_in (by omega)] at r2
               contradiction)
            | (refine (b01_t (metK2 (by omega) (by omega) (by omega) (by omega))).symm
               done)
            | (refine (b01_f (fun r => ?_)).symm
               have r2 := metK2' (by omega) r
               omega)
            | (refine (b01_t (metK3 (by omega) (by omega) (by omega) (by omega))).symm
               done)
            | (refine (b01_f (fun r => ?_)).symm
               have r2 := metK3' (by omega) r
               omega)
          
        · refine PW.iload dX12_isMet_202 rfl ?_
          refine PW.bipush (by decide) dX12_isMet_204 ?_
          refine PW.icmp_lt 227 dX12_isMet_206 (by decide) (by first | assumption | (unfold inR; omega) | (have := hgb (skF ((clV (σ (m + 1)) L) (f (5 * i + 1)))); unfold inR; omega) | (have := hgb (f (5 * i + 3)); unfold inR; omega)) (by first | assumption | (unfold inR; omega) | (have := hgb (skF ((clV (σ (m + 1)) L) (f (5 * i + 1)))); unfold inR; omega) | (have := hgb (f (5 * i + 3)); unfold inR; omega)) (fun h206 => ?_) (fun h206 => ?_)
          · refine PW.iconst dX12_isMet_227 ?_
            refine PW.iret rfl (by first | rfl | exact narB _) dX12_isMet_228 ⟨ret_eq ?_, rfl, rfl⟩
            first
              | (refine (b01_t (metK0 (by omega) ?_)).symm
                 unfold sbF
                 first
                   | (rw [if_pos (by omega)]; omega)
                   | (rw [if_neg (by omega), ← gtV_in (by omega)]; omega))
              | (refine (b01_f (fun r => ?_)).symm
                 have r2 := metK0' (by omega) r
                 unfold sbF at r2
                 first
                   | (rw [if_pos (by omega)] at r2; omega)
                   | (rw [if_neg (by omega), ← gtV_in (by omega)] at r2; omega))
              | (have hp := u4 (by omega)
                 refine (b01_t (metK1 (by omega) ?_)).symm
                 rw [← gtV_in (by omega)]
                 assumption)
              | (have hp := u4 (by omega)
                 refine (b01_f (fun r => ?_)).symm
                 have r2 := metK1' (by omega) r
                 rw [← gtV_in (by omega)] at r2
                 contradiction)
              | (refine (b01_t (metK2 (by omega) (by omega) (by omega) (by omega))).symm
                 done)
              | (refine (b01_f (fun r => ?_)).symm
                 have r2 := metK2' (by omega) r
                 omega)
              | (refine (b01_t (metK3 (by omega) (by omega) (by omega) (by omega))).symm
                 done)
              | (refine (b01_f (fun r => ?_)).symm
                 have r2 := metK3' (by omega) r
                 omega)
            
          · refine PW.iload dX12_isMet_209 rfl ?_
            refine PW.iload dX12_isMet_211 rfl ?_
            refine PW.isub dX12_isMet_213 ?_
            refine PW.aload_n dX12_isMet_214 rfl ?_
            refine PW.getR fl_X12_73 rfl (by assumption) rfl dX12_isMet_215 ?_
            refine PW.iload_n dX12_isMet_218 rfl ?_
            refine PW.iaload (by assumption) (by unfold inR; omega) (by omega) (by omega) dX12_isMet_219 ?_
            refine PW.top (f (5 * i + 4)) (by exact s4) ?_
            refine PW.icmp_ne 227 dX12_isMet_220 (by decide) (by first | assumption | (unfold inR; omega) | (have := hgb (skF ((clV (σ (m + 1)) L) (f (5 * i + 1)))); unfold inR; omega) | (have := hgb (f (5 * i + 3)); unfold inR; omega)) (by first | assumption | (unfold inR; omega) | (have := hgb (skF ((clV (σ (m + 1)) L) (f (5 * i + 1)))); unfold inR; omega) | (have := hgb (f (5 * i + 3)); unfold inR; omega)) (fun h220 => ?_) (fun h220 => ?_)
            · refine PW.iconst dX12_isMet_227 ?_
              refine PW.iret rfl (by first | rfl | exact narB _) dX12_isMet_228 ⟨ret_eq ?_, rfl, rfl⟩
              first
                | (refine (b01_t (metK0 (by omega) ?_)).symm
                   unfold sbF
                   first
                     | (rw [if_pos (by omega)]; omega)
                     | (rw [if_neg (by omega), ← gtV_in (by omega)]; omega))
                | (refine (b01_f (fun r => ?_)).symm
                   have r2 := metK0' (by omega) r
                   unfold sbF at r2
                   first
                     | (rw [if_pos (by omega)] at r2; omega)
                     | (rw [if_neg (by omega), ← gtV_in (by omega)] at r2; omega))
                | (have hp := u4 (by omega)
                   refine (b01_t (metK1 (by omega) ?_)).symm
                   rw [← gtV_in (by omega)]
                   assumption)
                | (have hp := u4 (by omega)
                   refine (b01_f (fun r => ?_)).symm
                   have r2 := metK1' (by omega) r
                   rw [← gtV_in (by omega)] at r2
                   contradiction)
                | (refine (b01_t (metK2 (by omega) (by omega) (by omega) (by omega))).symm
                   done)
                | (refine (b01_f (fun r => ?_)).symm
                   have r2 := metK2' (by omega) r
                   omega)
                | (refine (b01_t (metK3 (by omega) (by omega) (by omega) (by omega))).symm
                   done)
                | (refine (b01_f (fun r => ?_)).symm
                   have r2 := metK3' (by omega) r
                   omega)
              
            · refine PW.iconst dX12_isMet_223 ?_
              refine PW.goto 228 dX12_isMet_224 (by decide) ?_
              refine PW.iret rfl (by first | rfl | exact narB _) dX12_isMet_228 ⟨ret_eq ?_, rfl, rfl⟩
              first
                | (refine (b01_t (metK0 (by omega) ?_)).symm
                   unfold sbF
                   first
                     | (rw [if_pos (by omega)]; omega)
                     | (rw [if_neg (by omega), ← gtV_in (by omega)]; omega))
                | (refine (b01_f (fun r => ?_)).symm
                   have r2 := metK0' (by omega) r
                   unfold sbF at r2
                   first
                     | (rw [if_pos (by omega)] at r2; omega)
                     | (rw [if_neg (by omega), ← gtV_in (by omega)] at r2; omega))
                | (have hp := u4 (by omega)
                   refine (b01_t (metK1 (by omega) ?_)).symm
                   rw [← gtV_in (by omega)]
                   assumption)
                | (have hp := u4 (by omega)
                   refine (b01_f (fun r => ?_)).symm
                   have r2 := metK1' (by omega) r
                   rw [← gtV_in (by omega)] at r2
                   contradiction)
                | (refine (b01_t (metK2 (by omega) (by omega) (by omega) (by omega))).symm
                   done)
                | (refine (b01_f (fun r => ?_)).symm
                   have r2 := metK2' (by omega) r
                   omega)
                | (refine (b01_t (metK3 (by omega) (by omega) (by omega) (by omega))).symm
                   done)
                | (refine (b01_f (fun r => ?_)).symm
                   have r2 := metK3' (by omega) r
                   omega)
              
      · refine PW.iconst dX12_isMet_183 ?_
        refine PW.goto 189 dX12_isMet_184 (by decide) ?_
        refine PW.iadd dX12_isMet_189 ?_
        refine PW.callVr (c_X12_topOf hA hC hL (by have := nx_is f i; omega) (by unfold inR; omega)) cv_X12_topOf lk_X12_312 (by first | assumption | exact And.left (by assumption)) dX12_isMet_190 rfl rfl rfl rfl ?_
        first
          | (refine PW.top (toF ((clV (σ (m + 1)) L) (nxF f i)) (f (5 * i + 2))) (by have e := nx_is f i; rw [show f (5 * i + 1) + 1 = nxF f i by omega]) ?_)
          | (refine PW.top (toF ((clV (σ (m + 1)) L) (nxF f i)) (f (5 * i + 2))) (by have e := nx_is f i; rw [show f (5 * i + 1) + 8 = nxF f i by omega]) ?_)
        refine PW.istore [(0, _), (1, _), (2, _), (3, _), (4, _), (5, _), (7, _)] dX12_isMet_193 rfl (Nat.le_of_ble_eq_true rfl) ?_
        refine PW.iload dX12_isMet_195 rfl ?_
        refine PW.bipush (by decide) dX12_isMet_197 ?_
        refine PW.icmp_lt 227 dX12_isMet_199 (by decide) (by first | assumption | (unfold inR; omega) | (have := hgb (skF ((clV (σ (m + 1)) L) (f (5 * i + 1)))); unfold inR; omega) | (have := hgb (f (5 * i + 3)); unfold inR; omega)) (by first | assumption | (unfold inR; omega) | (have := hgb (skF ((clV (σ (m + 1)) L) (f (5 * i + 1)))); unfold inR; omega) | (have := hgb (f (5 * i + 3)); unfold inR; omega)) (fun h199 => ?_) (fun h199 => ?_)
        · refine PW.iconst dX12_isMet_227 ?_
          refine PW.iret rfl (by first | rfl | exact narB _) dX12_isMet_228 ⟨ret_eq ?_, rfl, rfl⟩
          first
            | (refine (b01_t (metK0 (by omega) ?_)).symm
               unfold sbF
               first
                 | (rw [if_pos (by omega)]; omega)
                 | (rw [if_neg (by omega), ← gtV_in (by omega)]; omega))
            | (refine (b01_f (fun r => ?_)).symm
               have r2 := metK0' (by omega) r
               unfold sbF at r2
               first
                 | (rw [if_pos (by omega)] at r2; omega)
                 | (rw [if_neg (by omega), ← gtV_in (by omega)] at r2; omega))
            | (have hp := u4 (by omega)
               refine (b01_t (metK1 (by omega) ?_)).symm
               rw [← gtV_in (by omega)]
               assumption)
            | (have hp := u4 (by omega)
               refine (b01_f (fun r => ?_)).symm
               have r2 := metK1' (by omega) r
               rw [← gtV_in (by omega)] at r2
               contradiction)
            | (refine (b01_t (metK2 (by omega) (by omega) (by omega) (by omega))).symm
               done)
            | (refine (b01_f (fun r => ?_)).symm
               have r2 := metK2' (by omega) r
               omega)
            | (refine (b01_t (metK3 (by omega) (by omega) (by omega) (by omega))).symm
               done)
            | (refine (b01_f (fun r => ?_)).symm
               have r2 := metK3' (by omega) r
               omega)
          
        · refine PW.iload dX12_isMet_202 rfl ?_
          refine PW.bipush (by decide) dX12_isMet_204 ?_
          refine PW.icmp_lt 227 dX12_isMet_206 (by decide) (by first | assumption | (unfold inR; omega) | (have := hgb (skF ((clV (σ (m + 1)) L) (f (5 * i + 1)))); unfold inR; omega) | (have := hgb (f (5 * i + 3)); unfold inR; omega)) (by first | assumption | (unfold inR; omega) | (have := hgb (skF ((clV (σ (m + 1)) L) (f (5 * i + 1)))); unfold inR; omega) | (have := hgb (f (5 * i + 3)); unfold inR; omega)) (fun h206 => ?_) (fun h206 => ?_)
          · refine PW.iconst dX12_isMet_227 ?_
            refine PW.iret rfl (by first | rfl | exact narB _) dX12_isMet_228 ⟨ret_eq ?_, rfl, rfl⟩
            first
              | (refine (b01_t (metK0 (by omega) ?_)).symm
                 unfold sbF
                 first
                   | (rw [if_pos (by omega)]; omega)
                   | (rw [if_neg (by omega), ← gtV_in (by omega)]; omega))
              | (refine (b01_f (fun r => ?_)).symm
                 have r2 := metK0' (by omega) r
                 unfold sbF at r2
                 first
                   | (rw [if_pos (by omega)] at r2; omega)
                   | (rw [if_neg (by omega), ← gtV_in (by omega)] at r2; omega))
              | (have hp := u4 (by omega)
                 refine (b01_t (metK1 (by omega) ?_)).symm
                 rw [← gtV_in (by omega)]
                 assumption)
              | (have hp := u4 (by omega)
                 refine (b01_f (fun r => ?_)).symm
                 have r2 := metK1' (by omega) r
                 rw [← gtV_in (by omega)] at r2
                 contradiction)
              | (refine (b01_t (metK2 (by omega) (by omega) (by omega) (by omega))).symm
                 done)
              | (refine (b01_f (fun r => ?_)).symm
                 have r2 := metK2' (by omega) r
                 omega)
              | (refine (b01_t (metK3 (by omega) (by omega) (by omega) (by omega))).symm
                 done)
              | (refine (b01_f (fun r => ?_)).symm
                 have r2 := metK3' (by omega) r
                 omega)
            
          · refine PW.iload dX12_isMet_209 rfl ?_
            refine PW.iload dX12_isMet_211 rfl ?_
            refine PW.isub dX12_isMet_213 ?_
            refine PW.aload_n dX12_isMet_214 rfl ?_
            refine PW.getR fl_X12_73 rfl (by assumption) rfl dX12_isMet_215 ?_
            refine PW.iload_n dX12_isMet_218 rfl ?_
            refine PW.iaload (by assumption) (by unfold inR; omega) (by omega) (by omega) dX12_isMet_219 ?_
            refine PW.top (f (5 * i + 4)) (by exact s4) ?_
            refine PW.icmp_ne 227 dX12_isMet_220 (by decide) (by first | assumption | (unfold inR; omega) | (have := hgb (skF ((clV (σ (m + 1)) L) (f (5 * i + 1)))); unfold inR; omega) | (have := hgb (f (5 * i + 3)); unfold inR; omega)) (by first | assumption | (unfold inR; omega) | (have := hgb (skF ((clV (σ (m + 1)) L) (f (5 * i + 1)))); unfold inR; omega) | (have := hgb (f (5 * i + 3)); unfold inR; omega)) (fun h220 => ?_) (fun h220 => ?_)
            · refine PW.iconst dX12_isMet_227 ?_
              refine PW.iret rfl (by first | rfl | exact narB _) dX12_isMet_228 ⟨ret_eq ?_, rfl, rfl⟩
              first
                | (refine (b01_t (metK0 (by omega) ?_)).symm
                   unfold sbF
                   first
                     | (rw [if_pos (by omega)]; omega)
                     | (rw [if_neg (by omega), ← gtV_in (by omega)]; omega))
                | (refine (b01_f (fun r => ?_)).symm
                   have r2 := metK0' (by omega) r
                   unfold sbF at r2
                   first
                     | (rw [if_pos (by omega)] at r2; omega)
                     | (rw [if_neg (by omega), ← gtV_in (by omega)] at r2; omega))
                | (have hp := u4 (by omega)
                   refine (b01_t (metK1 (by omega) ?_)).symm
                   rw [← gtV_in (by omega)]
                   assumption)
                | (have hp := u4 (by omega)
                   refine (b01_f (fun r => ?_)).symm
                   have r2 := metK1' (by omega) r
                   rw [← gtV_in (by omega)] at r2
                   contradiction)
                | (refine (b01_t (metK2 (by omega) (by omega) (by omega) (by omega))).symm
                   done)
                | (refine (b01_f (fun r => ?_)).symm
                   have r2 := metK2' (by omega) r
                   omega)
                | (refine (b01_t (metK3 (by omega) (by omega) (by omega) (by omega))).symm
                   done)
                | (refine (b01_f (fun r => ?_)).symm
                   have r2 := metK3' (by omega) r
                   omega)
              
            · refine PW.iconst dX12_isMet_223 ?_
              refine PW.goto 228 dX12_isMet_224 (by decide) ?_
              refine PW.iret rfl (by first | rfl | exact narB _) dX12_isMet_228 ⟨ret_eq ?_, rfl, rfl⟩
              first
                | (refine (b01_t (metK0 (by omega) ?_)).symm
                   unfold sbF
                   first
                     | (rw [if_pos (by omega)]; omega)
                     | (rw [if_neg (by omega), ← gtV_in (by omega)]; omega))
                | (refine (b01_f (fun r => ?_)).symm
                   have r2 := metK0' (by omega) r
                   unfold sbF at r2
                   first
                     | (rw [if_pos (by omega)] at r2; omega)
                     | (rw [if_neg (by omega), ← gtV_in (by omega)] at r2; omega))
                | (have hp := u4 (by omega)
                   refine (b01_t (metK1 (by omega) ?_)).symm
                   rw [← gtV_in (by omega)]
                   assumption)
                | (have hp := u4 (by omega)
                   refine (b01_f (fun r => ?_)).symm
                   have r2 := metK1' (by omega) r
                   rw [← gtV_in (by omega)] at r2
                   contradiction)
                | (refine (b01_t (metK2 (by omega) (by omega) (by omega) (by omega))).symm
                   done)
                | (refine (b01_f (fun r => ?_)).symm
                   have r2 := metK2' (by omega) r
                   omega)
                | (refine (b01_t (metK3 (by omega) (by omega) (by omega) (by omega))).symm
                   done)
                | (refine (b01_f (fun r => ?_)).symm
                   have r2 := metK3' (by omega) r
                   omega)
              
    · refine PW.tsOut 229 (by first | assumption | (unfold inR; omega) | (have := hgb (skF ((clV (σ (m + 1)) L) (f (5 * i + 1)))); unfold inR; omega) | (have := hgb (f (5 * i + 3)); unfold inR; omega)) dX12_isMet_41 (by omega) (by decide) ?_
      refine PW.aload_n dX12_isMet_229 rfl ?_
      refine PW.iload_n dX12_isMet_230 rfl ?_
      refine PW.iload_n dX12_isMet_231 rfl ?_
      refine PW.iload dX12_isMet_232 rfl ?_
      refine PW.aload_n dX12_isMet_234 rfl ?_
      refine PW.getR fl_X12_70 rfl (by assumption) rfl dX12_isMet_235 ?_
      refine PW.iload_n dX12_isMet_238 rfl ?_
      refine PW.iaload (by assumption) (by unfold inR; omega) (by omega) (by omega) dX12_isMet_239 ?_
      refine PW.top (f (5 * i + 3)) (by exact s3) ?_
      refine PW.callVr (c_X12_liesOver hA hC hL (by omega) (by unfold inR; omega) (by assumption)) cv_X12_liesOver lk_X12_355 (by first | assumption | exact And.left (by assumption)) dX12_isMet_240 rfl rfl rfl rfl ?_
      exact PW.iret rfl (narB _) dX12_isMet_243 ⟨ret_eq (b01_congr (metK4 (by omega) u0).symm), rfl, rfl⟩

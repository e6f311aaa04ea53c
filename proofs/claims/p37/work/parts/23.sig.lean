def IsSig (S : Shp) (a : Nat) : Prop := At S a (sO 6 [fR (a + 1), fI]) ∧ At S (a + 1) (sA 0 150)
/-- whether these are the numbers of a sight -/
abbrev sgOk (k x y b p q : Int) : Prop := (0 ≤ k ∧ k ≤ 4) ∧ (0 ≤ x ∧ x < 8) ∧ (0 ≤ y ∧ y < 8) ∧ ((0 ≤ b ∧ b < 16) ∨ (b = -1 ∧ k ≤ 1)) ∧ (k = 1 → -40 ≤ p ∧ p ≤ 39) ∧ (k = 2 → (-40 ≤ p ∧ p ≤ 39) ∧ (-40 ≤ q ∧ q ≤ 39) ∧ p ≤ q) ∧ (k = 3 → (p = 0 ∨ p = 1) ∧ (-79 ≤ q ∧ q ≤ 79) ∧ soF p x y < 7) ∧ (k = 4 → 0 ≤ p ∧ p < 16)
/-- a sight that is kept: its column's number stands for the place -/
abbrev sgWf (f : Int → Int) (i : Int) : Prop := (0 ≤ f (5 * i + 1) ∧ f (5 * i + 1) ≤ 63) ∧ (inR (f (5 * i + 3)) ∧ inR (f (5 * i + 4))) ∧ sgOk (f (5 * i)) (f (5 * i + 1) % 8) (f (5 * i + 1) / 8) (f (5 * i + 2)) (f (5 * i + 3)) (f (5 * i + 4))
def sgsOk (σ : Sto) (a : Nat) : Prop := (0 ≤ σ a 1 ∧ σ a 1 ≤ 30) ∧ ∀ i, 0 ≤ i → i < σ a 1 → sgWf (σ (a + 1)) i
def nxF (f : Int → Int) (i : Int) : Int := if f (5 * i) = 3 then f (5 * i + 1) + (if f (5 * i + 3) = 0 then 1 else 8) else f (5 * i + 1)
abbrev metP (k b p q : Int) (here ahead : Int → Int) : Prop := (k = 0 ∧ sbF here = b) ∨ (k = 1 ∧ here (p + 40) = b) ∨ (k = 2 ∧ ¬ toF here b = -41 ∧ p ≤ toF here b ∧ toF here b ≤ q) ∨ (k = 3 ∧ ¬ toF here b = -41 ∧ ¬ toF ahead b = -41 ∧ toF ahead b - toF here b = q) ∨ (k = 4 ∧ lieP here b p)
/-- whether a sight is met by a land -/
abbrev metS (f : Int → Int) (i : Int) (land : Int → Int → Int) : Prop := metP (f (5 * i)) (f (5 * i + 2)) (f (5 * i + 3)) (f (5 * i + 4)) (land (f (5 * i + 1))) (land (nxF f i))
/-- how many of the first i sights are not met -/
def umC (f : Int → Int) (land : Int → Int → Int) (i : Int) : Int := smF (fun j => b01 (¬ metS f j land)) i
def umW (f : Int → Int) (land : Int → Int → Int) (n w : Int) : Int := firI (fun j => decide (¬ metS f j land ∧ umC f land j = w)) n.toNat
theorem umC_b (f : Int → Int) (land : Int → Int → Int) {i : Int} (h : 0 ≤ i) : 0 ≤ umC f land i ∧ umC f land i ≤ i := smF_01 h
theorem umC_s (f : Int → Int) (land : Int → Int → Int) {i : Int} (h : 0 ≤ i) : umC f land (i + 1) = umC f land i + b01 (¬ metS f i land) := smF_s _ h
theorem nxF_b {f : Int → Int} {i : Int} (h : sgWf f i) : 0 ≤ nxF f i ∧ nxF f i ≤ 63 := by
  obtain ⟨h1, -, h2⟩ := h
  unfold nxF
  split
  · next hk =>
    have h3 := h2.2.2.2.2.2.2.1 hk
    unfold soF at h3
    split <;> simp_all <;> omega
  · omega
/-- the land that stands in the columns of a -/
def ldF (σ : Sto) (a : Nat) : Int → Int → Int := fun n => σ (cA a n + 1)
theorem soF_b2 {ax x y : Int} (hx : 0 ≤ x ∧ x < 8) (hy : 0 ≤ y ∧ y < 8) : 0 ≤ soF ax x y ∧ soF ax x y ≤ 7 := by
  unfold soF
  split <;> omega
theorem c_X7_allow {G : GT} {S : Shp} {σ : Sto} {k x y b p q : Int} (rk : inR k) (rx : inR x) (ry : inR y) (rb : inR b) (rp : inR p) (rq : inR q) : PMet G mX7_allow 2 0 0 [.int (iI (k)), .int (iI (x)), .int (iI (y)), .int (iI (b)), .int (iI (p)), .int (iI (q))] S σ (isP (some (.int (iI (b01 (sgOk k x y b p q))))) S σ) := by
  refine PMet.of [(0, .int (iI (k))), (1, .int (iI (x))), (2, .int (iI (y))), (3, .int (iI (b))), (4, .int (iI (p))), (5, .int (iI (q)))] (by decide +kernel) rfl (Nat.le_of_ble_eq_true rfl) ?_
  refine PW.iload_n dX7_allow_0 rfl ?_
  refine PW.if_lt 23 dX7_allow_1 (by decide) (by first | assumption | (unfold inR; omega) | (have := soF_b2 (ax := p) (x := x) (y := y) (by omega) (by omega); unfold inR; omega)) (fun h1 => ?_) (fun h1 => ?_)
  · refine PW.iconst dX7_allow_23 ?_
    exact PW.iret rfl (by first | rfl | exact narB _) dX7_allow_24 ⟨(by first | exact ret_eq (b01_congr (by omega)) | exact ret_eq (b01_t (by omega)).symm | exact ret_eq (b01_f (by omega)).symm), rfl, rfl⟩
  · refine PW.iload_n dX7_allow_4 rfl ?_
    refine PW.iconst dX7_allow_5 ?_
    refine PW.icmp_gt 23 dX7_allow_6 (by decide) (by first | assumption | (unfold inR; omega) | (have := soF_b2 (ax := p) (x := x) (y := y) (by omega) (by omega); unfold inR; omega)) (by first | assumption | (unfold inR; omega) | (have := soF_b2 (ax := p) (x := x) (y := y) (by omega) (by omega); unfold inR; omega)) (fun h6 => ?_) (fun h6 => ?_)
    · refine PW.iconst dX7_allow_23 ?_
      exact PW.iret rfl (by first | rfl | exact narB _) dX7_allow_24 ⟨(by first | exact ret_eq (b01_congr (by omega)) | exact ret_eq (b01_t (by omega)).symm | exact ret_eq (b01_f (by omega)).symm), rfl, rfl⟩
    · refine PW.iload_n dX7_allow_9 rfl ?_
      refine PW.callSr (c_X11_isStep (by first | assumption | (unfold inR; omega))) cs_X11_isStep lk_X7_19 dX7_allow_10 rfl rfl rfl ?_
      refine PW.if_eqB 23 dX7_allow_13 (by decide) (fun h13 => ?_) (fun h13 => ?_)
      · refine PW.iconst dX7_allow_23 ?_
        exact PW.iret rfl (by first | rfl | exact narB _) dX7_allow_24 ⟨(by first | exact ret_eq (b01_congr (by omega)) | exact ret_eq (b01_t (by omega)).symm | exact ret_eq (b01_f (by omega)).symm), rfl, rfl⟩
      · refine PW.iload_n dX7_allow_16 rfl ?_
        refine PW.callSr (c_X11_isStep (by first | assumption | (unfold inR; omega))) cs_X11_isStep lk_X7_19 dX7_allow_17 rfl rfl rfl ?_
        refine PW.if_neB 25 dX7_allow_20 (by decide) (fun h20 => ?_) (fun h20 => ?_)
        · refine PW.iload_n dX7_allow_25 rfl ?_
          refine PW.callSr (c_X11_isBed (by first | assumption | (unfold inR; omega))) cs_X11_isBed lk_X7_23 dX7_allow_26 rfl rfl rfl ?_
          refine PW.if_neB 44 dX7_allow_29 (by decide) (fun h29 => ?_) (fun h29 => ?_)
          · refine PW.iload_n dX7_allow_44 rfl ?_
            rcases (show k = 0 ∨ k = 1 ∨ k = 2 ∨ k = 3 ∨ k = 4 by omega) with h45 | h45 | h45 | h45 | h45
            · refine PW.tsOut 157 (by first | assumption | (unfold inR; omega) | (have := soF_b2 (ax := p) (x := x) (y := y) (by omega) (by omega); unfold inR; omega)) dX7_allow_45 (by omega) (by decide) ?_
              refine PW.iconst dX7_allow_157 ?_
              exact PW.iret rfl (by first | rfl | exact narB _) dX7_allow_158 ⟨(by first | exact ret_eq (b01_congr (by omega)) | exact ret_eq (b01_t (by omega)).symm | exact ret_eq (b01_f (by omega)).symm), rfl, rfl⟩
            · refine PW.tsIn (31) 76 (by first | assumption | (unfold inR; omega) | (have := soF_b2 (ax := p) (x := x) (y := y) (by omega) (by omega); unfold inR; omega)) dX7_allow_45 (by omega) (by omega) (by rw [h45]; rfl) (by decide) ?_
              refine PW.iload dX7_allow_76 rfl ?_
              refine PW.callSr (c_X11_isHeight (by first | assumption | (unfold inR; omega))) cs_X11_isHeight lk_X7_26 dX7_allow_78 rfl rfl rfl ?_
              exact PW.iret rfl (by first | rfl | exact narB _) dX7_allow_81 ⟨(by first | exact ret_eq (b01_congr (by omega)) | exact ret_eq (b01_t (by omega)).symm | exact ret_eq (b01_f (by omega)).symm), rfl, rfl⟩
            · refine PW.tsIn (37) 82 (by first | assumption | (unfold inR; omega) | (have := soF_b2 (ax := p) (x := x) (y := y) (by omega) (by omega); unfold inR; omega)) dX7_allow_45 (by omega) (by omega) (by rw [h45]; rfl) (by decide) ?_
              refine PW.iload dX7_allow_82 rfl ?_
              refine PW.callSr (c_X11_isHeight (by first | assumption | (unfold inR; omega))) cs_X11_isHeight lk_X7_26 dX7_allow_84 rfl rfl rfl ?_
              refine PW.if_eqB 109 dX7_allow_87 (by decide) (fun h87 => ?_) (fun h87 => ?_)
              · refine PW.iconst dX7_allow_109 ?_
                exact PW.iret rfl (by first | rfl | exact narB _) dX7_allow_110 ⟨(by first | exact ret_eq (b01_congr (by omega)) | exact ret_eq (b01_t (by omega)).symm | exact ret_eq (b01_f (by omega)).symm), rfl, rfl⟩
              · refine PW.iload dX7_allow_90 rfl ?_
                refine PW.callSr (c_X11_isHeight (by first | assumption | (unfold inR; omega))) cs_X11_isHeight lk_X7_26 dX7_allow_92 rfl rfl rfl ?_
                refine PW.if_eqB 109 dX7_allow_95 (by decide) (fun h95 => ?_) (fun h95 => ?_)
                · refine PW.iconst dX7_allow_109 ?_
                  exact PW.iret rfl (by first | rfl | exact narB _) dX7_allow_110 ⟨(by first | exact ret_eq (b01_congr (by omega)) | exact ret_eq (b01_t (by omega)).symm | exact ret_eq (b01_f (by omega)).symm), rfl, rfl⟩
                · refine PW.iload dX7_allow_98 rfl ?_
                  refine PW.iload dX7_allow_100 rfl ?_
                  refine PW.icmp_gt 109 dX7_allow_102 (by decide) (by first | assumption | (unfold inR; omega) | (have := soF_b2 (ax := p) (x := x) (y := y) (by omega) (by omega); unfold inR; omega)) (by first | assumption | (unfold inR; omega) | (have := soF_b2 (ax := p) (x := x) (y := y) (by omega) (by omega); unfold inR; omega)) (fun h102 => ?_) (fun h102 => ?_)
                  · refine PW.iconst dX7_allow_109 ?_
                    exact PW.iret rfl (by first | rfl | exact narB _) dX7_allow_110 ⟨(by first | exact ret_eq (b01_congr (by omega)) | exact ret_eq (b01_t (by omega)).symm | exact ret_eq (b01_f (by omega)).symm), rfl, rfl⟩
                  · refine PW.iconst dX7_allow_105 ?_
                    refine PW.goto 110 dX7_allow_106 (by decide) ?_
                    exact PW.iret rfl (by first | rfl | exact narB _) dX7_allow_110 ⟨(by first | exact ret_eq (b01_congr (by omega)) | exact ret_eq (b01_t (by omega)).symm | exact ret_eq (b01_f (by omega)).symm), rfl, rfl⟩
            · refine PW.tsIn (66) 111 (by first | assumption | (unfold inR; omega) | (have := soF_b2 (ax := p) (x := x) (y := y) (by omega) (by omega); unfold inR; omega)) dX7_allow_45 (by omega) (by omega) (by rw [h45]; rfl) (by decide) ?_
              refine PW.iload dX7_allow_111 rfl ?_
              refine PW.callSr (c_X11_isAxis (by first | assumption | (unfold inR; omega))) cs_X11_isAxis lk_X7_29 dX7_allow_113 rfl rfl rfl ?_
              refine PW.if_eqB 149 dX7_allow_116 (by decide) (fun h116 => ?_) (fun h116 => ?_)
              · refine PW.iconst dX7_allow_149 ?_
                exact PW.iret rfl (by first | rfl | exact narB _) dX7_allow_150 ⟨(by first | exact ret_eq (b01_congr (by omega)) | exact ret_eq (b01_t (by omega)).symm | exact ret_eq (b01_f (by omega)).symm), rfl, rfl⟩
              · refine PW.iload dX7_allow_119 rfl ?_
                refine PW.bipush (by decide) dX7_allow_121 ?_
                refine PW.icmp_lt 149 dX7_allow_123 (by decide) (by first | assumption | (unfold inR; omega) | (have := soF_b2 (ax := p) (x := x) (y := y) (by omega) (by omega); unfold inR; omega)) (by first | assumption | (unfold inR; omega) | (have := soF_b2 (ax := p) (x := x) (y := y) (by omega) (by omega); unfold inR; omega)) (fun h123 => ?_) (fun h123 => ?_)
                · refine PW.iconst dX7_allow_149 ?_
                  exact PW.iret rfl (by first | rfl | exact narB _) dX7_allow_150 ⟨(by first | exact ret_eq (b01_congr (by omega)) | exact ret_eq (b01_t (by omega)).symm | exact ret_eq (b01_f (by omega)).symm), rfl, rfl⟩
                · refine PW.iload dX7_allow_126 rfl ?_
                  refine PW.bipush (by decide) dX7_allow_128 ?_
                  refine PW.icmp_gt 149 dX7_allow_130 (by decide) (by first | assumption | (unfold inR; omega) | (have := soF_b2 (ax := p) (x := x) (y := y) (by omega) (by omega); unfold inR; omega)) (by first | assumption | (unfold inR; omega) | (have := soF_b2 (ax := p) (x := x) (y := y) (by omega) (by omega); unfold inR; omega)) (fun h130 => ?_) (fun h130 => ?_)
                  · refine PW.iconst dX7_allow_149 ?_
                    exact PW.iret rfl (by first | rfl | exact narB _) dX7_allow_150 ⟨(by first | exact ret_eq (b01_congr (by omega)) | exact ret_eq (b01_t (by omega)).symm | exact ret_eq (b01_f (by omega)).symm), rfl, rfl⟩
                  · refine PW.iload dX7_allow_133 rfl ?_
                    refine PW.iload_n dX7_allow_135 rfl ?_
                    refine PW.iload_n dX7_allow_136 rfl ?_
                    refine PW.callSr (c_X1_stepOf (by first | assumption | (unfold inR; omega))) cs_X1_stepOf lk_X7_32 dX7_allow_137 rfl rfl rfl ?_
                    refine PW.bipush (by decide) dX7_allow_140 ?_
                    refine PW.icmp_ge 149 dX7_allow_142 (by decide) (by first | assumption | (unfold inR; omega) | (have := soF_b2 (ax := p) (x := x) (y := y) (by omega) (by omega); unfold inR; omega)) (by first | assumption | (unfold inR; omega) | (have := soF_b2 (ax := p) (x := x) (y := y) (by omega) (by omega); unfold inR; omega)) (fun h142 => ?_) (fun h142 => ?_)
                    · refine PW.iconst dX7_allow_149 ?_
                      exact PW.iret rfl (by first | rfl | exact narB _) dX7_allow_150 ⟨(by first | exact ret_eq (b01_congr (by omega)) | exact ret_eq (b01_t (by omega)).symm | exact ret_eq (b01_f (by omega)).symm), rfl, rfl⟩
                    · refine PW.iconst dX7_allow_145 ?_
                      refine PW.goto 150 dX7_allow_146 (by decide) ?_
                      exact PW.iret rfl (by first | rfl | exact narB _) dX7_allow_150 ⟨(by first | exact ret_eq (b01_congr (by omega)) | exact ret_eq (b01_t (by omega)).symm | exact ret_eq (b01_f (by omega)).symm), rfl, rfl⟩
            · refine PW.tsIn (106) 151 (by first | assumption | (unfold inR; omega) | (have := soF_b2 (ax := p) (x := x) (y := y) (by omega) (by omega); unfold inR; omega)) dX7_allow_45 (by omega) (by omega) (by rw [h45]; rfl) (by decide) ?_
              refine PW.iload dX7_allow_151 rfl ?_
              refine PW.callSr (c_X11_isBed (by first | assumption | (unfold inR; omega))) cs_X11_isBed lk_X7_23 dX7_allow_153 rfl rfl rfl ?_
              exact PW.iret rfl (by first | rfl | exact narB _) dX7_allow_156 ⟨(by first | exact ret_eq (b01_congr (by omega)) | exact ret_eq (b01_t (by omega)).symm | exact ret_eq (b01_f (by omega)).symm), rfl, rfl⟩
          · refine PW.iload_n dX7_allow_32 rfl ?_
            refine PW.iconst dX7_allow_33 ?_
            refine PW.icmp_ne 42 dX7_allow_34 (by decide) (by first | assumption | (unfold inR; omega) | (have := soF_b2 (ax := p) (x := x) (y := y) (by omega) (by omega); unfold inR; omega)) (by first | assumption | (unfold inR; omega) | (have := soF_b2 (ax := p) (x := x) (y := y) (by omega) (by omega); unfold inR; omega)) (fun h34 => ?_) (fun h34 => ?_)
            · refine PW.iconst dX7_allow_42 ?_
              exact PW.iret rfl (by first | rfl | exact narB _) dX7_allow_43 ⟨(by first | exact ret_eq (b01_congr (by omega)) | exact ret_eq (b01_t (by omega)).symm | exact ret_eq (b01_f (by omega)).symm), rfl, rfl⟩
            · refine PW.iload_n dX7_allow_37 rfl ?_
              refine PW.iconst dX7_allow_38 ?_
              refine PW.icmp_le 44 dX7_allow_39 (by decide) (by first | assumption | (unfold inR; omega) | (have := soF_b2 (ax := p) (x := x) (y := y) (by omega) (by omega); unfold inR; omega)) (by first | assumption | (unfold inR; omega) | (have := soF_b2 (ax := p) (x := x) (y := y) (by omega) (by omega); unfold inR; omega)) (fun h39 => ?_) (fun h39 => ?_)
              · refine PW.iload_n dX7_allow_44 rfl ?_
                rcases (show k = 0 ∨ k = 1 ∨ k = 2 ∨ k = 3 ∨ k = 4 by omega) with h45 | h45 | h45 | h45 | h45
                · refine PW.tsOut 157 (by first | assumption | (unfold inR; omega) | (have := soF_b2 (ax := p) (x := x) (y := y) (by omega) (by omega); unfold inR; omega)) dX7_allow_45 (by omega) (by decide) ?_
                  refine PW.iconst dX7_allow_157 ?_
                  exact PW.iret rfl (by first | rfl | exact narB _) dX7_allow_158 ⟨(by first | exact ret_eq (b01_congr (by omega)) | exact ret_eq (b01_t (by omega)).symm | exact ret_eq (b01_f (by omega)).symm), rfl, rfl⟩
                · refine PW.tsIn (31) 76 (by first | assumption | (unfold inR; omega) | (have := soF_b2 (ax := p) (x := x) (y := y) (by omega) (by omega); unfold inR; omega)) dX7_allow_45 (by omega) (by omega) (by rw [h45]; rfl) (by decide) ?_
                  refine PW.iload dX7_allow_76 rfl ?_
                  refine PW.callSr (c_X11_isHeight (by first | assumption | (unfold inR; omega))) cs_X11_isHeight lk_X7_26 dX7_allow_78 rfl rfl rfl ?_
                  exact PW.iret rfl (by first | rfl | exact narB _) dX7_allow_81 ⟨(by first | exact ret_eq (b01_congr (by omega)) | exact ret_eq (b01_t (by omega)).symm | exact ret_eq (b01_f (by omega)).symm), rfl, rfl⟩
                · refine PW.tsIn (37) 82 (by first | assumption | (unfold inR; omega) | (have := soF_b2 (ax := p) (x := x) (y := y) (by omega) (by omega); unfold inR; omega)) dX7_allow_45 (by omega) (by omega) (by rw [h45]; rfl) (by decide) ?_
                  refine PW.iload dX7_allow_82 rfl ?_
                  refine PW.callSr (c_X11_isHeight (by first | assumption | (unfold inR; omega))) cs_X11_isHeight lk_X7_26 dX7_allow_84 rfl rfl rfl ?_
                  refine PW.if_eqB 109 dX7_allow_87 (by decide) (fun h87 => ?_) (fun h87 => ?_)
                  · refine PW.iconst dX7_allow_109 ?_
                    exact PW.iret rfl (by first | rfl | exact narB _) dX7_allow_110 ⟨(by first | exact ret_eq (b01_congr (by omega)) | exact ret_eq (b01_t (by omega)).symm | exact ret_eq (b01_f (by omega)).symm), rfl, rfl⟩
                  · refine PW.iload dX7_allow_90 rfl ?_
                    refine PW.callSr (c_X11_isHeight (by first | assumption | (unfold inR; omega))) cs_X11_isHeight lk_X7_26 dX7_allow_92 rfl rfl rfl ?_
                    refine PW.if_eqB 109 dX7_allow_95 (by decide) (fun h95 => ?_) (fun h95 => ?_)
                    · refine PW.iconst dX7_allow_109 ?_
                      exact PW.iret rfl (by first | rfl | exact narB _) dX7_allow_110 ⟨(by first | exact ret_eq (b01_congr (by omega)) | exact ret_eq (b01_t (by omega)).symm | exact ret_eq (b01_f (by omega)).symm), rfl, rfl⟩
                    · refine PW.iload dX7_allow_98 rfl ?_
                      refine PW.iload dX7_allow_100 rfl ?_
                      refine PW.icmp_gt 109 dX7_allow_102 (by decide) (by first | assumption | (unfold inR; omega) | (have := soF_b2 (ax := p) (x := x) (y := y) (by omega) (by omega); unfold inR; omega)) (by first | assumption | (unfold inR; omega) | (have := soF_b2 (ax := p) (x := x) (y := y) (by omega) (by omega); unfold inR; omega)) (fun h102 => ?_) (fun h102 => ?_)
                      · refine PW.iconst dX7_allow_109 ?_
                        exact PW.iret rfl (by first | rfl | exact narB _) dX7_allow_110 ⟨(by first | exact ret_eq (b01_congr (by omega)) | exact ret_eq (b01_t (by omega)).symm | exact ret_eq (b01_f (by omega)).symm), rfl, rfl⟩
                      · refine PW.iconst dX7_allow_105 ?_
                        refine PW.goto 110 dX7_allow_106 (by decide) ?_
                        exact PW.iret rfl (by first | rfl | exact narB _) dX7_allow_110 ⟨(by first | exact ret_eq (b01_congr (by omega)) | exact ret_eq (b01_t (by omega)).symm | exact ret_eq (b01_f (by omega)).symm), rfl, rfl⟩
                · refine PW.tsIn (66) 111 (by first | assumption | (unfold inR; omega) | (have := soF_b2 (ax := p) (x := x) (y := y) (by omega) (by omega); unfold inR; omega)) dX7_allow_45 (by omega) (by omega) (by rw [h45]; rfl) (by decide) ?_
                  refine PW.iload dX7_allow_111 rfl ?_
                  refine PW.callSr (c_X11_isAxis (by first | assumption | (unfold inR; omega))) cs_X11_isAxis lk_X7_29 dX7_allow_113 rfl rfl rfl ?_
                  refine PW.if_eqB 149 dX7_allow_116 (by decide) (fun h116 => ?_) (fun h116 => ?_)
                  · refine PW.iconst dX7_allow_149 ?_
                    exact PW.iret rfl (by first | rfl | exact narB _) dX7_allow_150 ⟨(by first | exact ret_eq (b01_congr (by omega)) | exact ret_eq (b01_t (by omega)).symm | exact ret_eq (b01_f (by omega)).symm), rfl, rfl⟩
                  · refine PW.iload dX7_allow_119 rfl ?_
                    refine PW.bipush (by decide) dX7_allow_121 ?_
                    refine PW.icmp_lt 149 dX7_allow_123 (by decide) (by first | assumption | (unfold inR; omega) | (have := soF_b2 (ax := p) (x := x) (y := y) (by omega) (by omega); unfold inR; omega)) (by first | assumption | (unfold inR; omega) | (have := soF_b2 (ax := p) (x := x) (y := y) (by omega) (by omega); unfold inR; omega)) (fun h123 => ?_) (fun h123 => ?_)
                    · refine PW.iconst dX7_allow_149 ?_
                      exact PW.iret rfl (by first | rfl | exact narB _) dX7_allow_150 ⟨(by first | exact ret_eq (b01_congr (by omega)) | exact ret_eq (b01_t (by omega)).symm | exact ret_eq (b01_f (by omega)).symm), rfl, rfl⟩
                    · refine PW.iload dX7_allow_126 rfl ?_
                      refine PW.bipush (by decide) dX7_allow_128 ?_
                      refine PW.icmp_gt 149 dX7_allow_130 (by decide) (by first | assumption | (unfold inR; omega) | (have := soF_b2 (ax := p) (x := x) (y := y) (by omega) (by omega); unfold inR; omega)) (by first | assumption | (unfold inR; omega) | (have := soF_b2 (ax := p) (x := x) (y := y) (by omega) (by omega); unfold inR; omega)) (fun h130 => ?_) (fun h130 => ?_)
                      · refine PW.iconst dX7_allow_149 ?_
                        exact PW.iret rfl (by first | rfl | exact narB _) dX7_allow_150 ⟨(by first | exact ret_eq (b01_congr (by omega)) | exact ret_eq (b01_t (by omega)).symm | exact ret_eq (b01_f (by omega)).symm), rfl, rfl⟩
                      · refine PW.iload dX7_allow_133 rfl ?_
                        refine PW.iload_n dX7_allow_135 rfl ?_
                        refine PW.iload_n dX7_allow_136 rfl ?_
                        refine PW.callSr (c_X1_stepOf (by first | assumption | (unfold inR; omega))) cs_X1_stepOf lk_X7_32 dX7_allow_137 rfl rfl rfl ?_
                        refine PW.bipush (by decide) dX7_allow_140 ?_
                        refine PW.icmp_ge 149 dX7_allow_142 (by decide) (by first | assumption | (unfold inR; omega) | (have := soF_b2 (ax := p) (x := x) (y := y) (by omega) (by omega); unfold inR; omega)) (by first | assumption | (unfold inR; omega) | (have := soF_b2 (ax := p) (x := x) (y := y) (by omega) (by omega); unfold inR; omega)) (fun h142 => ?_) (fun h142 => ?_)
                        · refine PW.iconst dX7_allow_149 ?_
                          exact PW.iret rfl (by first | rfl | exact narB _) dX7_allow_150 ⟨(by first | exact ret_eq (b01_congr (by omega)) | exact ret_eq (b01_t (by omega)).symm | exact ret_eq (b01_f (by omega)).symm), rfl, rfl⟩
                        · refine PW.iconst dX7_allow_145 ?_
                          refine PW.goto 150 dX7_allow_146 (by decide) ?_
                          exact PW.iret rfl (by first | rfl | exact narB _) dX7_allow_150 ⟨(by first | exact ret_eq (b01_congr (by omega)) | exact ret_eq (b01_t (by omega)).symm | exact ret_eq (b01_f (by omega)).symm), rfl, rfl⟩
                · refine PW.tsIn (106) 151 (by first | assumption | (unfold inR; omega) | (have := soF_b2 (ax := p) (x := x) (y := y) (by omega) (by omega); unfold inR; omega)) dX7_allow_45 (by omega) (by omega) (by rw [h45]; rfl) (by decide) ?_
                  refine PW.iload dX7_allow_151 rfl ?_
                  refine PW.callSr (c_X11_isBed (by first | assumption | (unfold inR; omega))) cs_X11_isBed lk_X7_23 dX7_allow_153 rfl rfl rfl ?_
                  exact PW.iret rfl (by first | rfl | exact narB _) dX7_allow_156 ⟨(by first | exact ret_eq (b01_congr (by omega)) | exact ret_eq (b01_t (by omega)).symm | exact ret_eq (b01_f (by omega)).symm), rfl, rfl⟩
              · refine PW.iconst dX7_allow_42 ?_
                exact PW.iret rfl (by first | rfl | exact narB _) dX7_allow_43 ⟨(by first | exact ret_eq (b01_congr (by omega)) | exact ret_eq (b01_t (by omega)).symm | exact ret_eq (b01_f (by omega)).symm), rfl, rfl⟩
        · refine PW.iconst dX7_allow_23 ?_
          exact PW.iret rfl (by first | rfl | exact narB _) dX7_allow_24 ⟨(by first | exact ret_eq (b01_congr (by omega)) | exact ret_eq (b01_t (by omega)).symm | exact ret_eq (b01_f (by omega)).symm), rfl, rfl⟩
theorem c_X7_size {G : GT} {S : Shp} {σ : Sto} {a : Nat} (hA : IsSig S a) : PMet G mX7_size 0 0 0 [.ref a] S σ (isP (some (.int (iI (σ a 1)))) S (σ)) := by
  obtain ⟨hA0, hA1⟩ := id hA
  refine PMet.of [(0, .ref a)] (by decide +kernel) rfl (Nat.le_of_ble_eq_true rfl) ?_
  refine PW.aload_n dX7_size_0 rfl ?_
  refine PW.getI 1 fl_X7_15 rfl (by assumption) rfl rfl dX7_size_1 ?_
  exact PW.iret rfl rfl dX7_size_4 ⟨rfl, rfl, rfl⟩
-- (not here: c_X7_has)
theorem c_X7_kind {G : GT} {S : Shp} {σ : Sto} {a : Nat} {i : Int} (hA : IsSig S a) (hi : 0 ≤ i ∧ i ≤ 29) : PMet G mX7_kind 1 0 0 [.ref a, .int (iI (i))] S σ (isP (some (.int (iI (σ (a + 1) (5 * i))))) S (σ)) := by
  obtain ⟨hA0, hA1⟩ := id hA
  refine PMet.of [(0, .ref a), (1, .int (iI (i)))] (by decide +kernel) rfl (Nat.le_of_ble_eq_true rfl) ?_
  refine PW.aload_n dX7_kind_0 rfl ?_
  refine PW.getR fl_X7_11 rfl (by assumption) rfl dX7_kind_1 ?_
  refine PW.iload_n dX7_kind_4 rfl ?_
  refine PW.iconst dX7_kind_5 ?_
  refine PW.imul dX7_kind_6 ?_
  refine PW.callSr (c_X11_get (by assumption) (by first | assumption | (unfold inR; omega)) (by decide)) cs_X11_get lk_X7_50 dX7_kind_7 rfl rfl rfl ?_
  exact PW.iret rfl rfl dX7_kind_10 ⟨ret_eq (by unfold gI; rw [if_pos (by omega)] <;> first | rfl | (congr 1; omega)), rfl, rfl⟩
theorem c_X7_column {G : GT} {S : Shp} {σ : Sto} {a : Nat} {i : Int} (hA : IsSig S a) (hi : 0 ≤ i ∧ i ≤ 29) : PMet G mX7_column 1 0 0 [.ref a, .int (iI (i))] S σ (isP (some (.int (iI (σ (a + 1) (5 * i + 1))))) S (σ)) := by
  obtain ⟨hA0, hA1⟩ := id hA
  refine PMet.of [(0, .ref a), (1, .int (iI (i)))] (by decide +kernel) rfl (Nat.le_of_ble_eq_true rfl) ?_
  refine PW.aload_n dX7_column_0 rfl ?_
  refine PW.getR fl_X7_11 rfl (by assumption) rfl dX7_column_1 ?_
  refine PW.iload_n dX7_column_4 rfl ?_
  refine PW.iconst dX7_column_5 ?_
  refine PW.imul dX7_column_6 ?_
  refine PW.iconst dX7_column_7 ?_
  refine PW.iadd dX7_column_8 ?_
  refine PW.callSr (c_X11_get (by assumption) (by first | assumption | (unfold inR; omega)) (by decide)) cs_X11_get lk_X7_50 dX7_column_9 rfl rfl rfl ?_
  exact PW.iret rfl rfl dX7_column_12 ⟨ret_eq (by unfold gI; rw [if_pos (by omega)] <;> first | rfl | (congr 1; omega)), rfl, rfl⟩
theorem c_X7_bed {G : GT} {S : Shp} {σ : Sto} {a : Nat} {i : Int} (hA : IsSig S a) (hi : 0 ≤ i ∧ i ≤ 29) : PMet G mX7_bed 1 0 0 [.ref a, .int (iI (i))] S σ (isP (some (.int (iI (σ (a + 1) (5 * i + 2))))) S (σ)) := by
  obtain ⟨hA0, hA1⟩ := id hA
  refine PMet.of [(0, .ref a), (1, .int (iI (i)))] (by decide +kernel) rfl (Nat.le_of_ble_eq_true rfl) ?_
  refine PW.aload_n dX7_bed_0 rfl ?_
  refine PW.getR fl_X7_11 rfl (by assumption) rfl dX7_bed_1 ?_
  refine PW.iload_n dX7_bed_4 rfl ?_
  refine PW.iconst dX7_bed_5 ?_
  refine PW.imul dX7_bed_6 ?_
  refine PW.iconst dX7_bed_7 ?_
  refine PW.iadd dX7_bed_8 ?_
  refine PW.callSr (c_X11_get (by assumption) (by first | assumption | (unfold inR; omega)) (by decide)) cs_X11_get lk_X7_50 dX7_bed_9 rfl rfl rfl ?_
  exact PW.iret rfl rfl dX7_bed_12 ⟨ret_eq (by unfold gI; rw [if_pos (by omega)] <;> first | rfl | (congr 1; omega)), rfl, rfl⟩
theorem c_X7_p {G : GT} {S : Shp} {σ : Sto} {a : Nat} {i : Int} (hA : IsSig S a) (hi : 0 ≤ i ∧ i ≤ 29) : PMet G mX7_p 1 0 0 [.ref a, .int (iI (i))] S σ (isP (some (.int (iI (σ (a + 1) (5 * i + 3))))) S (σ)) := by
  obtain ⟨hA0, hA1⟩ := id hA
  refine PMet.of [(0, .ref a), (1, .int (iI (i)))] (by decide +kernel) rfl (Nat.le_of_ble_eq_true rfl) ?_
  refine PW.aload_n dX7_p_0 rfl ?_
  refine PW.getR fl_X7_11 rfl (by assumption) rfl dX7_p_1 ?_
  refine PW.iload_n dX7_p_4 rfl ?_
  refine PW.iconst dX7_p_5 ?_
  refine PW.imul dX7_p_6 ?_
  refine PW.iconst dX7_p_7 ?_
  refine PW.iadd dX7_p_8 ?_
  refine PW.callSr (c_X11_get (by assumption) (by first | assumption | (unfold inR; omega)) (by decide)) cs_X11_get lk_X7_50 dX7_p_9 rfl rfl rfl ?_
  exact PW.iret rfl rfl dX7_p_12 ⟨ret_eq (by unfold gI; rw [if_pos (by omega)] <;> first | rfl | (congr 1; omega)), rfl, rfl⟩
theorem c_X7_q {G : GT} {S : Shp} {σ : Sto} {a : Nat} {i : Int} (hA : IsSig S a) (hi : 0 ≤ i ∧ i ≤ 29) : PMet G mX7_q 1 0 0 [.ref a, .int (iI (i))] S σ (isP (some (.int (iI (σ (a + 1) (5 * i + 4))))) S (σ)) := by
  obtain ⟨hA0, hA1⟩ := id hA
  refine PMet.of [(0, .ref a), (1, .int (iI (i)))] (by decide +kernel) rfl (Nat.le_of_ble_eq_true rfl) ?_
  refine PW.aload_n dX7_q_0 rfl ?_
  refine PW.getR fl_X7_11 rfl (by assumption) rfl dX7_q_1 ?_
  refine PW.iload_n dX7_q_4 rfl ?_
  refine PW.iconst dX7_q_5 ?_
  refine PW.imul dX7_q_6 ?_
  refine PW.iconst dX7_q_7 ?_
  refine PW.iadd dX7_q_8 ?_
  refine PW.callSr (c_X11_get (by assumption) (by first | assumption | (unfold inR; omega)) (by decide)) cs_X11_get lk_X7_50 dX7_q_9 rfl rfl rfl ?_
  exact PW.iret rfl rfl dX7_q_12 ⟨ret_eq (by unfold gI; rw [if_pos (by omega)] <;> first | rfl | (congr 1; omega)), rfl, rfl⟩
theorem c_X7_isDip {G : GT} {S : Shp} {σ : Sto} {a : Nat} {i : Int} (hA : IsSig S a) (hi : 0 ≤ i ∧ i ≤ 29) (hw : sgWf (σ (a + 1)) i) : PMet G mX7_isDip 2 0 0 [.ref a, .int (iI (i))] S σ (isP (some (.int (iI (b01 (σ (a + 1) (5 * i) = 3))))) S (σ)) := by
  obtain ⟨hA0, hA1⟩ := id hA
  have hk := hw.2.2.1
  refine PMet.of [(0, .ref a), (1, .int (iI (i)))] (by decide +kernel) rfl (Nat.le_of_ble_eq_true rfl) ?_
  refine PW.aload_n dX7_isDip_0 rfl ?_
  refine PW.iload_n dX7_isDip_1 rfl ?_
  refine PW.callVr (c_X7_kind (by assumption) (by omega)) cv_X7_kind lk_X7_54 (by first | assumption | exact And.left (by assumption)) dX7_isDip_2 rfl rfl rfl rfl ?_
  refine PW.iconst dX7_isDip_5 ?_
  refine PW.icmp_ne 13 dX7_isDip_6 (by decide) (by first | assumption | (unfold inR; omega)) (by first | assumption | (unfold inR; omega)) (fun h6 => ?_) (fun h6 => ?_)
  · refine PW.iconst dX7_isDip_13 ?_
    exact PW.iret rfl (by first | rfl | exact narB _) dX7_isDip_14 ⟨ret_eq (by unfold b01; first | (exfalso; omega) | rw [if_pos (by omega)] | rw [if_neg (by omega)]), rfl, rfl⟩
  · refine PW.iconst dX7_isDip_9 ?_
    refine PW.goto 14 dX7_isDip_10 (by decide) ?_
    exact PW.iret rfl (by first | rfl | exact narB _) dX7_isDip_14 ⟨ret_eq (by unfold b01; first | (exfalso; omega) | rw [if_pos (by omega)] | rw [if_neg (by omega)]), rfl, rfl⟩
theorem c_X7_nextColumn {G : GT} {S : Shp} {σ : Sto} {a : Nat} {i : Int} (hA : IsSig S a) (hi : 0 ≤ i ∧ i ≤ 29) (hw : sgWf (σ (a + 1)) i) : PMet G mX7_nextColumn 3 0 0 [.ref a, .int (iI (i))] S σ (isP (some (.int (iI (nxF (σ (a + 1)) i)))) S (σ)) := by
  obtain ⟨hA0, hA1⟩ := id hA
  have hk := hw.2.2.1
  have hp := hw.2.1.1
  refine PMet.of [(0, .ref a), (1, .int (iI (i)))] (by decide +kernel) rfl (Nat.le_of_ble_eq_true rfl) ?_
  refine PW.aload_n dX7_nextColumn_0 rfl ?_
  refine PW.iload_n dX7_nextColumn_1 rfl ?_
  refine PW.callVr (c_X7_isDip (by assumption) (by omega) (by assumption)) cv_X7_isDip lk_X7_58 (by first | assumption | exact And.left (by assumption)) dX7_nextColumn_2 rfl rfl rfl rfl ?_
  refine PW.if_neB 14 dX7_nextColumn_5 (by decide) (fun h5 => ?_) (fun h5 => ?_)
  · refine PW.aload_n dX7_nextColumn_14 rfl ?_
    refine PW.iload_n dX7_nextColumn_15 rfl ?_
    refine PW.callVr (c_X7_column (by assumption) (by omega)) cv_X7_column lk_X7_61 (by first | assumption | exact And.left (by assumption)) dX7_nextColumn_16 rfl rfl rfl rfl ?_
    refine PW.aload_n dX7_nextColumn_19 rfl ?_
    refine PW.iload_n dX7_nextColumn_20 rfl ?_
    refine PW.callVr (c_X7_p (by assumption) (by omega)) cv_X7_p lk_X7_64 (by first | assumption | exact And.left (by assumption)) dX7_nextColumn_21 rfl rfl rfl rfl ?_
    refine PW.if_ne 31 dX7_nextColumn_24 (by decide) (by first | assumption | (unfold inR; omega)) (fun h24 => ?_) (fun h24 => ?_)
    · refine PW.bipush (by decide) dX7_nextColumn_31 ?_
      refine PW.iadd dX7_nextColumn_33 ?_
      exact PW.iret rfl rfl dX7_nextColumn_34 ⟨ret_eq (by unfold nxF; first | rw [if_neg (by assumption)] | (rw [if_pos (by assumption)]; first | rw [if_neg (by assumption)] | rw [if_pos (by assumption)])), rfl, rfl⟩
    · refine PW.iconst dX7_nextColumn_27 ?_
      refine PW.goto 33 dX7_nextColumn_28 (by decide) ?_
      refine PW.iadd dX7_nextColumn_33 ?_
      exact PW.iret rfl rfl dX7_nextColumn_34 ⟨ret_eq (by unfold nxF; first | rw [if_neg (by assumption)] | (rw [if_pos (by assumption)]; first | rw [if_neg (by assumption)] | rw [if_pos (by assumption)])), rfl, rfl⟩
  · refine PW.aload_n dX7_nextColumn_8 rfl ?_
    refine PW.iload_n dX7_nextColumn_9 rfl ?_
    refine PW.callVr (c_X7_column (by assumption) (by omega)) cv_X7_column lk_X7_61 (by first | assumption | exact And.left (by assumption)) dX7_nextColumn_10 rfl rfl rfl rfl ?_
    exact PW.iret rfl rfl dX7_nextColumn_13 ⟨ret_eq (by unfold nxF; first | rw [if_neg (by assumption)] | (rw [if_pos (by assumption)]; first | rw [if_neg (by assumption)] | rw [if_pos (by assumption)])), rfl, rfl⟩
-- (not here: c_X7_shorten)
def sgF (f : Int → Int) (n k c b p q : Int) : Int → Int := fun j => if j = 5 * n then k else if j = 5 * n + 1 then c else if j = 5 * n + 2 then b else if j = 5 * n + 3 then p else if j = 5 * n + 4 then q else f j
theorem c_X7_add {G : GT} {S : Shp} {σ : Sto} {a : Nat} {n k x y b p q : Int} (hA : IsSig S a) (hn : σ a 1 = n) (h0 : 0 ≤ n ∧ n ≤ 29) : PMet G mX7_add 1 0 0 [.ref a, .int (iI (k)), .int (iI (x)), .int (iI (y)), .int (iI (b)), .int (iI (p)), .int (iI (q))] S σ (isP none S (upS (upS σ (a + 1) (sgF (σ (a + 1)) n k (8 * y + x) b p q)) a (up1 (σ a) 1 (n + 1)))) := by
  obtain ⟨hA0, hA1⟩ := id hA
  refine PMet.of [(0, .ref a), (1, .int (iI (k))), (2, .int (iI (x))), (3, .int (iI (y))), (4, .int (iI (b))), (5, .int (iI (p))), (6, .int (iI (q)))] (by decide +kernel) rfl (Nat.le_of_ble_eq_true rfl) ?_
  refine PW.aload_n dX7_add_0 rfl ?_
  refine PW.getI 1 fl_X7_15 rfl (by assumption) rfl rfl dX7_add_1 ?_
  refine PW.top n hn ?_
  refine PW.bipush (by decide) dX7_add_4 ?_
  refine PW.icmp_lt 10 dX7_add_6 (by decide) (by first | assumption | (unfold inR; omega)) (by first | assumption | (unfold inR; omega)) (fun h6 => ?_) (fun h6 => ?_)
  · refine PW.aload_n dX7_add_10 rfl ?_
    refine PW.getI 1 fl_X7_15 rfl (by assumption) rfl rfl dX7_add_11 ?_
    refine PW.top n hn ?_
    refine PW.iconst dX7_add_14 ?_
    refine PW.imul dX7_add_15 ?_
    refine PW.istore [(0, _), (1, _), (2, _), (3, _), (4, _), (5, _), (6, _), (7, _)] dX7_add_16 rfl (Nat.le_of_ble_eq_true rfl) ?_
    refine PW.aload_n dX7_add_18 rfl ?_
    refine PW.getR fl_X7_11 rfl (by assumption) rfl dX7_add_19 ?_
    refine PW.iload dX7_add_22 rfl ?_
    refine PW.iload_n dX7_add_24 rfl ?_
    refine PW.callSv (c_X11_put (by assumption) (by first | assumption | (unfold inR; omega)) (by decide)) cs_X11_put lk_X7_42 dX7_add_25 rfl rfl rfl ?_
    refine PW.st (upS σ (a + 1) (up1 (σ (a + 1)) (n * 5) (k))) (by rw [if_pos (by omega)] <;> simp only [upS_upS, upS_same]) ?_
    refine PW.aload_n dX7_add_28 rfl ?_
    refine PW.getR fl_X7_11 rfl (by assumption) rfl dX7_add_29 ?_
    refine PW.iload dX7_add_32 rfl ?_
    refine PW.iconst dX7_add_34 ?_
    refine PW.iadd dX7_add_35 ?_
    refine PW.iload_n dX7_add_36 rfl ?_
    refine PW.iload_n dX7_add_37 rfl ?_
    refine PW.callSr (c_X11_columnNumber) cs_X11_columnNumber lk_X7_46 dX7_add_38 rfl rfl rfl ?_
    refine PW.callSv (c_X11_put (by assumption) (by first | assumption | (unfold inR; omega)) (by decide)) cs_X11_put lk_X7_42 dX7_add_41 rfl rfl rfl ?_
    refine PW.st (upS σ (a + 1) (up1 (up1 (σ (a + 1)) (n * 5) (k)) (n * 5 + 1) (8 * y + x))) (by rw [if_pos (by omega)] <;> simp only [upS_upS, upS_same]) ?_
    refine PW.aload_n dX7_add_44 rfl ?_
    refine PW.getR fl_X7_11 rfl (by assumption) rfl dX7_add_45 ?_
    refine PW.iload dX7_add_48 rfl ?_
    refine PW.iconst dX7_add_50 ?_
    refine PW.iadd dX7_add_51 ?_
    refine PW.iload dX7_add_52 rfl ?_
    refine PW.callSv (c_X11_put (by assumption) (by first | assumption | (unfold inR; omega)) (by decide)) cs_X11_put lk_X7_42 dX7_add_54 rfl rfl rfl ?_
    refine PW.st (upS σ (a + 1) (up1 (up1 (up1 (σ (a + 1)) (n * 5) (k)) (n * 5 + 1) (8 * y + x)) (n * 5 + 2) (b))) (by rw [if_pos (by omega)] <;> simp only [upS_upS, upS_same]) ?_
    refine PW.aload_n dX7_add_57 rfl ?_
    refine PW.getR fl_X7_11 rfl (by assumption) rfl dX7_add_58 ?_
    refine PW.iload dX7_add_61 rfl ?_
    refine PW.iconst dX7_add_63 ?_
    refine PW.iadd dX7_add_64 ?_
    refine PW.iload dX7_add_65 rfl ?_
    refine PW.callSv (c_X11_put (by assumption) (by first | assumption | (unfold inR; omega)) (by decide)) cs_X11_put lk_X7_42 dX7_add_67 rfl rfl rfl ?_
    refine PW.st (upS σ (a + 1) (up1 (up1 (up1 (up1 (σ (a + 1)) (n * 5) (k)) (n * 5 + 1) (8 * y + x)) (n * 5 + 2) (b)) (n * 5 + 3) (p))) (by rw [if_pos (by omega)] <;> simp only [upS_upS, upS_same]) ?_
    refine PW.aload_n dX7_add_70 rfl ?_
    refine PW.getR fl_X7_11 rfl (by assumption) rfl dX7_add_71 ?_
    refine PW.iload dX7_add_74 rfl ?_
    refine PW.iconst dX7_add_76 ?_
    refine PW.iadd dX7_add_77 ?_
    refine PW.iload dX7_add_78 rfl ?_
    refine PW.callSv (c_X11_put (by assumption) (by first | assumption | (unfold inR; omega)) (by decide)) cs_X11_put lk_X7_42 dX7_add_80 rfl rfl rfl ?_
    refine PW.st (upS σ (a + 1) (up1 (up1 (up1 (up1 (up1 (σ (a + 1)) (n * 5) (k)) (n * 5 + 1) (8 * y + x)) (n * 5 + 2) (b)) (n * 5 + 3) (p)) (n * 5 + 4) (q))) (by rw [if_pos (by omega)] <;> simp only [upS_upS, upS_same]) ?_
    refine PW.aload_n dX7_add_83 rfl ?_
    refine PW.dup rfl dX7_add_84 ?_
    refine PW.getI 1 fl_X7_15 rfl (by assumption) rfl rfl dX7_add_85 ?_
    refine PW.top n (by rw [upS_ne (show a ≠ a + 1 by omega)]; exact hn) ?_
    refine PW.iconst dX7_add_88 ?_
    refine PW.iadd dX7_add_89 ?_
    refine PW.putI 1 fl_X7_15 rfl (fun h => absurd h (by decide)) (by assumption) rfl rfl rfl rfl dX7_add_90 ?_
    refine PW.vret rfl dX7_add_93 ⟨rfl, rfl, ?_⟩
    rw [upS_ne (show a ≠ a + 1 by omega)]
    refine congrArg (fun z => upS (upS σ (a + 1) z) a (up1 (σ a) 1 (n + 1))) ?_
    funext j
    simp only [up1, sgF]
    grind
  · omega
theorem c_X7_isDipMet {G : GT} {S : Shp} {σ : Sto} {u v q : Int} (ru : -41 ≤ u ∧ u ≤ 39) (rv : -41 ≤ v ∧ v ≤ 39) (rq : inR q) : PMet G mX7_isDipMet 0 0 0 [.int (iI (u)), .int (iI (v)), .int (iI (q))] S σ (isP (some (.int (iI (b01 (¬ u = -41 ∧ ¬ v = -41 ∧ v - u = q))))) S σ) := by
  refine PMet.of [(0, .int (iI (u))), (1, .int (iI (v))), (2, .int (iI (q)))] (by decide +kernel) rfl (Nat.le_of_ble_eq_true rfl) ?_
  refine PW.iload_n dX7_isDipMet_0 rfl ?_
  refine PW.bipush (by decide) dX7_isDipMet_1 ?_
  refine PW.icmp_eq 23 dX7_isDipMet_3 (by decide) (by first | assumption | (unfold inR; omega)) (by first | assumption | (unfold inR; omega)) (fun h3 => ?_) (fun h3 => ?_)
  · refine PW.iconst dX7_isDipMet_23 ?_
    exact PW.iret rfl (by first | rfl | exact narB _) dX7_isDipMet_24 ⟨ret_eq (by unfold b01; first | (exfalso; omega) | rw [if_pos (by omega)] | rw [if_neg (by omega)]), rfl, rfl⟩
  · refine PW.iload_n dX7_isDipMet_6 rfl ?_
    refine PW.bipush (by decide) dX7_isDipMet_7 ?_
    refine PW.icmp_eq 23 dX7_isDipMet_9 (by decide) (by first | assumption | (unfold inR; omega)) (by first | assumption | (unfold inR; omega)) (fun h9 => ?_) (fun h9 => ?_)
    · refine PW.iconst dX7_isDipMet_23 ?_
      exact PW.iret rfl (by first | rfl | exact narB _) dX7_isDipMet_24 ⟨ret_eq (by unfold b01; first | (exfalso; omega) | rw [if_pos (by omega)] | rw [if_neg (by omega)]), rfl, rfl⟩
    · refine PW.iload_n dX7_isDipMet_12 rfl ?_
      refine PW.iload_n dX7_isDipMet_13 rfl ?_
      refine PW.isub dX7_isDipMet_14 ?_
      refine PW.iload_n dX7_isDipMet_15 rfl ?_
      refine PW.icmp_ne 23 dX7_isDipMet_16 (by decide) (by first | assumption | (unfold inR; omega)) (by first | assumption | (unfold inR; omega)) (fun h16 => ?_) (fun h16 => ?_)
      · refine PW.iconst dX7_isDipMet_23 ?_
        exact PW.iret rfl (by first | rfl | exact narB _) dX7_isDipMet_24 ⟨ret_eq (by unfold b01; first | (exfalso; omega) | rw [if_pos (by omega)] | rw [if_neg (by omega)]), rfl, rfl⟩
      · refine PW.iconst dX7_isDipMet_19 ?_
        refine PW.goto 24 dX7_isDipMet_20 (by decide) ?_
        exact PW.iret rfl (by first | rfl | exact narB _) dX7_isDipMet_24 ⟨ret_eq (by unfold b01; first | (exfalso; omega) | rw [if_pos (by omega)] | rw [if_neg (by omega)]), rfl, rfl⟩
theorem c_X7_isMet {G : GT} {S : Shp} {σ : Sto} {a c e : Nat} {i : Int} (hA : IsSig S a) (hi : 0 ≤ i ∧ i ≤ 29) (hw : sgWf (σ (a + 1)) i) (hC : IsCol S c) (hD : IsCol S e) (ok1 : colOk (σ (c + 1))) (ok2 : colOk (σ (e + 1))) : PMet G mX7_isMet 3 0 0 [.ref a, .int (iI (i)), .ref c, .ref e] S σ (isP (some (.int (iI (b01 (metP (σ (a + 1) (5 * i)) (σ (a + 1) (5 * i + 2)) (σ (a + 1) (5 * i + 3)) (σ (a + 1) (5 * i + 4)) (σ (c + 1)) (σ (e + 1))))))) S (σ)) := by
  obtain ⟨hA0, hA1⟩ := id hA
  obtain ⟨hcl, ⟨rp, rq⟩, hk, hx, hy, hb, g1, g2, g3, g4⟩ := id hw
  have t1 := toF_b (σ (c + 1)) (σ (a + 1) (5 * i + 2))
  have t2 := toF_b (σ (e + 1)) (σ (a + 1) (5 * i + 2))
  have t3 := sbF_b ok1
  refine PMet.of [(0, .ref a), (1, .int (iI (i))), (2, .ref c), (3, .ref e)] (by decide +kernel) rfl (Nat.le_of_ble_eq_true rfl) ?_
  refine PW.aload_n dX7_isMet_0 rfl ?_
  refine PW.ifnull dX7_isMet_1 ?_
  refine PW.aload_n dX7_isMet_4 rfl ?_
  refine PW.ifnonnull 10 dX7_isMet_5 (by decide) ?_
  refine PW.aload_n dX7_isMet_10 rfl ?_
  refine PW.iload_n dX7_isMet_11 rfl ?_
  refine PW.callVr (c_X7_bed (by assumption) (by omega)) cv_X7_bed lk_X7_67 (by first | assumption | exact And.left (by assumption)) dX7_isMet_12 rfl rfl rfl rfl ?_
  refine PW.istore [(0, _), (1, _), (2, _), (3, _), (4, _)] dX7_isMet_15 rfl (Nat.le_of_ble_eq_true rfl) ?_
  refine PW.aload_n dX7_isMet_17 rfl ?_
  refine PW.iload_n dX7_isMet_18 rfl ?_
  refine PW.callVr (c_X7_p (by assumption) (by omega)) cv_X7_p lk_X7_64 (by first | assumption | exact And.left (by assumption)) dX7_isMet_19 rfl rfl rfl rfl ?_
  refine PW.istore [(0, _), (1, _), (2, _), (3, _), (4, _), (5, _)] dX7_isMet_22 rfl (Nat.le_of_ble_eq_true rfl) ?_
  refine PW.aload_n dX7_isMet_24 rfl ?_
  refine PW.iload_n dX7_isMet_25 rfl ?_
  refine PW.callVr (c_X7_q (by assumption) (by omega)) cv_X7_q lk_X7_70 (by first | assumption | exact And.left (by assumption)) dX7_isMet_26 rfl rfl rfl rfl ?_
  refine PW.istore [(0, _), (1, _), (2, _), (3, _), (4, _), (5, _), (6, _)] dX7_isMet_29 rfl (Nat.le_of_ble_eq_true rfl) ?_
  refine PW.aload_n dX7_isMet_31 rfl ?_
  refine PW.iload_n dX7_isMet_32 rfl ?_
  refine PW.callVr (c_X7_kind (by assumption) (by omega)) cv_X7_kind lk_X7_54 (by first | assumption | exact And.left (by assumption)) dX7_isMet_33 rfl rfl rfl rfl ?_
  rcases (show σ (a + 1) (5 * i) = 0 ∨ σ (a + 1) (5 * i) = 1 ∨ σ (a + 1) (5 * i) = 2 ∨ σ (a + 1) (5 * i) = 3 ∨ σ (a + 1) (5 * i) = 4 by omega) with h36 | h36 | h36 | h36 | h36
  · refine PW.tsIn (32) 68 (by first | assumption | (unfold inR; omega) | (have := ok1 (σ (a + 1) (5 * i + 3) + 40) (by omega) (by omega); unfold inR; omega)) dX7_isMet_36 (by omega) (by omega) (by rw [h36]; rfl) (by decide) ?_
    refine PW.aload_n dX7_isMet_68 rfl ?_
    refine PW.callVr (c_X1_skinBed (by assumption) (by assumption)) cv_X1_skinBed lk_X7_73 (by first | assumption | exact And.left (by assumption)) dX7_isMet_69 rfl rfl rfl rfl ?_
    refine PW.iload dX7_isMet_72 rfl ?_
    refine PW.icmp_ne 81 dX7_isMet_74 (by decide) (by first | assumption | (unfold inR; omega) | (have := ok1 (σ (a + 1) (5 * i + 3) + 40) (by omega) (by omega); unfold inR; omega)) (by first | assumption | (unfold inR; omega) | (have := ok1 (σ (a + 1) (5 * i + 3) + 40) (by omega) (by omega); unfold inR; omega)) (fun h74 => ?_) (fun h74 => ?_)
    · refine PW.iconst dX7_isMet_81 ?_
      refine PW.iret rfl (by first | rfl | exact narB _) dX7_isMet_82 ⟨?_, rfl, rfl⟩
      first
        | exact ret_eq (b01_t (P := metP (σ (a + 1) (5 * i)) (σ (a + 1) (5 * i + 2)) (σ (a + 1) (5 * i + 3)) (σ (a + 1) (5 * i + 4)) (σ (c + 1)) (σ (e + 1))) (Or.inl (⟨h36, by assumption⟩))).symm
        | (refine ret_eq (b01_f (P := metP (σ (a + 1) (5 * i)) (σ (a + 1) (5 * i + 2)) (σ (a + 1) (5 * i + 3)) (σ (a + 1) (5 * i + 4)) (σ (c + 1)) (σ (e + 1))) fun hm => ?_).symm
           rcases hm with q | q | q | q | q
           · exact absurd q.2 (by assumption)
           · have := q.1; omega
           · have := q.1; omega
           · have := q.1; omega
           · have := q.1; omega)
    · refine PW.iconst dX7_isMet_77 ?_
      refine PW.goto 82 dX7_isMet_78 (by decide) ?_
      refine PW.iret rfl (by first | rfl | exact narB _) dX7_isMet_82 ⟨?_, rfl, rfl⟩
      first
        | exact ret_eq (b01_t (P := metP (σ (a + 1) (5 * i)) (σ (a + 1) (5 * i + 2)) (σ (a + 1) (5 * i + 3)) (σ (a + 1) (5 * i + 4)) (σ (c + 1)) (σ (e + 1))) (Or.inl (⟨h36, by assumption⟩))).symm
        | (refine ret_eq (b01_f (P := metP (σ (a + 1) (5 * i)) (σ (a + 1) (5 * i + 2)) (σ (a + 1) (5 * i + 3)) (σ (a + 1) (5 * i + 4)) (σ (c + 1)) (σ (e + 1))) fun hm => ?_).symm
           rcases hm with q | q | q | q | q
           · exact absurd q.2 (by assumption)
           · have := q.1; omega
           · have := q.1; omega
           · have := q.1; omega
           · have := q.1; omega)
  · refine PW.tsIn (47) 83 (by first | assumption | (unfold inR; omega) | (have := ok1 (σ (a + 1) (5 * i + 3) + 40) (by omega) (by omega); unfold inR; omega)) dX7_isMet_36 (by omega) (by omega) (by rw [h36]; rfl) (by decide) ?_
    refine PW.aload_n dX7_isMet_83 rfl ?_
    refine PW.iload dX7_isMet_84 rfl ?_
    refine PW.callVr (c_X1_bedAt (by assumption) (by omega)) cv_X1_bedAt lk_X7_77 (by first | assumption | exact And.left (by assumption)) dX7_isMet_86 rfl rfl rfl rfl ?_
    refine PW.iload dX7_isMet_89 rfl ?_
    refine PW.icmp_ne 98 dX7_isMet_91 (by decide) (by first | assumption | (unfold inR; omega) | (have := ok1 (σ (a + 1) (5 * i + 3) + 40) (by omega) (by omega); unfold inR; omega)) (by first | assumption | (unfold inR; omega) | (have := ok1 (σ (a + 1) (5 * i + 3) + 40) (by omega) (by omega); unfold inR; omega)) (fun h91 => ?_) (fun h91 => ?_)
    · refine PW.iconst dX7_isMet_98 ?_
      refine PW.iret rfl (by first | rfl | exact narB _) dX7_isMet_99 ⟨?_, rfl, rfl⟩
      first
        | exact ret_eq (b01_t (P := metP (σ (a + 1) (5 * i)) (σ (a + 1) (5 * i + 2)) (σ (a + 1) (5 * i + 3)) (σ (a + 1) (5 * i + 4)) (σ (c + 1)) (σ (e + 1))) (Or.inr (Or.inl (⟨h36, by assumption⟩)))).symm
        | (refine ret_eq (b01_f (P := metP (σ (a + 1) (5 * i)) (σ (a + 1) (5 * i + 2)) (σ (a + 1) (5 * i + 3)) (σ (a + 1) (5 * i + 4)) (σ (c + 1)) (σ (e + 1))) fun hm => ?_).symm
           rcases hm with q | q | q | q | q
           · have := q.1; omega
           · exact absurd q.2 (by assumption)
           · have := q.1; omega
           · have := q.1; omega
           · have := q.1; omega)
    · refine PW.iconst dX7_isMet_94 ?_
      refine PW.goto 99 dX7_isMet_95 (by decide) ?_
      refine PW.iret rfl (by first | rfl | exact narB _) dX7_isMet_99 ⟨?_, rfl, rfl⟩
      first
        | exact ret_eq (b01_t (P := metP (σ (a + 1) (5 * i)) (σ (a + 1) (5 * i + 2)) (σ (a + 1) (5 * i + 3)) (σ (a + 1) (5 * i + 4)) (σ (c + 1)) (σ (e + 1))) (Or.inr (Or.inl (⟨h36, by assumption⟩)))).symm
        | (refine ret_eq (b01_f (P := metP (σ (a + 1) (5 * i)) (σ (a + 1) (5 * i + 2)) (σ (a + 1) (5 * i + 3)) (σ (a + 1) (5 * i + 4)) (σ (c + 1)) (σ (e + 1))) fun hm => ?_).symm
           rcases hm with q | q | q | q | q
           · have := q.1; omega
           · exact absurd q.2 (by assumption)
           · have := q.1; omega
           · have := q.1; omega
           · have := q.1; omega)
  · refine PW.tsIn (64) 100 (by first | assumption | (unfold inR; omega) | (have := ok1 (σ (a + 1) (5 * i + 3) + 40) (by omega) (by omega); unfold inR; omega)) dX7_isMet_36 (by omega) (by omega) (by rw [h36]; rfl) (by decide) ?_
    refine PW.aload_n dX7_isMet_100 rfl ?_
    refine PW.iload dX7_isMet_101 rfl ?_
    refine PW.callVr (c_X1_topOf (by assumption) (by assumption) (by first | assumption | (unfold inR; omega))) cv_X1_topOf lk_X7_80 (by first | assumption | exact And.left (by assumption)) dX7_isMet_103 rfl rfl rfl rfl ?_
    refine PW.bipush (by decide) dX7_isMet_106 ?_
    refine PW.icmp_eq 137 dX7_isMet_108 (by decide) (by first | assumption | (unfold inR; omega) | (have := ok1 (σ (a + 1) (5 * i + 3) + 40) (by omega) (by omega); unfold inR; omega)) (by first | assumption | (unfold inR; omega) | (have := ok1 (σ (a + 1) (5 * i + 3) + 40) (by omega) (by omega); unfold inR; omega)) (fun h108 => ?_) (fun h108 => ?_)
    · refine PW.iconst dX7_isMet_137 ?_
      refine PW.iret rfl (by first | rfl | exact narB _) dX7_isMet_138 ⟨?_, rfl, rfl⟩
      first
        | exact ret_eq (b01_t (P := metP (σ (a + 1) (5 * i)) (σ (a + 1) (5 * i + 2)) (σ (a + 1) (5 * i + 3)) (σ (a + 1) (5 * i + 4)) (σ (c + 1)) (σ (e + 1))) (Or.inr (Or.inr (Or.inl (⟨h36, by omega, by omega, by omega⟩))))).symm
        | (refine ret_eq (b01_f (P := metP (σ (a + 1) (5 * i)) (σ (a + 1) (5 * i + 2)) (σ (a + 1) (5 * i + 3)) (σ (a + 1) (5 * i + 4)) (σ (c + 1)) (σ (e + 1))) fun hm => ?_).symm
           rcases hm with q | q | q | q | q
           · have := q.1; omega
           · have := q.1; omega
           · exact by omega
           · have := q.1; omega
           · have := q.1; omega)
    · refine PW.aload_n dX7_isMet_111 rfl ?_
      refine PW.iload dX7_isMet_112 rfl ?_
      refine PW.callVr (c_X1_topOf (by assumption) (by assumption) (by first | assumption | (unfold inR; omega))) cv_X1_topOf lk_X7_80 (by first | assumption | exact And.left (by assumption)) dX7_isMet_114 rfl rfl rfl rfl ?_
      refine PW.iload dX7_isMet_117 rfl ?_
      refine PW.icmp_lt 137 dX7_isMet_119 (by decide) (by first | assumption | (unfold inR; omega) | (have := ok1 (σ (a + 1) (5 * i + 3) + 40) (by omega) (by omega); unfold inR; omega)) (by first | assumption | (unfold inR; omega) | (have := ok1 (σ (a + 1) (5 * i + 3) + 40) (by omega) (by omega); unfold inR; omega)) (fun h119 => ?_) (fun h119 => ?_)
      · refine PW.iconst dX7_isMet_137 ?_
        refine PW.iret rfl (by first | rfl | exact narB _) dX7_isMet_138 ⟨?_, rfl, rfl⟩
        first
          | exact ret_eq (b01_t (P := metP (σ (a + 1) (5 * i)) (σ (a + 1) (5 * i + 2)) (σ (a + 1) (5 * i + 3)) (σ (a + 1) (5 * i + 4)) (σ (c + 1)) (σ (e + 1))) (Or.inr (Or.inr (Or.inl (⟨h36, by omega, by omega, by omega⟩))))).symm
          | (refine ret_eq (b01_f (P := metP (σ (a + 1) (5 * i)) (σ (a + 1) (5 * i + 2)) (σ (a + 1) (5 * i + 3)) (σ (a + 1) (5 * i + 4)) (σ (c + 1)) (σ (e + 1))) fun hm => ?_).symm
             rcases hm with q | q | q | q | q
             · have := q.1; omega
             · have := q.1; omega
             · exact by omega
             · have := q.1; omega
             · have := q.1; omega)
      · refine PW.aload_n dX7_isMet_122 rfl ?_
        refine PW.iload dX7_isMet_123 rfl ?_
        refine PW.callVr (c_X1_topOf (by assumption) (by assumption) (by first | assumption | (unfold inR; omega))) cv_X1_topOf lk_X7_80 (by first | assumption | exact And.left (by assumption)) dX7_isMet_125 rfl rfl rfl rfl ?_
        refine PW.iload dX7_isMet_128 rfl ?_
        refine PW.icmp_gt 137 dX7_isMet_130 (by decide) (by first | assumption | (unfold inR; omega) | (have := ok1 (σ (a + 1) (5 * i + 3) + 40) (by omega) (by omega); unfold inR; omega)) (by first | assumption | (unfold inR; omega) | (have := ok1 (σ (a + 1) (5 * i + 3) + 40) (by omega) (by omega); unfold inR; omega)) (fun h130 => ?_) (fun h130 => ?_)
        · refine PW.iconst dX7_isMet_137 ?_
          refine PW.iret rfl (by first | rfl | exact narB _) dX7_isMet_138 ⟨?_, rfl, rfl⟩
          first
            | exact ret_eq (b01_t (P := metP (σ (a + 1) (5 * i)) (σ (a + 1) (5 * i + 2)) (σ (a + 1) (5 * i + 3)) (σ (a + 1) (5 * i + 4)) (σ (c + 1)) (σ (e + 1))) (Or.inr (Or.inr (Or.inl (⟨h36, by omega, by omega, by omega⟩))))).symm
            | (refine ret_eq (b01_f (P := metP (σ (a + 1) (5 * i)) (σ (a + 1) (5 * i + 2)) (σ (a + 1) (5 * i + 3)) (σ (a + 1) (5 * i + 4)) (σ (c + 1)) (σ (e + 1))) fun hm => ?_).symm
               rcases hm with q | q | q | q | q
               · have := q.1; omega
               · have := q.1; omega
               · exact by omega
               · have := q.1; omega
               · have := q.1; omega)
        · refine PW.iconst dX7_isMet_133 ?_
          refine PW.goto 138 dX7_isMet_134 (by decide) ?_
          refine PW.iret rfl (by first | rfl | exact narB _) dX7_isMet_138 ⟨?_, rfl, rfl⟩
          first
            | exact ret_eq (b01_t (P := metP (σ (a + 1) (5 * i)) (σ (a + 1) (5 * i + 2)) (σ (a + 1) (5 * i + 3)) (σ (a + 1) (5 * i + 4)) (σ (c + 1)) (σ (e + 1))) (Or.inr (Or.inr (Or.inl (⟨h36, by omega, by omega, by omega⟩))))).symm
            | (refine ret_eq (b01_f (P := metP (σ (a + 1) (5 * i)) (σ (a + 1) (5 * i + 2)) (σ (a + 1) (5 * i + 3)) (σ (a + 1) (5 * i + 4)) (σ (c + 1)) (σ (e + 1))) fun hm => ?_).symm
               rcases hm with q | q | q | q | q
               · have := q.1; omega
               · have := q.1; omega
               · exact by omega
               · have := q.1; omega
               · have := q.1; omega)
  · refine PW.tsIn (103) 139 (by first | assumption | (unfold inR; omega) | (have := ok1 (σ (a + 1) (5 * i + 3) + 40) (by omega) (by omega); unfold inR; omega)) dX7_isMet_36 (by omega) (by omega) (by rw [h36]; rfl) (by decide) ?_
    refine PW.aload_n dX7_isMet_139 rfl ?_
    refine PW.iload dX7_isMet_140 rfl ?_
    refine PW.callVr (c_X1_topOf (by assumption) (by assumption) (by first | assumption | (unfold inR; omega))) cv_X1_topOf lk_X7_80 (by first | assumption | exact And.left (by assumption)) dX7_isMet_142 rfl rfl rfl rfl ?_
    refine PW.aload_n dX7_isMet_145 rfl ?_
    refine PW.iload dX7_isMet_146 rfl ?_
    refine PW.callVr (c_X1_topOf (by assumption) (by assumption) (by first | assumption | (unfold inR; omega))) cv_X1_topOf lk_X7_80 (by first | assumption | exact And.left (by assumption)) dX7_isMet_148 rfl rfl rfl rfl ?_
    refine PW.iload dX7_isMet_151 rfl ?_
    refine PW.callSr (c_X7_isDipMet (by omega) (by omega) (by first | assumption | (unfold inR; omega))) cs_X7_isDipMet lk_X7_83 dX7_isMet_153 rfl rfl rfl ?_
    refine PW.iret rfl (by first | rfl | exact narB _) dX7_isMet_156 ⟨?_, rfl, rfl⟩
    refine ret_eq (b01_congr (Q := metP (σ (a + 1) (5 * i)) (σ (a + 1) (5 * i + 2)) (σ (a + 1) (5 * i + 3)) (σ (a + 1) (5 * i + 4)) (σ (c + 1)) (σ (e + 1))) ⟨fun q => Or.inr (Or.inr (Or.inr (Or.inl (⟨h36, q.1, q.2.1, q.2.2⟩)))), fun hm => ?_⟩)
    rcases hm with q | q | q | q | q
    · have := q.1; omega
    · have := q.1; omega
    · have := q.1; omega
    · exact q.2
    · have := q.1; omega
  · refine PW.tsOut 157 (by first | assumption | (unfold inR; omega) | (have := ok1 (σ (a + 1) (5 * i + 3) + 40) (by omega) (by omega); unfold inR; omega)) dX7_isMet_36 (by omega) (by decide) ?_
    refine PW.aload_n dX7_isMet_157 rfl ?_
    refine PW.iload dX7_isMet_158 rfl ?_
    refine PW.iload dX7_isMet_160 rfl ?_
    refine PW.callVr (c_X1_isLying (by assumption) (by assumption) (by first | assumption | (unfold inR; omega)) (by first | assumption | (unfold inR; omega))) cv_X1_isLying lk_X7_87 (by first | assumption | exact And.left (by assumption)) dX7_isMet_162 rfl rfl rfl rfl ?_
    refine PW.iret rfl (narB _) dX7_isMet_165 ⟨?_, rfl, rfl⟩
    refine ret_eq (b01_congr (Q := metP (σ (a + 1) (5 * i)) (σ (a + 1) (5 * i + 2)) (σ (a + 1) (5 * i + 3)) (σ (a + 1) (5 * i + 4)) (σ (c + 1)) (σ (e + 1))) ⟨fun q => Or.inr (Or.inr (Or.inr (Or.inr (⟨h36, q⟩)))), fun hm => ?_⟩)
    rcases hm with q | q | q | q | q
    · have := q.1; omega
    · have := q.1; omega
    · have := q.1; omega
    · have := q.1; omega
    · exact q.2
theorem c_X7_isMetBy {G : GT} {S : Shp} {σ : Sto} {a c : Nat} {i : Int} (hA : IsSig S a) (hi : 0 ≤ i ∧ i ≤ 29) (hw : sgWf (σ (a + 1)) i) (hL : IsCols S c 64) (hcc : colsOk σ c 64) : PMet G mX7_isMetBy 4 0 0 [.ref a, .ref c, .int (iI (i))] S σ (isP (some (.int (iI (b01 (metS (σ (a + 1)) i (ldF σ c)))))) S (σ)) := by
  obtain ⟨hA0, hA1⟩ := id hA
  obtain ⟨hL0, hL1, hL2, hc⟩ := id hL
  have hcl := hw.1
  have hnx := nxF_b hw
  have k1 := hc (σ (a + 1) (5 * i + 1)) (by omega) (by omega)
  have k2 := hc (nxF (σ (a + 1)) i) (by omega) (by omega)
  have k3 := hcc (σ (a + 1) (5 * i + 1)) (by omega) (by omega)
  have k4 := hcc (nxF (σ (a + 1)) i) (by omega) (by omega)
  refine PMet.of [(0, .ref a), (1, .ref c), (2, .int (iI (i)))] (by decide +kernel) rfl (Nat.le_of_ble_eq_true rfl) ?_
  refine PW.aload_n dX7_isMetBy_0 rfl ?_
  refine PW.ifnull dX7_isMetBy_1 ?_
  refine PW.aload_n dX7_isMetBy_4 rfl ?_
  refine PW.iload_n dX7_isMetBy_5 rfl ?_
  refine PW.aload_n dX7_isMetBy_6 rfl ?_
  refine PW.aload_n dX7_isMetBy_7 rfl ?_
  refine PW.iload_n dX7_isMetBy_8 rfl ?_
  refine PW.callVr (c_X7_column (by assumption) (by omega)) cv_X7_column lk_X7_61 (by first | assumption | exact And.left (by assumption)) dX7_isMetBy_9 rfl rfl rfl rfl ?_
  refine PW.callVr (c_X2_of (by assumption) (by omega) (by omega) (by omega)) cv_X2_of lk_X7_90 (by first | assumption | exact And.left (by assumption)) dX7_isMetBy_12 rfl rfl rfl rfl ?_
  refine PW.aload_n dX7_isMetBy_15 rfl ?_
  refine PW.aload_n dX7_isMetBy_16 rfl ?_
  refine PW.iload_n dX7_isMetBy_17 rfl ?_
  refine PW.callVr (c_X7_nextColumn (by assumption) (by omega) (by assumption)) cv_X7_nextColumn lk_X7_96 (by first | assumption | exact And.left (by assumption)) dX7_isMetBy_18 rfl rfl rfl rfl ?_
  refine PW.callVr (c_X2_of (by assumption) (by omega) (by omega) (by omega)) cv_X2_of lk_X7_90 (by first | assumption | exact And.left (by assumption)) dX7_isMetBy_21 rfl rfl rfl rfl ?_
  refine PW.callVr (c_X7_isMet hA hi hw k1 k2 k3 k4) cv_X7_isMet lk_X7_99 (by first | assumption | exact And.left (by assumption)) dX7_isMetBy_24 rfl rfl rfl rfl ?_
  refine PW.if_eqB 34 dX7_isMetBy_27 (by decide) (fun h27 => ?_) (fun h27 => ?_)
  · refine PW.iconst dX7_isMetBy_34 ?_
    exact PW.iret rfl (by first | rfl | exact narB _) dX7_isMetBy_35 ⟨(by first | exact ret_eq (b01_t (by assumption)).symm | exact ret_eq (b01_f (by assumption)).symm), rfl, rfl⟩
  · refine PW.iconst dX7_isMetBy_30 ?_
    refine PW.goto 35 dX7_isMetBy_31 (by decide) ?_
    exact PW.iret rfl (by first | rfl | exact narB _) dX7_isMetBy_35 ⟨(by first | exact ret_eq (b01_t (by assumption)).symm | exact ret_eq (b01_f (by assumption)).symm), rfl, rfl⟩
theorem unmet_loop {G : GT} {S : Shp} {σ : Sto} {a c : Nat} {Q : Option Value → Shp → Sto → Prop} (hA : IsSig S a) (hs : sgsOk σ a) (hL : IsCols S c 64) (hcc : colsOk σ c 64) (hQ : Q (some (.int (iI (umC (σ (a + 1)) (ldF σ c) (σ a 1))))) S σ) : ∀ (t : Nat) (i : Int), 0 ≤ i → i ≤ σ a 1 → σ a 1 - i < t → PW (fm G mX7_unmetOf 5 0 0 Q) G S (σ) 0 0 4 [(0, .ref a), (1, .ref c), (2, .int (iI (umC (σ (a + 1)) (ldF σ c) i))), (3, .int (iI (i)))] [] := by
  obtain ⟨hA0, hA1⟩ := id hA
  have hs1 := hs.1
  intro t
  induction t with
  | zero => intro i h1 h2 h3; omega
  | succ t ih =>
    intro i h1 h2 h3
    have hu := umC_b (σ (a + 1)) (ldF σ c) h1
    refine PW.iload_n dX7_unmetOf_4 rfl ?_
    refine PW.aload_n dX7_unmetOf_5 rfl ?_
    refine PW.getI 1 fl_X7_15 rfl (by assumption) rfl rfl dX7_unmetOf_6 ?_
    refine PW.icmp_ge 30 dX7_unmetOf_9 (by decide) (by first | assumption | (unfold inR; omega)) (by first | assumption | (unfold inR; omega)) (fun h9 => ?_) (fun h9 => ?_)
    · refine PW.iload_n dX7_unmetOf_30 rfl ?_
      have hi : i = σ a 1 := by omega
      subst hi
      exact PW.iret rfl rfl dX7_unmetOf_31 hQ
    · have hw := hs.2 i h1 (by omega)
      refine PW.aload_n dX7_unmetOf_12 rfl ?_
      refine PW.aload_n dX7_unmetOf_13 rfl ?_
      refine PW.iload_n dX7_unmetOf_14 rfl ?_
      refine PW.callVr (c_X7_isMetBy (by assumption) (by omega) (by assumption) (by assumption) (by assumption)) cv_X7_isMetBy lk_X7_103 (by first | assumption | exact And.left (by assumption)) dX7_unmetOf_15 rfl rfl rfl rfl ?_
      refine PW.if_neB 24 dX7_unmetOf_18 (by decide) (fun h18 => ?_) (fun h18 => ?_)
      · refine PW.iinc [(0, _), (1, _), (2, _), (3, _)] dX7_unmetOf_24 rfl rfl (Nat.le_of_ble_eq_true rfl) ?_
        refine PW.goto 4 dX7_unmetOf_27 (by decide) ?_
        have e := ih (i + 1) (by omega) (by omega) (by omega)
        rw [umC_s _ _ h1] at e
        first
          | (rw [b01_t (by assumption)] at e; exact e)
          | (rw [b01_f (fun q => q (by assumption)), Int.add_zero] at e; exact e)
      · refine PW.iinc [(0, _), (1, _), (2, _), (3, _)] dX7_unmetOf_21 rfl rfl (Nat.le_of_ble_eq_true rfl) ?_
        refine PW.iinc [(0, _), (1, _), (2, _), (3, _)] dX7_unmetOf_24 rfl rfl (Nat.le_of_ble_eq_true rfl) ?_
        refine PW.goto 4 dX7_unmetOf_27 (by decide) ?_
        have e := ih (i + 1) (by omega) (by omega) (by omega)
        rw [umC_s _ _ h1] at e
        first
          | (rw [b01_t (by assumption)] at e; exact e)
          | (rw [b01_f (fun q => q (by assumption)), Int.add_zero] at e; exact e)
theorem c_X7_unmetOf {G : GT} {S : Shp} {σ : Sto} {a c : Nat} (hA : IsSig S a) (hs : sgsOk σ a) (hL : IsCols S c 64) (hcc : colsOk σ c 64) : PMet G mX7_unmetOf 5 0 0 [.ref a, .ref c] S σ (isP (some (.int (iI (umC (σ (a + 1)) (ldF σ c) (σ a 1))))) S σ) := by
  refine PMet.of [(0, .ref a), (1, .ref c)] (by decide +kernel) rfl (Nat.le_of_ble_eq_true rfl) ?_
  refine PW.iconst dX7_unmetOf_0 ?_
  refine PW.istore_n [(0, _), (1, _), (2, _)] dX7_unmetOf_1 rfl (Nat.le_of_ble_eq_true rfl) ?_
  refine PW.iconst dX7_unmetOf_2 ?_
  refine PW.istore_n [(0, _), (1, _), (2, _), (3, _)] dX7_unmetOf_3 rfl (Nat.le_of_ble_eq_true rfl) ?_
  exact unmet_loop hA hs hL hcc ⟨rfl, rfl, rfl⟩ 31 0 (by omega) hs.1.1 (by have := hs.1; omega)
-- (not here: among_loop)
-- (not here: c_X7_unmetAmong)

set_option maxRecDepth 20000 in
theorem c_X11_amount {G : GT} {S : Shp} {σ : Sto} {h : Nat} {b w : Int} (hA : IsHill S h) (rb : inR b) (rw_ : inR w) (hT : taOk σ (h + 1)) (hlc : colsOk σ (h + 15) 64) (hes : colsOk σ (h + 149 + 4) 5) (hek : σ (h + 149) 8 = 0 ∨ (σ (h + 149) 8 = 1 ∧ endsV σ (h + 149) (σ (h + 1 + 1)) (σ (h + 1) 2))) : PMet G mX11_amount 12 0 0 [.ref h, .int (iI b), .int (iI w)] S σ (fun r S' τ => S' = S ∧ ∃ v : Int, r = some (.int (iI v)) ∧ ((¬ ((0 ≤ b ∧ b < 16) ∧ (0 ≤ w ∧ w ≤ 2))) → v = -100002) ∧ (¬ (¬ ((0 ≤ b ∧ b < 16) ∧ (0 ≤ w ∧ w ≤ 2))) → w = 0 → v = smF (fun j => clF (σ (cA (h + 15) j + 1)) b) 64) ∧ (¬ (¬ ((0 ≤ b ∧ b < 16) ∧ (0 ≤ w ∧ w ≤ 2))) → ¬ w = 0 → 4 < looF (σ (h + 1 + 1)) (σ (h + 1) 2) → v = -100005) ∧ (¬ (¬ ((0 ≤ b ∧ b < 16) ∧ (0 ≤ w ∧ w ≤ 2))) → w = 1 → ¬ 4 < looF (σ (h + 1 + 1)) (σ (h + 1) 2) → isLst (σ (h + 1 + 1)) (σ (h + 1) 2) b v) ∧ (¬ (¬ ((0 ≤ b ∧ b < 16) ∧ (0 ≤ w ∧ w ≤ 2))) → w = 2 → ¬ 4 < looF (σ (h + 1 + 1)) (σ (h + 1) 2) → isGrt (σ (h + 1 + 1)) (σ (h + 1) 2) b v) ∧ (∀ q, q < h + 149 ∨ h + 149 + 22 ≤ q → τ q = σ q) ∧ colsOk τ (h + 149 + 4) 5 ∧ (τ (h + 149) 8 = 0 ∨ (τ (h + 149) 8 = 1 ∧ endsV τ (h + 149) (σ (h + 1 + 1)) (σ (h + 1) 2)))) := by
  obtain ⟨hH0, hEv, hMi, hDf, hVr, hKp, hTx, hLd, hOt, hEn, hSg, hAg, hDw, hTe, hHo, hVs⟩ := id hA
  have hT1 := hT.1
  have lb := looF_b (σ (h + 1 + 1)) (σ (h + 1) 2) hT1.1
  refine PMet.of [(0, .ref h), (1, .int (iI (b))), (2, .int (iI (w)))] (by decide +kernel) rfl (Nat.le_of_ble_eq_true rfl) ?_
  refine PW.iload_n dX11_amount_0 rfl ?_
  refine PW.callSr (c_X11_isBed (by first | assumption | (unfold inR; omega))) cs_X11_isBed lk_X11_208 dX11_amount_1 rfl rfl rfl ?_
  refine PW.if_eqB 16 dX11_amount_4 (by decide) (fun h4 => ?_) (fun h4 => ?_)
  · refine PW.ldc (-100002) kc_X11_101 rfl rfl dX11_amount_16 ?_
    exact PW.iret rfl rfl dX11_amount_18 ⟨rfl, _, rfl, fun _ => rfl, fun q => by omega, fun q => by omega, fun q => by omega, fun q => by omega, fun _ _ => rfl, hes, hek⟩
  · refine PW.iload_n dX11_amount_7 rfl ?_
    refine PW.if_lt 16 dX11_amount_8 (by decide) (by first | (unfold inR; omega) | assumption) (fun h8 => ?_) (fun h8 => ?_)
    · refine PW.ldc (-100002) kc_X11_101 rfl rfl dX11_amount_16 ?_
      exact PW.iret rfl rfl dX11_amount_18 ⟨rfl, _, rfl, fun _ => rfl, fun q => by omega, fun q => by omega, fun q => by omega, fun q => by omega, fun _ _ => rfl, hes, hek⟩
    · refine PW.iload_n dX11_amount_11 rfl ?_
      refine PW.iconst dX11_amount_12 ?_
      refine PW.icmp_le 19 dX11_amount_13 (by decide) (by first | (unfold inR; omega) | assumption) (by first | (unfold inR; omega) | assumption) (fun h13 => ?_) (fun h13 => ?_)
      · refine PW.iload_n dX11_amount_19 rfl ?_
        refine PW.if_ne 32 dX11_amount_20 (by decide) (by first | (unfold inR; omega) | assumption) (fun h20 => ?_) (fun h20 => ?_)
        · refine PW.aload_n dX11_amount_32 rfl ?_
          refine PW.getR fl_X11_10 rfl (by assumption) rfl dX11_amount_33 ?_
          refine PW.callVr (c_X8_looseOnes hEv hT) cv_X8_looseOnes lk_X11_155 (by first | assumption | exact And.left (by assumption)) dX11_amount_36 rfl rfl rfl rfl ?_
          refine PW.iconst dX11_amount_39 ?_
          refine PW.icmp_le 46 dX11_amount_40 (by decide) (by first | (unfold inR; omega) | assumption) (by first | (unfold inR; omega) | assumption) (fun h40 => ?_) (fun h40 => ?_)
          · refine PW.aload_n dX11_amount_46 rfl ?_
            refine PW.getR fl_X11_56 rfl (by assumption) rfl dX11_amount_47 ?_
            refine PW.aload_n dX11_amount_50 rfl ?_
            refine PW.getR fl_X11_10 rfl (by assumption) rfl dX11_amount_51 ?_
            refine PW.callVg (c_X4_know hEn hEv hT (by omega) hes (by omega) hek) cv_X4_know lk_X11_223 (by first | assumption | exact And.left (by assumption)) dX11_amount_54 rfl rfl rfl rfl (fun r S' τ54 hq => ?_)
            obtain ⟨rfl, hS, y1, y2, y3, y4⟩ := hq
            have hS2 := hS.symm
            subst hS2
            refine PW.iload_n dX11_amount_57 rfl ?_
            refine PW.iconst dX11_amount_58 ?_
            refine PW.icmp_ne 73 dX11_amount_59 (by decide) (by first | (unfold inR; omega) | assumption) (by first | (unfold inR; omega) | assumption) (fun h59 => ?_) (fun h59 => ?_)
            · refine PW.aload_n dX11_amount_73 rfl ?_
              refine PW.getR fl_X11_56 rfl (by assumption) rfl dX11_amount_74 ?_
              refine PW.iload_n dX11_amount_77 rfl ?_
              refine PW.callVr (c_X4_greatest hEn (by omega)) cv_X4_greatest lk_X11_229 (by first | assumption | exact And.left (by assumption)) dX11_amount_78 rfl rfl rfl rfl ?_
              first
                | (refine PW.iret rfl rfl dX11_amount_81 ⟨rfl, _, rfl, fun q => by omega, fun _ q => by omega, fun _ _ q => by omega, fun _ _ _ => ?_, fun _ q => by omega, y1, y2, Or.inr ⟨y4, y3⟩⟩
                   exact (y3 b (by omega) (by omega)).1)
                | (refine PW.iret rfl rfl dX11_amount_81 ⟨rfl, _, rfl, fun q => by omega, fun _ q => by omega, fun _ _ q => by omega, fun _ q => by omega, fun _ _ _ => ?_, y1, y2, Or.inr ⟨y4, y3⟩⟩
                   exact (y3 b (by omega) (by omega)).2)
            · refine PW.aload_n dX11_amount_62 rfl ?_
              refine PW.getR fl_X11_56 rfl (by assumption) rfl dX11_amount_63 ?_
              refine PW.iload_n dX11_amount_66 rfl ?_
              refine PW.callVr (c_X4_least hEn (by omega)) cv_X4_least lk_X11_226 (by first | assumption | exact And.left (by assumption)) dX11_amount_67 rfl rfl rfl rfl ?_
              refine PW.goto 81 dX11_amount_70 (by decide) ?_
              first
                | (refine PW.iret rfl rfl dX11_amount_81 ⟨rfl, _, rfl, fun q => by omega, fun _ q => by omega, fun _ _ q => by omega, fun _ _ _ => ?_, fun _ q => by omega, y1, y2, Or.inr ⟨y4, y3⟩⟩
                   exact (y3 b (by omega) (by omega)).1)
                | (refine PW.iret rfl rfl dX11_amount_81 ⟨rfl, _, rfl, fun q => by omega, fun _ q => by omega, fun _ _ q => by omega, fun _ q => by omega, fun _ _ _ => ?_, y1, y2, Or.inr ⟨y4, y3⟩⟩
                   exact (y3 b (by omega) (by omega)).2)
          · refine PW.ldc (-100005) kc_X11_222 rfl rfl dX11_amount_43 ?_
            exact PW.iret rfl rfl dX11_amount_45 ⟨rfl, _, rfl, fun q => by omega, fun _ q => absurd q (by assumption), fun _ _ _ => rfl, fun _ _ q => by omega, fun _ _ q => by omega, fun _ _ => rfl, hes, hek⟩
        · refine PW.aload_n dX11_amount_23 rfl ?_
          refine PW.getR fl_X11_42 rfl (by assumption) rfl dX11_amount_24 ?_
          refine PW.iload_n dX11_amount_27 rfl ?_
          refine PW.callVr (c_X2_cellsOf hLd (by decide) hlc rb) cv_X2_cellsOf lk_X11_221 (by first | assumption | exact And.left (by assumption)) dX11_amount_28 rfl rfl rfl rfl ?_
          exact PW.iret rfl rfl dX11_amount_31 ⟨rfl, _, rfl, fun q => by omega, fun _ _ => rfl, fun _ q => absurd (by assumption) q, fun _ q => by omega, fun _ q => by omega, fun _ _ => rfl, hes, hek⟩
      · refine PW.ldc (-100002) kc_X11_101 rfl rfl dX11_amount_16 ?_
        exact PW.iret rfl rfl dX11_amount_18 ⟨rfl, _, rfl, fun _ => rfl, fun q => by omega, fun q => by omega, fun q => by omega, fun q => by omega, fun _ _ => rfl, hes, hek⟩
theorem c_X11_sight {G : GT} {S : Shp} {σ : Sto} {h : Nat} {k x y b p q : Int} (hA : IsHill S h) (hss : sgsOk σ (h + 171)) (rk : inR k) (rx : inR x) (ry : inR y) (rb : inR b) (rp : inR p) (rq : inR q) : PMet G mX11_sight 4 0 0 [.ref h, .int (iI (k)), .int (iI (x)), .int (iI (y)), .int (iI (b)), .int (iI (p)), .int (iI (q))] S σ (isP (some (.int (iI (if ¬ (sgOk k x y b p q) then -100002 else if 30 ≤ σ (h + 171) 1 then -100004 else σ (h + 171) 1)))) S (if (sgOk k x y b p q) ∧ σ (h + 171) 1 < 30 then upS (upS (upS σ (h + 171 + 1) (sgF (σ (h + 171 + 1)) (σ (h + 171) 1) k (8 * y + x) b p q)) (h + 171) (up1 (σ (h + 171)) 1 (σ (h + 171) 1 + 1))) (h + 183) (up1 (σ (h + 183)) 12 0) else σ)) := by
  obtain ⟨hH0, hEv, hMi, hDf, hVr, hKp, hTx, hLd, hOt, hEn, hSg, hAg, hDw, hTe, hHo, hVs⟩ := id hA
  have hs1 := hss.1
  refine PMet.of [(0, .ref h), (1, .int (iI (k))), (2, .int (iI (x))), (3, .int (iI (y))), (4, .int (iI (b))), (5, .int (iI (p))), (6, .int (iI (q)))] (by decide +kernel) rfl (Nat.le_of_ble_eq_true rfl) ?_
  refine PW.iload_n dX11_sight_0 rfl ?_
  refine PW.iload_n dX11_sight_1 rfl ?_
  refine PW.iload_n dX11_sight_2 rfl ?_
  refine PW.iload dX11_sight_3 rfl ?_
  refine PW.iload dX11_sight_5 rfl ?_
  refine PW.iload dX11_sight_7 rfl ?_
  refine PW.callSr (c_X7_allow (by first | assumption | (unfold inR; omega)) (by first | assumption | (unfold inR; omega)) (by first | assumption | (unfold inR; omega)) (by first | assumption | (unfold inR; omega)) (by first | assumption | (unfold inR; omega)) (by first | assumption | (unfold inR; omega))) cs_X7_allow lk_X11_251 dX11_sight_9 rfl rfl rfl ?_
  refine PW.if_neB 18 dX11_sight_12 (by decide) (fun h12 => ?_) (fun h12 => ?_)
  · refine PW.aload_n dX11_sight_18 rfl ?_
    refine PW.getR fl_X11_63 rfl (by assumption) rfl dX11_sight_19 ?_
    refine PW.callVr (c_X7_size (by assumption)) cv_X7_size lk_X11_158 (by first | assumption | exact And.left (by assumption)) dX11_sight_22 rfl rfl rfl rfl ?_
    refine PW.bipush (by decide) dX11_sight_25 ?_
    refine PW.icmp_lt 33 dX11_sight_27 (by decide) (by first | (unfold inR; omega) | assumption) (by first | (unfold inR; omega) | assumption) (fun h27 => ?_) (fun h27 => ?_)
    · refine PW.aload_n dX11_sight_33 rfl ?_
      refine PW.getR fl_X11_63 rfl (by assumption) rfl dX11_sight_34 ?_
      refine PW.iload_n dX11_sight_37 rfl ?_
      refine PW.iload_n dX11_sight_38 rfl ?_
      refine PW.iload_n dX11_sight_39 rfl ?_
      refine PW.iload dX11_sight_40 rfl ?_
      refine PW.iload dX11_sight_42 rfl ?_
      refine PW.iload dX11_sight_44 rfl ?_
      refine PW.callVv (c_X7_add (n := σ (h + 171) 1) hSg rfl (by omega)) cv_X7_add lk_X11_252 (by first | assumption | exact And.left (by assumption)) dX11_sight_46 rfl rfl rfl rfl ?_
      refine PW.aload_n dX11_sight_49 rfl ?_
      refine PW.getR fl_X11_84 rfl (by assumption) rfl dX11_sight_50 ?_
      refine PW.callVv (c_X9_doubt hTe) cv_X9_doubt lk_X11_253 (by first | assumption | exact And.left (by assumption)) dX11_sight_53 rfl rfl rfl rfl ?_
      refine PW.st (upS (upS (upS σ (h + 171 + 1) (sgF (σ (h + 171 + 1)) (σ (h + 171) 1) k (8 * y + x) b p q)) (h + 171) (up1 (σ (h + 171)) 1 (σ (h + 171) 1 + 1))) (h + 183) (up1 (σ (h + 183)) 12 0)) (by rw [upS_ne (by omega), upS_ne (by omega)]) ?_
      refine PW.aload_n dX11_sight_56 rfl ?_
      refine PW.getR fl_X11_63 rfl (by assumption) rfl dX11_sight_57 ?_
      refine PW.callVr (c_X7_size (by assumption)) cv_X7_size lk_X11_158 (by first | assumption | exact And.left (by assumption)) dX11_sight_60 rfl rfl rfl rfl ?_
      refine PW.top (σ (h + 171) 1 + 1) (by rw [upS_ne (by omega), upS_same, up1_same]) ?_
      refine PW.iconst dX11_sight_63 ?_
      refine PW.isub dX11_sight_64 ?_
      refine PW.iret rfl rfl dX11_sight_65 ⟨ret_eq ?_, rfl, ?_⟩
      · rw [if_neg (fun q => q (by assumption)), if_neg (by omega)]
        omega
      · rw [if_pos ⟨by assumption, by omega⟩]
    · refine PW.ldc (-100004) kc_X11_106 rfl rfl dX11_sight_30 ?_
      refine PW.iret rfl rfl dX11_sight_32 ⟨ret_eq ?_, rfl, ?_⟩
      · rw [if_neg (fun q => q (by assumption)), if_pos (by omega)]
      · rw [if_neg (fun q => by have := q.2; omega)]
  · refine PW.ldc (-100002) kc_X11_101 rfl rfl dX11_sight_15 ?_
    refine PW.iret rfl rfl dX11_sight_17 ⟨ret_eq ?_, rfl, ?_⟩
    · rw [if_pos (by assumption)]
    · rw [if_neg (fun q => absurd q.1 (by assumption))]
theorem c_X11_met {G : GT} {S : Shp} {σ : Sto} {h : Nat} {i : Int} (hA : IsHill S h) (hss : sgsOk σ (h + 171)) (hlc : colsOk σ (h + 15) 64) (ri : inR i) : PMet G mX11_met 5 0 0 [.ref h, .int (iI (i))] S σ (isP (some (.int (iI (if ¬ (0 ≤ i ∧ i < σ (h + 171) 1) then -100001 else b01 (metS (σ (h + 171 + 1)) i (ldF σ (h + 15))))))) S (σ)) := by
  obtain ⟨hH0, hEv, hMi, hDf, hVr, hKp, hTx, hLd, hOt, hEn, hSg, hAg, hDw, hTe, hHo, hVs⟩ := id hA
  have hs1 := hss.1
  refine PMet.of [(0, .ref h), (1, .int (iI (i)))] (by decide +kernel) rfl (Nat.le_of_ble_eq_true rfl) ?_
  refine PW.aload_n dX11_met_0 rfl ?_
  refine PW.getR fl_X11_63 rfl (by assumption) rfl dX11_met_1 ?_
  refine PW.iload_n dX11_met_4 rfl ?_
  refine PW.callVr (c_X7_has hSg hs1 ri) cv_X7_has lk_X11_254 (by first | assumption | exact And.left (by assumption)) dX11_met_5 rfl rfl rfl rfl ?_
  refine PW.if_neB 14 dX11_met_8 (by decide) (fun h8 => ?_) (fun h8 => ?_)
  · have hw := hss.2 i (by omega) (by omega)
    refine PW.aload_n dX11_met_14 rfl ?_
    refine PW.getR fl_X11_63 rfl (by assumption) rfl dX11_met_15 ?_
    refine PW.aload_n dX11_met_18 rfl ?_
    refine PW.getR fl_X11_42 rfl (by assumption) rfl dX11_met_19 ?_
    refine PW.iload_n dX11_met_22 rfl ?_
    refine PW.callVr (c_X7_isMetBy hSg (by omega) hw hLd hlc) cv_X7_isMetBy lk_X11_255 (by first | assumption | exact And.left (by assumption)) dX11_met_23 rfl rfl rfl rfl ?_
    refine PW.callSr (c_X11_flag) cs_X11_flag lk_X11_133 dX11_met_26 rfl rfl rfl ?_
    exact PW.iret rfl (by first | rfl | exact narB _) dX11_met_29 ⟨ret_eq (by rw [if_neg (fun q => q (by assumption))]), rfl, rfl⟩
  · refine PW.ldc (-100001) kc_X11_125 rfl rfl dX11_met_11 ?_
    exact PW.iret rfl (by first | rfl | exact narB _) dX11_met_13 ⟨ret_eq (by rw [if_pos (by assumption)]), rfl, rfl⟩
theorem c_X11_unmet {G : GT} {S : Shp} {σ : Sto} {h : Nat} {k i : Int} (hA : IsHill S h) (hss : sgsOk σ (h + 171)) (hlc : colsOk σ (h + 15) 64) (rk : inR k) (ri : inR i) : PMet G mX11_unmet 6 0 0 [.ref h, .int (iI (k)), .int (iI (i))] S σ (isP (some (.int (iI (if ¬ (-1 ≤ k ∧ k ≤ σ (h + 171) 1) then -100002 else umW (σ (h + 171 + 1)) (ldF σ (h + 15)) (knF (σ (h + 171) 1) k) i)))) S (σ)) := by
  obtain ⟨hH0, hEv, hMi, hDf, hVr, hKp, hTx, hLd, hOt, hEn, hSg, hAg, hDw, hTe, hHo, hVs⟩ := id hA
  have hs1 := hss.1
  refine PMet.of [(0, .ref h), (1, .int (iI (k))), (2, .int (iI (i)))] (by decide +kernel) rfl (Nat.le_of_ble_eq_true rfl) ?_
  refine PW.aload_n dX11_unmet_0 rfl ?_
  refine PW.iload_n dX11_unmet_1 rfl ?_
  refine PW.callVr (c_X11_isKnown hA hs1 rk) cv_X11_isKnown lk_X11_259 (by first | assumption | exact And.left (by assumption)) dX11_unmet_2 rfl rfl rfl rfl ?_
  refine PW.if_neB 11 dX11_unmet_5 (by decide) (fun h5 => ?_) (fun h5 => ?_)
  · refine PW.aload_n dX11_unmet_11 rfl ?_
    refine PW.getR fl_X11_63 rfl (by assumption) rfl dX11_unmet_12 ?_
    refine PW.aload_n dX11_unmet_15 rfl ?_
    refine PW.getR fl_X11_42 rfl (by assumption) rfl dX11_unmet_16 ?_
    refine PW.aload_n dX11_unmet_19 rfl ?_
    refine PW.iload_n dX11_unmet_20 rfl ?_
    refine PW.callVr (c_X11_knownOf hA rk) cv_X11_knownOf lk_X11_262 (by first | assumption | exact And.left (by assumption)) dX11_unmet_21 rfl rfl rfl rfl ?_
    refine PW.iload_n dX11_unmet_24 rfl ?_
    skip
    refine PW.callVr (c_X7_unmetAmong hSg hss hLd hlc (by unfold knF; split <;> omega) ri) cv_X7_unmetAmong lk_X11_265 (by first | assumption | exact And.left (by assumption)) dX11_unmet_25 rfl rfl rfl rfl ?_
    exact PW.iret rfl (by first | rfl | exact narB _) dX11_unmet_28 ⟨ret_eq (by rw [if_neg (fun q => q (by assumption))]), rfl, rfl⟩
  · refine PW.ldc (-100002) kc_X11_101 rfl rfl dX11_unmet_8 ?_
    exact PW.iret rfl (by first | rfl | exact narB _) dX11_unmet_10 ⟨ret_eq (by rw [if_pos (by assumption)]), rfl, rfl⟩
theorem c_X11_forget {G : GT} {S : Shp} {σ : Sto} {h : Nat}  (hA : IsHill S h) (hss : sgsOk σ (h + 171)) : PMet G mX11_forget 2 0 0 [.ref h] S σ (isP (some (.int (iI (if σ (h + 171) 1 = 0 then -100003 else σ (h + 171) 1 - 1)))) S (if σ (h + 171) 1 = 0 then σ else upS (upS σ (h + 171) (up1 (σ (h + 171)) 1 (σ (h + 171) 1 - 1))) (h + 183) (up1 (σ (h + 183)) 12 0))) := by
  obtain ⟨hH0, hEv, hMi, hDf, hVr, hKp, hTx, hLd, hOt, hEn, hSg, hAg, hDw, hTe, hHo, hVs⟩ := id hA
  have hs1 := hss.1
  refine PMet.of [(0, .ref h)] (by decide +kernel) rfl (Nat.le_of_ble_eq_true rfl) ?_
  refine PW.aload_n dX11_forget_0 rfl ?_
  refine PW.getR fl_X11_63 rfl (by assumption) rfl dX11_forget_1 ?_
  refine PW.callVr (c_X7_size (by assumption)) cv_X7_size lk_X11_158 (by first | assumption | exact And.left (by assumption)) dX11_forget_4 rfl rfl rfl rfl ?_
  refine PW.if_ne 13 dX11_forget_7 (by decide) (by first | (unfold inR; omega) | assumption) (fun h7 => ?_) (fun h7 => ?_)
  · refine PW.aload_n dX11_forget_13 rfl ?_
    refine PW.getR fl_X11_63 rfl (by assumption) rfl dX11_forget_14 ?_
    refine PW.callVv (c_X7_shorten hSg hs1) cv_X7_shorten lk_X11_269 (by first | assumption | exact And.left (by assumption)) dX11_forget_17 rfl rfl rfl rfl ?_
    refine PW.st (upS σ (h + 171) (up1 (σ (h + 171)) 1 (σ (h + 171) 1 - 1))) (by rw [if_pos (by omega)]) ?_
    refine PW.aload_n dX11_forget_20 rfl ?_
    refine PW.getR fl_X11_84 rfl (by assumption) rfl dX11_forget_21 ?_
    refine PW.callVv (c_X9_doubt hTe) cv_X9_doubt lk_X11_253 (by first | assumption | exact And.left (by assumption)) dX11_forget_24 rfl rfl rfl rfl ?_
    refine PW.st (upS (upS σ (h + 171) (up1 (σ (h + 171)) 1 (σ (h + 171) 1 - 1))) (h + 183) (up1 (σ (h + 183)) 12 0)) (by rw [upS_ne (show h + 183 ≠ h + 171 by omega)]) ?_
    refine PW.aload_n dX11_forget_27 rfl ?_
    refine PW.getR fl_X11_63 rfl (by assumption) rfl dX11_forget_28 ?_
    refine PW.callVr (c_X7_size (by assumption)) cv_X7_size lk_X11_158 (by first | assumption | exact And.left (by assumption)) dX11_forget_31 rfl rfl rfl rfl ?_
    refine PW.top (σ (h + 171) 1 - 1) (by rw [upS_ne (by omega), upS_same, up1_same]) ?_
    exact PW.iret rfl rfl dX11_forget_34 ⟨ret_eq (by rw [if_neg (by assumption)]), rfl, by rw [if_neg (by assumption)]⟩
  · refine PW.ldc (-100003) kc_X11_114 rfl rfl dX11_forget_10 ?_
    exact PW.iret rfl rfl dX11_forget_12 ⟨ret_eq (by rw [if_pos (by assumption)]), rfl, by rw [if_pos (by assumption)]⟩
theorem c_X11_claim {G : GT} {S : Shp} {σ : Sto} {h : Nat} {a b w : Int} (hA : IsHill S h) (hcn : 0 ≤ σ (h + 173) 2 ∧ σ (h + 173) 2 ≤ 24) (ra : inR a) (rb : inR b) (rw : inR w) : PMet G mX11_claim 2 0 0 [.ref h, .int (iI (a)), .int (iI (b)), .int (iI (w))] S σ (isP (some (.int (iI (if ¬ ((0 ≤ a ∧ a < 8) ∧ (0 ≤ b ∧ b < 8) ∧ ¬ a = b ∧ (1 ≤ w ∧ w ≤ 99)) then -100002 else if 24 ≤ σ (h + 173) 2 then -100004 else σ (h + 173) 2)))) S (if ((0 ≤ a ∧ a < 8) ∧ (0 ≤ b ∧ b < 8) ∧ ¬ a = b ∧ (1 ≤ w ∧ w ≤ 99)) ∧ σ (h + 173) 2 < 24 then upS (upS σ (h + 173 + 1) (up1 (σ (h + 173 + 1)) (8 * a + b) ((σ (h + 173 + 1)) (8 * a + b) + w))) (h + 173) (up1 (σ (h + 173)) 2 (σ (h + 173) 2 + 1)) else σ)) := by
  obtain ⟨hH0, hEv, hMi, hDf, hVr, hKp, hTx, hLd, hOt, hEn, hSg, hAg, hDw, hTe, hHo, hVs⟩ := id hA
  refine PMet.of [(0, .ref h), (1, .int (iI (a))), (2, .int (iI (b))), (3, .int (iI (w)))] (by decide +kernel) rfl (Nat.le_of_ble_eq_true rfl) ?_
  refine PW.iload_n dX11_claim_0 rfl ?_
  refine PW.bipush (by decide) dX11_claim_1 ?_
  refine PW.callSr (c_X11_isBelow (by first | assumption | (unfold inR; omega)) (by first | assumption | (unfold inR; omega))) cs_X11_isBelow lk_X11_270 dX11_claim_3 rfl rfl rfl ?_
  refine PW.if_eqB 34 dX11_claim_6 (by decide) (fun h6 => ?_) (fun h6 => ?_)
  · refine PW.ldc (-100002) kc_X11_101 rfl rfl dX11_claim_34 ?_
    exact PW.iret rfl rfl dX11_claim_36 ⟨ret_eq (by rw [if_pos (by omega)]), rfl, by rw [if_neg (by omega)]⟩
  · refine PW.iload_n dX11_claim_9 rfl ?_
    refine PW.bipush (by decide) dX11_claim_10 ?_
    refine PW.callSr (c_X11_isBelow (by first | assumption | (unfold inR; omega)) (by first | assumption | (unfold inR; omega))) cs_X11_isBelow lk_X11_270 dX11_claim_12 rfl rfl rfl ?_
    refine PW.if_eqB 34 dX11_claim_15 (by decide) (fun h15 => ?_) (fun h15 => ?_)
    · refine PW.ldc (-100002) kc_X11_101 rfl rfl dX11_claim_34 ?_
      exact PW.iret rfl rfl dX11_claim_36 ⟨ret_eq (by rw [if_pos (by omega)]), rfl, by rw [if_neg (by omega)]⟩
    · refine PW.iload_n dX11_claim_18 rfl ?_
      refine PW.iload_n dX11_claim_19 rfl ?_
      refine PW.icmp_eq 34 dX11_claim_20 (by decide) (by first | (unfold inR; omega) | assumption) (by first | (unfold inR; omega) | assumption) (fun h20 => ?_) (fun h20 => ?_)
      · refine PW.ldc (-100002) kc_X11_101 rfl rfl dX11_claim_34 ?_
        exact PW.iret rfl rfl dX11_claim_36 ⟨ret_eq (by rw [if_pos (by omega)]), rfl, by rw [if_neg (by omega)]⟩
      · refine PW.iload_n dX11_claim_23 rfl ?_
        refine PW.iconst dX11_claim_24 ?_
        refine PW.icmp_lt 34 dX11_claim_25 (by decide) (by first | (unfold inR; omega) | assumption) (by first | (unfold inR; omega) | assumption) (fun h25 => ?_) (fun h25 => ?_)
        · refine PW.ldc (-100002) kc_X11_101 rfl rfl dX11_claim_34 ?_
          exact PW.iret rfl rfl dX11_claim_36 ⟨ret_eq (by rw [if_pos (by omega)]), rfl, by rw [if_neg (by omega)]⟩
        · refine PW.iload_n dX11_claim_28 rfl ?_
          refine PW.bipush (by decide) dX11_claim_29 ?_
          refine PW.icmp_le 37 dX11_claim_31 (by decide) (by first | (unfold inR; omega) | assumption) (by first | (unfold inR; omega) | assumption) (fun h31 => ?_) (fun h31 => ?_)
          · refine PW.aload_n dX11_claim_37 rfl ?_
            refine PW.getR fl_X11_70 rfl (by assumption) rfl dX11_claim_38 ?_
            refine PW.callVr (c_X0_claims (by assumption)) cv_X0_claims lk_X11_159 (by first | assumption | exact And.left (by assumption)) dX11_claim_41 rfl rfl rfl rfl ?_
            refine PW.bipush (by decide) dX11_claim_44 ?_
            refine PW.icmp_lt 52 dX11_claim_46 (by decide) (by first | (unfold inR; omega) | assumption) (by first | (unfold inR; omega) | assumption) (fun h46 => ?_) (fun h46 => ?_)
            · refine PW.aload_n dX11_claim_52 rfl ?_
              refine PW.getR fl_X11_70 rfl (by assumption) rfl dX11_claim_53 ?_
              refine PW.iload_n dX11_claim_56 rfl ?_
              refine PW.iload_n dX11_claim_57 rfl ?_
              refine PW.iload_n dX11_claim_58 rfl ?_
              refine PW.callVv (c_X0_add (by assumption) (by omega) (by omega)) cv_X0_add lk_X11_274 (by first | assumption | exact And.left (by assumption)) dX11_claim_59 rfl rfl rfl rfl ?_
              refine PW.aload_n dX11_claim_62 rfl ?_
              refine PW.getR fl_X11_70 rfl (by assumption) rfl dX11_claim_63 ?_
              refine PW.callVr (c_X0_claims (by assumption)) cv_X0_claims lk_X11_159 (by first | assumption | exact And.left (by assumption)) dX11_claim_66 rfl rfl rfl rfl ?_
              refine PW.top (σ (h + 173) 2 + 1) (by rw [upS_same, up1_same]) ?_
              refine PW.iconst dX11_claim_69 ?_
              refine PW.isub dX11_claim_70 ?_
              exact PW.iret rfl rfl dX11_claim_71 ⟨ret_eq (by rw [if_neg (by omega), if_neg (by omega)]; omega), rfl, by rw [if_pos (by omega)]⟩
            · refine PW.ldc (-100004) kc_X11_106 rfl rfl dX11_claim_49 ?_
              exact PW.iret rfl rfl dX11_claim_51 ⟨ret_eq (by rw [if_neg (by omega), if_pos (by omega)]), rfl, by rw [if_neg (by omega)]⟩
          · refine PW.ldc (-100002) kc_X11_101 rfl rfl dX11_claim_34 ?_
            exact PW.iret rfl rfl dX11_claim_36 ⟨ret_eq (by rw [if_pos (by omega)]), rfl, by rw [if_neg (by omega)]⟩
theorem c_X11_row {G : GT} {S : Shp} {σ : Sto} {h : Nat} {n i : Int} (hA : IsHill S h) (hwk : wOk (σ (h + 173 + 1))) (rn : inR n) (ri : inR i) : PMet G mX11_row 5 0 0 [.ref h, .int (iI n), .int (iI i)] S σ (fun r S' τ => S' = S ∧ r = some (.int (iI (if ¬ ((2 ≤ n ∧ n ≤ 8) ∧ (i = -1 ∨ (0 ≤ i ∧ i < n))) then -100002 else if i = -1 then dqG (σ (h + 173 + 1)) n 0 else rowB (σ (h + 173 + 1)) n (dqG (σ (h + 173 + 1)) n) i))) ∧ ∃ f : Int → Int, τ = upS σ (h + 173 + 2) f) := by
  obtain ⟨hH0, hEv, hMi, hDf, hVr, hKp, hTx, hLd, hOt, hEn, hSg, hAg, hDw, hTe, hHo, hVs⟩ := id hA
  refine PMet.of [(0, .ref h), (1, .int (iI (n))), (2, .int (iI (i)))] (by decide +kernel) rfl (Nat.le_of_ble_eq_true rfl) ?_
  refine PW.iload_n dX11_row_0 rfl ?_
  refine PW.iconst dX11_row_1 ?_
  refine PW.icmp_lt 24 dX11_row_2 (by decide) (by first | (unfold inR; omega) | assumption) (by first | (unfold inR; omega) | assumption) (fun h2 => ?_) (fun h2 => ?_)
  · refine PW.ldc (-100002) kc_X11_101 rfl rfl dX11_row_24 ?_
    exact PW.iret rfl rfl dX11_row_26 ⟨rfl, ret_eq (by rw [if_pos (by omega)]), _, (upS_self _ _).symm⟩
  · refine PW.iload_n dX11_row_5 rfl ?_
    refine PW.bipush (by decide) dX11_row_6 ?_
    refine PW.icmp_gt 24 dX11_row_8 (by decide) (by first | (unfold inR; omega) | assumption) (by first | (unfold inR; omega) | assumption) (fun h8 => ?_) (fun h8 => ?_)
    · refine PW.ldc (-100002) kc_X11_101 rfl rfl dX11_row_24 ?_
      exact PW.iret rfl rfl dX11_row_26 ⟨rfl, ret_eq (by rw [if_pos (by omega)]), _, (upS_self _ _).symm⟩
    · refine PW.iload_n dX11_row_11 rfl ?_
      refine PW.iconst dX11_row_12 ?_
      refine PW.icmp_eq 27 dX11_row_13 (by decide) (by first | (unfold inR; omega) | assumption) (by first | (unfold inR; omega) | assumption) (fun h13 => ?_) (fun h13 => ?_)
      · refine PW.iload_n dX11_row_27 rfl ?_
        refine PW.iconst dX11_row_28 ?_
        refine PW.icmp_ne 43 dX11_row_29 (by decide) (by first | (unfold inR; omega) | assumption) (by first | (unfold inR; omega) | assumption) (fun h29 => ?_) (fun h29 => ?_)
        · refine PW.aload_n dX11_row_43 rfl ?_
          refine PW.getR fl_X11_70 rfl (by assumption) rfl dX11_row_44 ?_
          refine PW.iload_n dX11_row_47 rfl ?_
          refine PW.iload_n dX11_row_48 rfl ?_
          refine PW.callVg (c_X0_bedInRow hAg hwk (by omega) (by omega)) cv_X0_bedInRow lk_X11_280 (by first | assumption | exact And.left (by assumption)) dX11_row_49 rfl rfl rfl rfl (fun r S' τ49 hq => ?_)
          obtain ⟨hS, rfl, f, rfl⟩ := hq
          have hS2 := hS.symm
          subst hS2
          exact PW.iret rfl rfl dX11_row_52 ⟨rfl, ret_eq (Eq.symm ((if_neg (show ¬ ¬ ((2 ≤ n ∧ n ≤ 8) ∧ (i = -1 ∨ (0 ≤ i ∧ i < n))) by omega)).trans (by first | exact if_pos (by omega) | exact if_neg (by omega)))), f, rfl⟩
        · refine PW.aload_n dX11_row_32 rfl ?_
          refine PW.getR fl_X11_70 rfl (by assumption) rfl dX11_row_33 ?_
          refine PW.iload_n dX11_row_36 rfl ?_
          refine PW.callVg (c_X0_leastQuarrel hAg hwk (by omega)) cv_X0_leastQuarrel lk_X11_277 (by first | assumption | exact And.left (by assumption)) dX11_row_37 rfl rfl rfl rfl (fun r S' τ37 hq => ?_)
          obtain ⟨hS, rfl, f, rfl⟩ := hq
          have hS2 := hS.symm
          subst hS2
          refine PW.goto 52 dX11_row_40 (by decide) ?_
          exact PW.iret rfl rfl dX11_row_52 ⟨rfl, ret_eq (Eq.symm ((if_neg (show ¬ ¬ ((2 ≤ n ∧ n ≤ 8) ∧ (i = -1 ∨ (0 ≤ i ∧ i < n))) by omega)).trans (by first | exact if_pos (by omega) | exact if_neg (by omega)))), f, rfl⟩
      · refine PW.iload_n dX11_row_16 rfl ?_
        refine PW.iload_n dX11_row_17 rfl ?_
        refine PW.callSr (c_X11_isBelow (by first | assumption | (unfold inR; omega)) (by first | assumption | (unfold inR; omega))) cs_X11_isBelow lk_X11_270 dX11_row_18 rfl rfl rfl ?_
        refine PW.if_neB 27 dX11_row_21 (by decide) (fun h21 => ?_) (fun h21 => ?_)
        · refine PW.iload_n dX11_row_27 rfl ?_
          refine PW.iconst dX11_row_28 ?_
          refine PW.icmp_ne 43 dX11_row_29 (by decide) (by first | (unfold inR; omega) | assumption) (by first | (unfold inR; omega) | assumption) (fun h29 => ?_) (fun h29 => ?_)
          · refine PW.aload_n dX11_row_43 rfl ?_
            refine PW.getR fl_X11_70 rfl (by assumption) rfl dX11_row_44 ?_
            refine PW.iload_n dX11_row_47 rfl ?_
            refine PW.iload_n dX11_row_48 rfl ?_
            refine PW.callVg (c_X0_bedInRow hAg hwk (by omega) (by omega)) cv_X0_bedInRow lk_X11_280 (by first | assumption | exact And.left (by assumption)) dX11_row_49 rfl rfl rfl rfl (fun r S' τ49 hq => ?_)
            obtain ⟨hS, rfl, f, rfl⟩ := hq
            have hS2 := hS.symm
            subst hS2
            exact PW.iret rfl rfl dX11_row_52 ⟨rfl, ret_eq (Eq.symm ((if_neg (show ¬ ¬ ((2 ≤ n ∧ n ≤ 8) ∧ (i = -1 ∨ (0 ≤ i ∧ i < n))) by omega)).trans (by first | exact if_pos (by omega) | exact if_neg (by omega)))), f, rfl⟩
          · refine PW.aload_n dX11_row_32 rfl ?_
            refine PW.getR fl_X11_70 rfl (by assumption) rfl dX11_row_33 ?_
            refine PW.iload_n dX11_row_36 rfl ?_
            refine PW.callVg (c_X0_leastQuarrel hAg hwk (by omega)) cv_X0_leastQuarrel lk_X11_277 (by first | assumption | exact And.left (by assumption)) dX11_row_37 rfl rfl rfl rfl (fun r S' τ37 hq => ?_)
            obtain ⟨hS, rfl, f, rfl⟩ := hq
            have hS2 := hS.symm
            subst hS2
            refine PW.goto 52 dX11_row_40 (by decide) ?_
            exact PW.iret rfl rfl dX11_row_52 ⟨rfl, ret_eq (Eq.symm ((if_neg (show ¬ ¬ ((2 ≤ n ∧ n ≤ 8) ∧ (i = -1 ∨ (0 ≤ i ∧ i < n))) by omega)).trans (by first | exact if_pos (by omega) | exact if_neg (by omega)))), f, rfl⟩
        · refine PW.ldc (-100002) kc_X11_101 rfl rfl dX11_row_24 ?_
          exact PW.iret rfl rfl dX11_row_26 ⟨rfl, ret_eq (by rw [if_pos (by omega)]), _, (upS_self _ _).symm⟩
theorem c_X11_sure {G : GT} {S : Shp} {σ : Sto} {h : Nat} {n a b : Int} (hA : IsHill S h) (hwk : wOk (σ (h + 173 + 1))) (rn : inR n) (ra : inR a) (rb : inR b) : PMet G mX11_sure 5 0 0 [.ref h, .int (iI n), .int (iI a), .int (iI b)] S σ (fun r S' τ => S' = S ∧ r = some (.int (iI (if ¬ ((2 ≤ n ∧ n ≤ 8) ∧ (0 ≤ a ∧ a < n) ∧ (0 ≤ b ∧ b < n) ∧ ¬ a = b) then -100002 else if dqG (σ (h + 173 + 1)) n 0 < dqF (σ (h + 173 + 1)) n b a 0 then 1 else if dqG (σ (h + 173 + 1)) n 0 < dqF (σ (h + 173 + 1)) n a b 0 then 2 else 0))) ∧ ∃ f : Int → Int, τ = upS σ (h + 173 + 2) f) := by
  obtain ⟨hH0, hEv, hMi, hDf, hVr, hKp, hTx, hLd, hOt, hEn, hSg, hAg, hDw, hTe, hHo, hVs⟩ := id hA
  refine PMet.of [(0, .ref h), (1, .int (iI (n))), (2, .int (iI (a))), (3, .int (iI (b)))] (by decide +kernel) rfl (Nat.le_of_ble_eq_true rfl) ?_
  refine PW.iload_n dX11_sure_0 rfl ?_
  refine PW.iconst dX11_sure_1 ?_
  refine PW.icmp_lt 32 dX11_sure_2 (by decide) (by first | (unfold inR; omega) | assumption) (by first | (unfold inR; omega) | assumption) (fun h2 => ?_) (fun h2 => ?_)
  · refine PW.ldc (-100002) kc_X11_101 rfl rfl dX11_sure_32 ?_
    exact PW.iret rfl rfl dX11_sure_34 ⟨rfl, ret_eq (by rw [if_pos (by omega)]), _, (upS_self _ _).symm⟩
  · refine PW.iload_n dX11_sure_5 rfl ?_
    refine PW.bipush (by decide) dX11_sure_6 ?_
    refine PW.icmp_gt 32 dX11_sure_8 (by decide) (by first | (unfold inR; omega) | assumption) (by first | (unfold inR; omega) | assumption) (fun h8 => ?_) (fun h8 => ?_)
    · refine PW.ldc (-100002) kc_X11_101 rfl rfl dX11_sure_32 ?_
      exact PW.iret rfl rfl dX11_sure_34 ⟨rfl, ret_eq (by rw [if_pos (by omega)]), _, (upS_self _ _).symm⟩
    · refine PW.iload_n dX11_sure_11 rfl ?_
      refine PW.iload_n dX11_sure_12 rfl ?_
      refine PW.callSr (c_X11_isBelow (by first | assumption | (unfold inR; omega)) (by first | assumption | (unfold inR; omega))) cs_X11_isBelow lk_X11_270 dX11_sure_13 rfl rfl rfl ?_
      refine PW.if_eqB 32 dX11_sure_16 (by decide) (fun h16 => ?_) (fun h16 => ?_)
      · refine PW.ldc (-100002) kc_X11_101 rfl rfl dX11_sure_32 ?_
        exact PW.iret rfl rfl dX11_sure_34 ⟨rfl, ret_eq (by rw [if_pos (by omega)]), _, (upS_self _ _).symm⟩
      · refine PW.iload_n dX11_sure_19 rfl ?_
        refine PW.iload_n dX11_sure_20 rfl ?_
        refine PW.callSr (c_X11_isBelow (by first | assumption | (unfold inR; omega)) (by first | assumption | (unfold inR; omega))) cs_X11_isBelow lk_X11_270 dX11_sure_21 rfl rfl rfl ?_
        refine PW.if_eqB 32 dX11_sure_24 (by decide) (fun h24 => ?_) (fun h24 => ?_)
        · refine PW.ldc (-100002) kc_X11_101 rfl rfl dX11_sure_32 ?_
          exact PW.iret rfl rfl dX11_sure_34 ⟨rfl, ret_eq (by rw [if_pos (by omega)]), _, (upS_self _ _).symm⟩
        · refine PW.iload_n dX11_sure_27 rfl ?_
          refine PW.iload_n dX11_sure_28 rfl ?_
          refine PW.icmp_ne 35 dX11_sure_29 (by decide) (by first | (unfold inR; omega) | assumption) (by first | (unfold inR; omega) | assumption) (fun h29 => ?_) (fun h29 => ?_)
          · refine PW.aload_n dX11_sure_35 rfl ?_
            refine PW.getR fl_X11_70 rfl (by assumption) rfl dX11_sure_36 ?_
            refine PW.iload_n dX11_sure_39 rfl ?_
            refine PW.iload_n dX11_sure_40 rfl ?_
            refine PW.iload_n dX11_sure_41 rfl ?_
            refine PW.callVg (c_X0_surely hAg hwk (by omega) (by omega) (by omega)) cv_X0_surely lk_X11_283 (by first | assumption | exact And.left (by assumption)) dX11_sure_42 rfl rfl rfl rfl (fun r S' τ42 hq => ?_)
            obtain ⟨hS, rfl, f, rfl⟩ := hq
            have hS2 := hS.symm
            subst hS2
            exact PW.iret rfl rfl dX11_sure_45 ⟨rfl, ret_eq (Eq.symm (if_neg (show ¬ ¬ ((2 ≤ n ∧ n ≤ 8) ∧ (0 ≤ a ∧ a < n) ∧ (0 ≤ b ∧ b < n) ∧ ¬ a = b) by omega))), f, rfl⟩
          · refine PW.ldc (-100002) kc_X11_101 rfl rfl dX11_sure_32 ?_
            exact PW.iret rfl rfl dX11_sure_34 ⟨rfl, ret_eq (by rw [if_pos (by omega)]), _, (upS_self _ _).symm⟩
theorem c_X11_broken {G : GT} {S : Shp} {σ : Sto} {h : Nat}  (hA : IsHill S h) (hT : taOk σ (h + 1)) (hwk : wOk (σ (h + 173 + 1))) : PMet G mX11_broken 5 0 0 [.ref h] S σ (isP (some (.int (iI (bkF (σ (h + 173 + 1)) (birF (σ (h + 1 + 1)) (σ (h + 1) 2)))))) S (σ)) := by
  obtain ⟨hH0, hEv, hMi, hDf, hVr, hKp, hTx, hLd, hOt, hEn, hSg, hAg, hDw, hTe, hHo, hVs⟩ := id hA
  refine PMet.of [(0, .ref h)] (by decide +kernel) rfl (Nat.le_of_ble_eq_true rfl) ?_
  refine PW.aload_n dX11_broken_0 rfl ?_
  refine PW.getR fl_X11_70 rfl (by assumption) rfl dX11_broken_1 ?_
  refine PW.aload_n dX11_broken_4 rfl ?_
  refine PW.getR fl_X11_10 rfl (by assumption) rfl dX11_broken_5 ?_
  refine PW.callVr (c_X0_brokenBy hAg hwk hEv hT) cv_X0_brokenBy lk_X11_287 (by first | assumption | exact And.left (by assumption)) dX11_broken_8 rfl rfl rfl rfl ?_
  exact PW.iret rfl (by first | rfl | exact narB _) dX11_broken_11 ⟨rfl, rfl, rfl⟩

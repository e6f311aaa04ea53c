set_option maxRecDepth 20000 in
theorem c_X11_amount {G : GT} {S : Shp} {σ : Sto} {h : Nat} {b w : Int} (hA : IsHill S h) (rb : inR b) (rw_ : inR w) (hT : taOk σ (h + 1)) (hlc : colsOk σ (h + 15) 64) (hes : colsOk σ (h + 149 + 4) 5) (hek : σ (h + 149) 8 = 0 ∨ (σ (h + 149) 8 = 1 ∧ endsV σ (h + 149) (σ (h + 1 + 1)) (σ (h + 1) 2))) : PMet G mX11_amount 12 0 0 [.ref h, .int (iI b), .int (iI w)] S σ (fun r S' τ => S' = S ∧ ∃ v : Int, r = some (.int (iI v)) ∧ ((¬ ((0 ≤ b ∧ b < 16) ∧ (0 ≤ w ∧ w ≤ 2))) → v = -100002) ∧ (¬ (¬ ((0 ≤ b ∧ b < 16) ∧ (0 ≤ w ∧ w ≤ 2))) → w = 0 → v = smF (fun j => clF (σ (cA (h + 15) j + 1)) b) 64) ∧ (¬ (¬ ((0 ≤ b ∧ b < 16) ∧ (0 ≤ w ∧ w ≤ 2))) → ¬ w = 0 → 4 < looF (σ (h + 1 + 1)) (σ (h + 1) 2) → v = -100005) ∧ (¬ (¬ ((0 ≤ b ∧ b < 16) ∧ (0 ≤ w ∧ w ≤ 2))) → w = 1 → ¬ 4 < looF (σ (h + 1 + 1)) (σ (h + 1) 2) → isLst (σ (h + 1 + 1)) (σ (h + 1) 2) b v) ∧ (¬ (¬ ((0 ≤ b ∧ b < 16) ∧ (0 ≤ w ∧ w ≤ 2))) → w = 2 → ¬ 4 < looF (σ (h + 1 + 1)) (σ (h + 1) 2) → isGrt (σ (h + 1 + 1)) (σ (h + 1) 2) b v) ∧ (∀ q, q < h + 149 ∨ h + 149 + 22 ≤ q → τ q = σ q) ∧ colsOk τ (h + 149 + 4) 5 ∧ (τ (h + 149) 8 = 0 ∨ (τ (h + 149) 8 = 1 ∧ endsV τ (h + 149) (σ (h + 1 + 1)) (σ (h + 1) 2)))) := by
  obtain ⟨hH0, hEv, hMi, hDf, hVr, hKp, hTx, hLd, hOt, hEn, hSg, hAg, hDw, hTe, hHo, hVs⟩ := id hA
  have hT1 := hT.1
  have lb := looF_b (σ (h + 1 + 1)) (σ (h + 1) 2) hT1.1
  refine PMet.of [(0, .ref h), (1, .int (iI (b))), (2, .int (iI (w)))] (by decide +kernel) rfl (Nat.le_of_ble_eq_true rfl) ?_
  refine PW.iload_n dX11_amount_0 rfl ?_
  refine PW.callSr (c_X11_isBed (by first | assumption | (unfold inR; omega))) cs_X11_isBed lk_X11_208 dX11_amount_1 rfl rfl rfl ?_
  refine PW.if_eqB 16 dX11_amount_4 (by decide) (fun h4 => ?_) (fun h4 => ?_)
  · refine PW.ldc (-100002) kc_X11_101 rfl rfl dX11_amount_16 ?_
    exact PW.iret rfl rfl dX11_amount_18 ⟨rfl, _, rfl, fun _ => rfl, fun q => by omega, fun q => by omega, fun q => by omega, fun q => by omega, fun _ _ => rfl, hes, hek⟩
  · refine PW.iload_n dX11_amount_7 rfl ?_
    refine PW.if_lt 16 dX11_amount_8 (by decide) (by first | (unfold inR; omega) | assumption) (fun h8 => ?_) (fun h8 => ?_)
    · refine PW.ldc (-100002) kc_X11_101 rfl rfl dX11_amount_16 ?_
      exact PW.iret rfl rfl dX11_amount_18 ⟨rfl, _, rfl, fun _ => rfl, fun q => by omega, fun q => by omega, fun q => by omega, fun q => by omega, fun _ _ => rfl, hes, hek⟩
    · refine PW.iload_n dX11_amount_11 rfl ?_
      refine PW.iconst dX11_amount_12 ?_
      refine PW.icmp_le 19 dX11_amount_13 (by decide) (by first | (unfold inR; omega) | assumption) (by first | (unfold inR; omega) | assumption) (fun h13 => ?_) (fun h13 => ?_)
      · refine PW.iload_n dX11_amount_19 rfl ?_
        refine PW.if_ne 32 dX11_amount_20 (by decide) (by first | (unfold inR; omega) | assumption) (fun h20 => ?_) (fun h20 => ?_)
        · refine PW.aload_n dX11_amount_32 rfl ?_
          refine PW.getR fl_X11_10 rfl (by assumption) rfl dX11_amount_33 ?_
          refine PW.callVr (c_X8_looseOnes hEv hT) cv_X8_looseOnes lk_X11_155 (by first | assumption | exact And.left (by assumption)) dX11_amount_36 rfl rfl rfl rfl ?_
          refine PW.iconst dX11_amount_39 ?_
          refine PW.icmp_le 46 dX11_amount_40 (by decide) (by first | (unfold inR; omega) | assumption) (by first | (unfold inR; omega) | assumption) (fun h40 => ?_) (fun h40 => ?_)
          · refine PW.aload_n dX11_amount_46 rfl ?_
            refine PW.getR fl_X11_56 rfl (by assumption) rfl dX11_amount_47 ?_
            refine PW.aload_n dX11_amount_50 rfl ?_
            refine PW.getR fl_X11_10 rfl (by assumption) rfl dX11_amount_51 ?_
            refine PW.callVg (c_X4_know hEn hEv hT (by omega) hes (by omega) hek) cv_X4_know lk_X11_223 (by first | assumption | exact And.left (by assumption)) dX11_amount_54 rfl rfl rfl rfl (fun r S' τ54 hq => ?_)
            obtain ⟨rfl, hS, y1, y2, y3, y4⟩ := hq
            have hS2 := hS.symm
            subst hS2
            refine PW.iload_n dX11_amount_57 rfl ?_
            refine PW.iconst dX11_amount_58 ?_
            refine PW.icmp_ne 73 dX11_amount_59 (by decide) (by first | (unfold inR; omega) | assumption) (by first | (unfold inR; omega) | assumption) (fun h59 => ?_) (fun h59 => ?_)
            · refine PW.aload_n dX11_amount_73 rfl ?_
              refine PW.getR fl_X11_56 rfl (by assumption) rfl dX11_amount_74 ?_
              refine PW.iload_n dX11_amount_77 rfl ?_
              refine PW.callVr (c_X4_greatest hEn (by omega)) cv_X4_greatest lk_X11_229 (by first | assumption | exact And.left (by assumption)) dX11_amount_78 rfl rfl rfl rfl ?_
              first
                | (refine PW.iret rfl rfl dX11_amount_81 ⟨rfl, _, rfl, fun q => by omega, fun _ q => by omega, fun _ _ q => by omega, fun _ _ _ => ?_, fun _ q => by omega, y1, y2, Or.inr ⟨y4, y3⟩⟩
                   exact (y3 b (by omega) (by omega)).1)
                | (refine PW.iret rfl rfl dX11_amount_81 ⟨rfl, _, rfl, fun q => by omega, fun _ q => by omega, fun _ _ q => by omega, fun _ q => by omega, fun _ _ _ => ?_, y1, y2, Or.inr ⟨y4, y3⟩⟩
                   exact (y3 b (by omega) (by omega)).2)
            · refine PW.aload_n dX11_amount_62 rfl ?_
              refine PW.getR fl_X11_56 rfl (by assumption) rfl dX11_amount_63 ?_
              refine PW.iload_n dX11_amount_66 rfl ?_
              refine PW.callVr (c_X4_least hEn (by omega)) cv_X4_least lk_X11_226 (by first | assumption | exact And.left (by assumption)) dX11_amount_67 rfl rfl rfl rfl ?_
              refine PW.goto 81 dX11_amount_70 (by decide) ?_
              first
                | (refine PW.iret rfl rfl dX11_amount_81 ⟨rfl, _, rfl, fun q => by omega, fun _ q => by omega, fun _ _ q => by omega, fun _ _ _ => ?_, fun _ q => by omega, y1, y2, Or.inr ⟨y4, y3⟩⟩
                   exact (y3 b (by omega) (by omega)).1)
                | (refine PW.iret rfl rfl dX11_amount_81 ⟨rfl, _, rfl, fun q => by omega, fun _ q => by omega, fun _ _ q => by omega, fun _ q => by omega, fun _ _ _ => ?_, y1, y2, Or.inr ⟨y4, y3⟩⟩
                   exact (y3 b (by omega) (by omega)).2)
          · refine PW.ldc (-100005) kc_X11_222 rfl rfl dX11_amount_43 ?_
            exact PW.iret rfl rfl dX11_amount_45 ⟨rfl, _, rfl, fun q => by omega, fun _ q => absurd q (by assumption), fun _ _ _ => rfl, fun _ _ q => by omega, fun _ _ q => by omega, fun _ _ => rfl, hes, hek⟩
        · refine PW.aload_n dX11_amount_23 rfl ?_
          refine PW.getR fl_X11_42 rfl (by assumption) rfl dX11_amount_24 ?_
          refine PW.iload_n dX11_amount_27 rfl ?_
          refine PW.callVr (c_X2_cellsOf hLd (by decide) hlc rb) cv_X2_cellsOf lk_X11_221 (by first | assumption | exact And.left (by assumption)) dX11_amount_28 rfl rfl rfl rfl ?_
          exact PW.iret rfl rfl dX11_amount_31 ⟨rfl, _, rfl, fun q => by omega, fun _ _ => rfl, fun _ q => absurd (by assumption) q, fun _ q => by omega, fun _ q => by omega, fun _ _ => rfl, hes, hek⟩
      · refine PW.ldc (-100002) kc_X11_101 rfl rfl dX11_amount_16 ?_
        exact PW.iret rfl rfl dX11_amount_18 ⟨rfl, _, rfl, fun _ => rfl, fun q => by omega, fun q => by omega, fun q => by omega, fun q => by omega, fun _ _ => rfl, hes, hek⟩
theorem c_X11_sight {G : GT} {S : Shp} {σ : Sto} {h : Nat} {k x y b p q : Int} (hA : IsHill S h) (hss : sgsOk σ (h + 171)) (rk : inR k) (rx : inR x) (ry : inR y) (rb : inR b) (rp : inR p) (rq : inR q) : PMet G mX11_sight 4 0 0 [.ref h, .int (iI (k)), .int (iI (x)), .int (iI (y)), .int (iI (b)), .int (iI (p)), .int (iI (q))] S σ (isP (some (.int (iI (if ¬ (sgOk k x y b p q) then -100002 else if 30 ≤ σ (h + 171) 1 then -100004 else σ (h + 171) 1)))) S (if (sgOk k x y b p q) ∧ σ (h + 171) 1 < 30 then upS (upS (upS σ (h + 171 + 1) (sgF (σ (h + 171 + 1)) (σ (h + 171) 1) k (8 * y + x) b p q)) (h + 171) (up1 (σ (h + 171)) 1 (σ (h + 171) 1 + 1))) (h + 183) (up1 (σ (h + 183)) 12 0) else σ)) := by
  obtain ⟨hH0, hEv, hMi, hDf, hVr, hKp, hTx, hLd, hOt, hEn, hSg, hAg, hDw, hTe, hHo, hVs⟩ := id hA
  have hs1 := hss.1
  refine PMet.of [(0, .ref h), (1, .int (iI (k))), (2, .int (iI (x))), (3, .int (iI (y))), (4, .int (iI (b))), (5, .int (iI (p))), (6, .int (iI (q)))] (by decide +kernel) rfl (Nat.le_of_ble_eq_true rfl) ?_
  refine PW.iload_n dX11_sight_0 rfl ?_
  refine PW.iload_n dX11_sight_1 rfl ?_
  refine PW.iload_n dX11_sight_2 rfl ?_
  refine PW.iload dX11_sight_3 rfl ?_
  refine PW.iload dX11_sight_5 rfl ?_
  refine PW.iload dX11_sight_7 rfl ?_
  refine PW.callSr (c_X7_allow (by first | assumption | (unfold inR; omega)) (by first | assumption | (unfold inR; omega)) (by first | assumption | (unfold inR; omega)) (by first | assumption | (unfold inR; omega)) (by first | assumption | (unfold inR; omega)) (by first | assumption | (unfold inR; omega))) cs_X7_allow lk_X11_251 dX11_sight_9 rfl rfl rfl ?_
  refine PW.if_neB 18 dX11_sight_12 (by decide) (fun h12 => ?_) (fun h12 => ?_)
  · refine PW.aload_n dX11_sight_18 rfl ?_
    refine PW.getR fl_X11_63 rfl (by assumption) rfl dX11_sight_19 ?_
    refine PW.callVr (c_X7_size (by assumption)) cv_X7_size lk_X11_158 (by first | assumption | exact And.left (by assumption)) dX11_sight_22 rfl rfl rfl rfl ?_
    refine PW.bipush (by decide) dX11_sight_25 ?_
    refine PW.icmp_lt 33 dX11_sight_27 (by decide) (by first | (unfold inR; omega) | assumption) (by first | (unfold inR; omega) | assumption) (fun h27 => ?_) (fun h27 => ?_)
    · refine PW.aload_n dX11_sight_33 rfl ?_
      refine PW.getR fl_X11_63 rfl (by assumption) rfl dX11_sight_34 ?_
      refine PW.iload_n dX11_sight_37 rfl ?_
      refine PW.iload_n dX11_sight_38 rfl ?_
      refine PW.iload_n dX11_sight_39 rfl ?_
      refine PW.iload dX11_sight_40 rfl ?_
      refine PW.iload dX11_sight_42 rfl ?_
      refine PW.iload dX11_sight_44 rfl ?_
      refine PW.callVv (c_X7_add (n := σ (h + 171) 1) hSg rfl (by omega)) cv_X7_add lk_X11_252 (by first | assumption | exact And.left (by assumption)) dX11_sight_46 rfl rfl rfl rfl ?_
      refine PW.aload_n dX11_sight_49 rfl ?_
      refine PW.getR fl_X11_84 rfl (by assumption) rfl dX11_sight_50 ?_
      refine PW.callVv (c_X9_doubt hTe) cv_X9_doubt lk_X11_253 (by first | assumption | exact And.left (by assumption)) dX11_sight_53 rfl rfl rfl rfl ?_
      refine PW.st (upS (upS (upS σ (h + 171 + 1) (sgF (σ (h + 171 + 1)) (σ (h + 171) 1) k (8 * y + x) b p q)) (h + 171) (up1 (σ (h + 171)) 1 (σ (h + 171) 1 + 1))) (h + 183) (up1 (σ (h + 183)) 12 0)) (by rw [upS_ne (by omega), upS_ne (by omega)]) ?_
      refine PW.aload_n dX11_sight_56 rfl ?_
      refine PW.getR fl_X11_63 rfl (by assumption) rfl dX11_sight_57 ?_
      refine PW.callVr (c_X7_size (by assumption)) cv_X7_size lk_X11_158 (by first | assumption | exact And.left (by assumption)) dX11_sight_60 rfl rfl rfl rfl ?_
      refine PW.top (σ (h + 171) 1 + 1) (by rw [upS_ne (by omega), upS_same, up1_same]) ?_
      refine PW.iconst dX11_sight_63 ?_
      refine PW.isub dX11_sight_64 ?_
      refine PW.iret rfl rfl dX11_sight_65 ⟨ret_eq ?_, rfl, ?_⟩
      · rw [if_neg (fun q => q (by assumption)), if_neg (by omega)]
        omega
      · rw [if_pos ⟨by assumption, by omega⟩]
    · refine PW.ldc (-100004) kc_X11_106 rfl rfl dX11_sight_30 ?_
      refine PW.iret rfl rfl dX11_sight_32 ⟨ret_eq ?_, rfl, ?_⟩
      · rw [if_neg (fun q => q (by assumption)), if_pos (by omega)]
      · rw [if_neg (fun q => by have := q.2; omega)]
  · refine PW.ldc (-100002) kc_X11_101 rfl rfl dX11_sight_15 ?_
    refine PW.iret rfl rfl dX11_sight_17 ⟨ret_eq ?_, rfl, ?_⟩
    · rw [if_pos (by assumption)]
    · rw [if_neg (fun q => absurd q.1 (by assumption))]
-- (not here: c_X11_met)
-- (not here: c_X11_unmet)
-- (not here: c_X11_forget)
-- (not here: c_X11_claim)
-- (not here: c_X11_row)
-- (not here: c_X11_sure)
-- (not here: c_X11_broken)

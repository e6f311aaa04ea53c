def veG (h : Nat) : Nat → Option Nat := fun j => if j < 4 then some (h + 461 + 3 * j) else none
def veA (h : Nat) (v : Int) : Nat := h + 461 + 3 * v.toNat
def IsHill (S : Shp) (h : Nat) : Prop := At S h (sO 10 [fR (h + 1), fR (h + 4), fR (h + 7), fR (h + 10), fR (h + 11), fR (h + 12), fR (h + 15), fR (h + 147), fR (h + 149), fR (h + 171), fR (h + 173), fR (h + 176), fR (h + 183), fR (h + 458)]) ∧ IsTale S (h + 1) ∧ IsTale S (h + 4) ∧ IsTale S (h + 7) ∧ At S (h + 10) (sQ 3 4 (veG h)) ∧ At S (h + 11) (sA 2 4) ∧ IsTxt S (h + 12) ∧ IsCols S (h + 15) 64 ∧ IsCol S (h + 147) ∧ IsEnds S (h + 149) ∧ IsSig S (h + 171) ∧ IsAge S (h + 173) ∧ IsDr S (h + 176) ∧ IsTel S (h + 183) ∧ IsHole S (h + 458) ∧ ∀ v : Int, 0 ≤ v → v < 4 → IsTale S (veA h v)
/-- the store behind renew -/
def rnS (σ : Sto) (h : Nat) : Sto := upS (upS (stC σ (h + 15) 64 (fun n => tlF (σ (h + 1 + 1)) n (σ (cA (h + 15) n + 1)) (σ (h + 1) 2).toNat)) (h + 149) (up1 (σ (h + 149)) 8 0)) (h + 183) (up1 (σ (h + 183)) 12 0)
/-- how many cells of column n are unlike in a tale's land -/
def ucF (σ : Sto) (h t : Nat) (n : Int) : Int := ulF (tlF (σ (t + 1)) n zF (σ t 2).toNat) (σ (cA (h + 15) n + 1))
theorem ucF_b (σ : Sto) (h t : Nat) (n : Int) : 0 ≤ ucF σ h t n ∧ ucF σ h t n ≤ 80 := ulF_b _ _
theorem c_X11_renew {G : GT} {S : Shp} {σ : Sto} {h : Nat} (hA : IsHill S h) (hT : taOk σ (h + 1)) : PMet G mX11_renew 6 0 0 [.ref h] S σ (isP none S (rnS σ h)) := by
  obtain ⟨hH0, hEv, hMi, hDf, hVr, hKp, hTx, hLd, hOt, hEn, hSg, hAg, hDw, hTe, hHo, hVs⟩ := id hA
  have hT1 := hT.1
  refine PMet.of [(0, .ref h)] (by decide +kernel) rfl (Nat.le_of_ble_eq_true rfl) ?_
  refine PW.aload_n dX11_renew_0 rfl ?_
  refine PW.getR fl_X11_42 rfl (by assumption) rfl dX11_renew_1 ?_
  refine PW.aload_n dX11_renew_4 rfl ?_
  refine PW.getR fl_X11_10 rfl (by assumption) rfl dX11_renew_5 ?_
  refine PW.aload_n dX11_renew_8 rfl ?_
  refine PW.getR fl_X11_10 rfl (by assumption) rfl dX11_renew_9 ?_
  refine PW.callVr (c_X8_size hEv) cv_X8_size lk_X11_102 (by first | assumption | exact And.left (by assumption)) dX11_renew_12 rfl rfl rfl rfl ?_
  refine PW.callVv (c_X2_tell hLd (by decide) (by decide) hEv hT (by omega) (by omega)) cv_X2_tell lk_X11_342 (by first | assumption | exact And.left (by assumption)) dX11_renew_15 rfl rfl rfl rfl ?_
  refine PW.aload_n dX11_renew_18 rfl ?_
  refine PW.getR fl_X11_56 rfl (by assumption) rfl dX11_renew_19 ?_
  refine PW.callVv (c_X4_doubt hEn) cv_X4_doubt lk_X11_145 (by first | assumption | exact And.left (by assumption)) dX11_renew_22 rfl rfl rfl rfl ?_
  refine PW.aload_n dX11_renew_25 rfl ?_
  refine PW.getR fl_X11_84 rfl (by assumption) rfl dX11_renew_26 ?_
  refine PW.callVv (c_X9_doubt hTe) cv_X9_doubt lk_X11_253 (by first | assumption | exact And.left (by assumption)) dX11_renew_29 rfl rfl rfl rfl ?_
  exact PW.vret rfl dX11_renew_32 (⟨rfl, rfl, by unfold rnS; rw [stC_ne (show h + 149 < h + 15 + 5 ∨ h + 15 + 4 + 2 * 64 ≤ h + 149 by omega), upS_ne (show h + 183 ≠ h + 149 by omega), stC_ne (show h + 183 < h + 15 + 5 ∨ h + 15 + 4 + 2 * 64 ≤ h + 183 by omega)]⟩)
theorem c_X11_isKnown {G : GT} {S : Shp} {σ : Sto} {h : Nat} {k : Int} (hA : IsHill S h) (hsg : 0 ≤ σ (h + 171) 1 ∧ σ (h + 171) 1 ≤ 30) (rk : inR k) : PMet G mX11_isKnown 1 0 0 [.ref h, .int (iI (k))] S σ (isP (some (.int (iI (b01 (-1 ≤ k ∧ k ≤ σ (h + 171) 1))))) S (σ)) := by
  obtain ⟨hH0, hEv, hMi, hDf, hVr, hKp, hTx, hLd, hOt, hEn, hSg, hAg, hDw, hTe, hHo, hVs⟩ := id hA
  refine PMet.of [(0, .ref h), (1, .int (iI (k)))] (by decide +kernel) rfl (Nat.le_of_ble_eq_true rfl) ?_
  refine PW.iload_n dX11_isKnown_0 rfl ?_
  refine PW.iconst dX11_isKnown_1 ?_
  refine PW.icmp_lt 20 dX11_isKnown_2 (by decide) (by first | (unfold inR; omega) | assumption) (by first | (unfold inR; omega) | assumption) (fun h2 => ?_) (fun h2 => ?_)
  · refine PW.iconst dX11_isKnown_20 ?_
    exact PW.iret rfl (by first | rfl | exact narB _) dX11_isKnown_21 ⟨ret_eq (by unfold b01; first | (exfalso; omega) | rw [if_pos (by omega)] | rw [if_neg (by omega)]), rfl, rfl⟩
  · refine PW.iload_n dX11_isKnown_5 rfl ?_
    refine PW.aload_n dX11_isKnown_6 rfl ?_
    refine PW.getR fl_X11_63 rfl (by assumption) rfl dX11_isKnown_7 ?_
    refine PW.callVr (c_X7_size hSg) cv_X7_size lk_X11_158 (by first | assumption | exact And.left (by assumption)) dX11_isKnown_10 rfl rfl rfl rfl ?_
    refine PW.icmp_gt 20 dX11_isKnown_13 (by decide) (by first | (unfold inR; omega) | assumption) (by first | (unfold inR; omega) | assumption) (fun h13 => ?_) (fun h13 => ?_)
    · refine PW.iconst dX11_isKnown_20 ?_
      exact PW.iret rfl (by first | rfl | exact narB _) dX11_isKnown_21 ⟨ret_eq (by unfold b01; first | (exfalso; omega) | rw [if_pos (by omega)] | rw [if_neg (by omega)]), rfl, rfl⟩
    · refine PW.iconst dX11_isKnown_16 ?_
      refine PW.goto 21 dX11_isKnown_17 (by decide) ?_
      exact PW.iret rfl (by first | rfl | exact narB _) dX11_isKnown_21 ⟨ret_eq (by unfold b01; first | (exfalso; omega) | rw [if_pos (by omega)] | rw [if_neg (by omega)]), rfl, rfl⟩
def knF (n k : Int) : Int := if k = -1 then n else k
theorem c_X11_knownOf {G : GT} {S : Shp} {σ : Sto} {h : Nat} {k : Int} (hA : IsHill S h) (rk : inR k) : PMet G mX11_knownOf 1 0 0 [.ref h, .int (iI (k))] S σ (isP (some (.int (iI (knF (σ (h + 171) 1) k)))) S (σ)) := by
  obtain ⟨hH0, hEv, hMi, hDf, hVr, hKp, hTx, hLd, hOt, hEn, hSg, hAg, hDw, hTe, hHo, hVs⟩ := id hA
  refine PMet.of [(0, .ref h), (1, .int (iI (k)))] (by decide +kernel) rfl (Nat.le_of_ble_eq_true rfl) ?_
  refine PW.iload_n dX11_knownOf_0 rfl ?_
  refine PW.iconst dX11_knownOf_1 ?_
  refine PW.icmp_ne 15 dX11_knownOf_2 (by decide) (by first | (unfold inR; omega) | assumption) (by first | (unfold inR; omega) | assumption) (fun h2 => ?_) (fun h2 => ?_)
  · refine PW.iload_n dX11_knownOf_15 rfl ?_
    exact PW.iret rfl rfl dX11_knownOf_16 ⟨ret_eq (by unfold knF; first | rw [if_pos (by assumption)] | rw [if_neg (by assumption)]), rfl, rfl⟩
  · refine PW.aload_n dX11_knownOf_5 rfl ?_
    refine PW.getR fl_X11_63 rfl (by assumption) rfl dX11_knownOf_6 ?_
    refine PW.callVr (c_X7_size hSg) cv_X7_size lk_X11_158 (by first | assumption | exact And.left (by assumption)) dX11_knownOf_9 rfl rfl rfl rfl ?_
    refine PW.goto 16 dX11_knownOf_12 (by decide) ?_
    exact PW.iret rfl rfl dX11_knownOf_16 ⟨ret_eq (by unfold knF; first | rw [if_pos (by assumption)] | rw [if_neg (by assumption)]), rfl, rfl⟩
-- (not here: c_X11_hasVersion)
-- (not here: c_X11_version)
theorem kept_loop {G : GT} {S : Shp} {σ : Sto} {h : Nat} {Q : Option Value → Shp → Sto → Prop} (hA : IsHill S h) (hkp : ∀ v, 0 ≤ v → v < 4 → 0 ≤ σ (h + 11) v ∧ σ (h + 11) v ≤ 1) (hQ : Q (some (.int (iI (smF (fun v => b01 (¬ σ (h + 11) v = 0)) 4)))) S σ) : ∀ (t : Nat) (i : Int), 0 ≤ i → i ≤ 4 → 4 - i < t → PW (fm G mX11_keptVersions 0 0 0 Q) G S (σ) 0 0 4 [(0, .ref h), (1, .int (iI (smF (fun v => b01 (¬ σ (h + 11) v = 0)) i))), (2, .int (iI (i)))] [] := by
  obtain ⟨hH0, hEv, hMi, hDf, hVr, hKp, hTx, hLd, hOt, hEn, hSg, hAg, hDw, hTe, hHo, hVs⟩ := id hA
  intro t
  induction t with
  | zero => intro i h1 h2 h3; omega
  | succ t ih =>
    intro i h1 h2 h3
    have hb := smF_01 (P := fun v => ¬ σ (h + 11) v = 0) h1
    refine PW.iload_n dX11_keptVersions_4 rfl ?_
    refine PW.aload_n dX11_keptVersions_5 rfl ?_
    refine PW.getR fl_X11_26 rfl (by assumption) rfl dX11_keptVersions_6 ?_
    refine PW.alen (by assumption) (by decide) dX11_keptVersions_9 ?_
    refine PW.icmp_ge 31 dX11_keptVersions_10 (by decide) (by first | assumption | (unfold inR; omega) | (have := hkp i (by omega) (by omega); unfold inR; omega)) (by first | assumption | (unfold inR; omega) | (have := hkp i (by omega) (by omega); unfold inR; omega)) (fun h10 => ?_) (fun h10 => ?_)
    · refine PW.iload_n dX11_keptVersions_31 rfl ?_
      have hi : i = 4 := by omega
      subst hi
      exact PW.iret rfl rfl dX11_keptVersions_32 hQ
    · refine PW.aload_n dX11_keptVersions_13 rfl ?_
      refine PW.getR fl_X11_26 rfl (by assumption) rfl dX11_keptVersions_14 ?_
      refine PW.iload_n dX11_keptVersions_17 rfl ?_
      refine PW.zaload (by assumption) (by first | assumption | (unfold inR; omega) | (have := hkp i (by omega) (by omega); unfold inR; omega)) (by omega) (by omega) dX11_keptVersions_18 ?_
      refine PW.if_eq 25 dX11_keptVersions_19 (by decide) (by first | assumption | (unfold inR; omega) | (have := hkp i (by omega) (by omega); unfold inR; omega)) (fun h19 => ?_) (fun h19 => ?_)
      · refine PW.iinc [(0, _), (1, _), (2, _)] dX11_keptVersions_25 rfl rfl (Nat.le_of_ble_eq_true rfl) ?_
        refine PW.goto 4 dX11_keptVersions_28 (by decide) ?_
        have e := ih (i + 1) (by omega) (by omega) (by omega)
        rw [smF_s (fun v => b01 (¬ σ (h + 11) v = 0)) h1] at e
        first
          | (rw [b01_t (by assumption)] at e; exact e)
          | (rw [b01_f (fun q => q (by assumption)), Int.add_zero] at e; exact e)
      · refine PW.iinc [(0, _), (1, _), (2, _)] dX11_keptVersions_22 rfl rfl (Nat.le_of_ble_eq_true rfl) ?_
        refine PW.iinc [(0, _), (1, _), (2, _)] dX11_keptVersions_25 rfl rfl (Nat.le_of_ble_eq_true rfl) ?_
        refine PW.goto 4 dX11_keptVersions_28 (by decide) ?_
        have e := ih (i + 1) (by omega) (by omega) (by omega)
        rw [smF_s (fun v => b01 (¬ σ (h + 11) v = 0)) h1] at e
        first
          | (rw [b01_t (by assumption)] at e; exact e)
          | (rw [b01_f (fun q => q (by assumption)), Int.add_zero] at e; exact e)
theorem c_X11_keptVersions {G : GT} {S : Shp} {σ : Sto} {h : Nat} (hA : IsHill S h) (hkp : ∀ v, 0 ≤ v → v < 4 → 0 ≤ σ (h + 11) v ∧ σ (h + 11) v ≤ 1) : PMet G mX11_keptVersions 0 0 0 [.ref h] S σ (isP (some (.int (iI (smF (fun v => b01 (¬ σ (h + 11) v = 0)) 4)))) S σ) := by
  refine PMet.of [(0, .ref h)] (by decide +kernel) rfl (Nat.le_of_ble_eq_true rfl) ?_
  refine PW.iconst dX11_keptVersions_0 ?_
  refine PW.istore_n [(0, _), (1, _)] dX11_keptVersions_1 rfl (Nat.le_of_ble_eq_true rfl) ?_
  refine PW.iconst dX11_keptVersions_2 ?_
  refine PW.istore_n [(0, _), (1, _), (2, _)] dX11_keptVersions_3 rfl (Nat.le_of_ble_eq_true rfl) ?_
  exact kept_loop hA hkp ⟨rfl, rfl, rfl⟩ 5 0 (by omega) (by omega) (by omega)
-- (not here: c_X11_unlikeCellsAt)
-- (not here: ucol_loop)
-- (not here: c_X11_unlikeColumns)
-- (not here: ucel_loop)
-- (not here: c_X11_unlikeCells)
-- (not here: ufst_loop)
-- (not here: c_X11_firstUnlikeColumn)

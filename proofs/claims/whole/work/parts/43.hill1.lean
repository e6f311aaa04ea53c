def veG (h : Nat) : Nat → Option Nat := fun j => if j < 4 then some (h + 461 + 3 * j) else none
def veA (h : Nat) (v : Int) : Nat := h + 461 + 3 * v.toNat
def IsHill (S : Shp) (h : Nat) : Prop := At S h (sO 10 [fR (h + 1), fR (h + 4), fR (h + 7), fR (h + 10), fR (h + 11), fR (h + 12), fR (h + 15), fR (h + 147), fR (h + 149), fR (h + 171), fR (h + 173), fR (h + 176), fR (h + 183), fR (h + 458)]) ∧ IsTale S (h + 1) ∧ IsTale S (h + 4) ∧ IsTale S (h + 7) ∧ At S (h + 10) (sQ 3 4 (veG h)) ∧ At S (h + 11) (sA 2 4) ∧ IsTxt S (h + 12) ∧ IsCols S (h + 15) 64 ∧ IsCol S (h + 147) ∧ IsEnds S (h + 149) ∧ IsSig S (h + 171) ∧ IsAge S (h + 173) ∧ IsDr S (h + 176) ∧ IsTel S (h + 183) ∧ IsHole S (h + 458) ∧ ∀ v : Int, 0 ≤ v → v < 4 → IsTale S (veA h v)
/-- the store behind renew -/
def rnS (σ : Sto) (h : Nat) : Sto := upS (upS (stC σ (h + 15) 64 (fun n => tlF (σ (h + 1 + 1)) n (σ (cA (h + 15) n + 1)) (σ (h + 1) 2).toNat)) (h + 149) (up1 (σ (h + 149)) 8 0)) (h + 183) (up1 (σ (h + 183)) 12 0)
/-- how many cells of column n are unlike in a tale's land -/
def ucF (σ : Sto) (h t : Nat) (n : Int) : Int := ulF (tlF (σ (t + 1)) n zF (σ t 2).toNat) (σ (cA (h + 15) n + 1))
theorem ucF_b (σ : Sto) (h t : Nat) (n : Int) : 0 ≤ ucF σ h t n ∧ ucF σ h t n ≤ 80 := ulF_b _ _
theorem c_X11_renew {G : GT} {S : Shp} {σ : Sto} {h : Nat} (hA : IsHill S h) (hT : taOk σ (h + 1)) : PMet G mX11_renew 6 0 0 [.ref h] S σ (isP none S (rnS σ h)) := by
  obtain ⟨hH0, hEv, hMi, hDf, hVr, hKp, hTx, hLd, hOt, hEn, hSg, hAg, hDw, hTe, hHo, hVs⟩ := id hA
  have hT1 := hT.1
  refine PMet.of [(0, .ref h)] (by decide +kernel) rfl (Nat.le_of_ble_eq_true rfl) ?_
  refine PW.aload_n dX11_renew_0 rfl ?_
  refine PW.getR fl_X11_42 rfl (by assumption) rfl dX11_renew_1 ?_
  refine PW.aload_n dX11_renew_4 rfl ?_
  refine PW.getR fl_X11_10 rfl (by assumption) rfl dX11_renew_5 ?_
  refine PW.aload_n dX11_renew_8 rfl ?_
  refine PW.getR fl_X11_10 rfl (by assumption) rfl dX11_renew_9 ?_
  refine PW.callVr (c_X8_size hEv) cv_X8_size lk_X11_102 (by first | assumption | exact And.left (by assumption)) dX11_renew_12 rfl rfl rfl rfl ?_
  refine PW.callVv (c_X2_tell hLd (by decide) (by decide) hEv hT (by omega) (by omega)) cv_X2_tell lk_X11_342 (by first | assumption | exact And.left (by assumption)) dX11_renew_15 rfl rfl rfl rfl ?_
  refine PW.aload_n dX11_renew_18 rfl ?_
  refine PW.getR fl_X11_56 rfl (by assumption) rfl dX11_renew_19 ?_
  refine PW.callVv (c_X4_doubt hEn) cv_X4_doubt lk_X11_145 (by first | assumption | exact And.left (by assumption)) dX11_renew_22 rfl rfl rfl rfl ?_
  refine PW.aload_n dX11_renew_25 rfl ?_
  refine PW.getR fl_X11_84 rfl (by assumption) rfl dX11_renew_26 ?_
  refine PW.callVv (c_X9_doubt hTe) cv_X9_doubt lk_X11_253 (by first | assumption | exact And.left (by assumption)) dX11_renew_29 rfl rfl rfl rfl ?_
  exact PW.vret rfl dX11_renew_32 (⟨rfl, rfl, by unfold rnS; rw [stC_ne (show h + 149 < h + 15 + 5 ∨ h + 15 + 4 + 2 * 64 ≤ h + 149 by omega), upS_ne (show h + 183 ≠ h + 149 by omega), stC_ne (show h + 183 < h + 15 + 5 ∨ h + 15 + 4 + 2 * 64 ≤ h + 183 by omega)]⟩)
theorem c_X11_isKnown {G : GT} {S : Shp} {σ : Sto} {h : Nat} {k : Int} (hA : IsHill S h) (hsg : 0 ≤ σ (h + 171) 1 ∧ σ (h + 171) 1 ≤ 30) (rk : inR k) : PMet G mX11_isKnown 1 0 0 [.ref h, .int (iI (k))] S σ (isP (some (.int (iI (b01 (-1 ≤ k ∧ k ≤ σ (h + 171) 1))))) S (σ)) := by
  obtain ⟨hH0, hEv, hMi, hDf, hVr, hKp, hTx, hLd, hOt, hEn, hSg, hAg, hDw, hTe, hHo, hVs⟩ := id hA
  refine PMet.of [(0, .ref h), (1, .int (iI (k)))] (by decide +kernel) rfl (Nat.le_of_ble_eq_true rfl) ?_
  refine PW.iload_n dX11_isKnown_0 rfl ?_
  refine PW.iconst dX11_isKnown_1 ?_
  refine PW.icmp_lt 20 dX11_isKnown_2 (by decide) (by first | (unfold inR; omega) | assumption) (by first | (unfold inR; omega) | assumption) (fun h2 => ?_) (fun h2 => ?_)
  · refine PW.iconst dX11_isKnown_20 ?_
    exact PW.iret rfl (by first | rfl | exact narB _) dX11_isKnown_21 ⟨ret_eq (by unfold b01; first | (exfalso; omega) | rw [if_pos (by omega)] | rw [if_neg (by omega)]), rfl, rfl⟩
  · refine PW.iload_n dX11_isKnown_5 rfl ?_
    refine PW.aload_n dX11_isKnown_6 rfl ?_
    refine PW.getR fl_X11_63 rfl (by assumption) rfl dX11_isKnown_7 ?_
    refine PW.callVr (c_X7_size hSg) cv_X7_size lk_X11_158 (by first | assumption | exact And.left (by assumption)) dX11_isKnown_10 rfl rfl rfl rfl ?_
    refine PW.icmp_gt 20 dX11_isKnown_13 (by decide) (by first | (unfold inR; omega) | assumption) (by first | (unfold inR; omega) | assumption) (fun h13 => ?_) (fun h13 => ?_)
    · refine PW.iconst dX11_isKnown_20 ?_
      exact PW.iret rfl (by first | rfl | exact narB _) dX11_isKnown_21 ⟨ret_eq (by unfold b01; first | (exfalso; omega) | rw [if_pos (by omega)] | rw [if_neg (by omega)]), rfl, rfl⟩
    · refine PW.iconst dX11_isKnown_16 ?_
      refine PW.goto 21 dX11_isKnown_17 (by decide) ?_
      exact PW.iret rfl (by first | rfl | exact narB _) dX11_isKnown_21 ⟨ret_eq (by unfold b01; first | (exfalso; omega) | rw [if_pos (by omega)] | rw [if_neg (by omega)]), rfl, rfl⟩
def knF (n k : Int) : Int := if k = -1 then n else k
theorem c_X11_knownOf {G : GT} {S : Shp} {σ : Sto} {h : Nat} {k : Int} (hA : IsHill S h) (rk : inR k) : PMet G mX11_knownOf 1 0 0 [.ref h, .int (iI (k))] S σ (isP (some (.int (iI (knF (σ (h + 171) 1) k)))) S (σ)) := by
  obtain ⟨hH0, hEv, hMi, hDf, hVr, hKp, hTx, hLd, hOt, hEn, hSg, hAg, hDw, hTe, hHo, hVs⟩ := id hA
  refine PMet.of [(0, .ref h), (1, .int (iI (k)))] (by decide +kernel) rfl (Nat.le_of_ble_eq_true rfl) ?_
  refine PW.iload_n dX11_knownOf_0 rfl ?_
  refine PW.iconst dX11_knownOf_1 ?_
  refine PW.icmp_ne 15 dX11_knownOf_2 (by decide) (by first | (unfold inR; omega) | assumption) (by first | (unfold inR; omega) | assumption) (fun h2 => ?_) (fun h2 => ?_)
  · refine PW.iload_n dX11_knownOf_15 rfl ?_
    exact PW.iret rfl rfl dX11_knownOf_16 ⟨ret_eq (by unfold knF; first | rw [if_pos (by assumption)] | rw [if_neg (by assumption)]), rfl, rfl⟩
  · refine PW.aload_n dX11_knownOf_5 rfl ?_
    refine PW.getR fl_X11_63 rfl (by assumption) rfl dX11_knownOf_6 ?_
    refine PW.callVr (c_X7_size hSg) cv_X7_size lk_X11_158 (by first | assumption | exact And.left (by assumption)) dX11_knownOf_9 rfl rfl rfl rfl ?_
    refine PW.goto 16 dX11_knownOf_12 (by decide) ?_
    exact PW.iret rfl rfl dX11_knownOf_16 ⟨ret_eq (by unfold knF; first | rw [if_pos (by assumption)] | rw [if_neg (by assumption)]), rfl, rfl⟩
theorem c_X11_hasVersion {G : GT} {S : Shp} {σ : Sto} {h : Nat} {v : Int} (hA : IsHill S h) (hkp : ∀ v, 0 ≤ v → v < 4 → 0 ≤ σ (h + 11) v ∧ σ (h + 11) v ≤ 1) (rv : inR v) : PMet G mX11_hasVersion 0 0 0 [.ref h, .int (iI (v))] S σ (isP (some (.int (iI (b01 ((0 ≤ v ∧ v < 4) ∧ ¬ σ (h + 11) v = 0))))) S (σ)) := by
  obtain ⟨hH0, hEv, hMi, hDf, hVr, hKp, hTx, hLd, hOt, hEn, hSg, hAg, hDw, hTe, hHo, hVs⟩ := id hA
  refine PMet.of [(0, .ref h), (1, .int (iI (v)))] (by decide +kernel) rfl (Nat.le_of_ble_eq_true rfl) ?_
  refine PW.iload_n dX11_hasVersion_0 rfl ?_
  refine PW.if_lt 26 dX11_hasVersion_1 (by decide) (by first | assumption | (unfold inR; omega) | (have := hkp v (by omega) (by omega); unfold inR; omega)) (fun h1 => ?_) (fun h1 => ?_)
  · refine PW.iconst dX11_hasVersion_26 ?_
    exact PW.iret rfl (by first | rfl | exact narB _) dX11_hasVersion_27 ⟨(by first | exact ret_eq (b01_t ⟨⟨by omega, by omega⟩, by assumption⟩).symm | exact ret_eq (b01_f (fun q => by first | omega | exact q.2 (by assumption))).symm), rfl, rfl⟩
  · refine PW.iload_n dX11_hasVersion_4 rfl ?_
    refine PW.aload_n dX11_hasVersion_5 rfl ?_
    refine PW.getR fl_X11_26 rfl (by assumption) rfl dX11_hasVersion_6 ?_
    refine PW.alen (by assumption) (by decide) dX11_hasVersion_9 ?_
    refine PW.icmp_ge 26 dX11_hasVersion_10 (by decide) (by first | assumption | (unfold inR; omega) | (have := hkp v (by omega) (by omega); unfold inR; omega)) (by first | assumption | (unfold inR; omega) | (have := hkp v (by omega) (by omega); unfold inR; omega)) (fun h10 => ?_) (fun h10 => ?_)
    · refine PW.iconst dX11_hasVersion_26 ?_
      exact PW.iret rfl (by first | rfl | exact narB _) dX11_hasVersion_27 ⟨(by first | exact ret_eq (b01_t ⟨⟨by omega, by omega⟩, by assumption⟩).symm | exact ret_eq (b01_f (fun q => by first | omega | exact q.2 (by assumption))).symm), rfl, rfl⟩
    · refine PW.aload_n dX11_hasVersion_13 rfl ?_
      refine PW.getR fl_X11_26 rfl (by assumption) rfl dX11_hasVersion_14 ?_
      refine PW.iload_n dX11_hasVersion_17 rfl ?_
      refine PW.zaload (by assumption) (by first | assumption | (unfold inR; omega) | (have := hkp v (by omega) (by omega); unfold inR; omega)) (by omega) (by omega) dX11_hasVersion_18 ?_
      refine PW.if_eq 26 dX11_hasVersion_19 (by decide) (by first | assumption | (unfold inR; omega) | (have := hkp v (by omega) (by omega); unfold inR; omega)) (fun h19 => ?_) (fun h19 => ?_)
      · refine PW.iconst dX11_hasVersion_26 ?_
        exact PW.iret rfl (by first | rfl | exact narB _) dX11_hasVersion_27 ⟨(by first | exact ret_eq (b01_t ⟨⟨by omega, by omega⟩, by assumption⟩).symm | exact ret_eq (b01_f (fun q => by first | omega | exact q.2 (by assumption))).symm), rfl, rfl⟩
      · refine PW.iconst dX11_hasVersion_22 ?_
        refine PW.goto 27 dX11_hasVersion_23 (by decide) ?_
        exact PW.iret rfl (by first | rfl | exact narB _) dX11_hasVersion_27 ⟨(by first | exact ret_eq (b01_t ⟨⟨by omega, by omega⟩, by assumption⟩).symm | exact ret_eq (b01_f (fun q => by first | omega | exact q.2 (by assumption))).symm), rfl, rfl⟩
theorem c_X11_version {G : GT} {S : Shp} {σ : Sto} {h : Nat} {v : Int} (hA : IsHill S h) (hv : 0 ≤ v ∧ v < 4) : PMet G mX11_version 0 0 0 [.ref h, .int (iI v)] S σ (isP (some (.ref (veA h v))) S σ) := by
  obtain ⟨hH0, hEv, hMi, hDf, hVr, hKp, hTx, hLd, hOt, hEn, hSg, hAg, hDw, hTe, hHo, hVs⟩ := id hA
  have hg : veG h v.toNat = some (veA h v) := by unfold veG veA; rw [if_pos (by omega)]
  refine PMet.of [(0, .ref h), (1, .int (iI (v)))] (by decide +kernel) rfl (Nat.le_of_ble_eq_true rfl) ?_
  refine PW.iload_n dX11_version_0 rfl ?_
  refine PW.if_lt 22 dX11_version_1 (by decide) (by first | (unfold inR; omega) | assumption) (fun h1 => ?_) (fun h1 => ?_)
  · omega
  · refine PW.iload_n dX11_version_4 rfl ?_
    refine PW.aload_n dX11_version_5 rfl ?_
    refine PW.getR fl_X11_22 rfl (by assumption) rfl dX11_version_6 ?_
    refine PW.alenQ (by assumption) ⟨_, rfl⟩ dX11_version_9 ?_
    refine PW.icmp_ge 22 dX11_version_10 (by decide) (by first | (unfold inR; omega) | assumption) (by first | (unfold inR; omega) | assumption) (fun h10 => ?_) (fun h10 => ?_)
    · omega
    · refine PW.aload_n dX11_version_13 rfl ?_
      refine PW.getR fl_X11_22 rfl (by assumption) rfl dX11_version_14 ?_
      refine PW.iload_n dX11_version_17 rfl ?_
      refine PW.aaload (by assumption) ⟨_, rfl⟩ (by first | (unfold inR; omega) | assumption) (by omega) (by omega) (by assumption) dX11_version_18 ?_
      refine PW.ifnonnull 27 dX11_version_19 (by decide) ?_
      refine PW.aload_n dX11_version_27 rfl ?_
      refine PW.getR fl_X11_22 rfl (by assumption) rfl dX11_version_28 ?_
      refine PW.iload_n dX11_version_31 rfl ?_
      refine PW.aaload (by assumption) ⟨_, rfl⟩ (by first | (unfold inR; omega) | assumption) (by omega) (by omega) (by assumption) dX11_version_32 ?_
      exact PW.aret rfl dX11_version_33 (⟨rfl, rfl, rfl⟩)
theorem kept_loop {G : GT} {S : Shp} {σ : Sto} {h : Nat} {Q : Option Value → Shp → Sto → Prop} (hA : IsHill S h) (hkp : ∀ v, 0 ≤ v → v < 4 → 0 ≤ σ (h + 11) v ∧ σ (h + 11) v ≤ 1) (hQ : Q (some (.int (iI (smF (fun v => b01 (¬ σ (h + 11) v = 0)) 4)))) S σ) : ∀ (t : Nat) (i : Int), 0 ≤ i → i ≤ 4 → 4 - i < t → PW (fm G mX11_keptVersions 0 0 0 Q) G S (σ) 0 0 4 [(0, .ref h), (1, .int (iI (smF (fun v => b01 (¬ σ (h + 11) v = 0)) i))), (2, .int (iI (i)))] [] := by
  obtain ⟨hH0, hEv, hMi, hDf, hVr, hKp, hTx, hLd, hOt, hEn, hSg, hAg, hDw, hTe, hHo, hVs⟩ := id hA
  intro t
  induction t with
  | zero => intro i h1 h2 h3; omega
  | succ t ih =>
    intro i h1 h2 h3
    have hb := smF_01 (P := fun v => ¬ σ (h + 11) v = 0) h1
    refine PW.iload_n dX11_keptVersions_4 rfl ?_
    refine PW.aload_n dX11_keptVersions_5 rfl ?_
    refine PW.getR fl_X11_26 rfl (by assumption) rfl dX11_keptVersions_6 ?_
    refine PW.alen (by assumption) (by decide) dX11_keptVersions_9 ?_
    refine PW.icmp_ge 31 dX11_keptVersions_10 (by decide) (by first | assumption | (unfold inR; omega) | (have := hkp i (by omega) (by omega); unfold inR; omega)) (by first | assumption | (unfold inR; omega) | (have := hkp i (by omega) (by omega); unfold inR; omega)) (fun h10 => ?_) (fun h10 => ?_)
    · refine PW.iload_n dX11_keptVersions_31 rfl ?_
      have hi : i = 4 := by omega
      subst hi
      exact PW.iret rfl rfl dX11_keptVersions_32 hQ
    · refine PW.aload_n dX11_keptVersions_13 rfl ?_
      refine PW.getR fl_X11_26 rfl (by assumption) rfl dX11_keptVersions_14 ?_
      refine PW.iload_n dX11_keptVersions_17 rfl ?_
      refine PW.zaload (by assumption) (by first | assumption | (unfold inR; omega) | (have := hkp i (by omega) (by omega); unfold inR; omega)) (by omega) (by omega) dX11_keptVersions_18 ?_
      refine PW.if_eq 25 dX11_keptVersions_19 (by decide) (by first | assumption | (unfold inR; omega) | (have := hkp i (by omega) (by omega); unfold inR; omega)) (fun h19 => ?_) (fun h19 => ?_)
      · refine PW.iinc [(0, _), (1, _), (2, _)] dX11_keptVersions_25 rfl rfl (Nat.le_of_ble_eq_true rfl) ?_
        refine PW.goto 4 dX11_keptVersions_28 (by decide) ?_
        have e := ih (i + 1) (by omega) (by omega) (by omega)
        rw [smF_s (fun v => b01 (¬ σ (h + 11) v = 0)) h1] at e
        first
          | (rw [b01_t (by assumption)] at e; exact e)
          | (rw [b01_f (fun q => q (by assumption)), Int.add_zero] at e; exact e)
      · refine PW.iinc [(0, _), (1, _), (2, _)] dX11_keptVersions_22 rfl rfl (Nat.le_of_ble_eq_true rfl) ?_
        refine PW.iinc [(0, _), (1, _), (2, _)] dX11_keptVersions_25 rfl rfl (Nat.le_of_ble_eq_true rfl) ?_
        refine PW.goto 4 dX11_keptVersions_28 (by decide) ?_
        have e := ih (i + 1) (by omega) (by omega) (by omega)
        rw [smF_s (fun v => b01 (¬ σ (h + 11) v = 0)) h1] at e
        first
          | (rw [b01_t (by assumption)] at e; exact e)
          | (rw [b01_f (fun q => q (by assumption)), Int.add_zero] at e; exact e)
theorem c_X11_keptVersions {G : GT} {S : Shp} {σ : Sto} {h : Nat} (hA : IsHill S h) (hkp : ∀ v, 0 ≤ v → v < 4 → 0 ≤ σ (h + 11) v ∧ σ (h + 11) v ≤ 1) : PMet G mX11_keptVersions 0 0 0 [.ref h] S σ (isP (some (.int (iI (smF (fun v => b01 (¬ σ (h + 11) v = 0)) 4)))) S σ) := by
  refine PMet.of [(0, .ref h)] (by decide +kernel) rfl (Nat.le_of_ble_eq_true rfl) ?_
  refine PW.iconst dX11_keptVersions_0 ?_
  refine PW.istore_n [(0, _), (1, _)] dX11_keptVersions_1 rfl (Nat.le_of_ble_eq_true rfl) ?_
  refine PW.iconst dX11_keptVersions_2 ?_
  refine PW.istore_n [(0, _), (1, _), (2, _)] dX11_keptVersions_3 rfl (Nat.le_of_ble_eq_true rfl) ?_
  exact kept_loop hA hkp ⟨rfl, rfl, rfl⟩ 5 0 (by omega) (by omega) (by omega)
theorem c_X11_unlikeCellsAt {G : GT} {S : Shp} {σ : Sto} {h u : Nat} {n : Int} (hA : IsHill S h) (hT : IsTale S u) (ht : taOk σ u) (hlc : colsOk σ (h + 15) 64) (hd : u + 1 < h + 147 ∨ h + 148 < u) (hn : 0 ≤ n ∧ n ≤ 63) : PMet G mX11_unlikeCellsAt 5 0 0 [.ref h, .ref u, .int (iI n)] S σ (isP (some (.int (iI (ucF σ h u n)))) S (upS σ (h + 147 + 1) (tlF (σ (u + 1)) n (σ (h + 147 + 1)) (σ u 2).toNat))) := by
  obtain ⟨hH0, hEv, hMi, hDf, hVr, hKp, hTx, hLd, hOt, hEn, hSg, hAg, hDw, hTe, hHo, hVs⟩ := id hA
  have hT0 := hT.1
  have ht1 := ht.1
  have hOt0 := hOt.1
  have hc := hLd.2.2.2 n (by omega) (by omega)
  have okt : colOk (tlF (σ (u + 1)) n (σ (h + 147 + 1)) (σ u 2).toNat) := tlF_ok (fun i i0 i1 => ht.2 i i0 (by omega))
  have okl := hlc n (by omega) (by omega)
  refine PMet.of [(0, .ref h), (1, .ref u), (2, .int (iI (n)))] (by decide +kernel) rfl (Nat.le_of_ble_eq_true rfl) ?_
  refine PW.aload_n dX11_unlikeCellsAt_0 rfl ?_
  refine PW.getR fl_X11_49 rfl (by assumption) rfl dX11_unlikeCellsAt_1 ?_
  refine PW.aload_n dX11_unlikeCellsAt_4 rfl ?_
  refine PW.aload_n dX11_unlikeCellsAt_5 rfl ?_
  refine PW.callVr (c_X8_size hT) cv_X8_size lk_X11_102 (by first | assumption | exact And.left (by assumption)) dX11_unlikeCellsAt_6 rfl rfl rfl rfl ?_
  refine PW.iload_n dX11_unlikeCellsAt_9 rfl ?_
  refine PW.callVv (c_X1_tell hOt hT (by omega) (by omega) ht (by omega) (by omega)) cv_X1_tell lk_X11_217 (by first | assumption | exact And.left (by assumption)) dX11_unlikeCellsAt_10 rfl rfl rfl rfl ?_
  refine PW.aload_n dX11_unlikeCellsAt_13 rfl ?_
  refine PW.getR fl_X11_49 rfl (by assumption) rfl dX11_unlikeCellsAt_14 ?_
  refine PW.aload_n dX11_unlikeCellsAt_17 rfl ?_
  refine PW.getR fl_X11_42 rfl (by assumption) rfl dX11_unlikeCellsAt_18 ?_
  refine PW.iload_n dX11_unlikeCellsAt_21 rfl ?_
  refine PW.callVr (c_X2_of hLd (by decide) (by omega) (by omega)) cv_X2_of lk_X11_195 (by first | assumption | exact And.left (by assumption)) dX11_unlikeCellsAt_22 rfl rfl rfl rfl ?_
  refine PW.callVr (c_X1_unlikeCells hOt hc (by rw [upS_same]; exact okt) (by rw [upS_ne (by unfold cA; omega)]; exact okl)) cv_X1_unlikeCells lk_X11_351 (by first | assumption | exact And.left (by assumption)) dX11_unlikeCellsAt_25 rfl rfl rfl rfl ?_
  refine PW.iret rfl rfl dX11_unlikeCellsAt_28 ⟨ret_eq ?_, rfl, rfl⟩
  rw [upS_same, upS_ne (by unfold cA; omega)]
  unfold ucF
  exact ulF_eq (tlF_eq _ _ _ _ _) (eq8.rfl' _)
theorem ucol_loop {G : GT} {S : Shp} {σ : Sto} {h u : Nat} {Q : Option Value → Shp → Sto → Prop} (hA : IsHill S h) (hT : IsTale S u) (ht : taOk σ u) (hlc : colsOk σ (h + 15) 64) (hd : u + 1 < h + 147 ∨ h + 148 < u) (hQ : ∀ f : Int → Int, Q (some (.int (iI (smF (fun n => b01 (0 < ucF σ h u n)) 64)))) S (upS σ (h + 147 + 1) f)) : ∀ (t : Nat) (i : Int) (f : Int → Int), 0 ≤ i → i ≤ 64 → 64 - i < t → PW (fm G mX11_unlikeColumns 6 0 0 Q) G S (upS σ (h + 147 + 1) f) 0 0 4 [(0, .ref h), (1, .ref u), (2, .int (iI (smF (fun n => b01 (0 < ucF σ h u n)) i))), (3, .int (iI (i)))] [] := by
  obtain ⟨hH0, hEv, hMi, hDf, hVr, hKp, hTx, hLd, hOt, hEn, hSg, hAg, hDw, hTe, hHo, hVs⟩ := id hA
  intro t
  induction t with
  | zero => intro i f h1 h2 h3; omega
  | succ t ih =>
    intro i f h1 h2 h3
    have e0 : (upS σ (h + 147 + 1) f) u = σ u := upS_ne (by omega)
    have e1 : (upS σ (h + 147 + 1) f) (u + 1) = σ (u + 1) := upS_ne (by omega)
    have htu := taOk_congr e0 e1 ht
    have hlu : colsOk (upS σ (h + 147 + 1) f) (h + 15) 64 := colsOk_congr (fun b b0 b1 => upS_ne (by omega)) hlc
    have ub := ucF_b σ h u i
    have hb := smF_01 (P := fun n => 0 < ucF σ h u n) h1
    refine PW.iload_n dX11_unlikeColumns_4 rfl ?_
    refine PW.bipush (by decide) dX11_unlikeColumns_5 ?_
    refine PW.icmp_ge 28 dX11_unlikeColumns_7 (by decide) (by first | (unfold inR; omega) | assumption) (by first | (unfold inR; omega) | assumption) (fun h7 => ?_) (fun h7 => ?_)
    · refine PW.iload_n dX11_unlikeColumns_28 rfl ?_
      have hi : i = 64 := by omega
      subst hi
      exact PW.iret rfl rfl dX11_unlikeColumns_29 (hQ f)
    · have euc : ucF (upS σ (h + 147 + 1) f) h u i = ucF σ h u i := by unfold ucF; rw [e0, e1, upS_ne (by unfold cA; omega)]
      refine PW.aload_n dX11_unlikeColumns_10 rfl ?_
      refine PW.aload_n dX11_unlikeColumns_11 rfl ?_
      refine PW.iload_n dX11_unlikeColumns_12 rfl ?_
      refine PW.callVr (c_X11_unlikeCellsAt hA hT htu hlu hd (by omega)) cv_X11_unlikeCellsAt lk_X11_347 (by first | assumption | exact And.left (by assumption)) dX11_unlikeColumns_13 rfl rfl rfl rfl ?_
      refine PW.top (ucF σ h u i) euc ?_
      refine PW.if_le 22 dX11_unlikeColumns_16 (by decide) (by first | (unfold inR; omega) | assumption) (fun h16 => ?_) (fun h16 => ?_)
      · refine PW.st (upS σ (h + 147 + 1) _) (upS_upS _ _ _ _) ?_
        refine PW.iinc [(0, _), (1, _), (2, _), (3, _)] dX11_unlikeColumns_22 rfl rfl (Nat.le_of_ble_eq_true rfl) ?_
        refine PW.goto 4 dX11_unlikeColumns_25 (by decide) ?_
        have e := ih (i + 1) (tlF ((upS σ (h + 147 + 1) f) (u + 1)) i ((upS σ (h + 147 + 1) f) (h + 147 + 1)) ((upS σ (h + 147 + 1) f) u 2).toNat) (by omega) (by omega) (by omega)
        rw [smF_s (fun n => b01 (0 < ucF σ h u n)) h1] at e
        first
          | (rw [b01_t (by omega)] at e; exact e)
          | (rw [b01_f (by omega), Int.add_zero] at e; exact e)
      · refine PW.iinc [(0, _), (1, _), (2, _), (3, _)] dX11_unlikeColumns_19 rfl rfl (Nat.le_of_ble_eq_true rfl) ?_
        refine PW.st (upS σ (h + 147 + 1) _) (upS_upS _ _ _ _) ?_
        refine PW.iinc [(0, _), (1, _), (2, _), (3, _)] dX11_unlikeColumns_22 rfl rfl (Nat.le_of_ble_eq_true rfl) ?_
        refine PW.goto 4 dX11_unlikeColumns_25 (by decide) ?_
        have e := ih (i + 1) (tlF ((upS σ (h + 147 + 1) f) (u + 1)) i ((upS σ (h + 147 + 1) f) (h + 147 + 1)) ((upS σ (h + 147 + 1) f) u 2).toNat) (by omega) (by omega) (by omega)
        rw [smF_s (fun n => b01 (0 < ucF σ h u n)) h1] at e
        first
          | (rw [b01_t (by omega)] at e; exact e)
          | (rw [b01_f (by omega), Int.add_zero] at e; exact e)
theorem c_X11_unlikeColumns {G : GT} {S : Shp} {σ : Sto} {h u : Nat} (hA : IsHill S h) (hT : IsTale S u) (ht : taOk σ u) (hlc : colsOk σ (h + 15) 64) (hd : u + 1 < h + 147 ∨ h + 148 < u) : PMet G mX11_unlikeColumns 6 0 0 [.ref h, .ref u] S σ (fun r S' τ => S' = S ∧ r = some (.int (iI (smF (fun n => b01 (0 < ucF σ h u n)) 64))) ∧ ∃ f : Int → Int, τ = upS σ (h + 147 + 1) f) := by
  refine PMet.of [(0, .ref h), (1, .ref u)] (by decide +kernel) rfl (Nat.le_of_ble_eq_true rfl) ?_
  refine PW.iconst dX11_unlikeColumns_0 ?_
  refine PW.istore_n [(0, _), (1, _), (2, _)] dX11_unlikeColumns_1 rfl (Nat.le_of_ble_eq_true rfl) ?_
  refine PW.iconst dX11_unlikeColumns_2 ?_
  refine PW.istore_n [(0, _), (1, _), (2, _), (3, _)] dX11_unlikeColumns_3 rfl (Nat.le_of_ble_eq_true rfl) ?_
  refine PW.st (upS σ (h + 147 + 1) (σ (h + 147 + 1))) (upS_self _ _).symm ?_
  exact ucol_loop hA hT ht hlc hd (fun f => ⟨rfl, rfl, f, rfl⟩) 65 0 _ (by omega) (by omega) (by omega)
theorem ucel_loop {G : GT} {S : Shp} {σ : Sto} {h u : Nat} {Q : Option Value → Shp → Sto → Prop} (hA : IsHill S h) (hT : IsTale S u) (ht : taOk σ u) (hlc : colsOk σ (h + 15) 64) (hd : u + 1 < h + 147 ∨ h + 148 < u) (hQ : ∀ f : Int → Int, Q (some (.int (iI (smF (ucF σ h u) 64)))) S (upS σ (h + 147 + 1) f)) : ∀ (t : Nat) (i : Int) (f : Int → Int), 0 ≤ i → i ≤ 64 → 64 - i < t → PW (fm G mX11_unlikeCells 6 0 0 Q) G S (upS σ (h + 147 + 1) f) 0 0 4 [(0, .ref h), (1, .ref u), (2, .int (iI (smF (ucF σ h u) i))), (3, .int (iI (i)))] [] := by
  obtain ⟨hH0, hEv, hMi, hDf, hVr, hKp, hTx, hLd, hOt, hEn, hSg, hAg, hDw, hTe, hHo, hVs⟩ := id hA
  intro t
  induction t with
  | zero => intro i f h1 h2 h3; omega
  | succ t ih =>
    intro i f h1 h2 h3
    have e0 : (upS σ (h + 147 + 1) f) u = σ u := upS_ne (by omega)
    have e1 : (upS σ (h + 147 + 1) f) (u + 1) = σ (u + 1) := upS_ne (by omega)
    have htu := taOk_congr e0 e1 ht
    have hlu : colsOk (upS σ (h + 147 + 1) f) (h + 15) 64 := colsOk_congr (fun b b0 b1 => upS_ne (by omega)) hlc
    have ub := ucF_b σ h u i
    have hb := smF_b (f := ucF σ h u) (lo := 0) (hi := 80) h1 (fun j _ _ => ucF_b σ h u j)
    refine PW.iload_n dX11_unlikeCells_4 rfl ?_
    refine PW.bipush (by decide) dX11_unlikeCells_5 ?_
    refine PW.icmp_ge 25 dX11_unlikeCells_7 (by decide) (by first | (unfold inR; omega) | assumption) (by first | (unfold inR; omega) | assumption) (fun h7 => ?_) (fun h7 => ?_)
    · refine PW.iload_n dX11_unlikeCells_25 rfl ?_
      have hi : i = 64 := by omega
      subst hi
      exact PW.iret rfl rfl dX11_unlikeCells_26 (hQ f)
    · have euc : ucF (upS σ (h + 147 + 1) f) h u i = ucF σ h u i := by unfold ucF; rw [e0, e1, upS_ne (by unfold cA; omega)]
      refine PW.iload_n dX11_unlikeCells_10 rfl ?_
      refine PW.aload_n dX11_unlikeCells_11 rfl ?_
      refine PW.aload_n dX11_unlikeCells_12 rfl ?_
      refine PW.iload_n dX11_unlikeCells_13 rfl ?_
      refine PW.callVr (c_X11_unlikeCellsAt hA hT htu hlu hd (by omega)) cv_X11_unlikeCellsAt lk_X11_347 (by first | assumption | exact And.left (by assumption)) dX11_unlikeCells_14 rfl rfl rfl rfl ?_
      refine PW.top (ucF σ h u i) euc ?_
      refine PW.iadd dX11_unlikeCells_17 ?_
      refine PW.istore_n [(0, _), (1, _), (2, _), (3, _)] dX11_unlikeCells_18 rfl (Nat.le_of_ble_eq_true rfl) ?_
      refine PW.st (upS σ (h + 147 + 1) _) (upS_upS _ _ _ _) ?_
      refine PW.iinc [(0, _), (1, _), (2, _), (3, _)] dX11_unlikeCells_19 rfl rfl (Nat.le_of_ble_eq_true rfl) ?_
      refine PW.goto 4 dX11_unlikeCells_22 (by decide) ?_
      have e := ih (i + 1) (tlF ((upS σ (h + 147 + 1) f) (u + 1)) i ((upS σ (h + 147 + 1) f) (h + 147 + 1)) ((upS σ (h + 147 + 1) f) u 2).toNat) (by omega) (by omega) (by omega)
      rw [smF_s (ucF σ h u) h1] at e
      exact e
theorem c_X11_unlikeCells {G : GT} {S : Shp} {σ : Sto} {h u : Nat} (hA : IsHill S h) (hT : IsTale S u) (ht : taOk σ u) (hlc : colsOk σ (h + 15) 64) (hd : u + 1 < h + 147 ∨ h + 148 < u) : PMet G mX11_unlikeCells 6 0 0 [.ref h, .ref u] S σ (fun r S' τ => S' = S ∧ r = some (.int (iI (smF (ucF σ h u) 64))) ∧ ∃ f : Int → Int, τ = upS σ (h + 147 + 1) f) := by
  refine PMet.of [(0, .ref h), (1, .ref u)] (by decide +kernel) rfl (Nat.le_of_ble_eq_true rfl) ?_
  refine PW.iconst dX11_unlikeCells_0 ?_
  refine PW.istore_n [(0, _), (1, _), (2, _)] dX11_unlikeCells_1 rfl (Nat.le_of_ble_eq_true rfl) ?_
  refine PW.iconst dX11_unlikeCells_2 ?_
  refine PW.istore_n [(0, _), (1, _), (2, _), (3, _)] dX11_unlikeCells_3 rfl (Nat.le_of_ble_eq_true rfl) ?_
  refine PW.st (upS σ (h + 147 + 1) (σ (h + 147 + 1))) (upS_self _ _).symm ?_
  exact ucel_loop hA hT ht hlc hd (fun f => ⟨rfl, rfl, f, rfl⟩) 65 0 _ (by omega) (by omega) (by omega)
theorem ufst_loop {G : GT} {S : Shp} {σ : Sto} {h u : Nat} {Q : Option Value → Shp → Sto → Prop} (hA : IsHill S h) (hT : IsTale S u) (ht : taOk σ u) (hlc : colsOk σ (h + 15) 64) (hd : u + 1 < h + 147 ∨ h + 148 < u) (hQ : ∀ f : Int → Int, Q (some (.int (iI (firI (fun n => decide (0 < ucF σ h u n)) 64)))) S (upS σ (h + 147 + 1) f)) : ∀ (t : Nat) (i : Int) (f : Int → Int), 0 ≤ i → i ≤ 64 → 64 - i < t → (∀ j, 0 ≤ j → j < i → (fun n => decide (0 < ucF σ h u n)) j = false) → PW (fm G mX11_firstUnlikeColumn 6 0 0 Q) G S (upS σ (h + 147 + 1) f) 0 0 2 [(0, .ref h), (1, .ref u), (2, .int (iI (i)))] [] := by
  obtain ⟨hH0, hEv, hMi, hDf, hVr, hKp, hTx, hLd, hOt, hEn, hSg, hAg, hDw, hTe, hHo, hVs⟩ := id hA
  intro t
  induction t with
  | zero => intro i f h1 h2 h3 g1; omega
  | succ t ih =>
    intro i f h1 h2 h3 g1
    have e0 : (upS σ (h + 147 + 1) f) u = σ u := upS_ne (by omega)
    have e1 : (upS σ (h + 147 + 1) f) (u + 1) = σ (u + 1) := upS_ne (by omega)
    have htu := taOk_congr e0 e1 ht
    have hlu : colsOk (upS σ (h + 147 + 1) f) (h + 15) 64 := colsOk_congr (fun b b0 b1 => upS_ne (by omega)) hlc
    have ub := ucF_b σ h u i
    refine PW.iload_n dX11_firstUnlikeColumn_2 rfl ?_
    refine PW.bipush (by decide) dX11_firstUnlikeColumn_3 ?_
    refine PW.icmp_ge 25 dX11_firstUnlikeColumn_5 (by decide) (by first | (unfold inR; omega) | assumption) (by first | (unfold inR; omega) | assumption) (fun h5 => ?_) (fun h5 => ?_)
    · refine PW.iconst dX11_firstUnlikeColumn_25 ?_
      have e : firI (fun n => decide (0 < ucF σ h u n)) 64 = -1 := firI_none (fun j q1 q2 => g1 j q1 (by omega))
      rw [e] at hQ
      exact PW.iret rfl rfl dX11_firstUnlikeColumn_26 (hQ _)
    · have euc : ucF (upS σ (h + 147 + 1) f) h u i = ucF σ h u i := by unfold ucF; rw [e0, e1, upS_ne (by unfold cA; omega)]
      refine PW.aload_n dX11_firstUnlikeColumn_8 rfl ?_
      refine PW.aload_n dX11_firstUnlikeColumn_9 rfl ?_
      refine PW.iload_n dX11_firstUnlikeColumn_10 rfl ?_
      refine PW.callVr (c_X11_unlikeCellsAt hA hT htu hlu hd (by omega)) cv_X11_unlikeCellsAt lk_X11_347 (by first | assumption | exact And.left (by assumption)) dX11_firstUnlikeColumn_11 rfl rfl rfl rfl ?_
      refine PW.top (ucF σ h u i) euc ?_
      refine PW.if_le 19 dX11_firstUnlikeColumn_14 (by decide) (by first | (unfold inR; omega) | assumption) (fun h14 => ?_) (fun h14 => ?_)
      · refine PW.st (upS σ (h + 147 + 1) _) (upS_upS _ _ _ _) ?_
        refine PW.iinc [(0, _), (1, _), (2, _)] dX11_firstUnlikeColumn_19 rfl rfl (Nat.le_of_ble_eq_true rfl) ?_
        refine PW.goto 2 dX11_firstUnlikeColumn_22 (by decide) ?_
        refine ih (i + 1) _ (by omega) (by omega) (by omega) (fun j q1 q2 => ?_)
        by_cases hj : j = i
        · subst hj
          exact decide_eq_false (by omega)
        · exact g1 j q1 (by omega)
      · refine PW.iload_n dX11_firstUnlikeColumn_17 rfl ?_
        refine PW.st (upS σ (h + 147 + 1) _) (upS_upS _ _ _ _) ?_
        have e : firI (fun n => decide (0 < ucF σ h u n)) 64 = i := firI_hit h1 (decide_eq_true (by omega)) g1 (by omega)
        rw [e] at hQ
        exact PW.iret rfl rfl dX11_firstUnlikeColumn_18 (hQ _)
theorem c_X11_firstUnlikeColumn {G : GT} {S : Shp} {σ : Sto} {h u : Nat} (hA : IsHill S h) (hT : IsTale S u) (ht : taOk σ u) (hlc : colsOk σ (h + 15) 64) (hd : u + 1 < h + 147 ∨ h + 148 < u) : PMet G mX11_firstUnlikeColumn 6 0 0 [.ref h, .ref u] S σ (fun r S' τ => S' = S ∧ r = some (.int (iI (firI (fun n => decide (0 < ucF σ h u n)) 64))) ∧ ∃ f : Int → Int, τ = upS σ (h + 147 + 1) f) := by
  refine PMet.of [(0, .ref h), (1, .ref u)] (by decide +kernel) rfl (Nat.le_of_ble_eq_true rfl) ?_
  refine PW.iconst dX11_firstUnlikeColumn_0 ?_
  refine PW.istore_n [(0, _), (1, _), (2, _)] dX11_firstUnlikeColumn_1 rfl (Nat.le_of_ble_eq_true rfl) ?_
  refine PW.st (upS σ (h + 147 + 1) (σ (h + 147 + 1))) (upS_self _ _).symm ?_
  exact ufst_loop hA hT ht hlc hd (fun f => ⟨rfl, rfl, f, rfl⟩) 65 0 _ (by omega) (by omega) (by omega) (fun j q1 q2 => by omega)

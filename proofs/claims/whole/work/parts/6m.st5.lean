/-- a place of a story that fits -/
theorem mSt_at {τ : Sto} {m : Nat} {f gf sf : Int → Int} {n gn k i : Int} (h : mSt τ m f gf sf n gn k (nS gn)) (hg : 0 ≤ gn ∧ gn ≤ 4) (h0 : 0 ≤ i) (h1 : i < ftC (umS sf gf (ldT f n) gn k) (nS gn)) : ∃ s, 0 ≤ s ∧ s < nS gn ∧ (umS sf gf (ldT f n) gn k) s = 0 ∧ ftC (umS sf gf (ldT f n) gn k) s = i ∧ τ (m + 31) i = lnE gn s ∧ (∀ p, 0 ≤ p → p < lnE gn s → τ (m + 32) (4 * i + p) = prt gn s p) ∧ ∀ c, 0 ≤ c → c ≤ 63 → eq8 (fun x => τ (m + 33) (5120 * i + 80 * c + x)) (lndS gf (ldT f n) gn s c) := by
  have nb := nS_b hg
  obtain ⟨s, s0, s1, s2, s3⟩ := ftC_at (umS sf gf (ldT f n) gn k) (n := (nS gn).toNat) (k := i) h0 (by rw [show (((nS gn).toNat : Nat) : Int) = nS gn by omega]; exact h1)
  obtain ⟨a1, a2, a3⟩ := h.2 s s0 (by omega) s2
  rw [s3] at a1 a2 a3
  exact ⟨s, s0, by omega, s2, s3, a1, a2, a3⟩
theorem sIn_rfl {σ : Sto} {m : Nat} (hC : cOk (σ (m + 1)) 15360) : sIn σ σ m := ⟨fun _ _ => rfl, fun _ _ => rfl, hC, fun _ _ => rfl⟩
theorem c_X12_stories {G : GT} {S : Shp} {σ : Sto} {m : Nat} {n gn sn k : Int} {f gf sf : Int → Int} (hA : IsMod S m) (hE : mCore σ m f n) (hg : mMb σ m gf gn) (hs : mSg σ m sf sn) (rk : inR k) : PMet G mX12_stories 7 0 0 [.ref m, .int (iI k)] S σ (fun r S' τ => S' = S ∧ sIn σ τ m ∧ r = some (.int (iI (if ¬ (-1 ≤ k ∧ k ≤ sn) then -100002 else if 16 < n + gn then -100004 else ftC (umS sf gf (ldT f n) gn (knF sn k)) (nS gn))))) := by
  obtain ⟨hM0, hM1, hM2, hM3, hM4, hM5, hM6, hM7, hM8, hM9, hM10, hM11, hM12, hM13, hM14, hM15, hM16, hM17, hM18, hM19, hM20, hM21, hM22, hM23, hM24, hM25, hM26, hM27, hM28, hM29, hM30, hM31, hM32, hM33, hM34⟩ := id hA
  have hn := hE.1.1
  have hnb := hE.1.2.1
  have hgn := hg.1
  have hgb := hg.2.1
  have hsn := hs.1
  have hsb := hs.2.1
  have hsw : ∀ i, 0 ≤ i → i < sn → sgWf sf i := fun i i0 i1 => (hs.2.2 i i0 i1).1
  have nb := nS_b hgb
  refine PMet.of [(0, .ref m), (1, .int (iI (k)))] (by decide +kernel) rfl (Nat.le_of_ble_eq_true rfl) ?_
  refine PW.aload_n dX12_stories_0 rfl ?_
  refine PW.iload_n dX12_stories_1 rfl ?_
  refine PW.callVr (c_X12_isKnown hA hs rk) cv_X12_isKnown lk_X12_362 (by first | assumption | exact And.left (by assumption)) dX12_stories_2 rfl rfl rfl rfl ?_
  refine PW.if_neB 11 dX12_stories_5 (by decide) (fun h5 => ?_) (fun h5 => ?_)
  · refine PW.aload_n dX12_stories_11 rfl ?_
    refine PW.callVr (c_X12_isTooMany hA hg hn hnb) cv_X12_isTooMany lk_X12_405 (by first | assumption | exact And.left (by assumption)) dX12_stories_12 rfl rfl rfl rfl ?_
    refine PW.if_eqB 21 dX12_stories_15 (by decide) (fun h15 => ?_) (fun h15 => ?_)
    · refine PW.aload_n dX12_stories_21 rfl ?_
      refine PW.aload_n dX12_stories_22 rfl ?_
      refine PW.iload_n dX12_stories_23 rfl ?_
      refine PW.callVr (c_X12_first hA hs rk (by omega)) cv_X12_first lk_X12_365 (by first | assumption | exact And.left (by assumption)) dX12_stories_24 rfl rfl rfl rfl ?_
      have hkn : 0 ≤ knF sn k ∧ knF sn k ≤ sn := by unfold knF; split <;> omega
      
      refine PW.callVg (c_X12_findStories hA hE hg hs hkn) cv_X12_findStories lk_X12_409 (by first | assumption | exact And.left (by assumption)) dX12_stories_27 rfl rfl rfl rfl (fun r S' τ27 hq => ?_)
      obtain ⟨rfl, hS, i1, m1⟩ := hq
      have hS2 := hS.symm
      subst hS2
      have hfb := ftC_b (umS sf gf (ldT f n) gn (knF sn k)) (i := nS gn) (by omega)
      have hF := m1.1
      refine PW.aload_n dX12_stories_30 rfl ?_
      refine PW.getI 41 fl_X12_396 rfl (by assumption) rfl rfl dX12_stories_31 ?_
      refine PW.top (ftC (umS sf gf (ldT f n) gn (knF sn k)) (nS gn)) (by exact hF) ?_
      exact PW.iret rfl rfl dX12_stories_34 ⟨rfl, i1, ret_eq (Eq.symm ((if_neg (fun q => q (by assumption))).trans (if_neg (by assumption))))⟩
    · refine PW.ldc (-100004) kc_X12_196 rfl rfl dX12_stories_18 ?_
      exact PW.iret rfl rfl dX12_stories_20 ⟨rfl, sIn_rfl hE.2.1, ret_eq (Eq.symm ((if_neg (fun q => q (by assumption))).trans (if_pos (by assumption))))⟩
  · refine PW.ldc (-100002) kc_X12_195 rfl rfl dX12_stories_8 ?_
    exact PW.iret rfl rfl dX12_stories_10 ⟨rfl, sIn_rfl hE.2.1, ret_eq (Eq.symm (if_pos (by assumption)))⟩
theorem c_X12_story {G : GT} {S : Shp} {σ : Sto} {m : Nat} {n gn sn k i j : Int} {f gf sf : Int → Int} (hA : IsMod S m) (hE : mCore σ m f n) (hg : mMb σ m gf gn) (hs : mSg σ m sf sn) (rk : inR k) (ri : inR i) (rj : inR j) : PMet G mX12_story 7 0 0 [.ref m, .int (iI k), .int (iI i), .int (iI j)] S σ (fun r S' τ => S' = S ∧ sIn σ τ m ∧ ∃ v : Int, r = some (.int (iI v)) ∧ (¬ ((-1 ≤ k ∧ k ≤ sn) ∧ ¬ 16 < n + gn) → v = if ¬ (-1 ≤ k ∧ k ≤ sn) then -100002 else if 16 < n + gn then -100004 else 0) ∧ (((-1 ≤ k ∧ k ≤ sn) ∧ ¬ 16 < n + gn) → ∀ u : Int → Int, ftG (umS sf gf (ldT f n) gn (knF sn k)) u (nS gn) → v = if ¬ (0 ≤ i ∧ i < ftC (umS sf gf (ldT f n) gn (knF sn k)) (nS gn)) then -1 else if j = -1 then lnE gn (u i) else prt gn (u i) j)) := by
  obtain ⟨hM0, hM1, hM2, hM3, hM4, hM5, hM6, hM7, hM8, hM9, hM10, hM11, hM12, hM13, hM14, hM15, hM16, hM17, hM18, hM19, hM20, hM21, hM22, hM23, hM24, hM25, hM26, hM27, hM28, hM29, hM30, hM31, hM32, hM33, hM34⟩ := id hA
  have hn := hE.1.1
  have hnb := hE.1.2.1
  have hgn := hg.1
  have hgb := hg.2.1
  have hsn := hs.1
  have hsb := hs.2.1
  have hsw : ∀ i, 0 ≤ i → i < sn → sgWf sf i := fun i i0 i1 => (hs.2.2 i i0 i1).1
  have nb := nS_b hgb
  refine PMet.of [(0, .ref m), (1, .int (iI (k))), (2, .int (iI (i))), (3, .int (iI (j)))] (by decide +kernel) rfl (Nat.le_of_ble_eq_true rfl) ?_
  refine PW.aload_n dX12_story_0 rfl ?_
  refine PW.iload_n dX12_story_1 rfl ?_
  refine PW.callVr (c_X12_isKnown hA hs rk) cv_X12_isKnown lk_X12_362 (by first | assumption | exact And.left (by assumption)) dX12_story_2 rfl rfl rfl rfl ?_
  refine PW.if_neB 11 dX12_story_5 (by decide) (fun h5 => ?_) (fun h5 => ?_)
  · refine PW.aload_n dX12_story_11 rfl ?_
    refine PW.callVr (c_X12_isTooMany hA hg hn hnb) cv_X12_isTooMany lk_X12_405 (by first | assumption | exact And.left (by assumption)) dX12_story_12 rfl rfl rfl rfl ?_
    refine PW.if_eqB 21 dX12_story_15 (by decide) (fun h15 => ?_) (fun h15 => ?_)
    · refine PW.aload_n dX12_story_21 rfl ?_
      refine PW.aload_n dX12_story_22 rfl ?_
      refine PW.iload_n dX12_story_23 rfl ?_
      refine PW.callVr (c_X12_first hA hs rk (by omega)) cv_X12_first lk_X12_365 (by first | assumption | exact And.left (by assumption)) dX12_story_24 rfl rfl rfl rfl ?_
      have hkn : 0 ≤ knF sn k ∧ knF sn k ≤ sn := by unfold knF; split <;> omega
      
      refine PW.callVg (c_X12_findStories hA hE hg hs hkn) cv_X12_findStories lk_X12_409 (by first | assumption | exact And.left (by assumption)) dX12_story_27 rfl rfl rfl rfl (fun r S' τ27 hq => ?_)
      obtain ⟨rfl, hS, i1, m1⟩ := hq
      have hS2 := hS.symm
      subst hS2
      have hfb := ftC_b (umS sf gf (ldT f n) gn (knF sn k)) (i := nS gn) (by omega)
      have hF := m1.1
      refine PW.iload_n dX12_story_30 rfl ?_
      refine PW.i2l (by first | assumption | (unfold inR; omega)) dX12_story_31 ?_
      refine PW.lconst (z := 0) rfl dX12_story_32 ?_
      refine PW.aload_n dX12_story_33 rfl ?_
      refine PW.getI 41 fl_X12_396 rfl (by assumption) rfl rfl dX12_story_34 ?_
      refine PW.top (ftC (umS sf gf (ldT f n) gn (knF sn k)) (nS gn)) (by exact hF) ?_
      refine PW.iconst dX12_story_37 ?_
      refine PW.isub dX12_story_38 ?_
      refine PW.i2l (by first | assumption | (unfold inR; omega)) dX12_story_39 ?_
      refine PW.callSr (c_X12_in (inL_R ri) (by unfold inL; omega) (by unfold inL; omega)) cs_X12_in lk_X12_134 dX12_story_40 rfl rfl rfl ?_
      refine PW.if_neB 48 dX12_story_43 (by decide) (fun h43 => ?_) (fun h43 => ?_)
      · obtain ⟨s, s0, s1, s2, s3, s4, s5, s6⟩ := mSt_at m1 hgb (i := i) (by omega) (by omega)
        have sl := lnE_0 gn s
        have sl4 := (tb_B hgb s0 s1).2.1
        refine PW.iload_n dX12_story_48 rfl ?_
        refine PW.iconst dX12_story_49 ?_
        refine PW.icmp_ne 62 dX12_story_50 (by decide) (by first | assumption | (unfold inR; omega)) (by first | assumption | (unfold inR; omega)) (fun h50 => ?_) (fun h50 => ?_)
        · refine PW.iload_n dX12_story_62 rfl ?_
          refine PW.i2l (by first | assumption | (unfold inR; omega)) dX12_story_63 ?_
          refine PW.lconst (z := 0) rfl dX12_story_64 ?_
          refine PW.aload_n dX12_story_65 rfl ?_
          refine PW.getR fl_X12_106 rfl (by assumption) rfl dX12_story_66 ?_
          refine PW.iload_n dX12_story_69 rfl ?_
          refine PW.iaload (by assumption) (by unfold inR; omega) (by omega) (by omega) dX12_story_70 ?_
          refine PW.top (lnE gn s) (by exact s4) ?_
          refine PW.iconst dX12_story_71 ?_
          refine PW.isub dX12_story_72 ?_
          refine PW.i2l (by first | assumption | (unfold inR; omega)) dX12_story_73 ?_
          refine PW.callSr (c_X12_in (inL_R rj) (by unfold inL; omega) (by unfold inL; omega)) cs_X12_in lk_X12_134 dX12_story_74 rfl rfl rfl ?_
          refine PW.if_eqB 93 dX12_story_77 (by decide) (fun h77 => ?_) (fun h77 => ?_)
          · refine PW.iconst dX12_story_93 ?_
            refine PW.iret rfl rfl dX12_story_94 ⟨rfl, i1, _, rfl, fun q => absurd (show ((-1 ≤ k ∧ k ≤ sn) ∧ ¬ 16 < n + gn) from ⟨by assumption, by assumption⟩) q, fun _ u hu => ?_⟩
            have hus : u i = s := by rw [← s3]; exact hu s s0 s1 s2
            rw [hus]
            first
              | exact Eq.symm ((if_neg (by omega)).trans (if_pos (by omega)))
              | exact Eq.symm ((if_neg (by omega)).trans (if_neg (by omega)))
              | (refine Eq.symm ((if_neg (by omega)).trans ((if_neg (by omega)).trans ?_))
                 unfold prt
                 exact if_neg (by omega))
          · refine PW.aload_n dX12_story_80 rfl ?_
            refine PW.getR fl_X12_109 rfl (by assumption) rfl dX12_story_81 ?_
            refine PW.iconst dX12_story_84 ?_
            refine PW.iload_n dX12_story_85 rfl ?_
            refine PW.imul dX12_story_86 ?_
            refine PW.iload_n dX12_story_87 rfl ?_
            refine PW.iadd dX12_story_88 ?_
            refine PW.iaload (by assumption) (by unfold inR; omega) (by omega) (by omega) dX12_story_89 ?_
            refine PW.top (prt gn s j) (by exact s5 j (by omega) (by omega)) ?_
            refine PW.goto 94 dX12_story_90 (by decide) ?_
            refine PW.iret rfl rfl dX12_story_94 ⟨rfl, i1, _, rfl, fun q => absurd (show ((-1 ≤ k ∧ k ≤ sn) ∧ ¬ 16 < n + gn) from ⟨by assumption, by assumption⟩) q, fun _ u hu => ?_⟩
            have hus : u i = s := by rw [← s3]; exact hu s s0 s1 s2
            rw [hus]
            first
              | exact Eq.symm ((if_neg (by omega)).trans (if_pos (by omega)))
              | exact Eq.symm ((if_neg (by omega)).trans (if_neg (by omega)))
              | (refine Eq.symm ((if_neg (by omega)).trans ((if_neg (by omega)).trans ?_))
                 unfold prt
                 exact if_neg (by omega))
        · refine PW.aload_n dX12_story_53 rfl ?_
          refine PW.getR fl_X12_106 rfl (by assumption) rfl dX12_story_54 ?_
          refine PW.iload_n dX12_story_57 rfl ?_
          refine PW.iaload (by assumption) (by unfold inR; omega) (by omega) (by omega) dX12_story_58 ?_
          refine PW.top (lnE gn s) (by exact s4) ?_
          refine PW.goto 94 dX12_story_59 (by decide) ?_
          refine PW.iret rfl rfl dX12_story_94 ⟨rfl, i1, _, rfl, fun q => absurd (show ((-1 ≤ k ∧ k ≤ sn) ∧ ¬ 16 < n + gn) from ⟨by assumption, by assumption⟩) q, fun _ u hu => ?_⟩
          have hus : u i = s := by rw [← s3]; exact hu s s0 s1 s2
          rw [hus]
          first
            | exact Eq.symm ((if_neg (by omega)).trans (if_pos (by omega)))
            | exact Eq.symm ((if_neg (by omega)).trans (if_neg (by omega)))
            | (refine Eq.symm ((if_neg (by omega)).trans ((if_neg (by omega)).trans ?_))
               unfold prt
               exact if_neg (by omega))
      · refine PW.iconst dX12_story_46 ?_
        exact PW.iret rfl rfl dX12_story_47 ⟨rfl, i1, _, rfl, fun q => absurd (show ((-1 ≤ k ∧ k ≤ sn) ∧ ¬ 16 < n + gn) from ⟨by assumption, by assumption⟩) q, fun _ u hu => Eq.symm (if_pos (by omega))⟩
    · refine PW.ldc (-100004) kc_X12_196 rfl rfl dX12_story_18 ?_
      exact PW.iret rfl rfl dX12_story_20 ⟨rfl, sIn_rfl hE.2.1, _, rfl, fun _ => Eq.symm ((if_neg (fun q => q (by assumption))).trans (if_pos (by assumption))), fun q => absurd (by assumption) q.2⟩
  · refine PW.ldc (-100002) kc_X12_195 rfl rfl dX12_story_8 ?_
    exact PW.iret rfl rfl dX12_story_10 ⟨rfl, sIn_rfl hE.2.1, _, rfl, fun _ => (if_pos (by assumption)).symm, fun q => absurd q.1 (by assumption)⟩

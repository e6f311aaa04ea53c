/-- the stories ahead of s that fit, as the model keeps them -/
def mSt (τ : Sto) (m : Nat) (f gf sf : Int → Int) (n gn k s : Int) : Prop := τ m 41 = ftC (umS sf gf (ldT f n) gn k) s ∧ ∀ q, 0 ≤ q → q < s → (umS sf gf (ldT f n) gn k) q = 0 → τ (m + 31) (ftC (umS sf gf (ldT f n) gn k) q) = lnE gn q ∧ (∀ p, 0 ≤ p → p < lnE gn q → τ (m + 32) (4 * ftC (umS sf gf (ldT f n) gn k) q + p) = prt gn q p) ∧ ∀ c, 0 ≤ c → c ≤ 63 → eq8 (fun i => τ (m + 33) (5120 * ftC (umS sf gf (ldT f n) gn k) q + 80 * c + i)) (lndS gf (ldT f n) gn q c)
theorem mSt_congr {σ τ : Sto} {m : Nat} {f gf sf : Int → Int} {n gn k s : Int} (e0 : τ m 41 = σ m 41) (e1 : τ (m + 31) = σ (m + 31)) (e2 : τ (m + 32) = σ (m + 32)) (e3 : τ (m + 33) = σ (m + 33)) (h : mSt σ m f gf sf n gn k s) : mSt τ m f gf sf n gn k s := by
  unfold mSt
  rw [e0, e1, e2, e3]
  exact h
def sIn (σ τ : Sto) (m : Nat) : Prop := (∀ b, b < m ∨ (m + 2 < b ∧ b < m + 6) ∨ (m + 6 < b ∧ b < m + 31) ∨ m + 34 < b → τ b = σ b) ∧ (∀ j, j ≠ 41 → τ m j = σ m j) ∧ cOk (τ (m + 1)) 15360 ∧ ∀ j, j < 5120 → τ (m + 1) j = σ (m + 1) j
theorem sIn.trans {σ τ μ : Sto} {m : Nat} (h : sIn σ τ m) (h' : sIn τ μ m) : sIn σ μ m := ⟨fun b hb => (h'.1 b hb).trans (h.1 b hb), fun j hj => (h'.2.1 j hj).trans (h.2.1 j hj), h'.2.2.1, fun j hj => (h'.2.2.2 j hj).trans (h.2.2.2 j hj)⟩
theorem sIn.core {σ τ : Sto} {m : Nat} {f : Int → Int} {n : Int} (h : sIn σ τ m) (hE : mCore σ m f n) : mCore τ m f n := ⟨mEv_congr hE.1 (h.2.1 2 (by decide)) (h.1 _ (by omega)) (h.1 _ (by omega)) (h.1 _ (by omega)), h.2.2.1, mLd_o hE.2.2 (fun j j0 j1 => h.2.2.2 j (by omega))⟩
theorem sIn.mb {σ τ : Sto} {m : Nat} {f : Int → Int} {n : Int} (h : sIn σ τ m) (hE : mMb σ m f n) : mMb τ m f n := mMb_congr (h.2.1 38 (by decide)) (h.1 _ (by omega)) (h.1 _ (by omega)) hE
theorem sIn.sg {σ τ : Sto} {m : Nat} {f : Int → Int} {n : Int} (h : sIn σ τ m) (hE : mSg σ m f n) : mSg τ m f n := mSg_congr (h.2.1 23 (by decide)) (fun b b0 b1 => h.1 b (by omega)) hE
theorem sIn_w {σ : Sto} {m : Nat} {w : Int → Int} (hC : cOk (σ (m + 1)) 15360) : sIn σ (upS σ (m + 34) w) m := ⟨fun b hb => upS_ne (by omega), fun j _ => by rw [upS_ne (by omega)], by rw [upS_ne (by omega)]; exact hC, fun j _ => by rw [upS_ne (by omega)]⟩
/-- a story that does not fit -/
theorem mSt_no {σ : Sto} {m : Nat} {f gf sf : Int → Int} {n gn k s : Int} (h : mSt σ m f gf sf n gn k s) (hs : 0 ≤ s) (hu : ¬ (umS sf gf (ldT f n) gn k) s = 0) : mSt σ m f gf sf n gn k (s + 1) := by
  refine ⟨by rw [ftC_s _ hs, b01_f hu, Int.add_zero]; exact h.1, fun q q0 q1 q2 => ?_⟩
  by_cases e : q = s
  · rw [e] at q2
    exact absurd q2 hu
  · exact h.2 q q0 (by omega) q2
/-- one that does -/
theorem mSt_yes {σ : Sto} {m : Nat} {f gf sf : Int → Int} {n gn k s z : Int} (h : mSt σ m f gf sf n gn k s) (hgn : 0 ≤ gn ∧ gn ≤ 4) (hs : 0 ≤ s ∧ s < nS gn) (hu : (umS sf gf (ldT f n) gn k) s = 0) (hz : lnE gn s = z) (hp : ∀ p, 0 ≤ p → p < z → σ (m + 34) p = prt gn s p) (hl : ∀ c, 0 ≤ c → c ≤ 63 → eq8 (clV (σ (m + 1)) 1 c) (lndS gf (ldT f n) gn s c)) : mSt (ksS σ m z (ftC (umS sf gf (ldT f n) gn k) s)) m f gf sf n gn k (s + 1) := by
  have hb := ftC_b (umS sf gf (ldT f n) gn k) hs.1
  refine ⟨by rw [ksS_41, ftC_s _ hs.1, b01_t hu], fun q q0 q1 q2 => ?_⟩
  rw [ksS_31, ksS_32, ksS_33]
  have hbq := ftC_b (umS sf gf (ldT f n) gn k) q0
  by_cases e : q = s
  · subst e
    refine ⟨by rw [up1_same, hz], fun p p0 p1 => ?_, fun c c0 c1 i i0 i1 => ?_⟩
    · unfold pfF
      rw [if_pos (by omega), ← hp p p0 (by omega)]
      show σ (m + 34) (4 * ftC (umS sf gf (ldT f n) gn k) q + p - 4 * ftC (umS sf gf (ldT f n) gn k) q) = _
      rw [show 4 * ftC (umS sf gf (ldT f n) gn k) q + p - 4 * ftC (umS sf gf (ldT f n) gn k) q = p by omega]
    · have e2 := hl c c0 c1 i i0 i1
      rw [← e2]
      show pfF _ _ _ _ (5120 * ftC (umS sf gf (ldT f n) gn k) q + 80 * c + i) = _
      unfold pfF clV
      rw [if_pos (by omega)]
      show σ (m + 1) (5120 + (5120 * ftC (umS sf gf (ldT f n) gn k) q + 80 * c + i - 5120 * ftC (umS sf gf (ldT f n) gn k) q)) = _
      rw [show 5120 + (5120 * ftC (umS sf gf (ldT f n) gn k) q + 80 * c + i - 5120 * ftC (umS sf gf (ldT f n) gn k) q) = 5120 * 1 + 80 * c + i by omega]
  · obtain ⟨a1, a2, a3⟩ := h.2 q q0 (by omega) q2
    have hlt := ftC_lt (umS sf gf (ldT f n) gn k) q0 (show q < s by omega) q2
    have hl4 := (tb_B hgn q0 (show q < nS gn by omega)).2.1
    refine ⟨by rw [up1_ne (by omega)]; exact a1, fun p p0 p1 => ?_, fun c c0 c1 i i0 i1 => ?_⟩
    · rw [← a2 p p0 p1]
      unfold pfF
      rw [if_neg (by omega)]
    · have e2 := a3 c c0 c1 i i0 i1
      rw [← e2]
      show pfF _ _ _ _ (5120 * ftC (umS sf gf (ldT f n) gn k) q + 80 * c + i) = _
      unfold pfF
      rw [if_neg (by omega)]
theorem c_X12_tryStory {G : GT} {S : Shp} {σ : Sto} {m : Nat} {n gn sn k z s : Int} {f gf sf : Int → Int} (hA : IsMod S m) (hE : mCore σ m f n) (hg : mMb σ m gf gn) (hs : mSg σ m sf sn) (hk : 0 ≤ k ∧ k ≤ sn) (hs0 : 0 ≤ s ∧ s < nS gn) (hln : lnE gn s = z) (hpt : ∀ p, 0 ≤ p → p < z → σ (m + 34) p = prt gn s p ∧ 0 ≤ σ (m + 34) p ∧ σ (m + 34) p < gn) (hst : mSt σ m f gf sf n gn k (s)) : PMet G mX12_tryStory 5 0 0 [.ref m, .int (iI z), .int (iI k)] S σ (fun r S' τ => r = none ∧ S' = S ∧ sIn σ τ m ∧ mSt τ m f gf sf n gn k (s + 1)) := by
  obtain ⟨hM0, hM1, hM2, hM3, hM4, hM5, hM6, hM7, hM8, hM9, hM10, hM11, hM12, hM13, hM14, hM15, hM16, hM17, hM18, hM19, hM20, hM21, hM22, hM23, hM24, hM25, hM26, hM27, hM28, hM29, hM30, hM31, hM32, hM33, hM34⟩ := id hA
  have hgn := hg.1
  have hgb := hg.2.1
  have hsn := hs.1
  have hsb := hs.2.1
  have hsw : ∀ i, 0 ≤ i → i < sn → sgWf sf i := fun i i0 i1 => (hs.2.2 i i0 i1).1
  have nb := nS_b hgb
  have hl4 := (tb_B hgb hs0.1 hs0.2).2.1
  have hl0 := lnE_0 gn s
  have hfb := ftC_b (umS sf gf (ldT f n) gn k) hs0.1
  obtain ⟨c, hcc⟩ : ∃ c, c = ftC (umS sf gf (ldT f n) gn k) s := ⟨_, rfl⟩
  have hwy : ∀ p, 0 ≤ p → p < z → 0 ≤ σ (m + 34) p ∧ σ (m + 34) p < gn := fun p p0 p1 => (hpt p p0 p1).2
  have hlen : (pthN gn.toNat s.toNat).length = z.toNat := by
    have : ((pthN gn.toNat s.toNat).length : Int) = z := hln
    omega
  have hland : ∀ c, cwF gf c (ldT f n c) (σ (m + 34)) z.toNat = lndS gf (ldT f n) gn s c := fun c => by
    rw [← hlen]
    refine cwF_col gf c _ _ _ (fun p hp => ?_)
    rw [(hpt (p : Int) (by omega) (by omega)).1]
    unfold prt
    rw [if_pos (by omega)]
    rfl
  refine PMet.of [(0, .ref m), (1, .int (iI (z))), (2, .int (iI (k)))] (by decide +kernel) rfl (Nat.le_of_ble_eq_true rfl) ?_
  refine PW.aload_n dX12_tryStory_0 rfl ?_
  refine PW.iconst dX12_tryStory_1 ?_
  refine PW.iconst dX12_tryStory_2 ?_
  refine PW.callVv (c_X12_carry (a := 0) (b := 1) hA hE.2.1 (by decide) (by decide) (by decide)) cv_X12_carry lk_X12_214 (by first | assumption | exact And.left (by assumption)) dX12_tryStory_3 rfl rfl rfl rfl ?_
  refine PW.iconst dX12_tryStory_6 ?_
  refine PW.istore_n [(0, _), (1, _), (2, _), (3, _)] dX12_tryStory_7 rfl (Nat.le_of_ble_eq_true rfl) ?_
  refine mo_ts_bf (n := n) hA hE hg hs hk (by omega) hwy ?_ 5 0 _ (by omega) (by omega) (by omega) (tsI_0 hE.2.1 hE.2.2 (fun b hb => upS_ne hb) (fun j j0 j1 => ?_) (fun j hj => ?_))
  · intro τ hT
    obtain ⟨t1, t2, t3, t4⟩ := id hT
    have et : τ m = σ m := t1 m (by omega) (by omega) (by omega)
    have hs2 : mSg τ m sf sn := mSg_congr (by rw [et]) (fun b b0 b1 => t1 b (by omega) (by omega) (by omega)) hs
    have hl2 : ∀ c, 0 ≤ c → c ≤ 63 → eq8 (clV (τ (m + 1)) 1 c) (lndS gf (ldT f n) gn s c) := fun c c0 c1 => by
      rw [← hland c]
      exact t4 c c0 c1
    have hst2 : mSt τ m f gf sf n gn k (s) := mSt_congr (by rw [et]) (t1 _ (by omega) (by omega) (by omega)) (t1 _ (by omega) (by omega) (by omega)) (t1 _ (by omega) (by omega) (by omega)) hst
    have hc2 : τ m 41 = c := by rw [hcc]; exact hst2.1
    have hub := umC_b sf (lndS gf (ldT f n) gn s) hk.1
    have hin : sIn σ τ m := ⟨fun b hb => t1 b (by omega) (by omega) (by omega), fun j _ => by rw [et], t2, t3⟩
    refine PW.aload_n dX12_tryStory_45 rfl ?_
    refine PW.iconst dX12_tryStory_46 ?_
    refine PW.iload_n dX12_tryStory_47 rfl ?_
    refine PW.callVr (c_X12_unmetOf (L := 1) hA t2 (by omega) hs2 hk) cv_X12_unmetOf lk_X12_242 (by first | assumption | exact And.left (by assumption)) dX12_tryStory_48 rfl rfl rfl rfl ?_
    refine PW.top ((umS sf gf (ldT f n) gn k) s) (umC_ld hsw hl2 hk.2) ?_
    have hub2 : 0 ≤ (umS sf gf (ldT f n) gn k) s ∧ (umS sf gf (ldT f n) gn k) s ≤ k := hub
    refine PW.if_ne 146 dX12_tryStory_51 (by decide) (by first | assumption | (unfold inR; omega)) (fun h51 => ?_) (fun h51 => ?_)
    · exact PW.vret rfl dX12_tryStory_146 ⟨rfl, rfl, hin, mSt_no hst2 hs0.1 (by assumption)⟩
    · refine PW.aload_n dX12_tryStory_54 rfl ?_
      refine PW.getR fl_X12_106 rfl (by assumption) rfl dX12_tryStory_55 ?_
      refine PW.aload_n dX12_tryStory_58 rfl ?_
      refine PW.getI 41 fl_X12_396 rfl (by assumption) rfl rfl dX12_tryStory_59 ?_
      refine PW.top (c) (by exact hc2) ?_
      refine PW.iload_n dX12_tryStory_62 rfl ?_
      refine PW.iastore (by assumption) (by first | assumption | (unfold inR; omega)) (by omega) (by omega) dX12_tryStory_63 ?_
      refine PW.iconst dX12_tryStory_64 ?_
      refine PW.istore_n [(0, _), (1, _), (2, _), (3, _)] dX12_tryStory_65 rfl (Nat.le_of_ble_eq_true rfl) ?_
      refine PW.st (upS (upS τ (m + 31) (up1 (τ (m + 31)) c z)) (m + 32) (pfF (τ (m + 32)) (fun j => τ (m + 34) (j - 4 * c)) (4 * c) (4 * c + 0))) ?_ ?_
      · rw [Int.add_zero, pfF_0, show τ (m + 32) = (upS τ (m + 31) (up1 (τ (m + 31)) c z)) (m + 32) from (upS_ne (by omega)).symm, upS_self]
      · refine mo_ts_so (σ := τ) hA hc2 (by omega) (by omega) t2 ?_ 5 0 (by omega) (by omega) (by omega)
        refine ⟨rfl, rfl, hin.trans ⟨fun b hb => ksS_ne (by omega) (by omega), fun j hj => ksS_j hj, by rw [ksS_ne (by omega) (by omega)]; exact t2, fun j _ => by rw [ksS_ne (by omega) (by omega)]⟩, ?_⟩
        rw [hcc]
        exact mSt_yes hst2 hgb hs0 (by assumption) hln (fun p p0 p1 => by rw [t1 (m + 34) (by omega) (by omega) (by omega)]; exact (hpt p p0 p1).1) hl2
  · rw [upS_same]
    unfold pfF
    rw [if_pos (by omega)]
    show σ (m + 1) (j - 5120 * 1 + 5120 * 0) = _
    rw [show j - 5120 * 1 + 5120 * 0 = j - 5120 by omega]
  · rw [upS_same]
    unfold pfF
    rw [if_neg (by omega)]

abbrev pzI (g z w : Int) : Int := pzN g.toNat z.toNat w.toNat
def pwI (g z : Int) : Int := ((g.toNat ^ z.toNat : Nat) : Int)
theorem pwI_s {g z : Int} (hg : 0 ≤ g) (hz : 0 ≤ z) : pwI g (z + 1) = pwI g z * g := by
  unfold pwI
  rw [show (z + 1).toNat = z.toNat + 1 by omega, Nat.pow_succ, Int.natCast_mul, show ((g.toNat : Nat) : Int) = g by omega]
theorem tb_P0 : ∀ g : Fin 5, ∀ z : Fin 5, z.val ≤ g.val → 1 ≤ g.val ^ z.val ∧ g.val ^ z.val ≤ 256 := by decide +kernel
theorem pwI_b {g z : Int} (hg : 0 ≤ g ∧ g ≤ 4) (hz : 0 ≤ z ∧ z ≤ g) : 1 ≤ pwI g z ∧ pwI g z ≤ 256 := by
  have h := tb_P0 ⟨g.toNat, by omega⟩ ⟨z.toNat, by omega⟩ (by show z.toNat ≤ g.toNat; omega)
  unfold pwI
  dsimp only at h
  omega
theorem tb_S {g z w : Int} (hg : 0 ≤ g ∧ g ≤ 4) (hz : 0 ≤ z ∧ z ≤ g) (hw : 0 ≤ w ∧ w < pwI g z) : (dstI g z w → pzI g z (w + 1) = pzI g z w + 1 ∧ (0 ≤ pzI g z w ∧ pzI g z w < nS g) ∧ lnE g (pzI g z w) = z ∧ ∀ p, 0 ≤ p → p < z → prt g (pzI g z w) p = wvI g w (z - 1 - p).toNat % g) ∧ (¬ dstI g z w → pzI g z (w + 1) = pzI g z w) := by
  have hb := pwI_b hg hz
  have hw2 : w.toNat < g.toNat ^ z.toNat := by
    have := hw.2
    unfold pwI at this
    omega
  have h := tb_S0 ⟨g.toNat, by omega⟩ ⟨z.toNat, by omega⟩ ⟨w.toNat, by omega⟩ (by show z.toNat ≤ g.toNat; omega) hw2
  dsimp only at h
  rw [show ((g.toNat : Nat) : Int) = g by omega, show ((z.toNat : Nat) : Int) = z by omega, show ((w.toNat : Nat) : Int) = w by omega, show w.toNat + 1 = (w + 1).toNat by omega] at h
  constructor
  · intro hd
    rw [if_pos hd] at h
    obtain ⟨h1, h2, h3, h4⟩ := h
    refine ⟨h1, h2, h3, fun p p0 p1 => ?_⟩
    have h5 := h4 ⟨p.toNat, by omega⟩ (by show p.toNat < z.toNat; omega)
    dsimp only at h5
    unfold prt
    have h6 : lnE g (pzI g z w) = z := h3
    rw [if_pos ⟨p0, by rw [h6]; exact p1⟩]
    rw [show (z - 1 - p).toNat = z.toNat - 1 - p.toNat by omega]
    exact h5
  · intro hd
    rw [if_neg hd] at h
    exact h
theorem tb_T {g : Int} (hg : 0 ≤ g ∧ g ≤ 4) : pzI g 0 0 = 0 ∧ pzI g (g + 1) 0 = nS g ∧ ∀ z, 0 ≤ z → z ≤ g → pzI g z (pwI g z) = pzI g (z + 1) 0 := by
  have h := tb_S1 ⟨g.toNat, by omega⟩
  dsimp only at h
  refine ⟨h.1, ?_, fun z z0 z1 => ?_⟩
  · show pzN g.toNat (g + 1).toNat 0 = nS g
    rw [show (g + 1).toNat = g.toNat + 1 by omega]
    exact h.2.1
  · have h2 := h.2.2 ⟨z.toNat, by omega⟩ (by show z.toNat ≤ g.toNat; omega)
    dsimp only at h2
    show pzN g.toNat z.toNat (pwI g z).toNat = pzN g.toNat (z + 1).toNat 0
    rw [show (z + 1).toNat = z.toNat + 1 by omega, ← h2]
    rfl
theorem mo_fs_in {G : GT} {S : Shp} {σ : Sto} {m : Nat} {n gn sn k : Int} {f gf sf : Int → Int} {z : Int} {Q : Option Value → Shp → Sto → Prop} (hA : IsMod S m) (hE : mCore σ m f n) (hg : mMb σ m gf gn) (hs : mSg σ m sf sn) (hk : 0 ≤ k ∧ k ≤ sn) (hz : 0 ≤ z ∧ z ≤ gn) (hK : ∀ τ, sIn σ τ m → mSt τ m f gf sf n gn k (pzI gn (z + 1) 0) → PW (fm G mX12_findStories 6 0 0 Q) G S τ 0 0 70 [(0, .ref m), (1, .int (iI k)), (2, .int (iI z))] []) : ∀ (t : Nat) (w : Int) (τ : Sto), 0 ≤ w → w ≤ pwI gn z → pwI gn z - w < t → sIn σ τ m → mSt τ m f gf sf n gn k (pzI gn z w) → PW (fm G mX12_findStories 6 0 0 Q) G S (τ) 0 0 42 [(0, .ref m), (1, .int (iI (k))), (2, .int (iI (z))), (3, .int (iI (pwI gn z))), (4, .int (iI (w)))] [] := by
  obtain ⟨hM0, hM1, hM2, hM3, hM4, hM5, hM6, hM7, hM8, hM9, hM10, hM11, hM12, hM13, hM14, hM15, hM16, hM17, hM18, hM19, hM20, hM21, hM22, hM23, hM24, hM25, hM26, hM27, hM28, hM29, hM30, hM31, hM32, hM33, hM34⟩ := id hA
  have hgn := hg.1
  have hgb := hg.2.1
  have hpb := pwI_b hgb hz
  intro t
  induction t with
  | zero => intro w τ h1 h2 h3 g1 g2; omega
  | succ t ih =>
    intro w τ h1 h2 h3 g1 g2
    have hEt := g1.core hE
    have hgt := g1.mb hg
    have hst := g1.sg hs
    refine PW.iload dX12_findStories_42 rfl ?_
    refine PW.iload_n dX12_findStories_44 rfl ?_
    refine PW.icmp_ge 70 dX12_findStories_45 (by decide) (by first | assumption | (unfold inR; omega)) (by first | assumption | (unfold inR; omega)) (fun h45 => ?_) (fun h45 => ?_)
    · have hw : w = pwI gn z := by omega
      subst hw
      refine PW.take 3 ?_
      refine hK τ g1 ?_
      rw [← (tb_T hgb).2.2 z hz.1 hz.2]
      exact g2
    · have ht := tb_S hgb hz (w := w) ⟨h1, by omega⟩
      refine PW.aload_n dX12_findStories_48 rfl ?_
      refine PW.iload_n dX12_findStories_49 rfl ?_
      refine PW.iload dX12_findStories_50 rfl ?_
      refine PW.callVg (c_X12_layWay hA hgt hz (by omega)) cv_X12_layWay lk_X12_399 (by first | assumption | exact And.left (by assumption)) dX12_findStories_52 rfl rfl rfl rfl (fun r S' τ52 hq => ?_)
      obtain ⟨hS, rfl, w1, rfl, hw1⟩ := hq
      have hS2 := hS.symm
      subst hS2
      have i1 : sIn τ (upS τ (m + 34) w1) m := sIn_w g1.2.2.1
      have m1 : mSt (upS τ (m + 34) w1) m f gf sf n gn k (pzI gn z w) := mSt_congr (by rw [upS_ne (by omega)]) (upS_ne (by omega)) (upS_ne (by omega)) (upS_ne (by omega)) g2
      refine PW.if_eqB 64 dX12_findStories_55 (by decide) (fun h55 => ?_) (fun h55 => ?_)
      · refine PW.iinc [(0, _), (1, _), (2, _), (3, _), (4, _)] dX12_findStories_64 rfl rfl (Nat.le_of_ble_eq_true rfl) ?_
        refine PW.goto 42 dX12_findStories_67 (by decide) ?_
        first
          | (refine ih (w + 1) _ (by omega) (by omega) (by omega) ((g1.trans i1).trans i2) ?_
             rw [(ht.1 (by assumption)).1]
             exact m2)
          | (refine ih (w + 1) _ (by omega) (by omega) (by omega) (g1.trans i1) ?_
             rw [ht.2 (by assumption)]
             exact m1)
      · refine PW.aload_n dX12_findStories_58 rfl ?_
        refine PW.iload_n dX12_findStories_59 rfl ?_
        refine PW.iload_n dX12_findStories_60 rfl ?_
        refine PW.callVg (c_X12_tryStory hA (i1.core hEt) (i1.mb hgt) (i1.sg hst) hk (ht.1 (by assumption)).2.1 (ht.1 (by assumption)).2.2.1 (fun p p0 p1 => ⟨by rw [upS_same, hw1 p (by omega) p1]; exact ((ht.1 (by assumption)).2.2.2 p p0 p1).symm, by rw [upS_same, hw1 p (by omega) p1]; exact Int.emod_nonneg _ (by omega), by rw [upS_same, hw1 p (by omega) p1]; exact Int.emod_lt_of_pos _ (by omega)⟩) m1) cv_X12_tryStory lk_X12_402 (by first | assumption | exact And.left (by assumption)) dX12_findStories_61 rfl rfl rfl rfl (fun r S' τ61 hq => ?_)
        obtain ⟨rfl, hS, i2, m2⟩ := hq
        have hS2 := hS.symm
        subst hS2
        refine PW.iinc [(0, _), (1, _), (2, _), (3, _), (4, _)] dX12_findStories_64 rfl rfl (Nat.le_of_ble_eq_true rfl) ?_
        refine PW.goto 42 dX12_findStories_67 (by decide) ?_
        first
          | (refine ih (w + 1) _ (by omega) (by omega) (by omega) ((g1.trans i1).trans i2) ?_
             rw [(ht.1 (by assumption)).1]
             exact m2)
          | (refine ih (w + 1) _ (by omega) (by omega) (by omega) (g1.trans i1) ?_
             rw [ht.2 (by assumption)]
             exact m1)
theorem mo_fs_pw {G : GT} {S : Shp} {σ : Sto} {m : Nat} {gn k z : Int} {gf : Int → Int} {Q : Option Value → Shp → Sto → Prop} (hA : IsMod S m) (hg : mMb σ m gf gn) (hz : 0 ≤ z ∧ z ≤ gn) (hK : PW (fm G mX12_findStories 6 0 0 Q) G S σ 0 0 39 [(0, .ref m), (1, .int (iI k)), (2, .int (iI z)), (3, .int (iI (pwI gn z)))] []) : ∀ (t : Nat) (i : Int), 0 ≤ i → i ≤ z → z - i < t → PW (fm G mX12_findStories 6 0 0 Q) G S (σ) 0 0 20 [(0, .ref m), (1, .int (iI (k))), (2, .int (iI (z))), (3, .int (iI (pwI gn i))), (4, .int (iI (i)))] [] := by
  obtain ⟨hM0, hM1, hM2, hM3, hM4, hM5, hM6, hM7, hM8, hM9, hM10, hM11, hM12, hM13, hM14, hM15, hM16, hM17, hM18, hM19, hM20, hM21, hM22, hM23, hM24, hM25, hM26, hM27, hM28, hM29, hM30, hM31, hM32, hM33, hM34⟩ := id hA
  have hgn := hg.1
  have hgb := hg.2.1
  intro t
  induction t with
  | zero => intro i h1 h2 h3; omega
  | succ t ih =>
    intro i h1 h2 h3
    refine PW.iload dX12_findStories_20 rfl ?_
    refine PW.iload_n dX12_findStories_22 rfl ?_
    refine PW.icmp_ge 39 dX12_findStories_23 (by decide) (by first | assumption | (unfold inR; omega)) (by first | assumption | (unfold inR; omega)) (fun h23 => ?_) (fun h23 => ?_)
    · have hi : i = z := by omega
      subst hi
      refine PW.take 4 ?_
      exact hK
    · refine PW.iload_n dX12_findStories_26 rfl ?_
      refine PW.aload_n dX12_findStories_27 rfl ?_
      refine PW.getI 38 fl_X12_233 rfl (by assumption) rfl rfl dX12_findStories_28 ?_
      refine PW.top gn (by exact hgn) ?_
      refine PW.imul dX12_findStories_31 ?_
      refine PW.istore_n [(0, _), (1, _), (2, _), (3, _), (4, _)] dX12_findStories_32 rfl (Nat.le_of_ble_eq_true rfl) ?_
      refine PW.iinc [(0, _), (1, _), (2, _), (3, _), (4, _)] dX12_findStories_33 rfl rfl (Nat.le_of_ble_eq_true rfl) ?_
      refine PW.goto 20 dX12_findStories_36 (by decide) ?_
      have e := ih (i + 1) (by omega) (by omega) (by omega)
      rw [pwI_s (by omega) h1] at e
      exact e
theorem mo_fs_out {G : GT} {S : Shp} {σ : Sto} {m : Nat} {n gn sn k : Int} {f gf sf : Int → Int} {Q : Option Value → Shp → Sto → Prop} (hA : IsMod S m) (hE : mCore σ m f n) (hg : mMb σ m gf gn) (hs : mSg σ m sf sn) (hk : 0 ≤ k ∧ k ≤ sn) (hQ : ∀ τ, sIn σ τ m → mSt τ m f gf sf n gn k (nS gn) → Q none S τ) : ∀ (t : Nat) (z : Int) (τ : Sto), 0 ≤ z → z ≤ gn + 1 → gn + 1 - z < t → sIn σ τ m → mSt τ m f gf sf n gn k (pzI gn z 0) → PW (fm G mX12_findStories 6 0 0 Q) G S (τ) 0 0 7 [(0, .ref m), (1, .int (iI (k))), (2, .int (iI (z)))] [] := by
  obtain ⟨hM0, hM1, hM2, hM3, hM4, hM5, hM6, hM7, hM8, hM9, hM10, hM11, hM12, hM13, hM14, hM15, hM16, hM17, hM18, hM19, hM20, hM21, hM22, hM23, hM24, hM25, hM26, hM27, hM28, hM29, hM30, hM31, hM32, hM33, hM34⟩ := id hA
  have hgn := hg.1
  have hgb := hg.2.1
  intro t
  induction t with
  | zero => intro z τ h1 h2 h3 g1 g2; omega
  | succ t ih =>
    intro z τ h1 h2 h3 g1 g2
    have hEt := g1.core hE
    have hgt := g1.mb hg
    have hst := g1.sg hs
    refine PW.iload_n dX12_findStories_7 rfl ?_
    refine PW.aload_n dX12_findStories_8 rfl ?_
    refine PW.getI 38 fl_X12_233 rfl (by assumption) rfl rfl dX12_findStories_9 ?_
    refine PW.top gn (by exact hgt.1) ?_
    refine PW.icmp_gt 76 dX12_findStories_12 (by decide) (by first | assumption | (unfold inR; omega)) (by first | assumption | (unfold inR; omega)) (fun h12 => ?_) (fun h12 => ?_)
    · have hz : z = gn + 1 := by omega
      subst hz
      refine PW.vret rfl dX12_findStories_76 (hQ τ g1 ?_)
      rw [← (tb_T hgb).2.1]
      exact g2
    · refine PW.iconst dX12_findStories_15 ?_
      refine PW.istore_n [(0, _), (1, _), (2, _), (3, _)] dX12_findStories_16 rfl (Nat.le_of_ble_eq_true rfl) ?_
      refine PW.iconst dX12_findStories_17 ?_
      refine PW.istore [(0, _), (1, _), (2, _), (3, _), (4, _)] dX12_findStories_18 rfl (Nat.le_of_ble_eq_true rfl) ?_
      have hpb := pwI_b hgb (z := z) ⟨h1, by omega⟩
      refine mo_fs_pw hA hgt ⟨h1, by omega⟩ ?_ 5 0 (by omega) (by omega) (by omega)
      refine PW.iconst dX12_findStories_39 ?_
      refine PW.istore [(0, _), (1, _), (2, _), (3, _), (4, _)] dX12_findStories_40 rfl (Nat.le_of_ble_eq_true rfl) ?_
      refine mo_fs_in (n := n) (gf := gf) (f := f) (sf := sf) hA hEt hgt hst hk ⟨h1, by omega⟩ ?_ 257 0 τ (by omega) (by omega) (by omega) ⟨fun _ _ => rfl, fun _ _ => rfl, g1.2.2.1, fun _ _ => rfl⟩ g2
      intro τ' i1 m1
      refine PW.iinc [(0, _), (1, _), (2, _)] dX12_findStories_70 rfl rfl (Nat.le_of_ble_eq_true rfl) ?_
      refine PW.goto 7 dX12_findStories_73 (by decide) ?_
      exact ih (z + 1) τ' (by omega) (by omega) (by omega) (g1.trans i1) m1
theorem c_X12_findStories {G : GT} {S : Shp} {σ : Sto} {m : Nat} {n gn sn k : Int} {f gf sf : Int → Int} (hA : IsMod S m) (hE : mCore σ m f n) (hg : mMb σ m gf gn) (hs : mSg σ m sf sn) (hk : 0 ≤ k ∧ k ≤ sn) : PMet G mX12_findStories 6 0 0 [.ref m, .int (iI k)] S σ (fun r S' τ => r = none ∧ S' = S ∧ sIn σ τ m ∧ mSt τ m f gf sf n gn k (nS gn)) := by
  obtain ⟨hM0, hM1, hM2, hM3, hM4, hM5, hM6, hM7, hM8, hM9, hM10, hM11, hM12, hM13, hM14, hM15, hM16, hM17, hM18, hM19, hM20, hM21, hM22, hM23, hM24, hM25, hM26, hM27, hM28, hM29, hM30, hM31, hM32, hM33, hM34⟩ := id hA
  have hgn := hg.1
  have hgb := hg.2.1
  refine PMet.of [(0, .ref m), (1, .int (iI (k)))] (by decide +kernel) rfl (Nat.le_of_ble_eq_true rfl) ?_
  refine PW.aload_n dX12_findStories_0 rfl ?_
  refine PW.iconst dX12_findStories_1 ?_
  refine PW.putI 41 fl_X12_396 rfl (fun h => absurd h (by decide)) (by assumption) rfl rfl rfl rfl dX12_findStories_2 ?_
  refine PW.iconst dX12_findStories_5 ?_
  refine PW.istore_n [(0, _), (1, _), (2, _)] dX12_findStories_6 rfl (Nat.le_of_ble_eq_true rfl) ?_
  have i0 : sIn σ (upS σ m (up1 (σ m) 41 0)) m := ⟨fun b hb => upS_ne (by omega), fun j hj => by rw [upS_same, up1_ne hj], by rw [upS_ne (by omega)]; exact hE.2.1, fun j _ => by rw [upS_ne (by omega)]⟩
  refine mo_fs_out (n := n) (gf := gf) (f := f) (sf := sf) hA hE hg hs hk (fun τ h h2 => ⟨rfl, rfl, h, h2⟩) 6 0 _ (by omega) (by omega) (by omega) i0 ?_
  rw [(tb_T hgb).1]
  exact ⟨by rw [upS_same, up1_same]; rfl, fun q q0 q1 => by omega⟩

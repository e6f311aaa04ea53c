theorem mo_ahd_loop {G : GT} {S : Shp} {σ : Sto} {m : Nat} {n v k w : Int} {f g : Int → Int} {Q : Option Value → Shp → Sto → Prop} (hA : IsMod S m) (he : mEv σ m f n) (hr : mVr σ m v g k) (hv : 0 ≤ v ∧ v ≤ 3) (hQ : Q (some (.int (iI (ahF f g n k)))) S σ) : ∀ (t : Nat) (i : Int), 0 ≤ i → i ≤ n → i ≤ k → n - i < t → (∀ j, 0 ≤ j → j < i → alF f g j) → PW (fm G mX12_differ 7 0 0 Q) G S (σ) 0 0 33 [(0, .ref m), (1, .int (iI (v))), (2, .int (iI (w))), (3, .int (iI (i)))] [] := by
  obtain ⟨hM0, hM1, hM2, hM3, hM4, hM5, hM6, hM7, hM8, hM9, hM10, hM11, hM12, hM13, hM14, hM15, hM16, hM17, hM18, hM19, hM20, hM21, hM22, hM23, hM24, hM25, hM26, hM27, hM28, hM29, hM30, hM31, hM32, hM33, hM34⟩ := id hA
  have hnb := he.2.1
  have hkb := hr.2.1
  intro t
  induction t with
  | zero => intro i h1 h2 h3 h4 g1; omega
  | succ t ih =>
    intro i h1 h2 h3 h4 g1
    refine PW.aload_n dX12_differ_33 rfl ?_
    refine PW.iload_n dX12_differ_34 rfl ?_
    refine PW.iload_n dX12_differ_35 rfl ?_
    refine PW.callVr (c_X12_isSame hA he hr hv (i := i) (by omega)) cv_X12_isSame lk_X12_343 (by first | assumption | exact And.left (by assumption)) dX12_differ_36 rfl rfl rfl rfl ?_
    refine PW.if_eqB 48 dX12_differ_39 (by decide) (fun h39 => ?_) (fun h39 => ?_)
    · refine PW.iload_n dX12_differ_48 rfl ?_
      have hs : ¬ ((i < n ∧ i < k) ∧ alF f g i) := by assumption
      have e : ahF f g n k = i := by
        unfold ahF
        by_cases hc : i < n ∧ i < k
        · have hf : firI (fun j => decide (¬ alF f g j)) (min n k).toNat = i := firI_hit h1 (decide_eq_true (show ¬ alF f g i from fun q => hs ⟨hc, q⟩)) (fun j q1 q2 => decide_eq_false (fun q => q (g1 j q1 q2))) (by omega)
          rw [hf, if_neg (by omega)]
        · have hm : min n k = i := by omega
          rw [hm, if_pos (firI_none (fun j q1 q2 => decide_eq_false (fun q => q (g1 j q1 (by omega)))))]
      rw [e] at hQ
      exact PW.iret rfl rfl dX12_differ_49 hQ
    · refine PW.iinc [(0, _), (1, _), (2, _), (3, _)] dX12_differ_42 rfl rfl (Nat.le_of_ble_eq_true rfl) ?_
      refine PW.goto 33 dX12_differ_45 (by decide) ?_
      have hs : (i < n ∧ i < k) ∧ alF f g i := by assumption
      refine ih (i + 1) (by omega) (by omega) (by omega) (by omega) (fun j q1 q2 => ?_)
      by_cases hj : j = i
      · rw [hj]; exact hs.2
      · exact g1 j q1 (by omega)
theorem mo_dbld_loop {G : GT} {S : Shp} {σ : Sto} {m : Nat} {n v k w : Int} {f g : Int → Int} {Q : Option Value → Shp → Sto → Prop} (hA : IsMod S m) (he : mEv σ m f n) (hr : mVr σ m v g k) (hv : 0 ≤ v ∧ v ≤ 3) (hC : cOk (σ (m + 1)) 15360) (hK : ∀ τ, bdR σ τ m 1 g k → PW (fm G mX12_differ 7 0 0 Q) G S τ 0 0 95 [(0, .ref m), (1, .int (iI v)), (2, .int (iI w))] []) : ∀ (t : Nat) (i : Int) (τ : Sto), 0 ≤ i → i ≤ k → k - i < t → bdR σ τ m 1 g i → PW (fm G mX12_differ 7 0 0 Q) G S (τ) 0 0 57 [(0, .ref m), (1, .int (iI (v))), (2, .int (iI (w))), (3, .int (iI (i)))] [] := by
  obtain ⟨hM0, hM1, hM2, hM3, hM4, hM5, hM6, hM7, hM8, hM9, hM10, hM11, hM12, hM13, hM14, hM15, hM16, hM17, hM18, hM19, hM20, hM21, hM22, hM23, hM24, hM25, hM26, hM27, hM28, hM29, hM30, hM31, hM32, hM33, hM34⟩ := id hA
  obtain ⟨k0, k1, k2, k3⟩ := id hr
  intro t
  induction t with
  | zero => intro i τ h1 h2 h3 g1; omega
  | succ t ih =>
    intro i τ h1 h2 h3 g1
    have e12 : τ (m + 12) v = k := by rw [g1.1 _ (by omega) (by omega) (by omega)]; exact k0
    have e13 : τ (m + 13) = σ (m + 13) := g1.1 _ (by omega) (by omega) (by omega)
    have e14 : τ (m + 14) = σ (m + 14) := g1.1 _ (by omega) (by omega) (by omega)
    have eN : (fun j => τ (m + 14) (5 * (16 * v + i) + j)) = fun j => (fun q => σ (m + 14) (80 * v + q)) (5 * i + j) := by
      funext j
      rw [e14]
      dsimp only
      congr 1
      omega
    refine PW.iload_n dX12_differ_57 rfl ?_
    refine PW.aload_n dX12_differ_58 rfl ?_
    refine PW.getR fl_X12_49 rfl (by assumption) rfl dX12_differ_59 ?_
    refine PW.iload_n dX12_differ_62 rfl ?_
    refine PW.iaload (by assumption) (by unfold inR; omega) (by omega) (by omega) dX12_differ_63 ?_
    refine PW.top k (by exact e12) ?_
    refine PW.icmp_ge 95 dX12_differ_64 (by decide) (by first | assumption | (unfold inR; omega)) (by first | assumption | (unfold inR; omega)) (fun h64 => ?_) (fun h64 => ?_)
    · have hi : i = k := by omega
      subst hi
      refine PW.take 3 ?_
      exact hK τ g1
    · refine PW.aload_n dX12_differ_67 rfl ?_
      refine PW.iload_n dX12_differ_68 rfl ?_
      refine PW.iload_n dX12_differ_69 rfl ?_
      refine PW.callVv (c_X12_giveKept hA (by omega) hv) cv_X12_giveKept lk_X12_340 (by first | assumption | exact And.left (by assumption)) dX12_differ_70 rfl rfl rfl rfl ?_
      rw [eN]
      have hq0 := mRw_at (g0 := τ (m + 6)) k2 h1 (show i < k by omega)
      refine PW.aload_n dX12_differ_73 rfl ?_
      refine PW.iconst dX12_differ_74 ?_
      refine PW.aload_n dX12_differ_75 rfl ?_
      refine PW.getR fl_X12_52 rfl (by assumption) rfl dX12_differ_76 ?_
      refine PW.bipush (by decide) dX12_differ_79 ?_
      refine PW.iload_n dX12_differ_81 rfl ?_
      refine PW.imul dX12_differ_82 ?_
      refine PW.iload_n dX12_differ_83 rfl ?_
      refine PW.iadd dX12_differ_84 ?_
      refine PW.iaload (by assumption) (by unfold inR; omega) (by omega) (by omega) dX12_differ_85 ?_
      refine PW.top ((fun q => σ (m + 13) (16 * v + q)) i) (by rw [upS_ne (by omega), e13]) ?_
      refine PW.callVg (c_X12_befall hA (by rw [upS_ne (by omega)]; exact g1.2.1) (by omega) (by rw [upS_same]; exact hq0.1)) cv_X12_befall lk_X12_181 (by first | assumption | exact And.left (by assumption)) dX12_differ_86 rfl rfl rfl rfl (fun r S' τ86 hq => ?_)
      obtain ⟨rfl, hS, u1, u2⟩ := hq
      have hS2 := hS.symm
      subst hS2
      rw [upS_same, upS_ne (show m + 1 ≠ m + 6 by omega)] at u2
      refine PW.iinc [(0, _), (1, _), (2, _), (3, _)] dX12_differ_89 rfl rfl (Nat.le_of_ble_eq_true rfl) ?_
      refine PW.goto 57 dX12_differ_92 (by decide) ?_
      exact ih (i + 1) _ (by omega) (by omega) (by omega) (bdR_s g1 k2 (by omega) h1 (by omega) u1 u2)
theorem mo_dcel_loop {G : GT} {S : Shp} {σ : Sto} {m : Nat} {v w : Int} {Q : Option Value → Shp → Sto → Prop} (hA : IsMod S m) (hC : cOk (σ (m + 1)) 15360) (hK : PW (fm G mX12_differ 7 0 0 Q) G S σ 0 0 146 [(0, .ref m), (1, .int (iI v)), (2, .int (iI w)), (3, .int (iI (smF (fun q => b01 (¬ σ (m + 1) q = σ (m + 1) (5120 + q))) 5120)))] []) : ∀ (t : Nat) (i : Int), 0 ≤ i → i ≤ 5120 → 5120 - i < t → PW (fm G mX12_differ 7 0 0 Q) G S (σ) 0 0 100 [(0, .ref m), (1, .int (iI (v))), (2, .int (iI (w))), (3, .int (iI (smF (fun q => b01 (¬ σ (m + 1) q = σ (m + 1) (5120 + q))) i))), (4, .int (iI (i)))] [] := by
  obtain ⟨hM0, hM1, hM2, hM3, hM4, hM5, hM6, hM7, hM8, hM9, hM10, hM11, hM12, hM13, hM14, hM15, hM16, hM17, hM18, hM19, hM20, hM21, hM22, hM23, hM24, hM25, hM26, hM27, hM28, hM29, hM30, hM31, hM32, hM33, hM34⟩ := id hA
  intro t
  induction t with
  | zero => intro i h1 h2 h3; omega
  | succ t ih =>
    intro i h1 h2 h3
    have hb := smF_01 (P := fun q => ¬ σ (m + 1) q = σ (m + 1) (5120 + q)) h1
    refine PW.iload dX12_differ_100 rfl ?_
    refine PW.sipush (by decide) dX12_differ_102 ?_
    refine PW.icmp_ge 146 dX12_differ_105 (by decide) (by first | assumption | (unfold inR; omega)) (by first | assumption | (unfold inR; omega)) (fun h105 => ?_) (fun h105 => ?_)
    · have hi : i = 5120 := by omega
      subst hi
      refine PW.take 4 ?_
      exact hK
    · refine PW.iload_n dX12_differ_108 rfl ?_
      refine PW.aload_n dX12_differ_109 rfl ?_
      refine PW.getR fl_X12_7 rfl (by assumption) rfl dX12_differ_110 ?_
      refine PW.iload dX12_differ_113 rfl ?_
      refine PW.baload (by assumption) (by first | assumption | (unfold inR; omega)) (by omega) (by omega) dX12_differ_115 ?_
      refine PW.aload_n dX12_differ_116 rfl ?_
      refine PW.getR fl_X12_7 rfl (by assumption) rfl dX12_differ_117 ?_
      refine PW.sipush (by decide) dX12_differ_120 ?_
      refine PW.iload dX12_differ_123 rfl ?_
      refine PW.iadd dX12_differ_125 ?_
      refine PW.baload (by assumption) (by first | assumption | (unfold inR; omega)) (by omega) (by omega) dX12_differ_126 ?_
      have v1 := hC i (by omega) (by omega)
      have v2 := hC (5120 + i) (by omega) (by omega)
      refine PW.icmp_eq 134 dX12_differ_127 (by decide) (by first | assumption | (unfold inR; omega)) (by first | assumption | (unfold inR; omega)) (fun h127 => ?_) (fun h127 => ?_)
      · refine PW.iconst dX12_differ_134 ?_
        refine PW.callSr (c_X12_bit (by first | omega | exact b01_b _)) cs_X12_bit lk_X12_207 dX12_differ_135 rfl rfl rfl ?_
        refine PW.iadd dX12_differ_138 ?_
        refine PW.istore_n [(0, _), (1, _), (2, _), (3, _), (4, _)] dX12_differ_139 rfl (Nat.le_of_ble_eq_true rfl) ?_
        refine PW.iinc [(0, _), (1, _), (2, _), (3, _), (4, _)] dX12_differ_140 rfl rfl (Nat.le_of_ble_eq_true rfl) ?_
        refine PW.goto 100 dX12_differ_143 (by decide) ?_
        have e := ih (i + 1) (by omega) (by omega) (by omega)
        rw [smF_s _ h1] at e
        first
          | (rw [b01_t (by assumption)] at e; exact e)
          | (rw [b01_f (fun q => q (by assumption))] at e; exact e)
      · refine PW.iconst dX12_differ_130 ?_
        refine PW.goto 135 dX12_differ_131 (by decide) ?_
        refine PW.callSr (c_X12_bit (by first | omega | exact b01_b _)) cs_X12_bit lk_X12_207 dX12_differ_135 rfl rfl rfl ?_
        refine PW.iadd dX12_differ_138 ?_
        refine PW.istore_n [(0, _), (1, _), (2, _), (3, _), (4, _)] dX12_differ_139 rfl (Nat.le_of_ble_eq_true rfl) ?_
        refine PW.iinc [(0, _), (1, _), (2, _), (3, _), (4, _)] dX12_differ_140 rfl rfl (Nat.le_of_ble_eq_true rfl) ?_
        refine PW.goto 100 dX12_differ_143 (by decide) ?_
        have e := ih (i + 1) (by omega) (by omega) (by omega)
        rw [smF_s _ h1] at e
        first
          | (rw [b01_t (by assumption)] at e; exact e)
          | (rw [b01_f (fun q => q (by assumption))] at e; exact e)
theorem mo_dfst_loop {G : GT} {S : Shp} {σ : Sto} {m : Nat} {v w y : Int} {Q : Option Value → Shp → Sto → Prop} (hA : IsMod S m) (hC : cOk (σ (m + 1)) 15360) (hK : PW (fm G mX12_differ 7 0 0 Q) G S σ 0 0 184 [(0, .ref m), (1, .int (iI v)), (2, .int (iI w)), (3, .int (iI y)), (4, .int (iI (firI (fun c => decide (¬ likP (clV (σ (m + 1)) 0 c) (clV (σ (m + 1)) 1 c))) 64)))] []) : ∀ (t : Nat) (i : Int) (x : Int), -1 ≤ i → i < 64 → i + 1 < t → (x = -1 ∧ (∀ c, i < c → c < 64 → (fun c => decide (¬ likP (clV (σ (m + 1)) 0 c) (clV (σ (m + 1)) 1 c))) c = false)) ∨ ((i < x ∧ x < 64) ∧ (fun c => decide (¬ likP (clV (σ (m + 1)) 0 c) (clV (σ (m + 1)) 1 c))) x = true ∧ ∀ c, i < c → c < x → (fun c => decide (¬ likP (clV (σ (m + 1)) 0 c) (clV (σ (m + 1)) 1 c))) c = false) → PW (fm G mX12_differ 7 0 0 Q) G S (σ) 0 0 153 [(0, .ref m), (1, .int (iI (v))), (2, .int (iI (w))), (3, .int (iI (y))), (4, .int (iI (x))), (5, .int (iI (i)))] [] := by
  obtain ⟨hM0, hM1, hM2, hM3, hM4, hM5, hM6, hM7, hM8, hM9, hM10, hM11, hM12, hM13, hM14, hM15, hM16, hM17, hM18, hM19, hM20, hM21, hM22, hM23, hM24, hM25, hM26, hM27, hM28, hM29, hM30, hM31, hM32, hM33, hM34⟩ := id hA
  intro t
  induction t with
  | zero => intro i x h1 h2 h3 g1; omega
  | succ t ih =>
    intro i x h1 h2 h3 g1
    refine PW.iload dX12_differ_153 rfl ?_
    refine PW.if_lt 184 dX12_differ_155 (by decide) (by first | assumption | (unfold inR; omega)) (fun h155 => ?_) (fun h155 => ?_)
    · have hi : i = -1 := by omega
      subst hi
      have e : firI (fun c => decide (¬ likP (clV (σ (m + 1)) 0 c) (clV (σ (m + 1)) 1 c))) 64 = x := by
        rcases g1 with ⟨q1, q2⟩ | ⟨q1, q2, q3⟩
        · rw [q1]
          exact firI_none (fun j j0 j1 => q2 j (by omega) (by omega))
        · exact firI_hit (P := (fun c => decide (¬ likP (clV (σ (m + 1)) 0 c) (clV (σ (m + 1)) 1 c)))) (i := x) (n := 64) (by omega) q2 (fun j j0 j1 => q3 j (by omega) j1) (by omega)
      rw [e] at hK
      refine PW.take 5 ?_
      exact hK
    · refine PW.aload_n dX12_differ_158 rfl ?_
      refine PW.iconst dX12_differ_159 ?_
      refine PW.iconst dX12_differ_160 ?_
      refine PW.iload dX12_differ_161 rfl ?_
      refine PW.callVr (c_X12_isAlike hA hC (L := 0) (K := 1) (by omega) (by omega) (by omega)) cv_X12_isAlike lk_X12_211 (by first | assumption | exact And.left (by assumption)) dX12_differ_163 rfl rfl rfl rfl ?_
      refine PW.if_eqB 174 dX12_differ_166 (by decide) (fun h166 => ?_) (fun h166 => ?_)
      · refine PW.iload dX12_differ_174 rfl ?_
        refine PW.istore [(0, _), (1, _), (2, _), (3, _), (4, _), (5, _)] dX12_differ_176 rfl (Nat.le_of_ble_eq_true rfl) ?_
        refine PW.iinc [(0, _), (1, _), (2, _), (3, _), (4, _), (5, _)] dX12_differ_178 rfl rfl (Nat.le_of_ble_eq_true rfl) ?_
        refine PW.goto 153 dX12_differ_181 (by decide) ?_
        refine ih (i + -1) _ (by omega) (by omega) (by omega) ?_
        first
          | (have hl : (fun c => decide (¬ likP (clV (σ (m + 1)) 0 c) (clV (σ (m + 1)) 1 c))) i = false := decide_eq_false (fun q => q (by assumption))
             rcases g1 with ⟨q1, q2⟩ | ⟨q1, q2, q3⟩
             · refine Or.inl ⟨q1, fun c c0 c1 => ?_⟩
               by_cases hc : c = i
               · rw [hc]; exact hl
               · exact q2 c (by omega) c1
             · refine Or.inr ⟨by omega, q2, fun c c0 c1 => ?_⟩
               by_cases hc : c = i
               · rw [hc]; exact hl
               · exact q3 c (by omega) c1)
          | exact Or.inr ⟨by omega, decide_eq_true (by assumption), fun c c0 c1 => by omega⟩
      · refine PW.iload dX12_differ_169 rfl ?_
        refine PW.goto 176 dX12_differ_171 (by decide) ?_
        refine PW.istore [(0, _), (1, _), (2, _), (3, _), (4, _), (5, _)] dX12_differ_176 rfl (Nat.le_of_ble_eq_true rfl) ?_
        refine PW.iinc [(0, _), (1, _), (2, _), (3, _), (4, _), (5, _)] dX12_differ_178 rfl rfl (Nat.le_of_ble_eq_true rfl) ?_
        refine PW.goto 153 dX12_differ_181 (by decide) ?_
        refine ih (i + -1) _ (by omega) (by omega) (by omega) ?_
        first
          | (have hl : (fun c => decide (¬ likP (clV (σ (m + 1)) 0 c) (clV (σ (m + 1)) 1 c))) i = false := decide_eq_false (fun q => q (by assumption))
             rcases g1 with ⟨q1, q2⟩ | ⟨q1, q2, q3⟩
             · refine Or.inl ⟨q1, fun c c0 c1 => ?_⟩
               by_cases hc : c = i
               · rw [hc]; exact hl
               · exact q2 c (by omega) c1
             · refine Or.inr ⟨by omega, q2, fun c c0 c1 => ?_⟩
               by_cases hc : c = i
               · rw [hc]; exact hl
               · exact q3 c (by omega) c1)
          | exact Or.inr ⟨by omega, decide_eq_true (by assumption), fun c c0 c1 => by omega⟩
theorem cut_eq (C : Int → Int) : smF (fun q => b01 (¬ C q = C (5120 + q))) 5120 = smF (fun c => ulF (clV C 0 c) (clV C 1 c)) 64 := by
  have h := smF_cut (fun q => b01 (¬ C q = C (5120 + q))) 64
  rw [show 80 * ((64 : Nat) : Int) = 5120 by omega] at h
  rw [h]
  refine smF_congr fun c c0 c1 => ?_
  unfold ulF clV
  refine smF_congr fun j j0 j1 => ?_
  rw [show 5120 * 0 + 80 * c + j = 80 * c + j by omega, show 5120 * 1 + 80 * c + j = 5120 + (80 * c + j) by omega]
theorem c_X12_differ {G : GT} {S : Shp} {σ : Sto} {m : Nat} {n v w : Int} {f : Int → Int} {VK VN : Int → Int} {VF : Int → Int → Int} (hA : IsMod S m) (hE : mCore σ m f n) (hvs : mVs σ m VK VN VF) (rv : inR v) (rw_ : inR w) : PMet G mX12_differ 7 0 0 [.ref m, .int (iI v), .int (iI w)] S σ (fun r S' τ => S' = S ∧ r = some (.int (iI (if ¬ ((0 ≤ v ∧ v < 4) ∧ ¬ VK v = 0) then -100001 else if w = 0 then smF (fun c => b01 (¬ likP (tlF f c zF n.toNat) (tlF (VF v) c zF (VN v).toNat))) 64 else if w = 1 then firI (fun c => decide (¬ likP (tlF f c zF n.toNat) (tlF (VF v) c zF (VN v).toNat))) 64 else if w = 2 then smF (fun c => ulF (tlF f c zF n.toNat) (tlF (VF v) c zF (VN v).toNat)) 64 else if w = 3 then ahF f (VF v) n (VN v) else -100002))) ∧ eFr σ τ m ∧ mCore τ m (f) (n)) := by
  obtain ⟨hM0, hM1, hM2, hM3, hM4, hM5, hM6, hM7, hM8, hM9, hM10, hM11, hM12, hM13, hM14, hM15, hM16, hM17, hM18, hM19, hM20, hM21, hM22, hM23, hM24, hM25, hM26, hM27, hM28, hM29, hM30, hM31, hM32, hM33, hM34⟩ := id hA
  have hn := hE.1.1
  have hnb := hE.1.2.1
  refine PMet.of [(0, .ref m), (1, .int (iI (v))), (2, .int (iI (w)))] (by decide +kernel) rfl (Nat.le_of_ble_eq_true rfl) ?_
  refine PW.aload_n dX12_differ_0 rfl ?_
  refine PW.iload_n dX12_differ_1 rfl ?_
  refine PW.callVr (c_X12_noVersion hA hvs rv) cv_X12_noVersion lk_X12_337 (by first | assumption | exact And.left (by assumption)) dX12_differ_2 rfl rfl rfl rfl ?_
  refine PW.if_eqB 11 dX12_differ_5 (by decide) (fun h5 => ?_) (fun h5 => ?_)
  · have hvv : (0 ≤ v ∧ v < 4) ∧ ¬ VK v = 0 := Classical.byContradiction (fun q => h5 q)
    have hr := (hvs v hvv.1.1 hvv.1.2).2.2 hvv.2
    have hrb := hr.2.1
    refine PW.iload_n dX12_differ_11 rfl ?_
    refine PW.i2l (by first | assumption | (unfold inR; omega)) dX12_differ_12 ?_
    refine PW.lconst (z := 0) rfl dX12_differ_13 ?_
    refine PW.ldc2 (3) kc_X12_335 rfl rfl dX12_differ_14 ?_
    refine PW.callSr (c_X12_in (inL_R rw_) (by unfold inL; omega) (by unfold inL; omega)) cs_X12_in lk_X12_134 dX12_differ_17 rfl rfl rfl ?_
    refine PW.if_neB 26 dX12_differ_20 (by decide) (fun h20 => ?_) (fun h20 => ?_)
    · refine PW.iload_n dX12_differ_26 rfl ?_
      refine PW.iconst dX12_differ_27 ?_
      refine PW.icmp_ne 50 dX12_differ_28 (by decide) (by first | assumption | (unfold inR; omega)) (by first | assumption | (unfold inR; omega)) (fun h28 => ?_) (fun h28 => ?_)
      · refine PW.aload_n dX12_differ_50 rfl ?_
        refine PW.iconst dX12_differ_51 ?_
        refine PW.callVv (c_X12_start (L := 1) hA (by omega)) cv_X12_start lk_X12_175 (by first | assumption | exact And.left (by assumption)) dX12_differ_52 rfl rfl rfl rfl ?_
        refine PW.iconst dX12_differ_55 ?_
        refine PW.istore_n [(0, _), (1, _), (2, _), (3, _)] dX12_differ_56 rfl (Nat.le_of_ble_eq_true rfl) ?_
        have h0 := bdR_0 (σ := σ) (f := VF v) (L := 1) hE.2.1 (by omega)
        refine mo_dbld_loop hA hE.1 hr (by omega) hE.2.1 (fun τ hb => ?_) 17 0 _ (by omega) (by omega) (by omega) h0
        have hc := hb.core1 hE
        have hA' := hA
        have hg := hb.2.2.1
        refine PW.iconst dX12_differ_95 ?_
        refine PW.istore_n [(0, _), (1, _), (2, _), (3, _)] dX12_differ_96 rfl (Nat.le_of_ble_eq_true rfl) ?_
        refine PW.iconst dX12_differ_97 ?_
        refine PW.istore [(0, _), (1, _), (2, _), (3, _), (4, _)] dX12_differ_98 rfl (Nat.le_of_ble_eq_true rfl) ?_
        refine mo_dcel_loop hA hc.2.1 ?_ 5121 0 (by omega) (by omega) (by omega)
        refine PW.iconst dX12_differ_146 ?_
        refine PW.istore [(0, _), (1, _), (2, _), (3, _), (4, _)] dX12_differ_147 rfl (Nat.le_of_ble_eq_true rfl) ?_
        refine PW.bipush (by decide) dX12_differ_149 ?_
        refine PW.istore [(0, _), (1, _), (2, _), (3, _), (4, _), (5, _)] dX12_differ_151 rfl (Nat.le_of_ble_eq_true rfl) ?_
        refine mo_dfst_loop hA hc.2.1 ?_ 65 63 _ (by omega) (by omega) (by omega) (Or.inl ⟨rfl, fun c c0 c1 => by omega⟩)
        refine PW.iload_n dX12_differ_184 rfl ?_
        refine PW.if_ne 197 dX12_differ_185 (by decide) (by first | assumption | (unfold inR; omega)) (fun h185 => ?_) (fun h185 => ?_)
        · refine PW.iload_n dX12_differ_197 rfl ?_
          refine PW.iconst dX12_differ_198 ?_
          refine PW.icmp_ne 207 dX12_differ_199 (by decide) (by first | assumption | (unfold inR; omega)) (by first | assumption | (unfold inR; omega)) (fun h199 => ?_) (fun h199 => ?_)
          · refine PW.iload_n dX12_differ_207 rfl ?_
            first
              | (refine PW.iret rfl rfl dX12_differ_208 ⟨rfl, ret_eq ?_, hb.1.e, hc⟩
                 rw [if_neg (fun q => q hvv), if_pos (by omega)]
                 exact smF_congr fun c c0 c1 => b01_congr (not_congr (likP_eq (hc.2.2 c c0 (by omega)) (hg c c0 (by omega))))
                 done)
              | (refine PW.iret rfl rfl dX12_differ_208 ⟨rfl, ret_eq ?_, hb.1.e, hc⟩
                 rw [if_neg (fun q => q hvv), if_neg (by omega), if_pos (by omega)]
                 exact firI_congr fun c c0 c1 => by rw [decide_eq_decide]; exact not_congr (likP_eq (hc.2.2 c c0 (by omega)) (hg c c0 (by omega)))
                 done)
              | (refine PW.iret rfl rfl dX12_differ_208 ⟨rfl, ret_eq ?_, hb.1.e, hc⟩
                 rw [if_neg (fun q => q hvv), if_neg (by omega), if_neg (by omega), if_pos (by omega), cut_eq]
                 exact smF_congr fun c c0 c1 => ulF_eq (hc.2.2 c c0 (by omega)) (hg c c0 (by omega)))
          · refine PW.iload dX12_differ_202 rfl ?_
            refine PW.goto 208 dX12_differ_204 (by decide) ?_
            first
              | (refine PW.iret rfl rfl dX12_differ_208 ⟨rfl, ret_eq ?_, hb.1.e, hc⟩
                 rw [if_neg (fun q => q hvv), if_pos (by omega)]
                 exact smF_congr fun c c0 c1 => b01_congr (not_congr (likP_eq (hc.2.2 c c0 (by omega)) (hg c c0 (by omega))))
                 done)
              | (refine PW.iret rfl rfl dX12_differ_208 ⟨rfl, ret_eq ?_, hb.1.e, hc⟩
                 rw [if_neg (fun q => q hvv), if_neg (by omega), if_pos (by omega)]
                 exact firI_congr fun c c0 c1 => by rw [decide_eq_decide]; exact not_congr (likP_eq (hc.2.2 c c0 (by omega)) (hg c c0 (by omega)))
                 done)
              | (refine PW.iret rfl rfl dX12_differ_208 ⟨rfl, ret_eq ?_, hb.1.e, hc⟩
                 rw [if_neg (fun q => q hvv), if_neg (by omega), if_neg (by omega), if_pos (by omega), cut_eq]
                 exact smF_congr fun c c0 c1 => ulF_eq (hc.2.2 c c0 (by omega)) (hg c c0 (by omega)))
        · refine PW.aload_n dX12_differ_188 rfl ?_
          refine PW.iconst dX12_differ_189 ?_
          refine PW.iconst dX12_differ_190 ?_
          refine PW.callVr (c_X12_unlikeColumns (L := 0) (K := 1) hA hc.2.1 (by omega) (by omega)) cv_X12_unlikeColumns lk_X12_220 (by first | assumption | exact And.left (by assumption)) dX12_differ_191 rfl rfl rfl rfl ?_
          refine PW.goto 208 dX12_differ_194 (by decide) ?_
          first
            | (refine PW.iret rfl rfl dX12_differ_208 ⟨rfl, ret_eq ?_, hb.1.e, hc⟩
               rw [if_neg (fun q => q hvv), if_pos (by omega)]
               exact smF_congr fun c c0 c1 => b01_congr (not_congr (likP_eq (hc.2.2 c c0 (by omega)) (hg c c0 (by omega))))
               done)
            | (refine PW.iret rfl rfl dX12_differ_208 ⟨rfl, ret_eq ?_, hb.1.e, hc⟩
               rw [if_neg (fun q => q hvv), if_neg (by omega), if_pos (by omega)]
               exact firI_congr fun c c0 c1 => by rw [decide_eq_decide]; exact not_congr (likP_eq (hc.2.2 c c0 (by omega)) (hg c c0 (by omega)))
               done)
            | (refine PW.iret rfl rfl dX12_differ_208 ⟨rfl, ret_eq ?_, hb.1.e, hc⟩
               rw [if_neg (fun q => q hvv), if_neg (by omega), if_neg (by omega), if_pos (by omega), cut_eq]
               exact smF_congr fun c c0 c1 => ulF_eq (hc.2.2 c c0 (by omega)) (hg c c0 (by omega)))
      · refine PW.iconst dX12_differ_31 ?_
        refine PW.istore_n [(0, _), (1, _), (2, _), (3, _)] dX12_differ_32 rfl (Nat.le_of_ble_eq_true rfl) ?_
        refine (mo_ahd_loop hA hE.1 hr (by omega) ⟨rfl, ?_, eFr.rfl' _ _, hE⟩ 17 0 (by omega) (by omega) (by omega) (by omega) (fun j q1 q2 => by omega))
        rw [if_neg (fun q => q hvv), if_neg (by omega), if_neg (by omega), if_neg (by omega), if_pos (by omega)]
    · refine PW.ldc (-100002) kc_X12_195 rfl rfl dX12_differ_23 ?_
      exact PW.iret rfl rfl dX12_differ_25 ⟨rfl, ret_eq (by rw [if_neg (fun q => q hvv), if_neg (by omega), if_neg (by omega), if_neg (by omega), if_neg (by omega)]), eFr.rfl' _ _, hE⟩
  · refine PW.ldc (-100001) kc_X12_204 rfl rfl dX12_differ_8 ?_
    exact PW.iret rfl rfl dX12_differ_10 ⟨rfl, ret_eq (by rw [if_pos (by assumption)]), eFr.rfl' _ _, hE⟩
theorem birF_15 {f : Int → Int} {n : Int} (h : ∀ i, 0 ≤ i → i < n → evOk f i) : birF f n 15 = -1 := firI_none fun j j0 j1 => decide_eq_false fun q => by
  obtain ⟨q1, q2⟩ := q
  have hj := (h j j0 (by omega)).1
  rcases q1 with q1 | q1
  · rw [q1] at hj
    have := ok_0 hj
    omega
  · rw [q1] at hj
    have := ok_5 hj
    omega
theorem mo_cry_loop {G : GT} {S : Shp} {σ : Sto} {m : Nat} {n : Int} {f : Int → Int} {Q : Option Value → Shp → Sto → Prop} (hA : IsMod S m) (he : mEv σ m f n) (hK : ∀ y : Int → Int, (∀ b, 0 ≤ b → b < 16 → y b = birF f n b) → PW (fm G mX12_crossings 2 0 0 Q) G S (upS σ (m + 10) y) 0 0 35 [(0, .ref m)] []) : ∀ (t : Nat) (i : Int) (y : Int → Int), 0 ≤ i → i ≤ 16 → 16 - i < t → (∀ b, 0 ≤ b → b < i → y b = birF f n b) → PW (fm G mX12_crossings 2 0 0 Q) G S (upS σ (m + 10) y) 0 0 2 [(0, .ref m), (1, .int (iI (i)))] [] := by
  obtain ⟨hM0, hM1, hM2, hM3, hM4, hM5, hM6, hM7, hM8, hM9, hM10, hM11, hM12, hM13, hM14, hM15, hM16, hM17, hM18, hM19, hM20, hM21, hM22, hM23, hM24, hM25, hM26, hM27, hM28, hM29, hM30, hM31, hM32, hM33, hM34⟩ := id hA
  intro t
  induction t with
  | zero => intro i y h1 h2 h3 g1; omega
  | succ t ih =>
    intro i y h1 h2 h3 g1
    have he2 : mEv (upS σ (m + 10) y) m f n := mEv_congr he (by rw [upS_ne (by omega)]) (upS_ne (by omega)) (upS_ne (by omega)) (upS_ne (by omega))
    refine PW.iload_n dX12_crossings_2 rfl ?_
    refine PW.bipush (by decide) dX12_crossings_3 ?_
    refine PW.icmp_ge 35 dX12_crossings_5 (by decide) (by first | assumption | (unfold inR; omega)) (by first | assumption | (unfold inR; omega)) (fun h5 => ?_) (fun h5 => ?_)
    · refine PW.take 1 ?_
      exact hK y (fun b b0 b1 => g1 b b0 (by omega))
    · refine PW.aload_n dX12_crossings_8 rfl ?_
      refine PW.getR fl_X12_43 rfl (by assumption) rfl dX12_crossings_9 ?_
      refine PW.iload_n dX12_crossings_12 rfl ?_
      refine PW.iload_n dX12_crossings_13 rfl ?_
      refine PW.bipush (by decide) dX12_crossings_14 ?_
      refine PW.icmp_ne 23 dX12_crossings_16 (by decide) (by first | assumption | (unfold inR; omega)) (by first | assumption | (unfold inR; omega)) (fun h16 => ?_) (fun h16 => ?_)
      · refine PW.aload_n dX12_crossings_23 rfl ?_
        refine PW.iload_n dX12_crossings_24 rfl ?_
        refine PW.callVr (c_X12_youthOf hA he2 (by unfold inR; omega)) cv_X12_youthOf lk_X12_332 (by first | assumption | exact And.left (by assumption)) dX12_crossings_25 rfl rfl rfl rfl ?_
        refine PW.iastore (by assumption) (by first | assumption | (unfold inR; omega)) (by omega) (by omega) dX12_crossings_28 ?_
        refine PW.st (upS σ (m + 10) (up1 y i _)) (by rw [upS_upS, upS_same]) ?_
        refine PW.iinc [(0, _), (1, _)] dX12_crossings_29 rfl rfl (Nat.le_of_ble_eq_true rfl) ?_
        refine PW.goto 2 dX12_crossings_32 (by decide) ?_
        refine ih (i + 1) _ (by omega) (by omega) (by omega) (fun b b0 b1 => ?_)
        by_cases hb : b = i
        · rw [hb]
          first | exact up1_same _ _ _ | (rw [up1_same, show i = 15 by omega]; exact (birF_15 (fun q q0 q1 => (he.2.2.1 q q0 q1).1)).symm)
        · rw [up1_ne hb]
          exact g1 b b0 (by omega)
      · refine PW.iconst dX12_crossings_19 ?_
        refine PW.goto 28 dX12_crossings_20 (by decide) ?_
        refine PW.iastore (by assumption) (by first | assumption | (unfold inR; omega)) (by omega) (by omega) dX12_crossings_28 ?_
        refine PW.st (upS σ (m + 10) (up1 y i _)) (by rw [upS_upS, upS_same]) ?_
        refine PW.iinc [(0, _), (1, _)] dX12_crossings_29 rfl rfl (Nat.le_of_ble_eq_true rfl) ?_
        refine PW.goto 2 dX12_crossings_32 (by decide) ?_
        refine ih (i + 1) _ (by omega) (by omega) (by omega) (fun b b0 b1 => ?_)
        by_cases hb : b = i
        · rw [hb]
          first | exact up1_same _ _ _ | (rw [up1_same, show i = 15 by omega]; exact (birF_15 (fun q q0 q1 => (he.2.2.1 q q0 q1).1)).symm)
        · rw [up1_ne hb]
          exact g1 b b0 (by omega)
theorem mo_crh_loop {G : GT} {S : Shp} {σ : Sto} {m : Nat} {n c a : Int} {f y : Int → Int} {Q : Option Value → Shp → Sto → Prop} (hA : IsMod S m) (he : mEv σ m f n) (hC : cOk (σ (m + 1)) 15360) (hy : ∀ b, 0 ≤ b → b < 16 → y b = birF f n b) (hc : 0 ≤ c ∧ c ≤ 63) (ha : 0 ≤ a ∧ a ≤ 80 * c) (hK : ∀ u v : Int, PW (fm G mX12_crossings 2 0 0 Q) G S (upS σ (m + 10) y) 0 0 120 [(0, .ref m), (1, .int (iI (a + xcF (clV (σ (m + 1)) 0 c) (birF f n)))), (2, .int (iI c))] []) : ∀ (t : Nat) (i : Int), -39 ≤ i → i ≤ 40 → 40 - i < t → PW (fm G mX12_crossings 2 0 0 Q) G S (upS σ (m + 10) y) 0 0 48 [(0, .ref m), (1, .int (iI (a + smF (fun j => b01 (xcP (clV (σ (m + 1)) 0 c) (birF f n) j)) (i + 40)))), (2, .int (iI (c))), (3, .int (iI (i)))] [] := by
  obtain ⟨hM0, hM1, hM2, hM3, hM4, hM5, hM6, hM7, hM8, hM9, hM10, hM11, hM12, hM13, hM14, hM15, hM16, hM17, hM18, hM19, hM20, hM21, hM22, hM23, hM24, hM25, hM26, hM27, hM28, hM29, hM30, hM31, hM32, hM33, hM34⟩ := id hA
  have hnb := he.2.1
  intro t
  induction t with
  | zero => intro i h1 h2 h3; omega
  | succ t ih =>
    intro i h1 h2 h3
    have hb := smF_01 (P := xcP (clV (σ (m + 1)) 0 c) (birF f n)) (i := i + 40) (by omega)
    have eC : (upS σ (m + 10) y) (m + 1) = σ (m + 1) := upS_ne (by omega)
    have hC2 : cOk ((upS σ (m + 10) y) (m + 1)) 15360 := by rw [eC]; exact hC
    have d1 := gtV_b hC (L := 0) (c := c) (z := i) (by omega) hc
    have d2 := gtV_b hC (L := 0) (c := c) (z := i - 1) (by omega) hc
    refine PW.iload_n dX12_crossings_48 rfl ?_
    refine PW.bipush (by decide) dX12_crossings_49 ?_
    refine PW.icmp_ge 120 dX12_crossings_51 (by decide) (by first | assumption | (unfold inR; omega)) (by first | assumption | (unfold inR; omega)) (fun h51 => ?_) (fun h51 => ?_)
    · have hi : i = 40 := by omega
      subst hi
      refine PW.take 3 ?_
      exact hK 0 0
    · refine PW.aload_n dX12_crossings_54 rfl ?_
      refine PW.iconst dX12_crossings_55 ?_
      refine PW.iload_n dX12_crossings_56 rfl ?_
      refine PW.iload_n dX12_crossings_57 rfl ?_
      refine PW.iconst dX12_crossings_58 ?_
      refine PW.isub dX12_crossings_59 ?_
      refine PW.callVr (c_X12_get hA (by omega) hc (by omega)) cv_X12_get lk_X12_127 (by first | assumption | exact And.left (by assumption)) dX12_crossings_60 rfl rfl rfl rfl ?_
      refine PW.top (gtV (σ (m + 1)) 0 c (i - 1)) (by rw [eC]) ?_
      refine PW.istore [(0, _), (1, _), (2, _), (3, _), (4, _)] dX12_crossings_63 rfl (Nat.le_of_ble_eq_true rfl) ?_
      refine PW.aload_n dX12_crossings_65 rfl ?_
      refine PW.iconst dX12_crossings_66 ?_
      refine PW.iload_n dX12_crossings_67 rfl ?_
      refine PW.iload_n dX12_crossings_68 rfl ?_
      refine PW.callVr (c_X12_get hA (by omega) hc (by omega)) cv_X12_get lk_X12_127 (by first | assumption | exact And.left (by assumption)) dX12_crossings_69 rfl rfl rfl rfl ?_
      refine PW.top (gtV (σ (m + 1)) 0 c i) (by rw [eC]) ?_
      refine PW.istore [(0, _), (1, _), (2, _), (3, _), (4, _), (5, _)] dX12_crossings_72 rfl (Nat.le_of_ble_eq_true rfl) ?_
      refine PW.iload_n dX12_crossings_74 rfl ?_
      refine PW.iload dX12_crossings_75 rfl ?_
      refine PW.iconst dX12_crossings_77 ?_
      refine PW.icmp_eq 108 dX12_crossings_78 (by decide) (by first | assumption | (unfold inR; omega)) (by first | assumption | (unfold inR; omega)) (fun h78 => ?_) (fun h78 => ?_)
      · refine PW.iconst dX12_crossings_108 ?_
        refine PW.callSr (c_X12_bit (by first | omega | exact b01_b _)) cs_X12_bit lk_X12_207 dX12_crossings_109 rfl rfl rfl ?_
        refine PW.iadd dX12_crossings_112 ?_
        refine PW.istore_n [(0, _), (1, _), (2, _), (3, _), (4, _), (5, _)] dX12_crossings_113 rfl (Nat.le_of_ble_eq_true rfl) ?_
        refine PW.iinc [(0, _), (1, _), (2, _), (3, _), (4, _), (5, _)] dX12_crossings_114 rfl rfl (Nat.le_of_ble_eq_true rfl) ?_
        refine PW.goto 48 dX12_crossings_117 (by decide) ?_
        refine PW.take 4 ?_
        have e := ih (i + 1) (by omega) (by omega) (by omega)
        rw [show i + 1 + 40 = i + 40 + 1 by omega, smF_s _ (by omega), ← Int.add_assoc] at e
        have e1 : gtV (σ (m + 1)) 0 c i = clV (σ (m + 1)) 0 c (i + 40) := gtV_in (by omega)
        have e2 : gtV (σ (m + 1)) 0 c (i - 1) = clV (σ (m + 1)) 0 c (i + 40 - 1) := by rw [gtV_in (by omega)]; congr 1; omega
        first
          | (rw [b01_t (show xcP (clV (σ (m + 1)) 0 c) (birF f n) (i + 40) from ⟨by omega, by rw [← e1]; assumption, by rw [← e2]; assumption, by rw [← e1, ← e2]; omega⟩)] at e
             exact e)
          | (rw [b01_f (show ¬ xcP (clV (σ (m + 1)) 0 c) (birF f n) (i + 40) from fun q => by
               obtain ⟨-, q1, q2, q3⟩ := q
               rw [← e1] at q1 q3
               rw [← e2] at q2 q3
               first
                 | exact q1 (by assumption)
                 | exact q2 (by assumption)
                 | omega)] at e
             exact e)
      · refine PW.iload dX12_crossings_81 rfl ?_
        refine PW.iconst dX12_crossings_83 ?_
        refine PW.icmp_eq 108 dX12_crossings_84 (by decide) (by first | assumption | (unfold inR; omega)) (by first | assumption | (unfold inR; omega)) (fun h84 => ?_) (fun h84 => ?_)
        · refine PW.iconst dX12_crossings_108 ?_
          refine PW.callSr (c_X12_bit (by first | omega | exact b01_b _)) cs_X12_bit lk_X12_207 dX12_crossings_109 rfl rfl rfl ?_
          refine PW.iadd dX12_crossings_112 ?_
          refine PW.istore_n [(0, _), (1, _), (2, _), (3, _), (4, _), (5, _)] dX12_crossings_113 rfl (Nat.le_of_ble_eq_true rfl) ?_
          refine PW.iinc [(0, _), (1, _), (2, _), (3, _), (4, _), (5, _)] dX12_crossings_114 rfl rfl (Nat.le_of_ble_eq_true rfl) ?_
          refine PW.goto 48 dX12_crossings_117 (by decide) ?_
          refine PW.take 4 ?_
          have e := ih (i + 1) (by omega) (by omega) (by omega)
          rw [show i + 1 + 40 = i + 40 + 1 by omega, smF_s _ (by omega), ← Int.add_assoc] at e
          have e1 : gtV (σ (m + 1)) 0 c i = clV (σ (m + 1)) 0 c (i + 40) := gtV_in (by omega)
          have e2 : gtV (σ (m + 1)) 0 c (i - 1) = clV (σ (m + 1)) 0 c (i + 40 - 1) := by rw [gtV_in (by omega)]; congr 1; omega
          first
            | (rw [b01_t (show xcP (clV (σ (m + 1)) 0 c) (birF f n) (i + 40) from ⟨by omega, by rw [← e1]; assumption, by rw [← e2]; assumption, by rw [← e1, ← e2]; omega⟩)] at e
               exact e)
            | (rw [b01_f (show ¬ xcP (clV (σ (m + 1)) 0 c) (birF f n) (i + 40) from fun q => by
                 obtain ⟨-, q1, q2, q3⟩ := q
                 rw [← e1] at q1 q3
                 rw [← e2] at q2 q3
                 first
                   | exact q1 (by assumption)
                   | exact q2 (by assumption)
                   | omega)] at e
               exact e)
        · refine PW.aload_n dX12_crossings_87 rfl ?_
          refine PW.getR fl_X12_43 rfl (by assumption) rfl dX12_crossings_88 ?_
          refine PW.iload dX12_crossings_91 rfl ?_
          have bb1 := birF_b f (gtV (σ (m + 1)) 0 c (i - 1)) hnb
          have bb2 := birF_b f (gtV (σ (m + 1)) 0 c i) hnb
          refine PW.iaload (by assumption) (by unfold inR; omega) (by omega) (by omega) dX12_crossings_93 ?_
          refine PW.top (birF f n (gtV (σ (m + 1)) 0 c (i - 1))) (by rw [upS_same]; exact hy _ (by omega) (by omega)) ?_
          refine PW.aload_n dX12_crossings_94 rfl ?_
          refine PW.getR fl_X12_43 rfl (by assumption) rfl dX12_crossings_95 ?_
          refine PW.iload dX12_crossings_98 rfl ?_
          refine PW.iaload (by assumption) (by unfold inR; omega) (by omega) (by omega) dX12_crossings_100 ?_
          refine PW.top (birF f n (gtV (σ (m + 1)) 0 c i)) (by rw [upS_same]; exact hy _ (by omega) (by omega)) ?_
          refine PW.icmp_le 108 dX12_crossings_101 (by decide) (by first | assumption | (unfold inR; omega)) (by first | assumption | (unfold inR; omega)) (fun h101 => ?_) (fun h101 => ?_)
          · refine PW.iconst dX12_crossings_108 ?_
            refine PW.callSr (c_X12_bit (by first | omega | exact b01_b _)) cs_X12_bit lk_X12_207 dX12_crossings_109 rfl rfl rfl ?_
            refine PW.iadd dX12_crossings_112 ?_
            refine PW.istore_n [(0, _), (1, _), (2, _), (3, _), (4, _), (5, _)] dX12_crossings_113 rfl (Nat.le_of_ble_eq_true rfl) ?_
            refine PW.iinc [(0, _), (1, _), (2, _), (3, _), (4, _), (5, _)] dX12_crossings_114 rfl rfl (Nat.le_of_ble_eq_true rfl) ?_
            refine PW.goto 48 dX12_crossings_117 (by decide) ?_
            refine PW.take 4 ?_
            have e := ih (i + 1) (by omega) (by omega) (by omega)
            rw [show i + 1 + 40 = i + 40 + 1 by omega, smF_s _ (by omega), ← Int.add_assoc] at e
            have e1 : gtV (σ (m + 1)) 0 c i = clV (σ (m + 1)) 0 c (i + 40) := gtV_in (by omega)
            have e2 : gtV (σ (m + 1)) 0 c (i - 1) = clV (σ (m + 1)) 0 c (i + 40 - 1) := by rw [gtV_in (by omega)]; congr 1; omega
            first
              | (rw [b01_t (show xcP (clV (σ (m + 1)) 0 c) (birF f n) (i + 40) from ⟨by omega, by rw [← e1]; assumption, by rw [← e2]; assumption, by rw [← e1, ← e2]; omega⟩)] at e
                 exact e)
              | (rw [b01_f (show ¬ xcP (clV (σ (m + 1)) 0 c) (birF f n) (i + 40) from fun q => by
                   obtain ⟨-, q1, q2, q3⟩ := q
                   rw [← e1] at q1 q3
                   rw [← e2] at q2 q3
                   first
                     | exact q1 (by assumption)
                     | exact q2 (by assumption)
                     | omega)] at e
                 exact e)
          · refine PW.iconst dX12_crossings_104 ?_
            refine PW.goto 109 dX12_crossings_105 (by decide) ?_
            refine PW.callSr (c_X12_bit (by first | omega | exact b01_b _)) cs_X12_bit lk_X12_207 dX12_crossings_109 rfl rfl rfl ?_
            refine PW.iadd dX12_crossings_112 ?_
            refine PW.istore_n [(0, _), (1, _), (2, _), (3, _), (4, _), (5, _)] dX12_crossings_113 rfl (Nat.le_of_ble_eq_true rfl) ?_
            refine PW.iinc [(0, _), (1, _), (2, _), (3, _), (4, _), (5, _)] dX12_crossings_114 rfl rfl (Nat.le_of_ble_eq_true rfl) ?_
            refine PW.goto 48 dX12_crossings_117 (by decide) ?_
            refine PW.take 4 ?_
            have e := ih (i + 1) (by omega) (by omega) (by omega)
            rw [show i + 1 + 40 = i + 40 + 1 by omega, smF_s _ (by omega), ← Int.add_assoc] at e
            have e1 : gtV (σ (m + 1)) 0 c i = clV (σ (m + 1)) 0 c (i + 40) := gtV_in (by omega)
            have e2 : gtV (σ (m + 1)) 0 c (i - 1) = clV (σ (m + 1)) 0 c (i + 40 - 1) := by rw [gtV_in (by omega)]; congr 1; omega
            first
              | (rw [b01_t (show xcP (clV (σ (m + 1)) 0 c) (birF f n) (i + 40) from ⟨by omega, by rw [← e1]; assumption, by rw [← e2]; assumption, by rw [← e1, ← e2]; omega⟩)] at e
                 exact e)
              | (rw [b01_f (show ¬ xcP (clV (σ (m + 1)) 0 c) (birF f n) (i + 40) from fun q => by
                   obtain ⟨-, q1, q2, q3⟩ := q
                   rw [← e1] at q1 q3
                   rw [← e2] at q2 q3
                   first
                     | exact q1 (by assumption)
                     | exact q2 (by assumption)
                     | omega)] at e
                 exact e)
theorem mo_crc_loop {G : GT} {S : Shp} {σ : Sto} {m : Nat} {n : Int} {f y : Int → Int} {Q : Option Value → Shp → Sto → Prop} (hA : IsMod S m) (he : mEv σ m f n) (hC : cOk (σ (m + 1)) 15360) (hy : ∀ b, 0 ≤ b → b < 16 → y b = birF f n b) (hQ : Q (some (.int (iI (smF (fun c => xcF (clV (σ (m + 1)) 0 c) (birF f n)) 64)))) S (upS σ (m + 10) y)) : ∀ (t : Nat) (i : Int), 0 ≤ i → i ≤ 64 → 64 - i < t → PW (fm G mX12_crossings 2 0 0 Q) G S (upS σ (m + 10) y) 0 0 39 [(0, .ref m), (1, .int (iI (smF (fun c => xcF (clV (σ (m + 1)) 0 c) (birF f n)) i))), (2, .int (iI (i)))] [] := by
  obtain ⟨hM0, hM1, hM2, hM3, hM4, hM5, hM6, hM7, hM8, hM9, hM10, hM11, hM12, hM13, hM14, hM15, hM16, hM17, hM18, hM19, hM20, hM21, hM22, hM23, hM24, hM25, hM26, hM27, hM28, hM29, hM30, hM31, hM32, hM33, hM34⟩ := id hA
  intro t
  induction t with
  | zero => intro i h1 h2 h3; omega
  | succ t ih =>
    intro i h1 h2 h3
    have hb := smF_b (f := fun c => xcF (clV (σ (m + 1)) 0 c) (birF f n)) (lo := 0) (hi := 80) h1 (fun j _ _ => xcF_b _ _)
    refine PW.iload_n dX12_crossings_39 rfl ?_
    refine PW.bipush (by decide) dX12_crossings_40 ?_
    refine PW.icmp_ge 126 dX12_crossings_42 (by decide) (by first | assumption | (unfold inR; omega)) (by first | assumption | (unfold inR; omega)) (fun h42 => ?_) (fun h42 => ?_)
    · refine PW.iload_n dX12_crossings_126 rfl ?_
      have hi : i = 64 := by omega
      subst hi
      exact PW.iret rfl rfl dX12_crossings_127 hQ
    · refine PW.bipush (by decide) dX12_crossings_45 ?_
      refine PW.istore_n [(0, _), (1, _), (2, _), (3, _)] dX12_crossings_47 rfl (Nat.le_of_ble_eq_true rfl) ?_
      have e0 : smF (fun j => b01 (xcP (clV (σ (m + 1)) 0 i) (birF f n) j)) (-39 + 40) = 0 := by
        rw [show (-39 : Int) + 40 = 0 + 1 by omega, smF_s _ (by omega), b01_f (fun q => by have := q.1; omega)]
        rfl
      have k := mo_crh_loop (G := G) (S := S) (Q := Q) hA he hC hy (c := i) (a := smF (fun c => xcF (clV (σ (m + 1)) 0 c) (birF f n)) i) (by omega) (by omega) (fun u v => ?_) 80 (-39) (by omega) (by omega) (by omega)
      · rw [e0, Int.add_zero] at k
        exact k
      · refine PW.iinc [(0, _), (1, _), (2, _)] dX12_crossings_120 rfl rfl (Nat.le_of_ble_eq_true rfl) ?_
        refine PW.goto 39 dX12_crossings_123 (by decide) ?_
        have e := ih (i + 1) (by omega) (by omega) (by omega)
        rw [smF_s _ h1] at e
        exact e
theorem c_X12_crossings {G : GT} {S : Shp} {σ : Sto} {m : Nat} {n : Int} {f : Int → Int} (hA : IsMod S m) (hE : mCore σ m f n) : PMet G mX12_crossings 2 0 0 [.ref m] S σ (fun r S' τ => S' = S ∧ r = some (.int (iI (smF (fun c => xcF (tlF f c zF n.toNat) (birF f n)) 64))) ∧ ∃ y : Int → Int, τ = upS σ (m + 10) y) := by
  obtain ⟨hM0, hM1, hM2, hM3, hM4, hM5, hM6, hM7, hM8, hM9, hM10, hM11, hM12, hM13, hM14, hM15, hM16, hM17, hM18, hM19, hM20, hM21, hM22, hM23, hM24, hM25, hM26, hM27, hM28, hM29, hM30, hM31, hM32, hM33, hM34⟩ := id hA
  refine PMet.of [(0, .ref m)] (by decide +kernel) rfl (Nat.le_of_ble_eq_true rfl) ?_
  refine PW.iconst dX12_crossings_0 ?_
  refine PW.istore_n [(0, _), (1, _)] dX12_crossings_1 rfl (Nat.le_of_ble_eq_true rfl) ?_
  refine PW.st (upS σ (m + 10) (σ (m + 10))) (upS_self _ _).symm ?_
  refine mo_cry_loop hA hE.1 (fun y hy => ?_) 17 0 _ (by omega) (by omega) (by omega) (fun b b0 b1 => by omega)
  refine PW.iconst dX12_crossings_35 ?_
  refine PW.istore_n [(0, _), (1, _)] dX12_crossings_36 rfl (Nat.le_of_ble_eq_true rfl) ?_
  refine PW.iconst dX12_crossings_37 ?_
  refine PW.istore_n [(0, _), (1, _), (2, _)] dX12_crossings_38 rfl (Nat.le_of_ble_eq_true rfl) ?_
  refine mo_crc_loop hA hE.1 hE.2.1 hy ⟨rfl, ret_eq ?_, y, rfl⟩ 65 0 (by omega) (by omega) (by omega)
  exact smF_congr fun c c0 c1 => xcF_eq (hE.2.2 c c0 (by omega)) _

/-- a column behind so many events of g that may have happened, in the order w -/
def cwF (g : Int → Int) (c : Int) : (Int → Int) → (Int → Int) → Nat → (Int → Int)
  | col, _, 0 => col
  | col, w, k + 1 => evR g (w (k : Int)) c (cwF g c col w k)
theorem cwF_sh (g : Int → Int) (c : Int) (col w : Int → Int) : ∀ k : Nat, cwF g c (evR g (w 0) c col) (fun p => w (p + 1)) k = cwF g c col w (k + 1)
  | 0 => rfl
  | k + 1 => by
    have ih := cwF_sh g c col w k
    show evR g (w ((k : Int) + 1)) c (cwF g c (evR g (w 0) c col) (fun p => w (p + 1)) k) = evR g (w ((k + 1 : Nat) : Int)) c (cwF g c col w (k + 1))
    rw [ih, show ((k + 1 : Nat) : Int) = (k : Int) + 1 by omega]
theorem cwF_col (g : Int → Int) (c : Int) : ∀ (L : List Int) (col w : Int → Int), (∀ p : Nat, p < L.length → L.getD p (-1) = w (p : Int)) → cwF g c col w L.length = colS g c col L
  | [], _, _, _ => rfl
  | a :: L, col, w, h => by
    have h0 : a = w 0 := h 0 (by simp)
    have ih := cwF_col g c L (evR g (w 0) c col) (fun p => w (p + 1)) (fun p hp => by
      have := h (p + 1) (by simp; omega)
      rw [List.getD_cons_succ] at this
      rw [this]
      congr 1)
    show cwF g c col w (L.length + 1) = colS g c (evR g a c col) L
    rw [← cwF_sh, ih, h0]
theorem cwF_s (g : Int → Int) (c : Int) (col w : Int → Int) {i : Int} (h : 0 ≤ i) : cwF g c col w (i + 1).toNat = evR g (w i) c (cwF g c col w i.toNat) := by
  rw [show (i + 1).toNat = i.toNat + 1 by omega]
  show evR g (w ((i.toNat : Nat) : Int)) c _ = _
  rw [show ((i.toNat : Nat) : Int) = i by omega]
theorem evR_eq {c e : Int → Int} (h : eq8 c e) (g : Int → Int) (i n : Int) : eq8 (evR g i n c) (evR g i n e) := evC_eq h _ _ _ _ _ _ _
/-- a draft of a story, so many of its events having befallen -/
def tsI (σ τ : Sto) (m : Nat) (f : Int → Int) (n : Int) (g w : Int → Int) (i : Int) : Prop := mFg σ τ m ∧ cOk (τ (m + 1)) 15360 ∧ (∀ j, j < 5120 → τ (m + 1) j = σ (m + 1) j) ∧ ∀ c, 0 ≤ c → c ≤ 63 → eq8 (clV (τ (m + 1)) 1 c) (cwF g c (ldT f n c) w i.toNat)
theorem tsI_s {σ τ τ' : Sto} {m : Nat} {f g w g0 K N : Int → Int} {n gn i : Int} (h : tsI σ τ m f n g w i) (hr : mRw K N g gn) (i0 : 0 ≤ i) (hw : 0 ≤ w i ∧ w i < gn) (hf : mFr (upS τ (m + 6) (pfF g0 (fun j => N (5 * w i + j)) 0 5)) τ' m) (he : τ' (m + 1) = evL (τ (m + 1)) 1 (K (w i)) (pfF g0 (fun j => N (5 * w i + j)) 0 5) 64) : tsI σ τ' m f n g w (i + 1) := by
  obtain ⟨a1, a2, a3, a4⟩ := h
  obtain ⟨b1, b2⟩ := mRw_at (g0 := g0) hr hw.1 hw.2
  refine ⟨fun b q1 q2 q6 => ?_, ?_, fun j hj => ?_, fun c c0 c1 => ?_⟩
  · rw [hf b q1 q2, upS_ne q6]
    exact a1 b q1 q2 q6
  · rw [he]
    exact evL_ok a2 (by omega) (by omega) b1
  · rw [he, evL_ne (by omega)]
    exact a3 j hj
  · rw [he]
    refine (evL_at ⟨c0, c1⟩).trans ?_
    rw [b2, cwF_s _ _ _ _ i0]
    exact evR_eq (a4 c c0 c1) _ _ _
theorem tsI_0 {σ τ : Sto} {m : Nat} {f g w : Int → Int} {n : Int} (hC : cOk (σ (m + 1)) 15360) (hL : mLd (σ (m + 1)) 0 f n) (hf : ∀ b, b ≠ m + 1 → τ b = σ b) (h1 : ∀ j, 5120 ≤ j → j < 10240 → τ (m + 1) j = σ (m + 1) (j - 5120)) (h2 : ∀ j, (j < 5120 ∨ 10240 ≤ j) → τ (m + 1) j = σ (m + 1) j) : tsI σ τ m f n g w 0 := by
  refine ⟨fun b q1 q2 q6 => hf b q1, fun j j0 j1 => ?_, fun j hj => h2 j (Or.inl hj), fun c c0 c1 i i0 i1 => ?_⟩
  · by_cases q : 5120 ≤ j ∧ j < 10240
    · rw [h1 j q.1 q.2]
      exact hC _ (by omega) (by omega)
    · rw [h2 j (by omega)]
      exact hC j j0 j1
  · have := hL c c0 c1 i i0 i1
    unfold clV at this ⊢
    rw [h1 _ (by omega) (by omega), ← show 5120 * 0 + 80 * c + i = 5120 * 1 + 80 * c + i - 5120 by omega]
    exact this
theorem mo_ts_bf {G : GT} {S : Shp} {σ : Sto} {m : Nat} {n gn sn k z : Int} {f gf sf : Int → Int} {Q : Option Value → Shp → Sto → Prop} (hA : IsMod S m) (hE : mCore σ m f n) (hg : mMb σ m gf gn) (hs : mSg σ m sf sn) (hk : 0 ≤ k ∧ k ≤ sn) (hz : 0 ≤ z ∧ z ≤ 4) (hwy : ∀ p, 0 ≤ p → p < z → 0 ≤ σ (m + 34) p ∧ σ (m + 34) p < gn) (hK : ∀ τ, tsI σ τ m f n gf (σ (m + 34)) z → PW (fm G mX12_tryStory 5 0 0 Q) G S τ 0 0 45 [(0, .ref m), (1, .int (iI z)), (2, .int (iI k))] []) : ∀ (t : Nat) (i : Int) (τ : Sto), 0 ≤ i → i ≤ z → z - i < t → tsI σ τ m f n gf (σ (m + 34)) i → PW (fm G mX12_tryStory 5 0 0 Q) G S (τ) 0 0 8 [(0, .ref m), (1, .int (iI (z))), (2, .int (iI (k))), (3, .int (iI (i)))] [] := by
  obtain ⟨hM0, hM1, hM2, hM3, hM4, hM5, hM6, hM7, hM8, hM9, hM10, hM11, hM12, hM13, hM14, hM15, hM16, hM17, hM18, hM19, hM20, hM21, hM22, hM23, hM24, hM25, hM26, hM27, hM28, hM29, hM30, hM31, hM32, hM33, hM34⟩ := id hA
  have hgn := hg.1
  have hgb := hg.2.1
  intro t
  induction t with
  | zero => intro i τ h1 h2 h3 g1; omega
  | succ t ih =>
    intro i τ h1 h2 h3 g1
    have e29 : τ (m + 29) = σ (m + 29) := g1.1 _ (by omega) (by omega) (by omega)
    have e30 : τ (m + 30) = σ (m + 30) := g1.1 _ (by omega) (by omega) (by omega)
    have e34 : τ (m + 34) = σ (m + 34) := g1.1 _ (by omega) (by omega) (by omega)
    refine PW.iload_n dX12_tryStory_8 rfl ?_
    refine PW.iload_n dX12_tryStory_9 rfl ?_
    refine PW.icmp_ge 45 dX12_tryStory_10 (by decide) (by first | assumption | (unfold inR; omega)) (by first | assumption | (unfold inR; omega)) (fun h10 => ?_) (fun h10 => ?_)
    · have hi : i = z := by omega
      subst hi
      refine PW.take 3 ?_
      exact hK τ g1
    · have hwi := hwy i h1 (by omega)
      refine PW.aload_n dX12_tryStory_13 rfl ?_
      refine PW.aload_n dX12_tryStory_14 rfl ?_
      refine PW.getR fl_X12_116 rfl (by assumption) rfl dX12_tryStory_15 ?_
      refine PW.iload_n dX12_tryStory_18 rfl ?_
      refine PW.iaload (by assumption) (by unfold inR; omega) (by omega) (by omega) dX12_tryStory_19 ?_
      refine PW.top (σ (m + 34) i) (by rw [e34]) ?_
      refine PW.callVv (c_X12_giveMaybe hA (by omega)) cv_X12_giveMaybe lk_X12_393 (by first | assumption | exact And.left (by assumption)) dX12_tryStory_20 rfl rfl rfl rfl ?_
      rw [e30]
      have hq := mRw_at (g0 := τ (m + 6)) hg.2.2 hwi.1 hwi.2
      refine PW.aload_n dX12_tryStory_23 rfl ?_
      refine PW.iconst dX12_tryStory_24 ?_
      refine PW.aload_n dX12_tryStory_25 rfl ?_
      refine PW.getR fl_X12_100 rfl (by assumption) rfl dX12_tryStory_26 ?_
      refine PW.aload_n dX12_tryStory_29 rfl ?_
      refine PW.getR fl_X12_116 rfl (by assumption) rfl dX12_tryStory_30 ?_
      refine PW.iload_n dX12_tryStory_33 rfl ?_
      refine PW.iaload (by assumption) (by unfold inR; omega) (by omega) (by omega) dX12_tryStory_34 ?_
      refine PW.top (σ (m + 34) i) (by rw [upS_ne (by omega), e34]) ?_
      refine PW.iaload (by assumption) (by unfold inR; omega) (by omega) (by omega) dX12_tryStory_35 ?_
      refine PW.top (σ (m + 29) (σ (m + 34) i)) (by rw [upS_ne (by omega), e29]) ?_
      refine PW.callVg (c_X12_befall hA (by rw [upS_ne (by omega)]; exact g1.2.1) (show (0 : Int) ≤ 1 ∧ (1 : Int) ≤ 2 by decide) (by rw [upS_same]; exact hq.1)) cv_X12_befall lk_X12_181 (by first | assumption | exact And.left (by assumption)) dX12_tryStory_36 rfl rfl rfl rfl (fun r S' τ36 hq => ?_)
      obtain ⟨rfl, hS, u1, u2⟩ := hq
      have hS2 := hS.symm
      subst hS2
      rw [upS_same, upS_ne (show m + 1 ≠ m + 6 by omega)] at u2
      refine PW.iinc [(0, _), (1, _), (2, _), (3, _)] dX12_tryStory_39 rfl rfl (Nat.le_of_ble_eq_true rfl) ?_
      refine PW.goto 8 dX12_tryStory_42 (by decide) ?_
      exact ih (i + 1) _ (by omega) (by omega) (by omega) (tsI_s g1 hg.2.2 h1 hwi u1 u2)
/-- the store behind the keeping of a story of z events as the c-th that fits -/
def ksS (σ : Sto) (m : Nat) (z c : Int) : Sto := upS (upS (upS (upS σ (m + 31) (up1 (σ (m + 31)) c z)) (m + 32) (pfF (σ (m + 32)) (fun j => σ (m + 34) (j - 4 * c)) (4 * c) (4 * c + z))) (m + 33) (pfF (σ (m + 33)) (fun j => σ (m + 1) (5120 + (j - 5120 * c))) (5120 * c) (5120 * c + 5120))) m (up1 (σ m) 41 (c + 1))
theorem ksS_ne {σ : Sto} {m b : Nat} {z c : Int} (h0 : b ≠ m) (h1 : b < m + 31 ∨ m + 33 < b) : ksS σ m z c b = σ b := by
  unfold ksS
  rw [upS_ne h0, upS_ne (by omega), upS_ne (by omega), upS_ne (by omega)]
theorem ksS_j {σ : Sto} {m : Nat} {z c j : Int} (h : j ≠ 41) : ksS σ m z c m j = σ m j := by
  unfold ksS
  rw [upS_same, up1_ne h]
theorem ksS_41 (σ : Sto) (m : Nat) (z c : Int) : ksS σ m z c m 41 = c + 1 := by
  unfold ksS
  rw [upS_same, up1_same]
theorem ksS_31 (σ : Sto) (m : Nat) (z c : Int) : ksS σ m z c (m + 31) = up1 (σ (m + 31)) c z := by
  unfold ksS
  rw [upS_ne (by omega), upS_ne (by omega), upS_ne (by omega), upS_same]
theorem ksS_32 (σ : Sto) (m : Nat) (z c : Int) : ksS σ m z c (m + 32) = pfF (σ (m + 32)) (fun j => σ (m + 34) (j - 4 * c)) (4 * c) (4 * c + z) := by
  unfold ksS
  rw [upS_ne (by omega), upS_ne (by omega), upS_same]
theorem ksS_33 (σ : Sto) (m : Nat) (z c : Int) : ksS σ m z c (m + 33) = pfF (σ (m + 33)) (fun j => σ (m + 1) (5120 + (j - 5120 * c))) (5120 * c) (5120 * c + 5120) := by
  unfold ksS
  rw [upS_ne (by omega), upS_same]
theorem mo_ts_ld {G : GT} {S : Shp} {σ : Sto} {m : Nat} {c z k : Int} {Q : Option Value → Shp → Sto → Prop} (hA : IsMod S m) (hc : σ m 41 = c) (hcb : 0 ≤ c ∧ c < 65) (hz : 0 ≤ z ∧ z ≤ 4) (hC : cOk (σ (m + 1)) 15360) (hQ : Q none S (ksS σ m z c)) : ∀ (t : Nat) (i : Int), 0 ≤ i → i ≤ 5120 → 5120 - i < t → PW (fm G mX12_tryStory 5 0 0 Q) G S (upS (upS (upS σ (m + 31) (up1 (σ (m + 31)) c z)) (m + 32) (pfF (σ (m + 32)) (fun j => σ (m + 34) (j - 4 * c)) (4 * c) (4 * c + z))) (m + 33) (pfF (σ (m + 33)) (fun j => σ (m + 1) (5120 + (j - 5120 * c))) (5120 * c) (5120 * c + i))) 0 0 98 [(0, .ref m), (1, .int (iI (z))), (2, .int (iI (k))), (3, .int (iI (i)))] [] := by
  obtain ⟨hM0, hM1, hM2, hM3, hM4, hM5, hM6, hM7, hM8, hM9, hM10, hM11, hM12, hM13, hM14, hM15, hM16, hM17, hM18, hM19, hM20, hM21, hM22, hM23, hM24, hM25, hM26, hM27, hM28, hM29, hM30, hM31, hM32, hM33, hM34⟩ := id hA
  intro t
  induction t with
  | zero => intro i h1 h2 h3; omega
  | succ t ih =>
    intro i h1 h2 h3
    refine PW.iload_n dX12_tryStory_98 rfl ?_
    refine PW.sipush (by decide) dX12_tryStory_99 ?_
    refine PW.icmp_ge 136 dX12_tryStory_102 (by decide) (by first | assumption | (unfold inR; omega)) (by first | assumption | (unfold inR; omega)) (fun h102 => ?_) (fun h102 => ?_)
    · refine PW.aload_n dX12_tryStory_136 rfl ?_
      refine PW.dup rfl dX12_tryStory_137 ?_
      refine PW.getI 41 fl_X12_396 rfl (by assumption) rfl rfl dX12_tryStory_138 ?_
      refine PW.top (c) (by rw [upS_ne (by omega), upS_ne (by omega), upS_ne (by omega)]; exact hc) ?_
      refine PW.iconst dX12_tryStory_141 ?_
      refine PW.iadd dX12_tryStory_142 ?_
      refine PW.putI 41 fl_X12_396 rfl (fun h => absurd h (by decide)) (by assumption) rfl rfl rfl rfl dX12_tryStory_143 ?_
      have hi : i = 5120 := by omega
      subst hi
      refine PW.st (ksS σ m z c) (by
        unfold ksS
        simp only [upS_ne (show m ≠ m + 33 by omega), upS_ne (show m ≠ m + 32 by omega), upS_ne (show m ≠ m + 31 by omega)]) ?_
      exact PW.vret rfl dX12_tryStory_146 hQ
    · refine PW.aload_n dX12_tryStory_105 rfl ?_
      refine PW.getR fl_X12_113 rfl (by assumption) rfl dX12_tryStory_106 ?_
      refine PW.sipush (by decide) dX12_tryStory_109 ?_
      refine PW.aload_n dX12_tryStory_112 rfl ?_
      refine PW.getI 41 fl_X12_396 rfl (by assumption) rfl rfl dX12_tryStory_113 ?_
      refine PW.top (c) (by rw [upS_ne (by omega), upS_ne (by omega), upS_ne (by omega)]; exact hc) ?_
      refine PW.imul dX12_tryStory_116 ?_
      refine PW.iload_n dX12_tryStory_117 rfl ?_
      refine PW.iadd dX12_tryStory_118 ?_
      refine PW.aload_n dX12_tryStory_119 rfl ?_
      refine PW.getR fl_X12_7 rfl (by assumption) rfl dX12_tryStory_120 ?_
      refine PW.sipush (by decide) dX12_tryStory_123 ?_
      refine PW.iload_n dX12_tryStory_126 rfl ?_
      refine PW.iadd dX12_tryStory_127 ?_
      refine PW.baload (by assumption) (by unfold inR; omega) (by omega) (by omega) dX12_tryStory_128 ?_
      refine PW.top (σ (m + 1) (5120 + i)) (by rw [upS_ne (by omega), upS_ne (by omega), upS_ne (by omega)]) ?_
      have hv := hC (5120 + i) (by omega) (by omega)
      refine PW.bastore (by assumption) (by first | assumption | (unfold inR; omega)) (by omega) (by omega) (narY (by omega)) dX12_tryStory_129 ?_
      refine PW.st (upS (upS (upS σ (m + 31) (up1 (σ (m + 31)) c z)) (m + 32) (pfF (σ (m + 32)) (fun j => σ (m + 34) (j - 4 * c)) (4 * c) (4 * c + z))) (m + 33) (pfF (σ (m + 33)) (fun j => σ (m + 1) (5120 + (j - 5120 * c))) (5120 * c) (5120 * c + (i + 1)))) (by
        rw [upS_upS, upS_same]
        refine congrArg (upS (upS (upS σ (m + 31) (up1 (σ (m + 31)) c z)) (m + 32) (pfF (σ (m + 32)) (fun j => σ (m + 34) (j - 4 * c)) (4 * c) (4 * c + z))) (m + 33)) ?_
        rw [show 5120 * c + (i + 1) = 5120 * c + i + 1 by omega, ← pfF_s (by omega)]
        congr 3
        omega) ?_
      refine PW.iinc [(0, _), (1, _), (2, _), (3, _)] dX12_tryStory_130 rfl rfl (Nat.le_of_ble_eq_true rfl) ?_
      refine PW.goto 98 dX12_tryStory_133 (by decide) ?_
      exact ih (i + 1) (by omega) (by omega) (by omega)
theorem mo_ts_so {G : GT} {S : Shp} {σ : Sto} {m : Nat} {c z k : Int} {Q : Option Value → Shp → Sto → Prop} (hA : IsMod S m) (hc : σ m 41 = c) (hcb : 0 ≤ c ∧ c < 65) (hz : 0 ≤ z ∧ z ≤ 4) (hC : cOk (σ (m + 1)) 15360) (hQ : Q none S (ksS σ m z c)) : ∀ (t : Nat) (i : Int), 0 ≤ i → i ≤ z → z - i < t → PW (fm G mX12_tryStory 5 0 0 Q) G S (upS (upS σ (m + 31) (up1 (σ (m + 31)) c z)) (m + 32) (pfF (σ (m + 32)) (fun j => σ (m + 34) (j - 4 * c)) (4 * c) (4 * c + i))) 0 0 66 [(0, .ref m), (1, .int (iI (z))), (2, .int (iI (k))), (3, .int (iI (i)))] [] := by
  obtain ⟨hM0, hM1, hM2, hM3, hM4, hM5, hM6, hM7, hM8, hM9, hM10, hM11, hM12, hM13, hM14, hM15, hM16, hM17, hM18, hM19, hM20, hM21, hM22, hM23, hM24, hM25, hM26, hM27, hM28, hM29, hM30, hM31, hM32, hM33, hM34⟩ := id hA
  intro t
  induction t with
  | zero => intro i h1 h2 h3; omega
  | succ t ih =>
    intro i h1 h2 h3
    refine PW.iload_n dX12_tryStory_66 rfl ?_
    refine PW.iload_n dX12_tryStory_67 rfl ?_
    refine PW.icmp_ge 96 dX12_tryStory_68 (by decide) (by first | assumption | (unfold inR; omega)) (by first | assumption | (unfold inR; omega)) (fun h68 => ?_) (fun h68 => ?_)
    · refine PW.iconst dX12_tryStory_96 ?_
      refine PW.istore_n [(0, _), (1, _), (2, _), (3, _)] dX12_tryStory_97 rfl (Nat.le_of_ble_eq_true rfl) ?_
      have hi : i = z := by omega
      subst hi
      refine PW.st (upS (upS (upS σ (m + 31) (up1 (σ (m + 31)) c i)) (m + 32) (pfF (σ (m + 32)) (fun j => σ (m + 34) (j - 4 * c)) (4 * c) (4 * c + i))) (m + 33) (pfF (σ (m + 33)) (fun j => σ (m + 1) (5120 + (j - 5120 * c))) (5120 * c) (5120 * c + 0))) ?_ ?_
      · rw [Int.add_zero, pfF_0, show σ (m + 33) = (upS (upS σ (m + 31) (up1 (σ (m + 31)) c i)) (m + 32) (pfF (σ (m + 32)) (fun j => σ (m + 34) (j - 4 * c)) (4 * c) (4 * c + i))) (m + 33) from (by rw [upS_ne (by omega), upS_ne (by omega)]), upS_self]
      · exact mo_ts_ld hA hc hcb hz hC hQ 5121 0 (by omega) (by omega) (by omega)
    · refine PW.aload_n dX12_tryStory_71 rfl ?_
      refine PW.getR fl_X12_109 rfl (by assumption) rfl dX12_tryStory_72 ?_
      refine PW.iconst dX12_tryStory_75 ?_
      refine PW.aload_n dX12_tryStory_76 rfl ?_
      refine PW.getI 41 fl_X12_396 rfl (by assumption) rfl rfl dX12_tryStory_77 ?_
      refine PW.top (c) (by rw [upS_ne (by omega), upS_ne (by omega)]; exact hc) ?_
      refine PW.imul dX12_tryStory_80 ?_
      refine PW.iload_n dX12_tryStory_81 rfl ?_
      refine PW.iadd dX12_tryStory_82 ?_
      refine PW.aload_n dX12_tryStory_83 rfl ?_
      refine PW.getR fl_X12_116 rfl (by assumption) rfl dX12_tryStory_84 ?_
      refine PW.iload_n dX12_tryStory_87 rfl ?_
      refine PW.iaload (by assumption) (by unfold inR; omega) (by omega) (by omega) dX12_tryStory_88 ?_
      refine PW.top (σ (m + 34) i) (by rw [upS_ne (by omega), upS_ne (by omega)]) ?_
      refine PW.iastore (by assumption) (by first | assumption | (unfold inR; omega)) (by omega) (by omega) dX12_tryStory_89 ?_
      refine PW.st (upS (upS σ (m + 31) (up1 (σ (m + 31)) c z)) (m + 32) (pfF (σ (m + 32)) (fun j => σ (m + 34) (j - 4 * c)) (4 * c) (4 * c + (i + 1)))) (by
        rw [upS_upS, upS_same]
        refine congrArg (upS (upS σ (m + 31) (up1 (σ (m + 31)) c z)) (m + 32)) ?_
        rw [show 4 * c + (i + 1) = 4 * c + i + 1 by omega, ← pfF_s (by omega)]
        congr 2
        omega) ?_
      refine PW.iinc [(0, _), (1, _), (2, _), (3, _)] dX12_tryStory_90 rfl rfl (Nat.le_of_ble_eq_true rfl) ?_
      refine PW.goto 66 dX12_tryStory_93 (by decide) ?_
      exact ih (i + 1) (by omega) (by omega) (by omega)

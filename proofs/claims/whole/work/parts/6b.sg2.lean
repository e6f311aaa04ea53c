/-- metS, closed to the arithmetic of the proofs -/
def MetD (f : Int → Int) (i : Int) (ld : Int → Int → Int) : Prop := metS f i ld
/-- the land that events tell, column by column -/
def ldT (f : Int → Int) (n : Int) : Int → Int → Int := fun c => tlF f c zF n.toNat
theorem metS_ld {f : Int → Int} {i : Int} {A B : Int → Int → Int} (w : sgWf f i) (h : ∀ c, 0 ≤ c → c ≤ 63 → eq8 (A c) (B c)) : metS f i A ↔ metS f i B := by
  have hn := nxF_b w
  obtain ⟨w1, w2, w3⟩ := id w
  have w4 := w3.2.2.2.2.1
  exact metP_eq (h _ w1.1 w1.2) (fun _ => h _ hn.1 hn.2) w4
theorem umC_ld {f : Int → Int} {n : Int} {A B : Int → Int → Int} (w : ∀ i, 0 ≤ i → i < n → sgWf f i) (h : ∀ c, 0 ≤ c → c ≤ 63 → eq8 (A c) (B c)) {k : Int} (hk : k ≤ n) : umC f A k = umC f B k := smF_congr fun j j0 j1 => b01_congr (not_congr (metS_ld (w j j0 (by omega)) h))
theorem umW_ld {f : Int → Int} {n : Int} {A B : Int → Int → Int} (w : ∀ i, 0 ≤ i → i < n → sgWf f i) (h : ∀ c, 0 ≤ c → c ≤ 63 → eq8 (A c) (B c)) {k v : Int} (hk : k ≤ n) : umW f A k v = umW f B k v := firI_congr fun j j0 j1 => by
  rw [decide_eq_decide, umC_ld w h (by omega)]
  exact and_congr_left fun _ => not_congr (metS_ld (w j j0 (by omega)) h)
theorem c_X12_met {G : GT} {S : Shp} {σ : Sto} {m : Nat} {n i : Int} {f : Int → Int} {sn : Int} {sf : Int → Int} (hA : IsMod S m) (hE : mCore σ m f n) (hs : mSg σ m sf sn) (ri : inR i) : PMet G mX12_met 4 0 0 [.ref m, .int (iI i)] S σ (isP (some (.int (iI (if ¬ (0 ≤ i ∧ i < sn) then -100001 else b01 (metS sf i (ldT f n)))))) S σ) := by
  obtain ⟨hM0, hM1, hM2, hM3, hM4, hM5, hM6, hM7, hM8, hM9, hM10, hM11, hM12, hM13, hM14, hM15, hM16, hM17, hM18, hM19, hM20, hM21, hM22, hM23, hM24, hM25, hM26, hM27, hM28, hM29, hM30, hM31, hM32, hM33, hM34⟩ := id hA
  have hsn := hs.1
  have hsb := hs.2.1
  have hsw : ∀ i, 0 ≤ i → i < sn → sgWf sf i := fun i i0 i1 => (hs.2.2 i i0 i1).1
  refine PMet.of [(0, .ref m), (1, .int (iI (i)))] (by decide +kernel) rfl (Nat.le_of_ble_eq_true rfl) ?_
  refine PW.iload_n dX12_met_0 rfl ?_
  refine PW.i2l (by first | assumption | (unfold inR; omega)) dX12_met_1 ?_
  refine PW.lconst (z := 0) rfl dX12_met_2 ?_
  refine PW.aload_n dX12_met_3 rfl ?_
  refine PW.getI 23 fl_X12_227 rfl (by assumption) rfl rfl dX12_met_4 ?_
  refine PW.top sn (by exact hsn) ?_
  refine PW.iconst dX12_met_7 ?_
  refine PW.isub dX12_met_8 ?_
  refine PW.i2l (by first | assumption | (unfold inR; omega)) dX12_met_9 ?_
  refine PW.callSr (c_X12_in (inL_R ri) (by unfold inL; omega) (by unfold inL; omega)) cs_X12_in lk_X12_134 dX12_met_10 rfl rfl rfl ?_
  refine PW.if_eqB 28 dX12_met_13 (by decide) (fun h13 => ?_) (fun h13 => ?_)
  · refine PW.ldc (-100001) kc_X12_204 rfl rfl dX12_met_28 ?_
    first
      | exact PW.iret rfl rfl dX12_met_30 ⟨ret_eq (if_pos (by omega)).symm, rfl, rfl⟩
      | exact PW.iret rfl rfl dX12_met_30 ⟨ret_eq (Eq.symm ((if_neg (by omega)).trans (b01_congr (metS_ld (hsw i (by omega) (by omega)) hE.2.2).symm))), rfl, rfl⟩
  · refine PW.aload_n dX12_met_16 rfl ?_
    refine PW.iconst dX12_met_17 ?_
    refine PW.iload_n dX12_met_18 rfl ?_
    refine PW.callVr (c_X12_isMet (L := 0) hA hE.2.1 (by omega) hs (by omega)) cv_X12_isMet lk_X12_359 (by first | assumption | exact And.left (by assumption)) dX12_met_19 rfl rfl rfl rfl ?_
    refine PW.callSr (c_X12_bit (b01_b _)) cs_X12_bit lk_X12_207 dX12_met_22 rfl rfl rfl ?_
    refine PW.goto 30 dX12_met_25 (by decide) ?_
    first
      | exact PW.iret rfl rfl dX12_met_30 ⟨ret_eq (if_pos (by omega)).symm, rfl, rfl⟩
      | exact PW.iret rfl rfl dX12_met_30 ⟨ret_eq (Eq.symm ((if_neg (by omega)).trans (b01_congr (metS_ld (hsw i (by omega) (by omega)) hE.2.2).symm))), rfl, rfl⟩
theorem mo_umo_loop {G : GT} {S : Shp} {σ : Sto} {m : Nat} {L k : Int} {sn : Int} {sf : Int → Int} {Q : Option Value → Shp → Sto → Prop} (hA : IsMod S m) (hC : cOk (σ (m + 1)) 15360) (hL : 0 ≤ L ∧ L ≤ 2) (hs : mSg σ m sf sn) (hk : 0 ≤ k ∧ k ≤ sn) (hQ : Q (some (.int (iI (umC sf (clV (σ (m + 1)) L) k)))) S σ) : ∀ (t : Nat) (i : Int), 0 ≤ i → i ≤ k → k - i < t → PW (fm G mX12_unmetOf 4 0 0 Q) G S (σ) 0 0 5 [(0, .ref m), (1, .int (iI (L))), (2, .int (iI (k))), (3, .int (iI (umC sf (clV (σ (m + 1)) L) i))), (4, .int (iI (i)))] [] := by
  obtain ⟨hM0, hM1, hM2, hM3, hM4, hM5, hM6, hM7, hM8, hM9, hM10, hM11, hM12, hM13, hM14, hM15, hM16, hM17, hM18, hM19, hM20, hM21, hM22, hM23, hM24, hM25, hM26, hM27, hM28, hM29, hM30, hM31, hM32, hM33, hM34⟩ := id hA
  have hsn := hs.1
  have hsb := hs.2.1
  have hsw : ∀ i, 0 ≤ i → i < sn → sgWf sf i := fun i i0 i1 => (hs.2.2 i i0 i1).1
  intro t
  induction t with
  | zero => intro i h1 h2 h3; omega
  | succ t ih =>
    intro i h1 h2 h3
    have hb := umC_b sf (clV (σ (m + 1)) L) h1
    refine PW.iload dX12_unmetOf_5 rfl ?_
    refine PW.iload_n dX12_unmetOf_7 rfl ?_
    refine PW.icmp_ge 38 dX12_unmetOf_8 (by decide) (by first | assumption | (unfold inR; omega)) (by first | assumption | (unfold inR; omega)) (fun h8 => ?_) (fun h8 => ?_)
    · refine PW.iload_n dX12_unmetOf_38 rfl ?_
      have hi : i = k := by omega
      subst hi
      exact PW.iret rfl rfl dX12_unmetOf_39 hQ
    · refine PW.iload_n dX12_unmetOf_11 rfl ?_
      refine PW.aload_n dX12_unmetOf_12 rfl ?_
      refine PW.iload_n dX12_unmetOf_13 rfl ?_
      refine PW.iload dX12_unmetOf_14 rfl ?_
      refine PW.callVr (c_X12_isMet (L := L) hA hC hL hs (by omega)) cv_X12_isMet lk_X12_359 (by first | assumption | exact And.left (by assumption)) dX12_unmetOf_16 rfl rfl rfl rfl ?_
      refine PW.if_neB 26 dX12_unmetOf_19 (by decide) (fun h19 => ?_) (fun h19 => ?_)
      · have hd : MetD sf i (clV (σ (m + 1)) L) := h19
        clear h19
        refine PW.iconst dX12_unmetOf_26 ?_
        refine PW.callSr (c_X12_bit (by first | omega | exact b01_b _)) cs_X12_bit lk_X12_207 dX12_unmetOf_27 rfl rfl rfl ?_
        refine PW.iadd dX12_unmetOf_30 ?_
        refine PW.istore_n [(0, _), (1, _), (2, _), (3, _), (4, _)] dX12_unmetOf_31 rfl (Nat.le_of_ble_eq_true rfl) ?_
        refine PW.iinc [(0, _), (1, _), (2, _), (3, _), (4, _)] dX12_unmetOf_32 rfl rfl (Nat.le_of_ble_eq_true rfl) ?_
        refine PW.goto 5 dX12_unmetOf_35 (by decide) ?_
        have e := ih (i + 1) (by omega) (by omega) (by omega)
        rw [umC_s _ _ h1] at e
        first
          | (rw [b01_t (show ¬ metS sf i (clV (σ (m + 1)) L) from hd)] at e; exact e)
          | (rw [b01_f (show ¬ ¬ metS sf i (clV (σ (m + 1)) L) from fun q => q hd)] at e; exact e)
      · have hd : ¬ MetD sf i (clV (σ (m + 1)) L) := h19
        clear h19
        refine PW.iconst dX12_unmetOf_22 ?_
        refine PW.goto 27 dX12_unmetOf_23 (by decide) ?_
        refine PW.callSr (c_X12_bit (by first | omega | exact b01_b _)) cs_X12_bit lk_X12_207 dX12_unmetOf_27 rfl rfl rfl ?_
        refine PW.iadd dX12_unmetOf_30 ?_
        refine PW.istore_n [(0, _), (1, _), (2, _), (3, _), (4, _)] dX12_unmetOf_31 rfl (Nat.le_of_ble_eq_true rfl) ?_
        refine PW.iinc [(0, _), (1, _), (2, _), (3, _), (4, _)] dX12_unmetOf_32 rfl rfl (Nat.le_of_ble_eq_true rfl) ?_
        refine PW.goto 5 dX12_unmetOf_35 (by decide) ?_
        have e := ih (i + 1) (by omega) (by omega) (by omega)
        rw [umC_s _ _ h1] at e
        first
          | (rw [b01_t (show ¬ metS sf i (clV (σ (m + 1)) L) from hd)] at e; exact e)
          | (rw [b01_f (show ¬ ¬ metS sf i (clV (σ (m + 1)) L) from fun q => q hd)] at e; exact e)
theorem c_X12_unmetOf {G : GT} {S : Shp} {σ : Sto} {m : Nat} {L k : Int} {sn : Int} {sf : Int → Int} (hA : IsMod S m) (hC : cOk (σ (m + 1)) 15360) (hL : 0 ≤ L ∧ L ≤ 2) (hs : mSg σ m sf sn) (hk : 0 ≤ k ∧ k ≤ sn) : PMet G mX12_unmetOf 4 0 0 [.ref m, .int (iI L), .int (iI k)] S σ (isP (some (.int (iI (umC sf (clV (σ (m + 1)) L) k)))) S σ) := by
  have hsb := hs.2.1
  refine PMet.of [(0, .ref m), (1, .int (iI (L))), (2, .int (iI (k)))] (by decide +kernel) rfl (Nat.le_of_ble_eq_true rfl) ?_
  refine PW.iconst dX12_unmetOf_0 ?_
  refine PW.istore_n [(0, _), (1, _), (2, _), (3, _)] dX12_unmetOf_1 rfl (Nat.le_of_ble_eq_true rfl) ?_
  refine PW.iconst dX12_unmetOf_2 ?_
  refine PW.istore [(0, _), (1, _), (2, _), (3, _), (4, _)] dX12_unmetOf_3 rfl (Nat.le_of_ble_eq_true rfl) ?_
  exact mo_umo_loop hA hC hL hs hk ⟨rfl, rfl, rfl⟩ 32 0 (by omega) (by omega) (by omega)
theorem c_X12_isKnown {G : GT} {S : Shp} {σ : Sto} {m : Nat} {k : Int} {sn : Int} {sf : Int → Int} (hA : IsMod S m) (hs : mSg σ m sf sn) (rk : inR k) : PMet G mX12_isKnown 1 0 0 [.ref m, .int (iI k)] S σ (isP (some (.int (iI (b01 (-1 ≤ k ∧ k ≤ sn))))) S σ) := by
  obtain ⟨hM0, hM1, hM2, hM3, hM4, hM5, hM6, hM7, hM8, hM9, hM10, hM11, hM12, hM13, hM14, hM15, hM16, hM17, hM18, hM19, hM20, hM21, hM22, hM23, hM24, hM25, hM26, hM27, hM28, hM29, hM30, hM31, hM32, hM33, hM34⟩ := id hA
  have hsn := hs.1
  have hsb := hs.2.1
  have hsw : ∀ i, 0 ≤ i → i < sn → sgWf sf i := fun i i0 i1 => (hs.2.2 i i0 i1).1
  refine PMet.of [(0, .ref m), (1, .int (iI (k)))] (by decide +kernel) rfl (Nat.le_of_ble_eq_true rfl) ?_
  refine PW.iload_n dX12_isKnown_0 rfl ?_
  refine PW.i2l (by first | assumption | (unfold inR; omega)) dX12_isKnown_1 ?_
  refine PW.ldc2 (-1) kc_X12_346 rfl rfl dX12_isKnown_2 ?_
  refine PW.aload_n dX12_isKnown_5 rfl ?_
  refine PW.getI 23 fl_X12_227 rfl (by assumption) rfl rfl dX12_isKnown_6 ?_
  refine PW.top sn (by exact hsn) ?_
  refine PW.i2l (by first | assumption | (unfold inR; omega)) dX12_isKnown_9 ?_
  refine PW.callSr (c_X12_in (inL_R rk) (by unfold inL; omega) (by unfold inL; omega)) cs_X12_in lk_X12_134 dX12_isKnown_10 rfl rfl rfl ?_
  exact PW.iret rfl (by first | rfl | exact narB _) dX12_isKnown_13 ⟨rfl, rfl, rfl⟩
theorem c_X12_first {G : GT} {S : Shp} {σ : Sto} {m : Nat} {k : Int} {sn : Int} {sf : Int → Int} (hA : IsMod S m) (hs : mSg σ m sf sn) (rk : inR k) (hk : -1 ≤ k) : PMet G mX12_first 0 0 0 [.ref m, .int (iI k)] S σ (isP (some (.int (iI (knF sn k)))) S σ) := by
  obtain ⟨hM0, hM1, hM2, hM3, hM4, hM5, hM6, hM7, hM8, hM9, hM10, hM11, hM12, hM13, hM14, hM15, hM16, hM17, hM18, hM19, hM20, hM21, hM22, hM23, hM24, hM25, hM26, hM27, hM28, hM29, hM30, hM31, hM32, hM33, hM34⟩ := id hA
  have hsn := hs.1
  have hsb := hs.2.1
  have hsw : ∀ i, 0 ≤ i → i < sn → sgWf sf i := fun i i0 i1 => (hs.2.2 i i0 i1).1
  refine PMet.of [(0, .ref m), (1, .int (iI (k)))] (by decide +kernel) rfl (Nat.le_of_ble_eq_true rfl) ?_
  refine PW.iload_n dX12_first_0 rfl ?_
  refine PW.if_ge 11 dX12_first_1 (by decide) (by first | assumption | (unfold inR; omega)) (fun h1 => ?_) (fun h1 => ?_)
  · refine PW.iload_n dX12_first_11 rfl ?_
    exact PW.iret rfl rfl dX12_first_12 ⟨ret_eq (by unfold knF; first | rw [if_pos (by omega)] | rw [if_neg (by omega)]), rfl, rfl⟩
  · refine PW.aload_n dX12_first_4 rfl ?_
    refine PW.getI 23 fl_X12_227 rfl (by assumption) rfl rfl dX12_first_5 ?_
    refine PW.top sn (by exact hsn) ?_
    refine PW.goto 12 dX12_first_8 (by decide) ?_
    exact PW.iret rfl rfl dX12_first_12 ⟨ret_eq (by unfold knF; first | rw [if_pos (by omega)] | rw [if_neg (by omega)]), rfl, rfl⟩
theorem mo_unm_loop {G : GT} {S : Shp} {σ : Sto} {m : Nat} {n i k : Int} {f : Int → Int} {sn : Int} {sf : Int → Int} {Q : Option Value → Shp → Sto → Prop} (hA : IsMod S m) (hE : mCore σ m f n) (hs : mSg σ m sf sn) (hk : -1 ≤ k ∧ k ≤ sn) (ri : inR i) (hQ : Q (some (.int (iI (umW sf (ldT f n) (knF sn k) i)))) S σ) : ∀ (t : Nat) (s : Int), 0 ≤ s → s ≤ (knF sn k) → (knF sn k) - s < t → (∀ j, 0 ≤ j → j < s → (fun j => decide (¬ metS sf j (ldT f n) ∧ umC sf (ldT f n) j = i)) j = false) → (0 ≤ i → umC sf (ldT f n) s ≤ i) → PW (fm G mX12_unmet 4 0 0 Q) G S (σ) 0 0 16 [(0, .ref m), (1, .int (iI (k))), (2, .int (iI (i))), (3, .int (iI (i - umC sf (ldT f n) s))), (4, .int (iI (s)))] [] := by
  obtain ⟨hM0, hM1, hM2, hM3, hM4, hM5, hM6, hM7, hM8, hM9, hM10, hM11, hM12, hM13, hM14, hM15, hM16, hM17, hM18, hM19, hM20, hM21, hM22, hM23, hM24, hM25, hM26, hM27, hM28, hM29, hM30, hM31, hM32, hM33, hM34⟩ := id hA
  have hsn := hs.1
  have hsb := hs.2.1
  have hsw : ∀ i, 0 ≤ i → i < sn → sgWf sf i := fun i i0 i1 => (hs.2.2 i i0 i1).1
  have hkn : 0 ≤ (knF sn k) ∧ (knF sn k) ≤ sn := by unfold knF; split <;> omega
  intro t
  induction t with
  | zero => intro s h1 h2 h3 g1 g2; omega
  | succ t ih =>
    intro s h1 h2 h3 g1 g2
    have hb := umC_b sf (ldT f n) h1
    have hsx := umC_s sf (ldT f n) h1
    refine PW.iload dX12_unmet_16 rfl ?_
    refine PW.aload_n dX12_unmet_18 rfl ?_
    refine PW.iload_n dX12_unmet_19 rfl ?_
    refine PW.callVr (c_X12_first hA hs (by unfold inR; omega) (by omega)) cv_X12_first lk_X12_365 (by first | assumption | exact And.left (by assumption)) dX12_unmet_20 rfl rfl rfl rfl ?_
    refine PW.icmp_ge 56 dX12_unmet_23 (by decide) (by first | assumption | (unfold inR at *; omega)) (by first | assumption | (unfold inR at *; omega)) (fun h23 => ?_) (fun h23 => ?_)
    · refine PW.iconst dX12_unmet_56 ?_
      have e : umW sf (ldT f n) (knF sn k) i = -1 := firI_none (fun j q1 q2 => by
        by_cases hi : i < 0
        · exact decide_eq_false (fun q => by have := q.2; have := umC_b sf (ldT f n) q1; omega)
        · exact g1 j q1 (by omega))
      rw [e] at hQ
      exact PW.iret rfl rfl dX12_unmet_57 hQ
    · refine PW.iload_n dX12_unmet_26 rfl ?_
      refine PW.if_lt 56 dX12_unmet_27 (by decide) (by first | assumption | (unfold inR at *; omega)) (fun h27 => ?_) (fun h27 => ?_)
      · refine PW.iconst dX12_unmet_56 ?_
        have e : umW sf (ldT f n) (knF sn k) i = -1 := firI_none (fun j q1 q2 => by
          by_cases hi : i < 0
          · exact decide_eq_false (fun q => by have := q.2; have := umC_b sf (ldT f n) q1; omega)
          · exact g1 j q1 (by omega))
        rw [e] at hQ
        exact PW.iret rfl rfl dX12_unmet_57 hQ
      · refine PW.aload_n dX12_unmet_30 rfl ?_
        refine PW.iconst dX12_unmet_31 ?_
        refine PW.iload dX12_unmet_32 rfl ?_
        refine PW.callVr (c_X12_isMet (L := 0) hA hE.2.1 (by omega) hs (by omega)) cv_X12_isMet lk_X12_359 (by first | assumption | exact And.left (by assumption)) dX12_unmet_34 rfl rfl rfl rfl ?_
        refine PW.if_neB 50 dX12_unmet_37 (by decide) (fun h37 => ?_) (fun h37 => ?_)
        · first
            | (have hd : MetD sf s (clV (σ (m + 1)) 0) := h37
               clear h37)
            | skip
          refine PW.iinc [(0, _), (1, _), (2, _), (3, _), (4, _)] dX12_unmet_50 rfl rfl (Nat.le_of_ble_eq_true rfl) ?_
          refine PW.goto 16 dX12_unmet_53 (by decide) ?_
          have hm : MetD sf s (clV (σ (m + 1)) 0) ↔ MetD sf s (ldT f n) := metS_ld (hsw s h1 (by omega)) hE.2.2
          have e := ih (s + 1) (by omega) (by omega) (by omega)
          rw [hsx] at e
          first
            | (have hmet : MetD sf s (ldT f n) := hm.mp hd
               rw [b01_f (show ¬ ¬ metS sf s (ldT f n) from fun q => q hmet), Int.add_zero] at e
               refine e (fun j q1 q2 => ?_) g2
               by_cases hj : j = s
               · rw [hj]; exact decide_eq_false (fun q => q.1 hmet)
               · exact g1 j q1 (by omega))
            | (have hno : ¬ MetD sf s (ldT f n) := fun q => hd (hm.mpr q)
               rw [b01_t (show ¬ metS sf s (ldT f n) from hno)] at e
               rw [show i - (umC sf (ldT f n) s + 1) = i - umC sf (ldT f n) s + -1 by omega] at e
               refine e (fun j q1 q2 => ?_) (fun q => by have := g2 q; omega)
               by_cases hj : j = s
               · rw [hj]; exact decide_eq_false (fun q => by have := q.2; omega)
               · exact g1 j q1 (by omega))
        · have hd : ¬ MetD sf s (clV (σ (m + 1)) 0) := h37
          clear h37
          refine PW.iload_n dX12_unmet_40 rfl ?_
          refine PW.if_ne 47 dX12_unmet_41 (by decide) (by first | assumption | (unfold inR at *; omega)) (fun h41 => ?_) (fun h41 => ?_)
          · refine PW.iinc [(0, _), (1, _), (2, _), (3, _), (4, _)] dX12_unmet_47 rfl rfl (Nat.le_of_ble_eq_true rfl) ?_
            first
              | (have hd : MetD sf s (clV (σ (m + 1)) 0) := h37
                 clear h37)
              | skip
            refine PW.iinc [(0, _), (1, _), (2, _), (3, _), (4, _)] dX12_unmet_50 rfl rfl (Nat.le_of_ble_eq_true rfl) ?_
            refine PW.goto 16 dX12_unmet_53 (by decide) ?_
            have hm : MetD sf s (clV (σ (m + 1)) 0) ↔ MetD sf s (ldT f n) := metS_ld (hsw s h1 (by omega)) hE.2.2
            have e := ih (s + 1) (by omega) (by omega) (by omega)
            rw [hsx] at e
            first
              | (have hmet : MetD sf s (ldT f n) := hm.mp hd
                 rw [b01_f (show ¬ ¬ metS sf s (ldT f n) from fun q => q hmet), Int.add_zero] at e
                 refine e (fun j q1 q2 => ?_) g2
                 by_cases hj : j = s
                 · rw [hj]; exact decide_eq_false (fun q => q.1 hmet)
                 · exact g1 j q1 (by omega))
              | (have hno : ¬ MetD sf s (ldT f n) := fun q => hd (hm.mpr q)
                 rw [b01_t (show ¬ metS sf s (ldT f n) from hno)] at e
                 rw [show i - (umC sf (ldT f n) s + 1) = i - umC sf (ldT f n) s + -1 by omega] at e
                 refine e (fun j q1 q2 => ?_) (fun q => by have := g2 q; omega)
                 by_cases hj : j = s
                 · rw [hj]; exact decide_eq_false (fun q => by have := q.2; omega)
                 · exact g1 j q1 (by omega))
          · refine PW.iload dX12_unmet_44 rfl ?_
            have hm : MetD sf s (clV (σ (m + 1)) 0) ↔ MetD sf s (ldT f n) := metS_ld (hsw s h1 (by omega)) hE.2.2
            have hno : ¬ MetD sf s (ldT f n) := fun q => hd (hm.mpr q)
            have e : umW sf (ldT f n) (knF sn k) i = s := firI_hit h1 (decide_eq_true ⟨hno, by omega⟩) g1 (by omega)
            rw [e] at hQ
            exact PW.iret rfl rfl dX12_unmet_46 hQ
theorem c_X12_unmet {G : GT} {S : Shp} {σ : Sto} {m : Nat} {n i k : Int} {f : Int → Int} {sn : Int} {sf : Int → Int} (hA : IsMod S m) (hE : mCore σ m f n) (hs : mSg σ m sf sn) (rk : inR k) (ri : inR i) : PMet G mX12_unmet 4 0 0 [.ref m, .int (iI k), .int (iI i)] S σ (isP (some (.int (iI (if ¬ (-1 ≤ k ∧ k ≤ sn) then -100002 else umW sf (ldT f n) (knF sn k) i)))) S σ) := by
  obtain ⟨hM0, hM1, hM2, hM3, hM4, hM5, hM6, hM7, hM8, hM9, hM10, hM11, hM12, hM13, hM14, hM15, hM16, hM17, hM18, hM19, hM20, hM21, hM22, hM23, hM24, hM25, hM26, hM27, hM28, hM29, hM30, hM31, hM32, hM33, hM34⟩ := id hA
  have hsn := hs.1
  have hsb := hs.2.1
  have hsw : ∀ i, 0 ≤ i → i < sn → sgWf sf i := fun i i0 i1 => (hs.2.2 i i0 i1).1
  refine PMet.of [(0, .ref m), (1, .int (iI (k))), (2, .int (iI (i)))] (by decide +kernel) rfl (Nat.le_of_ble_eq_true rfl) ?_
  refine PW.aload_n dX12_unmet_0 rfl ?_
  refine PW.iload_n dX12_unmet_1 rfl ?_
  refine PW.callVr (c_X12_isKnown hA hs rk) cv_X12_isKnown lk_X12_362 (by first | assumption | exact And.left (by assumption)) dX12_unmet_2 rfl rfl rfl rfl ?_
  refine PW.if_neB 11 dX12_unmet_5 (by decide) (fun h5 => ?_) (fun h5 => ?_)
  · refine PW.iload_n dX12_unmet_11 rfl ?_
    refine PW.istore_n [(0, _), (1, _), (2, _), (3, _)] dX12_unmet_12 rfl (Nat.le_of_ble_eq_true rfl) ?_
    refine PW.iconst dX12_unmet_13 ?_
    refine PW.istore [(0, _), (1, _), (2, _), (3, _), (4, _)] dX12_unmet_14 rfl (Nat.le_of_ble_eq_true rfl) ?_
    have hk : -1 ≤ k ∧ k ≤ sn := h5
    have hkn : 0 ≤ knF sn k ∧ knF sn k ≤ sn := by unfold knF; split <;> omega
    have e0 : umC sf (ldT f n) 0 = 0 := rfl
    have kk := mo_unm_loop (G := G) (S := S) hA hE hs hk ri (Q := isP (some (.int (iI (if ¬ (-1 ≤ k ∧ k ≤ sn) then -100002 else umW sf (ldT f n) (knF sn k) i)))) S σ) ⟨ret_eq (if_neg (fun q => q hk)).symm, rfl, rfl⟩ 32 0 (by omega) (by omega) (by omega) (fun j q1 q2 => by omega) (fun q => by rw [e0]; exact q)
    rw [e0, Int.sub_zero] at kk
    exact kk
  · refine PW.ldc (-100002) kc_X12_195 rfl rfl dX12_unmet_8 ?_
    exact PW.iret rfl rfl dX12_unmet_10 ⟨ret_eq (if_pos (by assumption)).symm, rfl, rfl⟩
theorem kept4 {VK : Int → Int} : b01 (¬ VK 0 = 0) + b01 (¬ VK 1 = 0) + b01 (¬ VK 2 = 0) + b01 (¬ VK 3 = 0) = smF (fun v => b01 (¬ VK v = 0)) 4 := by
  show _ = 0 + b01 (¬ VK ((0 : Nat) : Int) = 0) + b01 (¬ VK ((1 : Nat) : Int) = 0) + b01 (¬ VK ((2 : Nat) : Int) = 0) + b01 (¬ VK ((3 : Nat) : Int) = 0)
  rw [Int.zero_add]
  rfl
theorem b01_01 {v : Int} (h : 0 ≤ v ∧ v ≤ 1) : v = b01 (¬ v = 0) := by unfold b01; split <;> omega
theorem c_X12_count {G : GT} {S : Shp} {σ : Sto} {m : Nat} {n w cn mn z : Int} {f : Int → Int} {sn : Int} {sf : Int → Int} {VK VN : Int → Int} {VF : Int → Int → Int} (hA : IsMod S m) (hE : mCore σ m f n) (hs : mSg σ m sf sn) (hvs : mVs σ m VK VN VF) (hcn : σ m 29 = cn) (hmn : σ m 38 = mn) (hzz : σ m 8 = z) (rw_ : inR w) : PMet G mX12_count 5 0 0 [.ref m, .int (iI w)] S σ (fun r S' τ => S' = S ∧ r = some (.int (iI (if w = 0 then n else if w = 1 then looF f n else if w = 2 then sn else if w = 3 then cn else if w = 4 then mn else if w = 5 then smF (fun v => b01 (¬ VK v = 0)) 4 else if w = 6 then z else if w = 7 then smF (fun c => xcF (tlF f c zF n.toNat) (birF f n)) 64 else if w = 8 then umC sf (ldT f n) sn else -100002))) ∧ ∃ y : Int → Int, τ = upS σ (m + 10) y) := by
  obtain ⟨hM0, hM1, hM2, hM3, hM4, hM5, hM6, hM7, hM8, hM9, hM10, hM11, hM12, hM13, hM14, hM15, hM16, hM17, hM18, hM19, hM20, hM21, hM22, hM23, hM24, hM25, hM26, hM27, hM28, hM29, hM30, hM31, hM32, hM33, hM34⟩ := id hA
  have hn := hE.1.1
  have hnb := hE.1.2.1
  have hsn := hs.1
  have hsb := hs.2.1
  have hsw : ∀ i, 0 ≤ i → i < sn → sgWf sf i := fun i i0 i1 => (hs.2.2 i i0 i1).1
  have v0 := (hvs 0 (by omega) (by omega)).2.1
  have v1 := (hvs 1 (by omega) (by omega)).2.1
  have v2 := (hvs 2 (by omega) (by omega)).2.1
  have v3 := (hvs 3 (by omega) (by omega)).2.1
  refine PMet.of [(0, .ref m), (1, .int (iI (w)))] (by decide +kernel) rfl (Nat.le_of_ble_eq_true rfl) ?_
  refine PW.iload_n dX12_count_0 rfl ?_
  rcases (show w = 0 ∨ w = 1 ∨ w = 2 ∨ w = 3 ∨ w = 4 ∨ w = 5 ∨ w = 6 ∨ w = 7 ∨ w = 8 ∨ (w < 0 ∨ 8 < w) by omega) with h1 | h1 | h1 | h1 | h1 | h1 | h1 | h1 | h1 | h1
  · refine PW.tsIn (51) 52 (by first | assumption | (unfold inR; omega)) dX12_count_1 (by omega) (by omega) (by rw [h1]; rfl) (by decide) ?_
    refine PW.aload_n dX12_count_52 rfl ?_
    refine PW.getI 2 fl_X12_184 rfl (by assumption) rfl rfl dX12_count_53 ?_
    refine PW.top n (by exact hn) ?_
    refine PW.iret rfl rfl dX12_count_56 ⟨rfl, ret_eq ?_, σ (m + 10), (upS_self _ _).symm⟩
    rw [if_pos h1]
  · refine PW.tsIn (56) 57 (by first | assumption | (unfold inR; omega)) dX12_count_1 (by omega) (by omega) (by rw [h1]; rfl) (by decide) ?_
    refine PW.aload_n dX12_count_57 rfl ?_
    refine PW.callVr (c_X12_looseOnes hA hE.1) cv_X12_looseOnes lk_X12_223 (by first | assumption | exact And.left (by assumption)) dX12_count_58 rfl rfl rfl rfl ?_
    refine PW.iret rfl rfl dX12_count_61 ⟨rfl, ret_eq ?_, σ (m + 10), (upS_self _ _).symm⟩
    rw [if_neg (show ¬ w = 0 by omega), if_pos h1]
  · refine PW.tsIn (61) 62 (by first | assumption | (unfold inR; omega)) dX12_count_1 (by omega) (by omega) (by rw [h1]; rfl) (by decide) ?_
    refine PW.aload_n dX12_count_62 rfl ?_
    refine PW.getI 23 fl_X12_227 rfl (by assumption) rfl rfl dX12_count_63 ?_
    refine PW.top (sn) (by exact hsn) ?_
    refine PW.iret rfl rfl dX12_count_66 ⟨rfl, ret_eq ?_, σ (m + 10), (upS_self _ _).symm⟩
    rw [if_neg (show ¬ w = 0 by omega), if_neg (show ¬ w = 1 by omega), if_pos h1]
  · refine PW.tsIn (66) 67 (by first | assumption | (unfold inR; omega)) dX12_count_1 (by omega) (by omega) (by rw [h1]; rfl) (by decide) ?_
    refine PW.aload_n dX12_count_67 rfl ?_
    refine PW.getI 29 fl_X12_230 rfl (by assumption) rfl rfl dX12_count_68 ?_
    refine PW.top (cn) (by exact hcn) ?_
    refine PW.iret rfl rfl dX12_count_71 ⟨rfl, ret_eq ?_, σ (m + 10), (upS_self _ _).symm⟩
    rw [if_neg (show ¬ w = 0 by omega), if_neg (show ¬ w = 1 by omega), if_neg (show ¬ w = 2 by omega), if_pos h1]
  · refine PW.tsIn (71) 72 (by first | assumption | (unfold inR; omega)) dX12_count_1 (by omega) (by omega) (by rw [h1]; rfl) (by decide) ?_
    refine PW.aload_n dX12_count_72 rfl ?_
    refine PW.getI 38 fl_X12_233 rfl (by assumption) rfl rfl dX12_count_73 ?_
    refine PW.top (mn) (by exact hmn) ?_
    refine PW.iret rfl rfl dX12_count_76 ⟨rfl, ret_eq ?_, σ (m + 10), (upS_self _ _).symm⟩
    rw [if_neg (show ¬ w = 0 by omega), if_neg (show ¬ w = 1 by omega), if_neg (show ¬ w = 2 by omega), if_neg (show ¬ w = 3 by omega), if_pos h1]
  · refine PW.tsIn (76) 77 (by first | assumption | (unfold inR; omega)) dX12_count_1 (by omega) (by omega) (by rw [h1]; rfl) (by decide) ?_
    refine PW.aload_n dX12_count_77 rfl ?_
    refine PW.getR fl_X12_46 rfl (by assumption) rfl dX12_count_78 ?_
    refine PW.iconst dX12_count_81 ?_
    refine PW.zaload (by assumption) (by unfold inR; omega) (by omega) (by omega) dX12_count_82 ?_
    refine PW.top (VK 0) (hvs 0 (by omega) (by omega)).1 ?_
    refine PW.callSr (c_X12_bit v0) cs_X12_bit lk_X12_207 dX12_count_83 rfl rfl rfl ?_
    refine PW.aload_n dX12_count_86 rfl ?_
    refine PW.getR fl_X12_46 rfl (by assumption) rfl dX12_count_87 ?_
    refine PW.iconst dX12_count_90 ?_
    refine PW.zaload (by assumption) (by unfold inR; omega) (by omega) (by omega) dX12_count_91 ?_
    refine PW.top (VK 1) (hvs 1 (by omega) (by omega)).1 ?_
    refine PW.callSr (c_X12_bit v1) cs_X12_bit lk_X12_207 dX12_count_92 rfl rfl rfl ?_
    refine PW.iadd dX12_count_95 ?_
    refine PW.aload_n dX12_count_96 rfl ?_
    refine PW.getR fl_X12_46 rfl (by assumption) rfl dX12_count_97 ?_
    refine PW.iconst dX12_count_100 ?_
    refine PW.zaload (by assumption) (by unfold inR; omega) (by omega) (by omega) dX12_count_101 ?_
    refine PW.top (VK 2) (hvs 2 (by omega) (by omega)).1 ?_
    refine PW.callSr (c_X12_bit v2) cs_X12_bit lk_X12_207 dX12_count_102 rfl rfl rfl ?_
    refine PW.iadd dX12_count_105 ?_
    refine PW.aload_n dX12_count_106 rfl ?_
    refine PW.getR fl_X12_46 rfl (by assumption) rfl dX12_count_107 ?_
    refine PW.iconst dX12_count_110 ?_
    refine PW.zaload (by assumption) (by unfold inR; omega) (by omega) (by omega) dX12_count_111 ?_
    refine PW.top (VK 3) (hvs 3 (by omega) (by omega)).1 ?_
    refine PW.callSr (c_X12_bit v3) cs_X12_bit lk_X12_207 dX12_count_112 rfl rfl rfl ?_
    refine PW.iadd dX12_count_115 ?_
    refine PW.iret rfl rfl dX12_count_116 ⟨rfl, ret_eq ?_, σ (m + 10), (upS_self _ _).symm⟩
    rw [if_neg (show ¬ w = 0 by omega), if_neg (show ¬ w = 1 by omega), if_neg (show ¬ w = 2 by omega), if_neg (show ¬ w = 3 by omega), if_neg (show ¬ w = 4 by omega), if_pos h1]
    rw [← kept4, ← b01_01 v0, ← b01_01 v1, ← b01_01 v2, ← b01_01 v3]
  · refine PW.tsIn (116) 117 (by first | assumption | (unfold inR; omega)) dX12_count_1 (by omega) (by omega) (by rw [h1]; rfl) (by decide) ?_
    refine PW.aload_n dX12_count_117 rfl ?_
    refine PW.getI 8 fl_X12_236 rfl (by assumption) rfl rfl dX12_count_118 ?_
    refine PW.top (z) (by exact hzz) ?_
    refine PW.iret rfl rfl dX12_count_121 ⟨rfl, ret_eq ?_, σ (m + 10), (upS_self _ _).symm⟩
    rw [if_neg (show ¬ w = 0 by omega), if_neg (show ¬ w = 1 by omega), if_neg (show ¬ w = 2 by omega), if_neg (show ¬ w = 3 by omega), if_neg (show ¬ w = 4 by omega), if_neg (show ¬ w = 5 by omega), if_pos h1]
  · refine PW.tsIn (121) 122 (by first | assumption | (unfold inR; omega)) dX12_count_1 (by omega) (by omega) (by rw [h1]; rfl) (by decide) ?_
    refine PW.aload_n dX12_count_122 rfl ?_
    refine PW.callVg (c_X12_crossings hA hE) cv_X12_crossings lk_X12_239 (by first | assumption | exact And.left (by assumption)) dX12_count_123 rfl rfl rfl rfl (fun r S' τ123 hq => ?_)
    obtain ⟨hS, rfl, y, rfl⟩ := hq
    have hS2 := hS.symm
    subst hS2
    refine PW.iret rfl rfl dX12_count_126 ⟨rfl, ret_eq ?_, y, rfl⟩
    rw [if_neg (show ¬ w = 0 by omega), if_neg (show ¬ w = 1 by omega), if_neg (show ¬ w = 2 by omega), if_neg (show ¬ w = 3 by omega), if_neg (show ¬ w = 4 by omega), if_neg (show ¬ w = 5 by omega), if_neg (show ¬ w = 6 by omega), if_pos h1]
  · refine PW.tsIn (126) 127 (by first | assumption | (unfold inR; omega)) dX12_count_1 (by omega) (by omega) (by rw [h1]; rfl) (by decide) ?_
    refine PW.aload_n dX12_count_127 rfl ?_
    refine PW.iconst dX12_count_128 ?_
    refine PW.aload_n dX12_count_129 rfl ?_
    refine PW.getI 23 fl_X12_227 rfl (by assumption) rfl rfl dX12_count_130 ?_
    refine PW.top (sn) (by exact hsn) ?_
    refine PW.callVr (c_X12_unmetOf (L := 0) hA hE.2.1 (by omega) hs (by omega)) cv_X12_unmetOf lk_X12_242 (by first | assumption | exact And.left (by assumption)) dX12_count_133 rfl rfl rfl rfl ?_
    refine PW.iret rfl rfl dX12_count_136 ⟨rfl, ret_eq ?_, σ (m + 10), (upS_self _ _).symm⟩
    rw [if_neg (show ¬ w = 0 by omega), if_neg (show ¬ w = 1 by omega), if_neg (show ¬ w = 2 by omega), if_neg (show ¬ w = 3 by omega), if_neg (show ¬ w = 4 by omega), if_neg (show ¬ w = 5 by omega), if_neg (show ¬ w = 6 by omega), if_neg (show ¬ w = 7 by omega), if_pos h1]
    exact umC_ld hsw hE.2.2 (by omega)
  · refine PW.tsOut 137 (by first | assumption | (unfold inR; omega)) dX12_count_1 (by omega) (by decide) ?_
    refine PW.ldc (-100002) kc_X12_195 rfl rfl dX12_count_137 ?_
    refine PW.iret rfl rfl dX12_count_139 ⟨rfl, ret_eq ?_, σ (m + 10), (upS_self _ _).symm⟩
    rw [if_neg (show ¬ w = 0 by omega), if_neg (show ¬ w = 1 by omega), if_neg (show ¬ w = 2 by omega), if_neg (show ¬ w = 3 by omega), if_neg (show ¬ w = 4 by omega), if_neg (show ¬ w = 5 by omega), if_neg (show ¬ w = 6 by omega), if_neg (show ¬ w = 7 by omega), if_neg (show ¬ w = 8 by omega)]

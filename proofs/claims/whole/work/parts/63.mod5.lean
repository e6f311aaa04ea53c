def mCore (τ : Sto) (m : Nat) (f : Int → Int) (n : Int) : Prop := mEv τ m f n ∧ cOk (τ (m + 1)) 15360 ∧ mLd (τ (m + 1)) 0 f n
/-- what the calls of the events may change -/
def eFr (σ τ : Sto) (m : Nat) : Prop := (∀ b, b < m ∨ m + 6 < b → τ b = σ b) ∧ ∀ j, j ≠ 2 → τ m j = σ m j
theorem eFr.rfl' (σ : Sto) (m : Nat) : eFr σ σ m := ⟨fun _ _ => rfl, fun _ _ => rfl⟩
theorem eFr.trans {σ τ μ : Sto} {m : Nat} (h : eFr σ τ m) (h' : eFr τ μ m) : eFr σ μ m := ⟨fun b hb => (h'.1 b hb).trans (h.1 b hb), fun j hj => (h'.2 j hj).trans (h.2 j hj)⟩
theorem mFg.e {σ τ : Sto} {m : Nat} (h : mFg σ τ m) : eFr σ τ m := ⟨fun b hb => h b (by omega) (by omega) (by omega), fun j _ => by rw [h m (by omega) (by omega) (by omega)]⟩
theorem mEv_congr {σ τ : Sto} {m : Nat} {f : Int → Int} {n : Int} (h : mEv σ m f n) (e0 : τ m 2 = σ m 2) (e3 : τ (m + 3) = σ (m + 3)) (e4 : τ (m + 4) = σ (m + 4)) (e5 : τ (m + 5) = σ (m + 5)) : mEv τ m f n := by
  unfold mEv
  rw [e0, e3, e4, e5]
  exact h
theorem mFg.ev {σ τ : Sto} {m : Nat} {f : Int → Int} {n : Int} (h : mFg σ τ m) (he : mEv σ m f n) : mEv τ m f n := mEv_congr he (by rw [h m (by omega) (by omega) (by omega)]) (h _ (by omega) (by omega) (by omega)) (h _ (by omega) (by omega) (by omega)) (h _ (by omega) (by omega) (by omega))
theorem bdR.core {σ τ : Sto} {m : Nat} {f : Int → Int} {n : Int} (h : bdR σ τ m 0 f n) (he : mEv σ m f n) : mCore τ m f n := ⟨h.1.ev he, h.2.1, h.2.2.1⟩
theorem mRw_mono {K N f : Int → Int} {n n' : Int} (h : mRw K N f n) (hn : n' ≤ n) : mRw K N f n' := fun i i0 i1 => h i i0 (by omega)
theorem mLd_o {C C' : Int → Int} {L : Int} {f : Int → Int} {n : Int} (h : mLd C L f n) (hc : ∀ j, 5120 * L ≤ j → j < 5120 * L + 5120 → C' j = C j) : mLd C' L f n := fun c c0 c1 i i0 i1 => by
  have := h c c0 c1 i i0 i1
  unfold clV at this ⊢
  rw [hc _ (by omega) (by omega)]
  exact this
/-- a draft's making keeps the land -/
theorem bdR.core1 {σ τ : Sto} {m : Nat} {f f' : Int → Int} {n n' : Int} (h : bdR σ τ m 1 f' n') (hc : mCore σ m f n) : mCore τ m f n := ⟨h.1.ev hc.1, h.2.1, mLd_o hc.2.2 (fun j j0 j1 => h.2.2.2 j (by omega))⟩
theorem maS_ne {σ : Sto} {m b : Nat} {n k : Int} (h0 : b ≠ m) (h3 : b ≠ m + 3) (h4 : b ≠ m + 4) (h5 : b ≠ m + 5) : maS σ m n k b = σ b := by
  unfold maS
  rw [upS_ne h0, upS_ne h5, upS_ne h4, upS_ne h3]
theorem maS_2 (σ : Sto) (m : Nat) (n k : Int) : maS σ m n k m 2 = n + 1 := by
  unfold maS
  rw [upS_same, up1_same]
theorem maS_j {σ : Sto} {m : Nat} {n k j : Int} (h : j ≠ 2) : maS σ m n k m j = σ m j := by
  unfold maS
  rw [upS_same, up1_ne h]
theorem rowF_g {k c0 c1 c2 c3 c4 : Int} {g : Int → Int} (hk : 0 ≤ k ∧ k ≤ 5) (h : ∀ i, 0 ≤ i → i < 5 → g i = nzF k (giF zF c0 c1 c2 c3 c4) i) : (∀ p, 0 ≤ p → p < 5 → rowF k c0 c1 c2 c3 c4 (1 + p) = g p) := by
  have hx := xT_0 hk
  intro p p0 p1
  rw [h p p0 p1]
  unfold rowF nzF giF
  rcases (show p = 0 ∨ p = 1 ∨ p = 2 ∨ p = 3 ∨ p = 4 by omega) with rfl | rfl | rfl | rfl | rfl
  · simp [show (0 : Int) < xT 0 k by omega]
  · simp [show (1 : Int) < xT 0 k by omega]
  · simp
  · simp
  · simp
theorem maS_ev {σ : Sto} {m : Nat} {f : Int → Int} {n k : Int} {F : Int → Int} (he : mEv σ m f n) (hn : n < 16) (hold : ∀ i, 0 ≤ i → i < n → EvD F i ∧ F (7 * i) = f (7 * i) ∧ (∀ p, 0 ≤ p → p < 6 → F (7 * i + 1 + p) = f (7 * i + 1 + p))) (hk : F (7 * n) = k) (hg : ∀ p, 0 ≤ p → p < 5 → F (7 * n + 1 + p) = σ (m + 6) p) (h6 : F (7 * n + 6) = 0) (hok : EvD F n) : mEv (maS σ m n k) m F (n + 1) := by
  obtain ⟨e0, e1, e2, e3⟩ := he
  refine ⟨maS_2 _ _ _ _, by omega, fun i i0 i1 => ?_, fun i i0 i1 => ?_⟩
  · have k3 : maS σ m n k (m + 3) = up1 (σ (m + 3)) n k := by
      unfold maS
      rw [upS_ne (by omega), upS_ne (by omega), upS_ne (by omega), upS_same]
    have k4 : maS σ m n k (m + 4) = pfF (σ (m + 4)) (fun j => σ (m + 6) (j - 5 * n)) (5 * n) (5 * n + 5) := by
      unfold maS
      rw [upS_ne (by omega), upS_ne (by omega), upS_same]
    rw [k3, k4]
    by_cases hi : i = n
    · subst hi
      refine ⟨hok, by rw [up1_same]; exact hk.symm, fun p p0 p1 => ?_⟩
      unfold pfF
      rw [if_pos (by omega), hg p p0 p1]
      show σ (m + 6) (5 * i + p - 5 * i) = _
      rw [show 5 * i + p - 5 * i = p by omega]
    · obtain ⟨a1, a2, a3⟩ := hold i i0 (by omega)
      obtain ⟨b1, b2, b3⟩ := e2 i i0 (by omega)
      refine ⟨a1, by rw [up1_ne hi, a2]; exact b2, fun p p0 p1 => ?_⟩
      unfold pfF
      rw [if_neg (by omega), a3 p p0 (by omega)]
      exact b3 p p0 p1
  · have k5 : maS σ m n k (m + 5) = up1 (σ (m + 5)) n 0 := by
      unfold maS
      rw [upS_ne (by omega), upS_same]
    rw [k5]
    by_cases hi : i = n
    · subst hi
      rw [up1_same, h6]
    · rw [up1_ne hi, e3 i i0 (by omega)]
      have := (hold i i0 (by omega)).2.2 5 (by omega) (by omega)
      rw [show 7 * i + 1 + 5 = 7 * i + 6 by omega] at this
      exact this.symm
theorem adF_ev {σ : Sto} {m : Nat} {f : Int → Int} {n k c0 c1 c2 c3 c4 : Int} (he : mEv σ m f n) (hn : n < 16) (ho : okEv k c0 c1 c2 c3 c4) (hg : ∀ i, 0 ≤ i → i < 5 → σ (m + 6) i = nzF k (giF zF c0 c1 c2 c3 c4) i) : mEv (maS σ m n k) m (adF f n k c0 c1 c2 c3 c4) (n + 1) := by
  have hr := rowF_g ho.1 hg
  refine maS_ev he hn (fun i i0 i1 => ?_) ?_ (fun p p0 p1 => ?_) ?_ (adF_new ho)
  · have ek : adF f n k c0 c1 c2 c3 c4 (7 * i) = f (7 * i) := by unfold adF; rw [if_neg (by omega)]
    exact ⟨adF_old (by omega) (he.2.2.1 i i0 i1).1, ek, fun p p0 p1 => by unfold adF; rw [if_neg (by omega)]⟩
  · unfold adF
    rw [if_pos (by omega), show 7 * n - 7 * n = 0 by omega]
    rfl
  · unfold adF
    rw [if_pos (by omega), show 7 * n + 1 + p - 7 * n = 1 + p by omega]
    exact hr p p0 p1
  · unfold adF
    rw [if_pos (by omega), show 7 * n + 6 - 7 * n = 6 by omega]
    rfl
theorem c_X12_noEvent {G : GT} {S : Shp} {σ : Sto} {m : Nat} {n i : Int} (hA : IsMod S m) (hn : σ m 2 = n) (hnb : 0 ≤ n ∧ n ≤ 16) (ri : inR i) : PMet G mX12_noEvent 1 0 0 [.ref m, .int (iI (i))] S σ (isP (some (.int (iI (b01 (¬ (0 ≤ i ∧ i < n)))))) S (σ)) := by
  obtain ⟨hM0, hM1, hM2, hM3, hM4, hM5, hM6, hM7, hM8, hM9, hM10, hM11, hM12, hM13, hM14, hM15, hM16, hM17, hM18, hM19, hM20, hM21, hM22, hM23, hM24, hM25, hM26, hM27, hM28, hM29, hM30, hM31, hM32, hM33, hM34⟩ := id hA
  refine PMet.of [(0, .ref m), (1, .int (iI (i)))] (by decide +kernel) rfl (Nat.le_of_ble_eq_true rfl) ?_
  refine PW.iload_n dX12_noEvent_0 rfl ?_
  refine PW.i2l (by first | assumption | (unfold inR; omega)) dX12_noEvent_1 ?_
  refine PW.lconst (z := 0) rfl dX12_noEvent_2 ?_
  refine PW.aload_n dX12_noEvent_3 rfl ?_
  refine PW.getI 2 fl_X12_184 rfl (by assumption) rfl rfl dX12_noEvent_4 ?_
  refine PW.top n (by exact hn) ?_
  refine PW.iconst dX12_noEvent_7 ?_
  refine PW.isub dX12_noEvent_8 ?_
  refine PW.i2l (by first | assumption | (unfold inR; omega)) dX12_noEvent_9 ?_
  refine PW.callSr (c_X12_in (by first | (unfold inL; omega) | exact inL_R (by assumption)) (by first | (unfold inL; omega) | exact inL_R (by assumption)) (by first | (unfold inL; omega) | exact inL_R (by assumption))) cs_X12_in lk_X12_134 dX12_noEvent_10 rfl rfl rfl ?_
  refine PW.if_neB 20 dX12_noEvent_13 (by decide) (fun h13 => ?_) (fun h13 => ?_)
  · refine PW.iconst dX12_noEvent_20 ?_
    exact PW.iret rfl (by first | rfl | exact narB _) dX12_noEvent_21 ⟨ret_eq (by unfold b01; first | (exfalso; omega) | rw [if_pos (by omega)] | rw [if_neg (by omega)]), rfl, rfl⟩
  · refine PW.iconst dX12_noEvent_16 ?_
    refine PW.goto 21 dX12_noEvent_17 (by decide) ?_
    exact PW.iret rfl (by first | rfl | exact narB _) dX12_noEvent_21 ⟨ret_eq (by unfold b01; first | (exfalso; omega) | rw [if_pos (by omega)] | rw [if_neg (by omega)]), rfl, rfl⟩
/-- okEv, closed to the arithmetic of the proofs -/
def OKV (k a b c d e : Int) : Prop := okEv k a b c d e
theorem giF_okG {g : Int → Int} {k c0 c1 c2 c3 c4 : Int} : okG k (giF g c0 c1 c2 c3 c4) ↔ okEv k c0 c1 c2 c3 c4 := Iff.rfl
theorem core_g {σ : Sto} {m : Nat} {f g : Int → Int} {n : Int} (h : mCore σ m f n) : mCore (upS σ (m + 6) g) m f n := ⟨mEv_congr h.1 (by rw [upS_ne (by omega)]) (upS_ne (by omega)) (upS_ne (by omega)) (upS_ne (by omega)), by rw [upS_ne (by omega)]; exact h.2.1, by rw [upS_ne (by omega)]; exact h.2.2⟩
theorem eFr_g (σ : Sto) (m : Nat) (g : Int → Int) : eFr σ (upS σ (m + 6) g) m := ⟨fun b hb => upS_ne (by omega), fun j _ => by rw [upS_ne (by omega)]⟩
theorem core_if {σ : Sto} {m : Nat} {f g : Int → Int} {n : Int} {P : Prop} [Decidable P] (h : mCore σ m f n) : mCore (if P then upS (upS σ (m + 6) g) (m + 6) g else upS σ (m + 6) g) m f n := by
  split
  · exact core_g (core_g h)
  · exact core_g h
theorem giF_R {g : Int → Int} {c0 c1 c2 c3 c4 : Int} (r0 : inR c0) (r1 : inR c1) (r2 : inR c2) (r3 : inR c3) (r4 : inR c4) : ∀ i, 0 ≤ i → i < 5 → inR (giF g c0 c1 c2 c3 c4 i) := by
  intro i i0 i1
  unfold giF
  rcases (show i = 0 ∨ i = 1 ∨ i = 2 ∨ i = 3 ∨ i = 4 by omega) with rfl | rfl | rfl | rfl | rfl
  · exact r0
  · exact r1
  · exact r2
  · exact r3
  · exact r4
/-- the numbers given, those that the kind has not being 0 -/
theorem nz_giv {g : Int → Int} {k c0 c1 c2 c3 c4 : Int} : ∀ i, 0 ≤ i → i < 5 → pfF (giF g c0 c1 c2 c3 c4) (nzF k (giF g c0 c1 c2 c3 c4)) 0 5 i = nzF k (giF zF c0 c1 c2 c3 c4) i := by
  intro i i0 i1
  unfold pfF
  rw [if_pos ⟨i0, i1⟩]
  unfold nzF giF
  rcases (show i = 0 ∨ i = 1 ∨ i = 2 ∨ i = 3 ∨ i = 4 by omega) with rfl | rfl | rfl | rfl | rfl <;> simp
theorem c_X12_event {G : GT} {S : Shp} {σ : Sto} {m : Nat} {n k c0 c1 c2 c3 c4 : Int} {f : Int → Int} (hA : IsMod S m) (hE : mCore σ m f n) (rk : inR k) (rc0 : inR c0) (rc1 : inR c1) (rc2 : inR c2) (rc3 : inR c3) (rc4 : inR c4) : PMet G mX12_event 7 0 0 [.ref m, .int (iI (k)), .int (iI (c0)), .int (iI (c1)), .int (iI (c2)), .int (iI (c3)), .int (iI (c4))] S σ (fun r S' τ => S' = S ∧ r = some (.int (iI (if ¬ (okEv k c0 c1 c2 c3 c4) then -100002 else if 16 ≤ n then -100004 else n))) ∧ eFr σ τ m ∧ mCore τ m (if (okEv k c0 c1 c2 c3 c4) ∧ n < 16 then adF f n k c0 c1 c2 c3 c4 else f) (if (okEv k c0 c1 c2 c3 c4) ∧ n < 16 then n + 1 else n)) := by
  obtain ⟨hM0, hM1, hM2, hM3, hM4, hM5, hM6, hM7, hM8, hM9, hM10, hM11, hM12, hM13, hM14, hM15, hM16, hM17, hM18, hM19, hM20, hM21, hM22, hM23, hM24, hM25, hM26, hM27, hM28, hM29, hM30, hM31, hM32, hM33, hM34⟩ := id hA
  have hn := hE.1.1
  have hnb := hE.1.2.1
  refine PMet.of [(0, .ref m), (1, .int (iI (k))), (2, .int (iI (c0))), (3, .int (iI (c1))), (4, .int (iI (c2))), (5, .int (iI (c3))), (6, .int (iI (c4)))] (by decide +kernel) rfl (Nat.le_of_ble_eq_true rfl) ?_
  refine PW.aload_n dX12_event_0 rfl ?_
  refine PW.iload_n dX12_event_1 rfl ?_
  refine PW.iload_n dX12_event_2 rfl ?_
  refine PW.iload dX12_event_3 rfl ?_
  refine PW.iload dX12_event_5 rfl ?_
  refine PW.iload dX12_event_7 rfl ?_
  refine PW.callVv (c_X12_give hA) cv_X12_give lk_X12_187 (by first | assumption | exact And.left (by assumption)) dX12_event_9 rfl rfl rfl rfl ?_
  refine PW.aload_n dX12_event_12 rfl ?_
  refine PW.iload_n dX12_event_13 rfl ?_
  refine PW.callVr (c_X12_isEvent hA rk (by rw [upS_same]; exact giF_R rc0 rc1 rc2 rc3 rc4)) cv_X12_isEvent lk_X12_191 (by first | assumption | exact And.left (by assumption)) dX12_event_14 rfl rfl rfl rfl ?_
  refine PW.if_neB 23 dX12_event_17 (by decide) (fun h17 => ?_) (fun h17 => ?_)
  · have hok : OKV k c0 c1 c2 c3 c4 := by have := h17; rw [upS_same] at this; exact this
    clear h17
    refine PW.st (upS σ (m + 6) (pfF (giF (σ (m + 6)) c0 c1 c2 c3 c4) (nzF k (giF (σ (m + 6)) c0 c1 c2 c3 c4)) 0 5)) (by rw [if_pos hok.1, upS_upS, upS_same]) ?_
    refine PW.aload_n dX12_event_23 rfl ?_
    refine PW.getI 2 fl_X12_184 rfl (by assumption) rfl rfl dX12_event_24 ?_
    refine PW.top n (by rw [upS_ne (by omega)]; exact hn) ?_
    refine PW.bipush (by decide) dX12_event_27 ?_
    refine PW.icmp_ne 35 dX12_event_29 (by decide) (by first | (unfold inR; omega) | assumption) (by first | (unfold inR; omega) | assumption) (fun h29 => ?_) (fun h29 => ?_)
    · refine PW.aload_n dX12_event_35 rfl ?_
      refine PW.iload_n dX12_event_36 rfl ?_
      refine PW.callVv (c_X12_add (n := n) hA (by rw [upS_ne (by omega)]; exact hn) (by omega)) cv_X12_add lk_X12_197 (by first | assumption | exact And.left (by assumption)) dX12_event_37 rfl rfl rfl rfl ?_
      have he1 : mEv (upS σ (m + 6) (pfF (giF (σ (m + 6)) c0 c1 c2 c3 c4) (nzF k (giF (σ (m + 6)) c0 c1 c2 c3 c4)) 0 5)) m f n := (core_g hE).1
      have he2 := adF_ev (k := k) he1 (by omega) hok (by rw [upS_same]; exact nz_giv)
      refine PW.aload_n dX12_event_40 rfl ?_
      refine PW.aload_n dX12_event_41 rfl ?_
      refine PW.getI 2 fl_X12_184 rfl (by assumption) rfl rfl dX12_event_42 ?_
      refine PW.top (n + 1) (by exact maS_2 _ _ _ _) ?_
      refine PW.callVg (c_X12_buildAll (f := adF f n k c0 c1 c2 c3 c4) hA (by rw [maS_ne (by omega) (by omega) (by omega) (by omega), upS_ne (by omega)]; exact hE.2.1) (by omega) he2.2.2.1) cv_X12_buildAll lk_X12_119 (by first | assumption | exact And.left (by assumption)) dX12_event_45 rfl rfl rfl rfl (fun r S' τ45 hq => ?_)
      obtain ⟨rfl, hS, hb⟩ := hq
      have hS2 := hS.symm
      subst hS2
      have hc := hb.core he2
      have hfr := ((eFr_g σ m _).trans ⟨fun b hb => maS_ne (by omega) (by omega) (by omega) (by omega), fun j hj => maS_j hj⟩).trans hb.1.e
      refine PW.aload_n dX12_event_48 rfl ?_
      refine PW.getI 2 fl_X12_184 rfl (by assumption) rfl rfl dX12_event_49 ?_
      refine PW.top (n + 1) (by rw [hb.1 m (by omega) (by omega) (by omega)]; exact maS_2 _ _ _ _) ?_
      refine PW.iconst dX12_event_52 ?_
      refine PW.isub dX12_event_53 ?_
      refine PW.iret rfl rfl dX12_event_54 ⟨rfl, ret_eq (Eq.symm ((if_neg (fun q => q hok)).trans ((if_neg (by omega)).trans (by omega)))), hfr, ?_⟩
      rw [if_pos ⟨hok, by omega⟩, if_pos ⟨hok, by omega⟩]
      exact hc
    · refine PW.ldc (-100004) kc_X12_196 rfl rfl dX12_event_32 ?_
      refine PW.iret rfl rfl dX12_event_34 ⟨rfl, ret_eq (Eq.symm ((if_neg (fun q => q hok)).trans (if_pos (by omega)))), eFr_g σ m _, ?_⟩
      rw [if_neg (show ¬ ((okEv k c0 c1 c2 c3 c4) ∧ n < 16) from fun q => by have := q.2; clear q; omega), if_neg (show ¬ ((okEv k c0 c1 c2 c3 c4) ∧ n < 16) from fun q => by have := q.2; clear q; omega)]
      exact core_g hE
  · refine PW.ldc (-100002) kc_X12_195 rfl rfl dX12_event_20 ?_
    have hno : ¬ (OKV k c0 c1 c2 c3 c4) := by have := h17; rw [upS_same] at this; exact this
    clear h17
    refine PW.iret rfl rfl dX12_event_22 ⟨rfl, ret_eq (if_pos hno).symm, ?_, ?_⟩
    · split
      · exact (eFr_g σ m _).trans (eFr_g _ m _)
      · exact eFr_g σ m _
    · rw [if_neg (show ¬ ((okEv k c0 c1 c2 c3 c4) ∧ n < 16) from fun q => hno q.1), if_neg (show ¬ ((okEv k c0 c1 c2 c3 c4) ∧ n < 16) from fun q => hno q.1)]
      split
      · exact core_g (core_g hE)
      · exact core_g hE
theorem mEv_n {σ : Sto} {m : Nat} {f : Int → Int} {n n' : Int} (h : mEv σ m f n) (h0 : 0 ≤ n') (h1 : n' ≤ n) : mEv (upS σ m (up1 (σ m) 2 n')) m f n' := by
  obtain ⟨e0, e1, e2, e3⟩ := h
  refine ⟨by rw [upS_same, up1_same], by omega, ?_, fun i i0 i1 => ?_⟩
  · rw [upS_ne (by omega), upS_ne (by omega)]
    exact mRw_mono e2 h1
  · rw [upS_ne (by omega)]
    exact e3 i i0 (by omega)
theorem eFr_2 (σ : Sto) (m : Nat) (v : Int) : eFr σ (upS σ m (up1 (σ m) 2 v)) m := ⟨fun b hb => upS_ne (by omega), fun j hj => by rw [upS_same, up1_ne hj]⟩
theorem c_X12_undo {G : GT} {S : Shp} {σ : Sto} {m : Nat} {n : Int} {f : Int → Int} (hA : IsMod S m) (hE : mCore σ m f n) : PMet G mX12_undo 6 0 0 [.ref m] S σ (fun r S' τ => S' = S ∧ r = some (.int (iI (if n = 0 then -100003 else n - 1))) ∧ eFr σ τ m ∧ mCore τ m (f) (if n = 0 then n else n - 1)) := by
  obtain ⟨hM0, hM1, hM2, hM3, hM4, hM5, hM6, hM7, hM8, hM9, hM10, hM11, hM12, hM13, hM14, hM15, hM16, hM17, hM18, hM19, hM20, hM21, hM22, hM23, hM24, hM25, hM26, hM27, hM28, hM29, hM30, hM31, hM32, hM33, hM34⟩ := id hA
  have hn := hE.1.1
  have hnb := hE.1.2.1
  refine PMet.of [(0, .ref m)] (by decide +kernel) rfl (Nat.le_of_ble_eq_true rfl) ?_
  refine PW.aload_n dX12_undo_0 rfl ?_
  refine PW.getI 2 fl_X12_184 rfl (by assumption) rfl rfl dX12_undo_1 ?_
  refine PW.top n (by exact hn) ?_
  refine PW.if_ne 10 dX12_undo_4 (by decide) (by first | (unfold inR; omega) | assumption) (fun h4 => ?_) (fun h4 => ?_)
  · refine PW.aload_n dX12_undo_10 rfl ?_
    refine PW.dup rfl dX12_undo_11 ?_
    refine PW.getI 2 fl_X12_184 rfl (by assumption) rfl rfl dX12_undo_12 ?_
    refine PW.top n (by exact hn) ?_
    refine PW.iconst dX12_undo_15 ?_
    refine PW.isub dX12_undo_16 ?_
    refine PW.putI 2 fl_X12_184 rfl (fun h => absurd h (by decide)) (by assumption) rfl rfl rfl rfl dX12_undo_17 ?_
    refine PW.aload_n dX12_undo_20 rfl ?_
    refine PW.aload_n dX12_undo_21 rfl ?_
    refine PW.getI 2 fl_X12_184 rfl (by assumption) rfl rfl dX12_undo_22 ?_
    refine PW.top (n - 1) (by rw [upS_same, up1_same]) ?_
    refine PW.callVg (c_X12_buildAll (f := f) hA (by rw [upS_ne (by omega)]; exact hE.2.1) (by omega) (mEv_n hE.1 (show 0 ≤ n - 1 by omega) (by omega)).2.2.1) cv_X12_buildAll lk_X12_119 (by first | assumption | exact And.left (by assumption)) dX12_undo_25 rfl rfl rfl rfl (fun r S' τ25 hq => ?_)
    obtain ⟨rfl, hS, hb⟩ := hq
    have hS2 := hS.symm
    subst hS2
    have hc := hb.core (mEv_n hE.1 (show 0 ≤ n - 1 by omega) (by omega))
    have hfr := (eFr_2 σ m _).trans hb.1.e
    refine PW.aload_n dX12_undo_28 rfl ?_
    refine PW.getI 2 fl_X12_184 rfl (by assumption) rfl rfl dX12_undo_29 ?_
    refine PW.top (n - 1) (by rw [hb.1 m (by omega) (by omega) (by omega), upS_same, up1_same]) ?_
    exact PW.iret rfl rfl dX12_undo_32 ⟨rfl, ret_eq (by rw [if_neg (by omega)]), hfr, by rw [if_neg (by omega)]; exact hc⟩
  · refine PW.ldc (-100003) kc_X12_200 rfl rfl dX12_undo_7 ?_
    exact PW.iret rfl rfl dX12_undo_9 ⟨rfl, ret_eq (by rw [if_pos (by omega)]), eFr.rfl' _ _, by rw [if_pos (by omega)]; exact hE⟩
theorem c_X12_clear {G : GT} {S : Shp} {σ : Sto} {m : Nat} {n : Int} {f : Int → Int} (hA : IsMod S m) (hE : mCore σ m f n) : PMet G mX12_clear 6 0 0 [.ref m] S σ (fun r S' τ => S' = S ∧ r = some (.int (iI (n))) ∧ eFr σ τ m ∧ mCore τ m (f) (0)) := by
  obtain ⟨hM0, hM1, hM2, hM3, hM4, hM5, hM6, hM7, hM8, hM9, hM10, hM11, hM12, hM13, hM14, hM15, hM16, hM17, hM18, hM19, hM20, hM21, hM22, hM23, hM24, hM25, hM26, hM27, hM28, hM29, hM30, hM31, hM32, hM33, hM34⟩ := id hA
  have hn := hE.1.1
  have hnb := hE.1.2.1
  refine PMet.of [(0, .ref m)] (by decide +kernel) rfl (Nat.le_of_ble_eq_true rfl) ?_
  refine PW.aload_n dX12_clear_0 rfl ?_
  refine PW.getI 2 fl_X12_184 rfl (by assumption) rfl rfl dX12_clear_1 ?_
  refine PW.top n (by exact hn) ?_
  refine PW.istore_n [(0, _), (1, _)] dX12_clear_4 rfl (Nat.le_of_ble_eq_true rfl) ?_
  refine PW.aload_n dX12_clear_5 rfl ?_
  refine PW.iconst dX12_clear_6 ?_
  refine PW.putI 2 fl_X12_184 rfl (fun h => absurd h (by decide)) (by assumption) rfl rfl rfl rfl dX12_clear_7 ?_
  refine PW.aload_n dX12_clear_10 rfl ?_
  refine PW.iconst dX12_clear_11 ?_
  refine PW.callVg (c_X12_buildAll (f := f) hA (by rw [upS_ne (by omega)]; exact hE.2.1) (by omega) (mEv_n hE.1 (show (0 : Int) ≤ 0 by omega) (by omega)).2.2.1) cv_X12_buildAll lk_X12_119 (by first | assumption | exact And.left (by assumption)) dX12_clear_12 rfl rfl rfl rfl (fun r S' τ12 hq => ?_)
  obtain ⟨rfl, hS, hb⟩ := hq
  have hS2 := hS.symm
  subst hS2
  have hc := hb.core (mEv_n hE.1 (show (0 : Int) ≤ 0 by omega) (by omega))
  have hfr := (eFr_2 σ m _).trans hb.1.e
  refine PW.iload_n dX12_clear_15 rfl ?_
  exact PW.iret rfl rfl dX12_clear_16 ⟨rfl, rfl, hfr, hc⟩
theorem c_X12_told {G : GT} {S : Shp} {σ : Sto} {m : Nat} {n i w : Int} {f : Int → Int} (hA : IsMod S m) (hE : mCore σ m f n) (ri : inR i) (rw_ : inR w) : PMet G mX12_told 3 0 0 [.ref m, .int (iI i), .int (iI w)] S σ (isP (some (.int (iI (if ¬ (0 ≤ i ∧ i < n) then -100001 else if ¬ (0 ≤ w ∧ w ≤ 6) then -100002 else if w = 6 then b01 (¬ f (7 * i + 6) = 0) else f (7 * i + w))))) S σ) := by
  obtain ⟨hM0, hM1, hM2, hM3, hM4, hM5, hM6, hM7, hM8, hM9, hM10, hM11, hM12, hM13, hM14, hM15, hM16, hM17, hM18, hM19, hM20, hM21, hM22, hM23, hM24, hM25, hM26, hM27, hM28, hM29, hM30, hM31, hM32, hM33, hM34⟩ := id hA
  have hn := hE.1.1
  have hnb := hE.1.2.1
  refine PMet.of [(0, .ref m), (1, .int (iI (i))), (2, .int (iI (w)))] (by decide +kernel) rfl (Nat.le_of_ble_eq_true rfl) ?_
  refine PW.aload_n dX12_told_0 rfl ?_
  refine PW.iload_n dX12_told_1 rfl ?_
  refine PW.callVr (c_X12_noEvent hA hn hnb ri) cv_X12_noEvent lk_X12_201 (by first | assumption | exact And.left (by assumption)) dX12_told_2 rfl rfl rfl rfl ?_
  refine PW.if_eqB 11 dX12_told_5 (by decide) (fun h5 => ?_) (fun h5 => ?_)
  · have hi : 0 ≤ i ∧ i < n := Classical.byContradiction (fun q => h5 q)
    have hr := hE.1.2.2.1 i hi.1 hi.2
    have hl := hE.1.2.2.2 i hi.1 hi.2
    have hl2 := hr.1.2.2
    refine PW.iload_n dX12_told_11 rfl ?_
    refine PW.i2l (by first | (unfold inR; omega) | assumption) dX12_told_12 ?_
    refine PW.lconst (z := 0) rfl dX12_told_13 ?_
    refine PW.ldc2 (6) kc_X12_205 rfl rfl dX12_told_14 ?_
    refine PW.callSr (c_X12_in (inL_R rw_) (by unfold inL; omega) (by unfold inL; omega)) cs_X12_in lk_X12_134 dX12_told_17 rfl rfl rfl ?_
    refine PW.if_neB 26 dX12_told_20 (by decide) (fun h20 => ?_) (fun h20 => ?_)
    · refine PW.iload_n dX12_told_26 rfl ?_
      refine PW.if_ne 39 dX12_told_27 (by decide) (by first | (unfold inR; omega) | assumption) (fun h27 => ?_) (fun h27 => ?_)
      · refine PW.iload_n dX12_told_39 rfl ?_
        refine PW.bipush (by decide) dX12_told_40 ?_
        refine PW.icmp_ne 57 dX12_told_42 (by decide) (by first | (unfold inR; omega) | assumption) (by first | (unfold inR; omega) | assumption) (fun h42 => ?_) (fun h42 => ?_)
        · refine PW.aload_n dX12_told_57 rfl ?_
          refine PW.getR fl_X12_20 rfl (by assumption) rfl dX12_told_58 ?_
          refine PW.iconst dX12_told_61 ?_
          refine PW.iload_n dX12_told_62 rfl ?_
          refine PW.imul dX12_told_63 ?_
          refine PW.iload_n dX12_told_64 rfl ?_
          refine PW.iadd dX12_told_65 ?_
          refine PW.iconst dX12_told_66 ?_
          refine PW.isub dX12_told_67 ?_
          refine PW.iaload (by assumption) (by unfold inR; omega) (by omega) (by omega) dX12_told_68 ?_
          refine PW.top (f (7 * i + w)) (by
            have := hr.2.2 (w - 1) (by omega) (by omega)
            rw [show 5 * i + w - 1 = 5 * i + (w - 1) by omega, this]
            congr 1
            omega) ?_
          first
            | (refine PW.iret rfl rfl dX12_told_69 ⟨ret_eq ?_, rfl, rfl⟩
               rw [if_neg (fun q => q hi), if_neg (by omega), if_pos (by omega)]
               first | (rw [b01_t (by omega)]; omega) | (unfold b01; split <;> omega)
               done)
            | (refine PW.iret rfl rfl dX12_told_69 ⟨ret_eq ?_, rfl, rfl⟩
               rw [if_neg (fun q => q hi), if_neg (by omega), if_neg (by omega)]
               first
                 | done
                 | (congr 1; omega))
        · refine PW.aload_n dX12_told_45 rfl ?_
          refine PW.getR fl_X12_23 rfl (by assumption) rfl dX12_told_46 ?_
          refine PW.iload_n dX12_told_49 rfl ?_
          refine PW.zaload (by assumption) (by unfold inR; omega) (by omega) (by omega) dX12_told_50 ?_
          refine PW.top (f (7 * i + 6)) hl ?_
          refine PW.callSr (c_X12_bit (by omega)) cs_X12_bit lk_X12_207 dX12_told_51 rfl rfl rfl ?_
          refine PW.goto 69 dX12_told_54 (by decide) ?_
          first
            | (refine PW.iret rfl rfl dX12_told_69 ⟨ret_eq ?_, rfl, rfl⟩
               rw [if_neg (fun q => q hi), if_neg (by omega), if_pos (by omega)]
               first | (rw [b01_t (by omega)]; omega) | (unfold b01; split <;> omega)
               done)
            | (refine PW.iret rfl rfl dX12_told_69 ⟨ret_eq ?_, rfl, rfl⟩
               rw [if_neg (fun q => q hi), if_neg (by omega), if_neg (by omega)]
               first
                 | done
                 | (congr 1; omega))
      · refine PW.aload_n dX12_told_30 rfl ?_
        refine PW.getR fl_X12_16 rfl (by assumption) rfl dX12_told_31 ?_
        refine PW.iload_n dX12_told_34 rfl ?_
        refine PW.iaload (by assumption) (by unfold inR; omega) (by omega) (by omega) dX12_told_35 ?_
        refine PW.top (f (7 * i)) hr.2.1 ?_
        refine PW.goto 69 dX12_told_36 (by decide) ?_
        first
          | (refine PW.iret rfl rfl dX12_told_69 ⟨ret_eq ?_, rfl, rfl⟩
             rw [if_neg (fun q => q hi), if_neg (by omega), if_pos (by omega)]
             first | (rw [b01_t (by omega)]; omega) | (unfold b01; split <;> omega)
             done)
          | (refine PW.iret rfl rfl dX12_told_69 ⟨ret_eq ?_, rfl, rfl⟩
             rw [if_neg (fun q => q hi), if_neg (by omega), if_neg (by omega)]
             first
               | done
               | (congr 1; omega))
    · refine PW.ldc (-100002) kc_X12_195 rfl rfl dX12_told_23 ?_
      exact PW.iret rfl rfl dX12_told_25 ⟨ret_eq (by rw [if_neg (fun q => q hi), if_pos (by assumption)]), rfl, rfl⟩
  · refine PW.ldc (-100001) kc_X12_204 rfl rfl dX12_told_8 ?_
    exact PW.iret rfl rfl dX12_told_10 ⟨ret_eq (by rw [if_pos (by assumption)]), rfl, rfl⟩
theorem tlF_cg {f f' : Int → Int} {n : Int} {c : Int → Int} : ∀ {k : Nat}, (∀ q p : Int, 0 ≤ q → q < k → 0 ≤ p → p ≤ 5 → f' (7 * q + p) = f (7 * q + p)) → tlF f' n c k = tlF f n c k
  | 0, _ => rfl
  | k + 1, h => by
    have ih := tlF_cg (f := f) (f' := f') (n := n) (c := c) (k := k) (fun q p q0 q1 p0 p1 => h q p q0 (by omega) p0 p1)
    have e : ∀ p : Int, 0 ≤ p → p ≤ 5 → f' (7 * (k : Int) + p) = f (7 * (k : Int) + p) := fun p p0 p1 => h k p (by omega) (by omega) p0 p1
    have e0 := e 0 (by omega) (by omega)
    rw [Int.add_zero] at e0
    have e1 := e 1 (by omega) (by omega)
    have e2 := e 2 (by omega) (by omega)
    have e3 := e 3 (by omega) (by omega)
    have e4 := e 4 (by omega) (by omega)
    have e5 := e 5 (by omega) (by omega)
    simp only [tlF]
    unfold evR
    rw [ih, e0, show 7 * (k : Int) + 1 + 0 = 7 * k + 1 by omega, show 7 * (k : Int) + 1 + 1 = 7 * k + 2 by omega, show 7 * (k : Int) + 1 + 2 = 7 * k + 3 by omega, show 7 * (k : Int) + 1 + 3 = 7 * k + 4 by omega, show 7 * (k : Int) + 1 + 4 = 7 * k + 5 by omega, e1, e2, e3, e4, e5]
theorem tlF_lo {f : Int → Int} {n : Int} {c : Int → Int} {i v : Int} {k : Nat} : tlF (up1 f (7 * i + 6) v) n c k = tlF f n c k := tlF_cg fun q p q0 q1 p0 p1 => up1_ne (by omega)
theorem evOk_lo {f : Int → Int} {i q v : Int} (h : evOk f q) (hv : 0 ≤ v ∧ v ≤ 1) : evOk (up1 f (7 * i + 6) v) q := by
  unfold evOk
  rw [up1_ne (show 7 * q ≠ 7 * i + 6 by omega), up1_ne (show 7 * q + 1 + 0 ≠ 7 * i + 6 by omega), up1_ne (show 7 * q + 1 + 1 ≠ 7 * i + 6 by omega), up1_ne (show 7 * q + 1 + 2 ≠ 7 * i + 6 by omega), up1_ne (show 7 * q + 1 + 3 ≠ 7 * i + 6 by omega), up1_ne (show 7 * q + 1 + 4 ≠ 7 * i + 6 by omega)]
  refine ⟨h.1, fun p p0 p1 => ?_, ?_⟩
  · rw [up1_ne (by omega)]
    exact h.2.1 p p0 p1
  · by_cases e : q = i
    · rw [e, up1_same]
      exact hv
    · rw [up1_ne (by omega)]
      exact h.2.2
theorem mEv_lo {σ : Sto} {m : Nat} {f : Int → Int} {n i v : Int} (h : mEv σ m f n) (hv : 0 ≤ v ∧ v ≤ 1) : mEv (upS σ (m + 5) (up1 (σ (m + 5)) i v)) m (up1 f (7 * i + 6) v) n := by
  obtain ⟨e0, e1, e2, e3⟩ := h
  refine ⟨by rw [upS_ne (by omega)]; exact e0, e1, fun q q0 q1 => ?_, fun q q0 q1 => ?_⟩
  · obtain ⟨a1, a2, a3⟩ := e2 q q0 q1
    rw [upS_ne (by omega), upS_ne (by omega)]
    exact ⟨evOk_lo a1 hv, by rw [up1_ne (by omega)]; exact a2, fun p p0 p1 => by rw [up1_ne (by omega)]; exact a3 p p0 p1⟩
  · rw [upS_same]
    by_cases e : q = i
    · rw [e, up1_same, up1_same]
    · rw [up1_ne e, up1_ne (by omega)]
      exact e3 q q0 q1
theorem mCore_lo {σ : Sto} {m : Nat} {f : Int → Int} {n i v : Int} (h : mCore σ m f n) (hi : 0 ≤ i ∧ i < n) (hv : 0 ≤ v ∧ v ≤ 1) : mCore (upS σ (m + 5) (up1 (σ (m + 5)) i v)) m (up1 f (7 * i + 6) v) n := by
  refine ⟨mEv_lo h.1 hv, by rw [upS_ne (by omega)]; exact h.2.1, fun c q0 q1 => ?_⟩
  rw [upS_ne (by omega), tlF_lo]
  exact h.2.2 c q0 q1
theorem c_X12_loose {G : GT} {S : Shp} {σ : Sto} {m : Nat} {n i : Int} {f : Int → Int} {P : Prop} [Decidable P] (hA : IsMod S m) (hE : mCore σ m f n) (ri : inR i) : PMet G mX12_loose 3 0 0 [.ref m, .int (iI i), .int (iI (b01 P))] S σ (fun r S' τ => S' = S ∧ r = some (.int (iI (if ¬ (0 ≤ i ∧ i < n) then -100001 else b01 (¬ f (7 * i + 6) = 0)))) ∧ eFr σ τ m ∧ mCore τ m (if 0 ≤ i ∧ i < n then up1 f (7 * i + 6) (b01 P) else f) (n)) := by
  obtain ⟨hM0, hM1, hM2, hM3, hM4, hM5, hM6, hM7, hM8, hM9, hM10, hM11, hM12, hM13, hM14, hM15, hM16, hM17, hM18, hM19, hM20, hM21, hM22, hM23, hM24, hM25, hM26, hM27, hM28, hM29, hM30, hM31, hM32, hM33, hM34⟩ := id hA
  have hn := hE.1.1
  have hnb := hE.1.2.1
  refine PMet.of [(0, .ref m), (1, .int (iI (i))), (2, .int (iI (b01 P)))] (by decide +kernel) rfl (Nat.le_of_ble_eq_true rfl) ?_
  refine PW.aload_n dX12_loose_0 rfl ?_
  refine PW.iload_n dX12_loose_1 rfl ?_
  refine PW.callVr (c_X12_noEvent hA hn hnb ri) cv_X12_noEvent lk_X12_201 (by first | assumption | exact And.left (by assumption)) dX12_loose_2 rfl rfl rfl rfl ?_
  refine PW.if_eqB 11 dX12_loose_5 (by decide) (fun h5 => ?_) (fun h5 => ?_)
  · have hi : 0 ≤ i ∧ i < n := Classical.byContradiction (fun q => h5 q)
    have hr := hE.1.2.2.1 i hi.1 hi.2
    have hl := hE.1.2.2.2 i hi.1 hi.2
    have hl2 := hr.1.2.2
    refine PW.aload_n dX12_loose_11 rfl ?_
    refine PW.getR fl_X12_23 rfl (by assumption) rfl dX12_loose_12 ?_
    refine PW.iload_n dX12_loose_15 rfl ?_
    refine PW.zaload (by assumption) (by unfold inR; omega) (by omega) (by omega) dX12_loose_16 ?_
    refine PW.top (f (7 * i + 6)) hl ?_
    refine PW.callSr (c_X12_bit (by omega)) cs_X12_bit lk_X12_207 dX12_loose_17 rfl rfl rfl ?_
    refine PW.istore_n [(0, _), (1, _), (2, _), (3, _)] dX12_loose_20 rfl (Nat.le_of_ble_eq_true rfl) ?_
    refine PW.aload_n dX12_loose_21 rfl ?_
    refine PW.getR fl_X12_23 rfl (by assumption) rfl dX12_loose_22 ?_
    refine PW.iload_n dX12_loose_25 rfl ?_
    refine PW.iload_n dX12_loose_26 rfl ?_
    refine PW.zastore (by assumption) (by first | (unfold inR; omega) | assumption) (by omega) (by omega) (narB P) dX12_loose_27 ?_
    refine PW.iload_n dX12_loose_28 rfl ?_
    exact PW.iret rfl rfl dX12_loose_29 ⟨rfl, ret_eq (by rw [if_neg (fun q => q hi)]; unfold b01; split <;> omega), ⟨fun b hb => upS_ne (by omega), fun j _ => by rw [upS_ne (by omega)]⟩, by rw [if_pos hi]; exact mCore_lo hE hi (b01_b P)⟩
  · refine PW.ldc (-100001) kc_X12_204 rfl rfl dX12_loose_8 ?_
    exact PW.iret rfl rfl dX12_loose_10 ⟨rfl, ret_eq (by rw [if_pos (by assumption)]), eFr.rfl' _ _, by rw [if_neg (by assumption)]; exact hE⟩

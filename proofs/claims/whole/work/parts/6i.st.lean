/-- what may have happened, in the model -/
def mMb (τ : Sto) (m : Nat) (f : Int → Int) (n : Int) : Prop := τ m 38 = n ∧ (0 ≤ n ∧ n ≤ 4) ∧ mRw (τ (m + 29)) (τ (m + 30)) f n
theorem mMb_congr {σ τ : Sto} {m : Nat} {f : Int → Int} {n : Int} (e0 : τ m 38 = σ m 38) (e1 : τ (m + 29) = σ (m + 29)) (e2 : τ (m + 30) = σ (m + 30)) (h : mMb σ m f n) : mMb τ m f n := by
  unfold mMb
  rw [e0, e1, e2]
  exact h
def mbS (σ : Sto) (m : Nat) (gn k : Int) : Sto := upS (upS (upS σ (m + 29) (up1 (σ (m + 29)) gn k)) (m + 30) (pfF (σ (m + 30)) (fun j => σ (m + 6) (j - 5 * gn)) (5 * gn) (5 * gn + 5))) m (up1 (σ m) 38 (gn + 1))
theorem mbS_ne {σ : Sto} {m b : Nat} {gn k : Int} (h0 : b ≠ m) (h1 : b ≠ m + 29) (h2 : b ≠ m + 30) : mbS σ m gn k b = σ b := by
  unfold mbS
  rw [upS_ne h0, upS_ne h2, upS_ne h1]
theorem mbS_j {σ : Sto} {m : Nat} {gn k j : Int} (h : j ≠ 38) : mbS σ m gn k m j = σ m j := by
  unfold mbS
  rw [upS_same, up1_ne h]
theorem mbS_ok {σ : Sto} {m : Nat} {gn k c0 c1 c2 c3 c4 : Int} {gf : Int → Int} (h : mMb σ m gf gn) (hn : gn < 4) (ho : okEv k c0 c1 c2 c3 c4) (hg : ∀ i, 0 ≤ i → i < 5 → σ (m + 6) i = nzF k (giF zF c0 c1 c2 c3 c4) i) : mMb (mbS σ m gn k) m (adF gf gn k c0 c1 c2 c3 c4) (gn + 1) := by
  have hr := rowF_g ho.1 hg
  obtain ⟨h0, h1, h2⟩ := h
  have k3 : mbS σ m gn k (m + 29) = up1 (σ (m + 29)) gn k := by
    unfold mbS
    rw [upS_ne (by omega), upS_ne (by omega), upS_same]
  have k4 : mbS σ m gn k (m + 30) = pfF (σ (m + 30)) (fun j => σ (m + 6) (j - 5 * gn)) (5 * gn) (5 * gn + 5) := by
    unfold mbS
    rw [upS_ne (by omega), upS_same]
  refine ⟨by unfold mbS; rw [upS_same, up1_same], by omega, fun i i0 i1 => ?_⟩
  rw [k3, k4]
  by_cases hi : i = gn
  · subst hi
    refine ⟨adF_new ho, ?_, fun p p0 p1 => ?_⟩
    · rw [up1_same]
      unfold adF
      rw [if_pos (by omega), show 7 * i - 7 * i = 0 by omega]
      rfl
    · unfold pfF adF
      rw [if_pos (by omega), if_pos (by omega), show 7 * i + 1 + p - 7 * i = 1 + p by omega, hr p p0 p1]
      show σ (m + 6) (5 * i + p - 5 * i) = _
      rw [show 5 * i + p - 5 * i = p by omega]
  · obtain ⟨b1, b2, b3⟩ := h2 i i0 (by omega)
    refine ⟨adF_old (by omega) b1, ?_, fun p p0 p1 => ?_⟩
    · rw [up1_ne hi, b2]
      unfold adF
      rw [if_neg (by omega)]
    · unfold pfF adF
      rw [if_neg (by omega), if_neg (by omega)]
      exact b3 p p0 p1
theorem mo_mb_loop {G : GT} {S : Shp} {σ : Sto} {m : Nat} {k c0 c1 c2 c3 c4 gn : Int} {Q : Option Value → Shp → Sto → Prop} (hA : IsMod S m) (hgn : σ m 38 = gn) (hgb : 0 ≤ gn ∧ gn < 4) (hQ : Q (some (.int (iI gn))) S (mbS σ m gn k)) : ∀ (t : Nat) (i : Int), 0 ≤ i → i ≤ 5 → 5 - i < t → PW (fm G mX12_maybe 3 0 0 Q) G S (upS (upS σ (m + 29) (up1 (σ (m + 29)) gn k)) (m + 30) (pfF (σ (m + 30)) (fun j => σ (m + 6) (j - 5 * gn)) (5 * gn) (5 * gn + i))) 0 0 47 [(0, .ref m), (1, .int (iI (k))), (2, .int (iI (c0))), (3, .int (iI (c1))), (4, .int (iI (c2))), (5, .int (iI (c3))), (6, .int (iI (c4))), (7, .int (iI (i)))] [] := by
  obtain ⟨hM0, hM1, hM2, hM3, hM4, hM5, hM6, hM7, hM8, hM9, hM10, hM11, hM12, hM13, hM14, hM15, hM16, hM17, hM18, hM19, hM20, hM21, hM22, hM23, hM24, hM25, hM26, hM27, hM28, hM29, hM30, hM31, hM32, hM33, hM34⟩ := id hA
  intro t
  induction t with
  | zero => intro i h1 h2 h3; omega
  | succ t ih =>
    intro i h1 h2 h3
    refine PW.iload dX12_maybe_47 rfl ?_
    refine PW.iconst dX12_maybe_49 ?_
    refine PW.icmp_ge 80 dX12_maybe_50 (by decide) (by first | assumption | (unfold inR; omega)) (by first | assumption | (unfold inR; omega)) (fun h50 => ?_) (fun h50 => ?_)
    · refine PW.aload_n dX12_maybe_80 rfl ?_
      refine PW.dup rfl dX12_maybe_81 ?_
      refine PW.getI 38 fl_X12_233 rfl (by assumption) rfl rfl dX12_maybe_82 ?_
      refine PW.top gn (by rw [upS_ne (by omega), upS_ne (by omega)]; exact hgn) ?_
      refine PW.iconst dX12_maybe_85 ?_
      refine PW.iadd dX12_maybe_86 ?_
      refine PW.putI 38 fl_X12_233 rfl (fun h => absurd h (by decide)) (by assumption) rfl rfl rfl rfl dX12_maybe_87 ?_
      refine PW.aload_n dX12_maybe_90 rfl ?_
      refine PW.getI 38 fl_X12_233 rfl (by assumption) rfl rfl dX12_maybe_91 ?_
      refine PW.top (gn + 1) (by rw [upS_same, up1_same]) ?_
      refine PW.iconst dX12_maybe_94 ?_
      refine PW.isub dX12_maybe_95 ?_
      refine PW.top gn (by omega) ?_
      have hi : i = 5 := by omega
      subst hi
      refine PW.st (mbS σ m gn k) (by
        unfold mbS
        rw [upS_ne (show m ≠ m + 30 by omega), upS_ne (show m ≠ m + 29 by omega)]) ?_
      exact PW.iret rfl rfl dX12_maybe_96 hQ
    · refine PW.aload_n dX12_maybe_53 rfl ?_
      refine PW.getR fl_X12_103 rfl (by assumption) rfl dX12_maybe_54 ?_
      refine PW.iconst dX12_maybe_57 ?_
      refine PW.aload_n dX12_maybe_58 rfl ?_
      refine PW.getI 38 fl_X12_233 rfl (by assumption) rfl rfl dX12_maybe_59 ?_
      refine PW.top gn (by rw [upS_ne (by omega), upS_ne (by omega)]; exact hgn) ?_
      refine PW.imul dX12_maybe_62 ?_
      refine PW.iload dX12_maybe_63 rfl ?_
      refine PW.iadd dX12_maybe_65 ?_
      refine PW.aload_n dX12_maybe_66 rfl ?_
      refine PW.getR fl_X12_27 rfl (by assumption) rfl dX12_maybe_67 ?_
      refine PW.iload dX12_maybe_70 rfl ?_
      refine PW.iaload (by assumption) (by unfold inR; omega) (by omega) (by omega) dX12_maybe_72 ?_
      refine PW.top (σ (m + 6) i) (by rw [upS_ne (by omega), upS_ne (by omega)]) ?_
      refine PW.iastore (by assumption) (by first | assumption | (unfold inR; omega)) (by omega) (by omega) dX12_maybe_73 ?_
      refine PW.st (upS (upS σ (m + 29) (up1 (σ (m + 29)) gn k)) (m + 30) (pfF (σ (m + 30)) (fun j => σ (m + 6) (j - 5 * gn)) (5 * gn) (5 * gn + (i + 1)))) (by
        rw [upS_upS, upS_same]
        refine congrArg (upS (upS σ (m + 29) (up1 (σ (m + 29)) gn k)) (m + 30)) ?_
        rw [show 5 * gn + (i + 1) = 5 * gn + i + 1 by omega, ← pfF_s (by omega)]
        congr 2
        omega) ?_
      refine PW.iinc [(0, _), (1, _), (2, _), (3, _), (4, _), (5, _), (6, _), (7, _)] dX12_maybe_74 rfl rfl (Nat.le_of_ble_eq_true rfl) ?_
      refine PW.goto 47 dX12_maybe_77 (by decide) ?_
      exact ih (i + 1) (by omega) (by omega) (by omega)
theorem mMb_g {σ : Sto} {m : Nat} {f g : Int → Int} {n : Int} (h : mMb σ m f n) : mMb (upS σ (m + 6) g) m f n := mMb_congr (by rw [upS_ne (by omega)]) (upS_ne (by omega)) (upS_ne (by omega)) h
theorem c_X12_maybe {G : GT} {S : Shp} {σ : Sto} {m : Nat} {k c0 c1 c2 c3 c4 : Int} {gn : Int} {gf : Int → Int} (hA : IsMod S m) (hg : mMb σ m gf gn) (rk : inR k) (rc0 : inR c0) (rc1 : inR c1) (rc2 : inR c2) (rc3 : inR c3) (rc4 : inR c4) : PMet G mX12_maybe 3 0 0 [.ref m, .int (iI (k)), .int (iI (c0)), .int (iI (c1)), .int (iI (c2)), .int (iI (c3)), .int (iI (c4))] S σ (fun r S' τ => S' = S ∧ r = some (.int (iI (if ¬ (okEv k c0 c1 c2 c3 c4) then -100002 else if 4 ≤ gn then -100004 else gn))) ∧ (∀ b, b < m ∨ (m < b ∧ b < m + 6) ∨ (m + 6 < b ∧ b < m + 29) ∨ m + 30 < b → τ b = σ b) ∧ (∀ j, j ≠ 38 → τ m j = σ m j) ∧ mMb τ m (if (okEv k c0 c1 c2 c3 c4) ∧ gn < 4 then adF gf gn k c0 c1 c2 c3 c4 else gf) (if (okEv k c0 c1 c2 c3 c4) ∧ gn < 4 then gn + 1 else gn)) := by
  obtain ⟨hM0, hM1, hM2, hM3, hM4, hM5, hM6, hM7, hM8, hM9, hM10, hM11, hM12, hM13, hM14, hM15, hM16, hM17, hM18, hM19, hM20, hM21, hM22, hM23, hM24, hM25, hM26, hM27, hM28, hM29, hM30, hM31, hM32, hM33, hM34⟩ := id hA
  have hgn := hg.1
  have hgb := hg.2.1
  refine PMet.of [(0, .ref m), (1, .int (iI (k))), (2, .int (iI (c0))), (3, .int (iI (c1))), (4, .int (iI (c2))), (5, .int (iI (c3))), (6, .int (iI (c4)))] (by decide +kernel) rfl (Nat.le_of_ble_eq_true rfl) ?_
  refine PW.aload_n dX12_maybe_0 rfl ?_
  refine PW.iload_n dX12_maybe_1 rfl ?_
  refine PW.iload_n dX12_maybe_2 rfl ?_
  refine PW.iload dX12_maybe_3 rfl ?_
  refine PW.iload dX12_maybe_5 rfl ?_
  refine PW.iload dX12_maybe_7 rfl ?_
  refine PW.callVv (c_X12_give hA) cv_X12_give lk_X12_187 (by first | assumption | exact And.left (by assumption)) dX12_maybe_9 rfl rfl rfl rfl ?_
  refine PW.aload_n dX12_maybe_12 rfl ?_
  refine PW.iload_n dX12_maybe_13 rfl ?_
  refine PW.callVr (c_X12_isEvent hA rk (by rw [upS_same]; exact giF_R rc0 rc1 rc2 rc3 rc4)) cv_X12_isEvent lk_X12_191 (by first | assumption | exact And.left (by assumption)) dX12_maybe_14 rfl rfl rfl rfl ?_
  refine PW.if_neB 23 dX12_maybe_17 (by decide) (fun h17 => ?_) (fun h17 => ?_)
  · have hok : OKV k c0 c1 c2 c3 c4 := by have := h17; rw [upS_same] at this; exact this
    clear h17
    refine PW.st (upS σ (m + 6) (pfF (giF (σ (m + 6)) c0 c1 c2 c3 c4) (nzF k (giF (σ (m + 6)) c0 c1 c2 c3 c4)) 0 5)) (by rw [if_pos hok.1, upS_upS, upS_same]) ?_
    refine PW.aload_n dX12_maybe_23 rfl ?_
    refine PW.getI 38 fl_X12_233 rfl (by assumption) rfl rfl dX12_maybe_24 ?_
    refine PW.top gn (by rw [upS_ne (by omega)]; exact hgn) ?_
    refine PW.iconst dX12_maybe_27 ?_
    refine PW.icmp_ne 34 dX12_maybe_28 (by decide) (by first | (unfold inR; omega) | assumption) (by first | (unfold inR; omega) | assumption) (fun h28 => ?_) (fun h28 => ?_)
    · refine PW.aload_n dX12_maybe_34 rfl ?_
      refine PW.getR fl_X12_100 rfl (by assumption) rfl dX12_maybe_35 ?_
      refine PW.aload_n dX12_maybe_38 rfl ?_
      refine PW.getI 38 fl_X12_233 rfl (by assumption) rfl rfl dX12_maybe_39 ?_
      refine PW.top gn (by rw [upS_ne (by omega)]; exact hgn) ?_
      refine PW.iload_n dX12_maybe_42 rfl ?_
      refine PW.iastore (by assumption) (by first | (unfold inR; omega) | assumption) (by omega) (by omega) dX12_maybe_43 ?_
      refine PW.iconst dX12_maybe_44 ?_
      refine PW.istore [(0, _), (1, _), (2, _), (3, _), (4, _), (5, _), (6, _), (7, _)] dX12_maybe_45 rfl (Nat.le_of_ble_eq_true rfl) ?_
      refine PW.st (upS (upS (upS σ (m + 6) (pfF (giF (σ (m + 6)) c0 c1 c2 c3 c4) (nzF k (giF (σ (m + 6)) c0 c1 c2 c3 c4)) 0 5)) (m + 29) (up1 ((upS σ (m + 6) (pfF (giF (σ (m + 6)) c0 c1 c2 c3 c4) (nzF k (giF (σ (m + 6)) c0 c1 c2 c3 c4)) 0 5)) (m + 29)) gn k)) (m + 30) (pfF ((upS σ (m + 6) (pfF (giF (σ (m + 6)) c0 c1 c2 c3 c4) (nzF k (giF (σ (m + 6)) c0 c1 c2 c3 c4)) 0 5)) (m + 30)) (fun j => (upS σ (m + 6) (pfF (giF (σ (m + 6)) c0 c1 c2 c3 c4) (nzF k (giF (σ (m + 6)) c0 c1 c2 c3 c4)) 0 5)) (m + 6) (j - 5 * gn)) (5 * gn) (5 * gn + 0))) (by rw [Int.add_zero, pfF_0, show (upS σ (m + 6) (pfF (giF (σ (m + 6)) c0 c1 c2 c3 c4) (nzF k (giF (σ (m + 6)) c0 c1 c2 c3 c4)) 0 5)) (m + 30) = (upS (upS σ (m + 6) (pfF (giF (σ (m + 6)) c0 c1 c2 c3 c4) (nzF k (giF (σ (m + 6)) c0 c1 c2 c3 c4)) 0 5)) (m + 29) (up1 ((upS σ (m + 6) (pfF (giF (σ (m + 6)) c0 c1 c2 c3 c4) (nzF k (giF (σ (m + 6)) c0 c1 c2 c3 c4)) 0 5)) (m + 29)) gn k)) (m + 30) from (upS_ne (by omega)).symm, upS_self]) ?_
      refine mo_mb_loop (σ := upS σ (m + 6) (pfF (giF (σ (m + 6)) c0 c1 c2 c3 c4) (nzF k (giF (σ (m + 6)) c0 c1 c2 c3 c4)) 0 5)) (gn := gn) hA (by rw [upS_ne (by omega)]; exact hgn) (by omega) ?_ 6 0 (by omega) (by omega) (by omega)
      refine ⟨rfl, ret_eq (Eq.symm ((if_neg (fun q => q hok)).trans (if_neg (by omega)))), fun b hb => ?_, fun j hj => ?_, ?_⟩
      · rw [mbS_ne (by omega) (by omega) (by omega), upS_ne (by omega)]
      · rw [mbS_j hj, upS_ne (by omega)]
      · rw [if_pos (show (okEv k c0 c1 c2 c3 c4) ∧ gn < 4 from ⟨hok, by omega⟩), if_pos (show (okEv k c0 c1 c2 c3 c4) ∧ gn < 4 from ⟨hok, by omega⟩)]
        exact mbS_ok (mMb_g hg) (by omega) hok (by rw [upS_same]; exact nz_giv)
    · refine PW.ldc (-100004) kc_X12_196 rfl rfl dX12_maybe_31 ?_
      refine PW.iret rfl rfl dX12_maybe_33 ⟨rfl, ret_eq (Eq.symm ((if_neg (fun q => q hok)).trans (if_pos (by omega)))), fun b hb => upS_ne (by omega), fun j hj => by rw [upS_ne (by omega)], ?_⟩
      rw [if_neg (show ¬ ((okEv k c0 c1 c2 c3 c4) ∧ gn < 4) from fun q => by have := q.2; clear q; omega), if_neg (show ¬ ((okEv k c0 c1 c2 c3 c4) ∧ gn < 4) from fun q => by have := q.2; clear q; omega)]
      exact mMb_g hg
  · refine PW.ldc (-100002) kc_X12_195 rfl rfl dX12_maybe_20 ?_
    have hno : ¬ (OKV k c0 c1 c2 c3 c4) := by have := h17; rw [upS_same] at this; exact this
    clear h17
    refine PW.iret rfl rfl dX12_maybe_22 ⟨rfl, ret_eq (if_pos hno).symm, fun b hb => ?_, fun j hj => ?_, ?_⟩
    · split
      · rw [upS_ne (by omega), upS_ne (by omega)]
      · rw [upS_ne (by omega)]
    · split
      · rw [upS_ne (by omega), upS_ne (by omega)]
      · rw [upS_ne (by omega)]
    · rw [if_neg (show ¬ ((okEv k c0 c1 c2 c3 c4) ∧ gn < 4) from fun q => hno q.1), if_neg (show ¬ ((okEv k c0 c1 c2 c3 c4) ∧ gn < 4) from fun q => hno q.1)]
      split
      · exact mMb_g (mMb_g hg)
      · exact mMb_g hg
theorem c_X12_never {G : GT} {S : Shp} {σ : Sto} {m : Nat} {gn : Int} {gf : Int → Int} (hA : IsMod S m) (hg : mMb σ m gf gn) : PMet G mX12_never 0 0 0 [.ref m] S σ (fun r S' τ => S' = S ∧ r = some (.int (iI (gn))) ∧ (∀ b, b < m ∨ (m < b ∧ b < m + 6) ∨ (m + 6 < b ∧ b < m + 29) ∨ m + 30 < b → τ b = σ b) ∧ (∀ j, j ≠ 38 → τ m j = σ m j) ∧ mMb τ m (gf) (0)) := by
  obtain ⟨hM0, hM1, hM2, hM3, hM4, hM5, hM6, hM7, hM8, hM9, hM10, hM11, hM12, hM13, hM14, hM15, hM16, hM17, hM18, hM19, hM20, hM21, hM22, hM23, hM24, hM25, hM26, hM27, hM28, hM29, hM30, hM31, hM32, hM33, hM34⟩ := id hA
  have hgn := hg.1
  have hgb := hg.2.1
  refine PMet.of [(0, .ref m)] (by decide +kernel) rfl (Nat.le_of_ble_eq_true rfl) ?_
  refine PW.aload_n dX12_never_0 rfl ?_
  refine PW.getI 38 fl_X12_233 rfl (by assumption) rfl rfl dX12_never_1 ?_
  refine PW.top gn (by exact hgn) ?_
  refine PW.istore_n [(0, _), (1, _)] dX12_never_4 rfl (Nat.le_of_ble_eq_true rfl) ?_
  refine PW.aload_n dX12_never_5 rfl ?_
  refine PW.iconst dX12_never_6 ?_
  refine PW.putI 38 fl_X12_233 rfl (fun h => absurd h (by decide)) (by assumption) rfl rfl rfl rfl dX12_never_7 ?_
  refine PW.iload_n dX12_never_10 rfl ?_
  refine PW.iret rfl rfl dX12_never_11 ⟨rfl, rfl, fun b hb => upS_ne (by omega), fun j hj => by rw [upS_same, up1_ne hj], by rw [upS_same, up1_same], by omega, fun i i0 i1 => by omega⟩
theorem c_X12_isTooMany {G : GT} {S : Shp} {σ : Sto} {m : Nat} {n : Int} {gn : Int} {gf : Int → Int} (hA : IsMod S m) (hg : mMb σ m gf gn) (hn : σ m 2 = n) (hnb : 0 ≤ n ∧ n ≤ 16) : PMet G mX12_isTooMany 0 0 0 [.ref m] S σ (isP (some (.int (iI (b01 (16 < n + gn))))) S σ) := by
  obtain ⟨hM0, hM1, hM2, hM3, hM4, hM5, hM6, hM7, hM8, hM9, hM10, hM11, hM12, hM13, hM14, hM15, hM16, hM17, hM18, hM19, hM20, hM21, hM22, hM23, hM24, hM25, hM26, hM27, hM28, hM29, hM30, hM31, hM32, hM33, hM34⟩ := id hA
  have hgn := hg.1
  have hgb := hg.2.1
  refine PMet.of [(0, .ref m)] (by decide +kernel) rfl (Nat.le_of_ble_eq_true rfl) ?_
  refine PW.aload_n dX12_isTooMany_0 rfl ?_
  refine PW.getI 2 fl_X12_184 rfl (by assumption) rfl rfl dX12_isTooMany_1 ?_
  refine PW.top n (by exact hn) ?_
  refine PW.aload_n dX12_isTooMany_4 rfl ?_
  refine PW.getI 38 fl_X12_233 rfl (by assumption) rfl rfl dX12_isTooMany_5 ?_
  refine PW.top gn (by exact hgn) ?_
  refine PW.iadd dX12_isTooMany_8 ?_
  refine PW.bipush (by decide) dX12_isTooMany_9 ?_
  refine PW.icmp_le 18 dX12_isTooMany_11 (by decide) (by first | assumption | (unfold inR; omega)) (by first | assumption | (unfold inR; omega)) (fun h11 => ?_) (fun h11 => ?_)
  · refine PW.iconst dX12_isTooMany_18 ?_
    exact PW.iret rfl (by first | rfl | exact narB _) dX12_isTooMany_19 ⟨ret_eq (by unfold b01; first | (exfalso; omega) | rw [if_pos (by omega)] | rw [if_neg (by omega)]), rfl, rfl⟩
  · refine PW.iconst dX12_isTooMany_14 ?_
    refine PW.goto 19 dX12_isTooMany_15 (by decide) ?_
    exact PW.iret rfl (by first | rfl | exact narB _) dX12_isTooMany_19 ⟨ret_eq (by unfold b01; first | (exfalso; omega) | rw [if_pos (by omega)] | rw [if_neg (by omega)]), rfl, rfl⟩
def pzL (g : Nat) : List (List Int) := match g with
  | 0 => [[0, 1], [1]]
  | 1 => [[0, 1], [1, 2], [2]]
  | 2 => [[0, 1], [1, 2, 3], [3, 3, 4, 5, 5], [5]]
  | 3 => [[0, 1], [1, 2, 3, 4], [4, 4, 5, 6, 7, 7, 8, 9, 10, 10], [10, 10, 10, 10, 10, 10, 11, 11, 12, 12, 12, 12, 13, 13, 13, 13, 14, 14, 14, 14, 15, 15, 16, 16, 16, 16, 16, 16], [16]]
  | _ => [[0, 1], [1, 2, 3, 4, 5], [5, 5, 6, 7, 8, 9, 9, 10, 11, 12, 13, 13, 14, 15, 16, 17, 17], [17, 17, 17, 17, 17, 17, 17, 18, 19, 19, 20, 20, 21, 21, 22, 23, 23, 23, 23, 24, 25, 25, 25, 25, 25, 26, 26, 26, 27, 28, 28, 29, 29, 29, 30, 30, 31, 32, 32, 32, 33, 33, 33, 33, 33, 34, 35, 35, 35, 35, 36, 37, 37, 38, 38, 39, 39, 40, 41, 41, 41, 41, 41, 41, 41], [41, 41, 41, 41, 41, 41, 41, 41, 41, 41, 41, 41, 41, 41, 41, 41, 41, 41, 41, 41, 41, 41, 41, 41, 41, 41, 41, 41, 42, 42, 42, 43, 43, 43, 43, 43, 43, 43, 43, 43, 44, 44, 44, 44, 44, 44, 45, 45, 45, 45, 45, 45, 45, 45, 45, 46, 46, 46, 47, 47, 47, 47, 47, 47, 47, 47, 47, 47, 47, 47, 47, 47, 47, 47, 47, 47, 48, 48, 48, 49, 49, 49, 49, 49, 49, 49, 49, 49, 49, 49, 49, 49, 49, 49, 49, 49, 49, 49, 49, 49, 50, 50, 50, 50, 50, 50, 50, 50, 50, 51, 51, 51, 51, 51, 51, 52, 52, 52, 52, 52, 52, 53, 53, 53, 53, 53, 53, 53, 53, 53, 53, 53, 53, 53, 53, 53, 54, 54, 54, 54, 54, 54, 55, 55, 55, 55, 55, 55, 56, 56, 56, 56, 56, 56, 56, 56, 56, 57, 57, 57, 57, 57, 57, 57, 57, 57, 57, 57, 57, 57, 57, 57, 57, 57, 57, 57, 57, 57, 58, 58, 58, 59, 59, 59, 59, 59, 59, 59, 59, 59, 59, 59, 59, 59, 59, 59, 59, 59, 59, 60, 60, 60, 61, 61, 61, 61, 61, 61, 61, 61, 61, 62, 62, 62, 62, 62, 62, 63, 63, 63, 63, 63, 63, 63, 63, 63, 64, 64, 64, 65, 65, 65, 65, 65, 65, 65, 65, 65, 65, 65, 65, 65, 65, 65, 65, 65, 65, 65, 65, 65, 65, 65, 65, 65, 65, 65, 65], [65]]
/-- the place of the first story of z events, their number w or more -/
def pzN (g z w : Nat) : Int := ((pzL g).getD z []).getD w 0
def wvI (g w : Int) : Nat → Int
  | 0 => w
  | t + 1 => wvI g w t / g
def mkI (g w : Int) : Nat → Int
  | 0 => 0
  | t + 1 => orS (mkI g w t) (wvI g w t % g)
def pcI (x : Int) (n : Int) : Int := smF (fun i => b01 (inS x i)) n
/-- z events of g, none twice, their number w -/
abbrev dstI (g z w : Int) : Prop := pcI (mkI g w z.toNat) g = z
theorem tb_S0 : ∀ g : Fin 5, ∀ z : Fin 5, ∀ w : Fin 256, z.val ≤ g.val → w.val < g.val ^ z.val → if dstI (g.val : Int) (z.val : Int) (w.val : Int) then pzN g.val z.val (w.val + 1) = pzN g.val z.val w.val + 1 ∧ (0 ≤ pzN g.val z.val w.val ∧ pzN g.val z.val w.val < nSN g.val) ∧ lenN g.val (pzN g.val z.val w.val).toNat = (z.val : Int) ∧ ∀ p : Fin 4, p.val < z.val → (pthN g.val (pzN g.val z.val w.val).toNat).getD p.val (-1) = wvI (g.val : Int) (w.val : Int) (z.val - 1 - p.val) % (g.val : Int) else pzN g.val z.val (w.val + 1) = pzN g.val z.val w.val := by decide +kernel
theorem tb_S1 : ∀ g : Fin 5, pzN g.val 0 0 = 0 ∧ pzN g.val (g.val + 1) 0 = nSN g.val ∧ ∀ z : Fin 5, z.val ≤ g.val → pzN g.val z.val (g.val ^ z.val) = pzN g.val (z.val + 1) 0 := by decide +kernel
theorem wvI_s {g w : Int} (t : Nat) : wvI g w (t + 1) = wvI g w t / g := rfl
theorem wvI_b {g w : Int} (hg : 0 ≤ g) (hw : 0 ≤ w ∧ w ≤ 256) : ∀ t : Nat, 0 ≤ wvI g w t ∧ wvI g w t ≤ 256
  | 0 => hw
  | t + 1 => by
    have ih := wvI_b hg hw t
    have h1 : 0 ≤ wvI g w t / g := Int.ediv_nonneg ih.1 hg
    have h2 : wvI g w t / g ≤ wvI g w t := Int.ediv_le_self _ ih.1
    show 0 ≤ wvI g w t / g ∧ wvI g w t / g ≤ 256
    omega
theorem orS_16 : ∀ x : Fin 16, ∀ b : Fin 4, 0 ≤ orS (x.val : Int) (b.val : Int) ∧ orS (x.val : Int) (b.val : Int) < 16 := by decide +kernel
theorem mkI_b {g w : Int} (hg : 1 ≤ g ∧ g ≤ 4) : ∀ t : Nat, 0 ≤ mkI g w t ∧ mkI g w t < 16
  | 0 => by simp [mkI]
  | t + 1 => by
    have ih := mkI_b (w := w) hg t
    have h1 := Int.emod_nonneg (wvI g w t) (show g ≠ 0 by omega)
    have h2 := Int.emod_lt_of_pos (wvI g w t) (show 0 < g by omega)
    have := orS_16 ⟨(mkI g w t).toNat, by omega⟩ ⟨(wvI g w t % g).toNat, by omega⟩
    dsimp only at this
    rw [show (((mkI g w t).toNat : Nat) : Int) = mkI g w t by omega, show (((wvI g w t % g).toNat : Nat) : Int) = wvI g w t % g by omega] at this
    exact this
theorem pcI_s {x i : Int} (h : 0 ≤ i) : pcI x (i + 1) = pcI x i + b01 (inS x i) := smF_s _ h
theorem pcI_b {x i : Int} (h : 0 ≤ i) : 0 ≤ pcI x i ∧ pcI x i ≤ i := smF_01 h
theorem mo_lw_cnt {G : GT} {S : Shp} {σ : Sto} {m : Nat} {z w x u v : Int} {gn : Int} {gf : Int → Int} {Q : Option Value → Shp → Sto → Prop} (hA : IsMod S m) (hg : mMb σ m gf gn) (hx : 0 ≤ x ∧ x < 16) (hz : 0 ≤ z ∧ z ≤ 4) (hQ : Q (some (.int (iI (b01 (pcI x gn = z))))) S σ) : ∀ (t : Nat) (i : Int), 0 ≤ i → i ≤ gn → gn - i < t → PW (fm G mX12_layWay 0 0 0 Q) G S (σ) 0 0 61 [(0, .ref m), (1, .int (iI (z))), (2, .int (iI (w))), (3, .int (iI (v))), (4, .int (iI (x))), (5, .int (iI (pcI x i))), (6, .int (iI (i)))] [] := by
  obtain ⟨hM0, hM1, hM2, hM3, hM4, hM5, hM6, hM7, hM8, hM9, hM10, hM11, hM12, hM13, hM14, hM15, hM16, hM17, hM18, hM19, hM20, hM21, hM22, hM23, hM24, hM25, hM26, hM27, hM28, hM29, hM30, hM31, hM32, hM33, hM34⟩ := id hA
  have hgn := hg.1
  have hgb := hg.2.1
  intro t
  induction t with
  | zero => intro i h1 h2 h3; omega
  | succ t ih =>
    intro i h1 h2 h3
    have hpb := pcI_b (x := x) h1
    have hps := pcI_s (x := x) h1
    have hbb := b01_b (inS x i)
    refine PW.iload dX12_layWay_61 rfl ?_
    refine PW.aload_n dX12_layWay_63 rfl ?_
    refine PW.getI 38 fl_X12_233 rfl (by assumption) rfl rfl dX12_layWay_64 ?_
    refine PW.top gn (by exact hgn) ?_
    refine PW.icmp_ge 88 dX12_layWay_67 (by decide) (by first | assumption | (unfold inR; omega)) (by first | assumption | (unfold inR; omega)) (fun h67 => ?_) (fun h67 => ?_)
    · refine PW.iload dX12_layWay_88 rfl ?_
      refine PW.iload_n dX12_layWay_90 rfl ?_
      refine PW.icmp_ne 98 dX12_layWay_91 (by decide) (by first | assumption | (unfold inR; omega)) (by first | assumption | (unfold inR; omega)) (fun h91 => ?_) (fun h91 => ?_)
      · refine PW.iconst dX12_layWay_98 ?_
        have hi : i = gn := by omega
        subst hi
        first
          | (rw [b01_t (show pcI x i = z by omega)] at hQ
             exact PW.iret rfl rfl dX12_layWay_99 hQ)
          | (rw [b01_f (show ¬ pcI x i = z by omega)] at hQ
             exact PW.iret rfl rfl dX12_layWay_99 hQ)
      · refine PW.iconst dX12_layWay_94 ?_
        refine PW.goto 99 dX12_layWay_95 (by decide) ?_
        have hi : i = gn := by omega
        subst hi
        first
          | (rw [b01_t (show pcI x i = z by omega)] at hQ
             exact PW.iret rfl rfl dX12_layWay_99 hQ)
          | (rw [b01_f (show ¬ pcI x i = z by omega)] at hQ
             exact PW.iret rfl rfl dX12_layWay_99 hQ)
    · refine PW.iload dX12_layWay_70 rfl ?_
      refine PW.iload dX12_layWay_72 rfl ?_
      refine PW.iload dX12_layWay_74 rfl ?_
      refine PW.ishr dX12_layWay_76 ?_
      refine PW.iconst dX12_layWay_77 ?_
      skip
      refine PW.iand dX12_layWay_78 ?_
      refine PW.top (b01 (inS x i)) (inS_eq (by omega) (by omega)) ?_
      refine PW.iadd dX12_layWay_79 ?_
      refine PW.istore [(0, _), (1, _), (2, _), (3, _), (4, _), (5, _), (6, _)] dX12_layWay_80 rfl (Nat.le_of_ble_eq_true rfl) ?_
      refine PW.iinc [(0, _), (1, _), (2, _), (3, _), (4, _), (5, _), (6, _)] dX12_layWay_82 rfl rfl (Nat.le_of_ble_eq_true rfl) ?_
      refine PW.goto 61 dX12_layWay_85 (by decide) ?_
      have e := ih (i + 1) (by omega) (by omega) (by omega)
      rw [hps] at e
      exact e
theorem mo_lw_loop {G : GT} {S : Shp} {σ : Sto} {m : Nat} {z w : Int} {gn : Int} {gf : Int → Int} {Q : Option Value → Shp → Sto → Prop} (hA : IsMod S m) (hg : mMb σ m gf gn) (hz : 0 ≤ z ∧ z ≤ gn) (hw : 0 ≤ w ∧ w ≤ 255) (hQ : ∀ f : Int → Int, (∀ p, -1 < p → p < z → f p = wvI gn w (z - 1 - p).toNat % gn) → Q (some (.int (iI (b01 (dstI gn z w))))) S (upS σ (m + 34) f)) : ∀ (t : Nat) (i : Int) (f : Int → Int), -1 ≤ i → i < z → i + 1 < t → (∀ p, i < p → p < z → f p = wvI gn w (z - 1 - p).toNat % gn) → PW (fm G mX12_layWay 0 0 0 Q) G S (upS σ (m + 34) f) 0 0 10 [(0, .ref m), (1, .int (iI (z))), (2, .int (iI (w))), (3, .int (iI (wvI gn w (z - 1 - i).toNat))), (4, .int (iI (mkI gn w (z - 1 - i).toNat))), (5, .int (iI (i)))] [] := by
  obtain ⟨hM0, hM1, hM2, hM3, hM4, hM5, hM6, hM7, hM8, hM9, hM10, hM11, hM12, hM13, hM14, hM15, hM16, hM17, hM18, hM19, hM20, hM21, hM22, hM23, hM24, hM25, hM26, hM27, hM28, hM29, hM30, hM31, hM32, hM33, hM34⟩ := id hA
  have hgn := hg.1
  have hgb := hg.2.1
  intro t
  induction t with
  | zero => intro i f h1 h2 h3 g1; omega
  | succ t ih =>
    intro i f h1 h2 h3 g1
    have hwb := wvI_b (g := gn) (w := w) (by omega) (by omega) (z - 1 - i).toNat
    refine PW.iload dX12_layWay_10 rfl ?_
    refine PW.if_lt 55 dX12_layWay_12 (by decide) (by first | assumption | (unfold inR; omega)) (fun h12 => ?_) (fun h12 => ?_)
    · refine PW.iconst dX12_layWay_55 ?_
      refine PW.istore [(0, _), (1, _), (2, _), (3, _), (4, _), (5, _)] dX12_layWay_56 rfl (Nat.le_of_ble_eq_true rfl) ?_
      refine PW.iconst dX12_layWay_58 ?_
      refine PW.istore [(0, _), (1, _), (2, _), (3, _), (4, _), (5, _), (6, _)] dX12_layWay_59 rfl (Nat.le_of_ble_eq_true rfl) ?_
      have hi : i = -1 := by omega
      subst hi
      have e0 : pcI (mkI gn w z.toNat) 0 = 0 := rfl
      have ez : (z - 1 - -1).toNat = z.toNat := by omega
      rw [ez] at *
      have hx : 0 ≤ mkI gn w z.toNat ∧ mkI gn w z.toNat < 16 := by
        by_cases q : gn = 0
        · rw [show z.toNat = 0 by omega]
          show (0 : Int) ≤ 0 ∧ (0 : Int) < 16
          decide
        · exact mkI_b (by omega) _
      have kk := mo_lw_cnt (G := G) (S := S) (σ := upS σ (m + 34) f) (z := z) (w := w) (v := wvI gn w z.toNat) (u := 0) hA (mMb_congr (by rw [upS_ne (by omega)]) (upS_ne (by omega)) (upS_ne (by omega)) hg) hx (by omega) (hQ f g1) 5 0 (by omega) (by omega) (by omega)
      rw [e0] at kk
      exact kk
    · have hmb := mkI_b (g := gn) (w := w) (by omega) (z - 1 - i).toNat
      have d1 := Int.emod_nonneg (wvI gn w (z - 1 - i).toNat) (show gn ≠ 0 by omega)
      have d2 := Int.emod_lt_of_pos (wvI gn w (z - 1 - i).toNat) (show 0 < gn by omega)
      have es : (z - 1 - (i + -1)).toNat = (z - 1 - i).toNat + 1 := by omega
      refine PW.aload_n dX12_layWay_15 rfl ?_
      refine PW.getR fl_X12_116 rfl (by assumption) rfl dX12_layWay_16 ?_
      refine PW.iload dX12_layWay_19 rfl ?_
      refine PW.iload_n dX12_layWay_21 rfl ?_
      refine PW.aload_n dX12_layWay_22 rfl ?_
      refine PW.getI 38 fl_X12_233 rfl (by assumption) rfl rfl dX12_layWay_23 ?_
      refine PW.top gn (by rw [upS_ne (by omega)]; exact hgn) ?_
      refine PW.irem (by unfold inR; omega) (by omega) dX12_layWay_26 ?_
      refine PW.top (wvI gn w (z - 1 - i).toNat % gn) (by rw [tdv_nn (by omega) (by unfold inR; omega) (by unfold inR; omega), Int.mul_comm, ← Int.emod_def]) ?_
      refine PW.iastore (by assumption) (by first | assumption | (unfold inR; omega)) (by omega) (by omega) dX12_layWay_27 ?_
      refine PW.iload_n dX12_layWay_28 rfl ?_
      refine PW.aload_n dX12_layWay_29 rfl ?_
      refine PW.getI 38 fl_X12_233 rfl (by assumption) rfl rfl dX12_layWay_30 ?_
      refine PW.top gn (by rw [upS_ne (by omega), upS_ne (by omega)]; exact hgn) ?_
      refine PW.idiv (by unfold inR; omega) (by omega) dX12_layWay_33 ?_
      refine PW.top (wvI gn w (z - 1 - i).toNat / gn) (tdv_nn (by omega) (by unfold inR; omega) (by unfold inR; omega)) ?_
      refine PW.istore_n [(0, _), (1, _), (2, _), (3, _), (4, _), (5, _)] dX12_layWay_34 rfl (Nat.le_of_ble_eq_true rfl) ?_
      refine PW.iload dX12_layWay_35 rfl ?_
      refine PW.iconst dX12_layWay_37 ?_
      refine PW.aload_n dX12_layWay_38 rfl ?_
      refine PW.getR fl_X12_116 rfl (by assumption) rfl dX12_layWay_39 ?_
      refine PW.iload dX12_layWay_42 rfl ?_
      refine PW.iaload (by assumption) (by unfold inR; omega) (by omega) (by omega) dX12_layWay_44 ?_
      refine PW.top (wvI gn w (z - 1 - i).toNat % gn) (by rw [upS_same, up1_same]) ?_
      refine PW.ishl dX12_layWay_45 ?_
      refine PW.ior dX12_layWay_46 ?_
      refine PW.top (orS (mkI gn w (z - 1 - i).toNat) (wvI gn w (z - 1 - i).toNat % gn)) (orS_eq (by omega) (by omega)) ?_
      refine PW.istore [(0, _), (1, _), (2, _), (3, _), (4, _), (5, _)] dX12_layWay_47 rfl (Nat.le_of_ble_eq_true rfl) ?_
      refine PW.iinc [(0, _), (1, _), (2, _), (3, _), (4, _), (5, _)] dX12_layWay_49 rfl rfl (Nat.le_of_ble_eq_true rfl) ?_
      refine PW.goto 10 dX12_layWay_52 (by decide) ?_
      refine PW.st (upS σ (m + 34) (up1 f i (wvI gn w (z - 1 - i).toNat % gn))) (by rw [upS_upS, upS_same]) ?_
      have e := ih (i + -1) (up1 f i (wvI gn w (z - 1 - i).toNat % gn)) (by omega) (by omega) (by omega) (fun p p0 p1 => by
        by_cases hp : p = i
        · rw [hp, up1_same]
        · rw [up1_ne hp]
          exact g1 p (by omega) p1)
      rw [es] at e
      exact e
theorem c_X12_layWay {G : GT} {S : Shp} {σ : Sto} {m : Nat} {z w : Int} {gn : Int} {gf : Int → Int} (hA : IsMod S m) (hg : mMb σ m gf gn) (hz : 0 ≤ z ∧ z ≤ gn) (hw : 0 ≤ w ∧ w ≤ 255) : PMet G mX12_layWay 0 0 0 [.ref m, .int (iI z), .int (iI w)] S σ (fun r S' τ => S' = S ∧ r = some (.int (iI (b01 (dstI gn z w)))) ∧ ∃ f : Int → Int, τ = upS σ (m + 34) f ∧ (∀ p, -1 < p → p < z → f p = wvI gn w (z - 1 - p).toNat % gn)) := by
  obtain ⟨hM0, hM1, hM2, hM3, hM4, hM5, hM6, hM7, hM8, hM9, hM10, hM11, hM12, hM13, hM14, hM15, hM16, hM17, hM18, hM19, hM20, hM21, hM22, hM23, hM24, hM25, hM26, hM27, hM28, hM29, hM30, hM31, hM32, hM33, hM34⟩ := id hA
  have hgn := hg.1
  have hgb := hg.2.1
  refine PMet.of [(0, .ref m), (1, .int (iI (z))), (2, .int (iI (w)))] (by decide +kernel) rfl (Nat.le_of_ble_eq_true rfl) ?_
  refine PW.iload_n dX12_layWay_0 rfl ?_
  refine PW.istore_n [(0, _), (1, _), (2, _), (3, _)] dX12_layWay_1 rfl (Nat.le_of_ble_eq_true rfl) ?_
  refine PW.iconst dX12_layWay_2 ?_
  refine PW.istore [(0, _), (1, _), (2, _), (3, _), (4, _)] dX12_layWay_3 rfl (Nat.le_of_ble_eq_true rfl) ?_
  refine PW.iload_n dX12_layWay_5 rfl ?_
  refine PW.iconst dX12_layWay_6 ?_
  refine PW.isub dX12_layWay_7 ?_
  refine PW.istore [(0, _), (1, _), (2, _), (3, _), (4, _), (5, _)] dX12_layWay_8 rfl (Nat.le_of_ble_eq_true rfl) ?_
  refine PW.st (upS σ (m + 34) (σ (m + 34))) (upS_self _ _).symm ?_
  have e0 : (z - 1 - (z - 1)).toNat = 0 := by omega
  have e := mo_lw_loop (G := G) (S := S) hA hg hz hw (Q := fun r S' τ => S' = S ∧ r = some (.int (iI (b01 (dstI gn z w)))) ∧ ∃ f : Int → Int, τ = upS σ (m + 34) f ∧ (∀ p, -1 < p → p < z → f p = wvI gn w (z - 1 - p).toNat % gn)) (fun f h => ⟨rfl, rfl, f, rfl, h⟩) 5 (z - 1) (σ (m + 34)) (by omega) (by omega) (by omega) (fun p p0 p1 => by omega)
  rw [e0] at e
  exact e

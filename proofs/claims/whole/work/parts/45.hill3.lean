theorem evOk_eq {f g : Int → Int} {i : Int} (e : ∀ p, 0 ≤ p → p ≤ 6 → g (7 * i + p) = f (7 * i + p)) (h : evOk f i) : evOk g i := by
  have e0 := e 0 (by omega) (by omega)
  rw [Int.add_zero] at e0
  have e1 : ∀ p, 0 ≤ p → p ≤ 4 → g (7 * i + 1 + p) = f (7 * i + 1 + p) := fun p p0 p1 => by
    have := e (1 + p) (by omega) (by omega)
    rw [← Int.add_assoc] at this
    exact this
  unfold evOk
  rw [e0, e1 0 (by omega) (by omega), e1 1 (by omega) (by omega), e1 2 (by omega) (by omega), e1 3 (by omega) (by omega), e1 4 (by omega) (by omega), e 6 (by omega) (by omega)]
  refine ⟨h.1, fun p p0 p1 => ?_, h.2.2⟩
  rw [e1 p p0 p1]
  exact h.2.1 p p0 p1
theorem cpF_112 (f g : Int → Int) {j : Int} (h0 : 0 ≤ j) (h1 : j < 112) : cpF f g 0 0 112 j = f j := by
  unfold cpF
  rw [if_pos (by omega)]
  congr 1
  omega
theorem taOk_be {σ μ : Sto} {t s : Nat} (hT : taOk σ t) (hn : μ s 2 = σ t 2) {g : Int → Int} (hr : μ (s + 1) = cpF (σ (t + 1)) g 0 0 112) : taOk μ s := by
  have hT1 := hT.1
  refine ⟨by rw [hn]; exact hT1, fun i i0 i1 => ?_⟩
  rw [hn] at i1
  rw [hr]
  exact evOk_eq (fun p p0 p1 => cpF_112 _ _ (by omega) (by omega)) (hT.2 i i0 i1)
/-- a byte of a long, the lowest being the 0th -/
def byU (b : Int64) (i : Int) : Int := bAnd (((b.toUInt64 >>> ((iI (8 * i)).toInt64.toUInt64 &&& Int64.toUInt64 63)).toInt64).toInt32).toInt 255
def fdF (B : Int → Int) (z c m : Int) (b : Int64) : Int → Int := fun q => if z ≤ q ∧ q < z + c then byU b (m - (q - z)) else B q
theorem fdF_0 (B : Int → Int) (z m : Int) (b : Int64) : fdF B z 0 m b = B := by
  funext q
  unfold fdF
  rw [if_neg (by omega)]
theorem fdF_s (B : Int → Int) (z m : Int) (b : Int64) {c : Int} (h : 0 ≤ c) : up1 (fdF B z c m b) (z + c) (byU b (m - c)) = fdF B z (c + 1) m b := by
  funext q
  unfold up1 fdF
  try dsimp only
  by_cases e : q = z + c
  · rw [if_pos e, if_pos (by omega), e]
    congr 1
    omega
  · rw [if_neg e]
    by_cases e2 : z ≤ q ∧ q < z + c
    · rw [if_pos e2, if_pos (by omega)]
    · rw [if_neg e2, if_neg (by omega)]
theorem feed_loop {G : GT} {S : Shp} {σ : Sto} {h : Nat} {n : Int} {b : Int64} {Q : Option Value → Shp → Sto → Prop} (hA : IsHill S h) (hn : 1 ≤ n ∧ n ≤ 8) (hz : 0 ≤ (σ (h + 12) 2) ∧ (σ (h + 12) 2) ≤ 300 - n) (hQ : Q (some (.int (iI ((σ (h + 12) 2) + n)))) S (upS (upS σ (h + 12 + 1) (fdF (σ (h + 12 + 1)) (σ (h + 12) 2) (n) (n - 1) b)) (h + 12) (up1 (σ (h + 12)) 2 ((σ (h + 12) 2) + (n))))) : ∀ (t : Nat) (i : Int), -1 ≤ i → i ≤ n - 1 → i + 1 < t → PW (fm G mX11_feed 2 0 0 Q) G S (upS (upS σ (h + 12 + 1) (fdF (σ (h + 12 + 1)) (σ (h + 12) 2) (n - 1 - i) (n - 1) b)) (h + 12) (up1 (σ (h + 12)) 2 ((σ (h + 12) 2) + (n - 1 - i)))) 0 0 37 [(0, .ref h), (1, .int (iI (n))), (2, .long b), (4, .int (iI (i)))] [] := by
  obtain ⟨hH0, hEv, hMi, hDf, hVr, hKp, hTx, hLd, hOt, hEn, hSg, hAg, hDw, hTe, hHo, hVs⟩ := id hA
  have hTx0 := hTx.1
  intro t
  induction t with
  | zero => intro i h1 h2 h3; omega
  | succ t ih =>
    intro i h1 h2 h3
    have e2 : (upS (upS σ (h + 12 + 1) (fdF (σ (h + 12 + 1)) (σ (h + 12) 2) (n - 1 - i) (n - 1) b)) (h + 12) (up1 (σ (h + 12)) 2 ((σ (h + 12) 2) + (n - 1 - i)))) (h + 12) 2 = (σ (h + 12) 2) + (n - 1 - i) := by rw [upS_same, up1_same]
    refine PW.iload dX11_feed_37 rfl ?_
    refine PW.if_lt 67 dX11_feed_39 (by decide) (by first | (unfold inR; omega) | assumption) (fun h39 => ?_) (fun h39 => ?_)
    · refine PW.aload_n dX11_feed_67 rfl ?_
      refine PW.getR fl_X11_33 rfl (by assumption) rfl dX11_feed_68 ?_
      refine PW.callVr (c_X10_size hTx) cv_X10_size lk_X11_165 (by first | assumption | exact And.left (by assumption)) dX11_feed_71 rfl rfl rfl rfl ?_
      have hi : i = -1 := by omega
      subst hi
      refine PW.top ((σ (h + 12) 2) + n) (by rw [e2]; omega) ?_
      rw [show n - 1 - -1 = n by omega]
      exact PW.iret rfl rfl dX11_feed_74 hQ
    · refine PW.aload_n dX11_feed_42 rfl ?_
      refine PW.getR fl_X11_33 rfl (by assumption) rfl dX11_feed_43 ?_
      refine PW.lload_n dX11_feed_46 rfl ?_
      refine PW.bipush (by decide) dX11_feed_47 ?_
      refine PW.iload dX11_feed_49 rfl ?_
      refine PW.imul dX11_feed_51 ?_
      refine PW.lushr (hd := dX11_feed_52) rfl ?_
      refine PW.l2i (iI_of _).symm dX11_feed_53 ?_
      refine PW.sipush (by decide) dX11_feed_54 ?_
      refine PW.iand dX11_feed_57 ?_
      refine PW.top (byU b i) rfl ?_
      refine PW.callVv (c_X10_add hTx (by rw [e2]; omega)) cv_X10_add lk_X11_173 (by first | assumption | exact And.left (by assumption)) dX11_feed_58 rfl rfl rfl rfl ?_
      refine PW.st (upS (upS σ (h + 12 + 1) (fdF (σ (h + 12 + 1)) (σ (h + 12) 2) (n - 1 - i + 1) (n - 1) b)) (h + 12) (up1 (σ (h + 12)) 2 ((σ (h + 12) 2) + (n - 1 - i + 1)))) ?_ ?_
      · rw [upS_comm (show h + 12 + 1 ≠ h + 12 by omega)]
        rw [e2, upS_same, up1_up1, upS_upS]
        rw [show (upS (upS σ (h + 12 + 1) (fdF (σ (h + 12 + 1)) (σ (h + 12) 2) (n - 1 - i) (n - 1) b)) (h + 12) (up1 (σ (h + 12)) 2 ((σ (h + 12) 2) + (n - 1 - i)))) (h + 12 + 1) = fdF (σ (h + 12 + 1)) (σ (h + 12) 2) (n - 1 - i) (n - 1) b by rw [upS_ne (by omega), upS_same]]
        have ef := fdF_s (σ (h + 12 + 1)) (σ (h + 12) 2) (n - 1) b (c := n - 1 - i) (by omega)
        rw [show n - 1 - (n - 1 - i) = i by omega] at ef
        rw [ef, Int.add_assoc, upS_comm (show h + 12 ≠ h + 12 + 1 by omega), upS_upS]
      refine PW.iinc [(0, _), (1, _), (2, _), (4, _)] dX11_feed_61 rfl rfl (Nat.le_of_ble_eq_true rfl) ?_
      refine PW.goto 37 dX11_feed_64 (by decide) ?_
      have e := ih (i + -1) (by omega) (by omega) (by omega)
      rw [show n - 1 - (i + -1) = n - 1 - i + 1 by omega] at e
      exact e
theorem c_X11_feed {G : GT} {S : Shp} {σ : Sto} {h : Nat} {n : Int} {b : Int64} (hA : IsHill S h) (rn : inR n) (hz : 0 ≤ (σ (h + 12) 2) ∧ (σ (h + 12) 2) ≤ 300) : PMet G mX11_feed 2 0 0 [.ref h, .int (iI n), .long b] S σ (isP (some (.int (iI (if ¬ (1 ≤ n ∧ n ≤ 8) then -100002 else if 300 - n < (σ (h + 12) 2) then -100004 else (σ (h + 12) 2) + n)))) S (if (1 ≤ n ∧ n ≤ 8) ∧ ¬ 300 - n < (σ (h + 12) 2) then upS (upS σ (h + 12 + 1) (fdF (σ (h + 12 + 1)) (σ (h + 12) 2) (n) (n - 1) b)) (h + 12) (up1 (σ (h + 12)) 2 ((σ (h + 12) 2) + (n))) else σ)) := by
  obtain ⟨hH0, hEv, hMi, hDf, hVr, hKp, hTx, hLd, hOt, hEn, hSg, hAg, hDw, hTe, hHo, hVs⟩ := id hA
  refine PMet.of [(0, .ref h), (1, .int (iI n)), (2, .long b)] (by decide +kernel) rfl (Nat.le_of_ble_eq_true rfl) ?_
  refine PW.iload_n dX11_feed_0 rfl ?_
  refine PW.iconst dX11_feed_1 ?_
  refine PW.icmp_lt 11 dX11_feed_2 (by decide) (by first | (unfold inR; omega) | assumption) (by first | (unfold inR; omega) | assumption) (fun h2 => ?_) (fun h2 => ?_)
  · refine PW.ldc (-100002) kc_X11_101 rfl rfl dX11_feed_11 ?_
    exact PW.iret rfl rfl dX11_feed_13 ⟨ret_eq (by rw [if_pos (by omega)]), rfl, by rw [if_neg (by omega)]⟩
  · refine PW.iload_n dX11_feed_5 rfl ?_
    refine PW.bipush (by decide) dX11_feed_6 ?_
    refine PW.icmp_le 14 dX11_feed_8 (by decide) (by first | (unfold inR; omega) | assumption) (by first | (unfold inR; omega) | assumption) (fun h8 => ?_) (fun h8 => ?_)
    · refine PW.aload_n dX11_feed_14 rfl ?_
      refine PW.getR fl_X11_33 rfl (by assumption) rfl dX11_feed_15 ?_
      refine PW.callVr (c_X10_size hTx) cv_X10_size lk_X11_165 (by first | assumption | exact And.left (by assumption)) dX11_feed_18 rfl rfl rfl rfl ?_
      refine PW.sipush (by decide) dX11_feed_21 ?_
      refine PW.iload_n dX11_feed_24 rfl ?_
      refine PW.isub dX11_feed_25 ?_
      refine PW.icmp_le 32 dX11_feed_26 (by decide) (by first | (unfold inR; omega) | assumption) (by first | (unfold inR; omega) | assumption) (fun h26 => ?_) (fun h26 => ?_)
      · refine PW.iload_n dX11_feed_32 rfl ?_
        refine PW.iconst dX11_feed_33 ?_
        refine PW.isub dX11_feed_34 ?_
        refine PW.istore [(0, _), (1, _), (2, _), (4, _)] dX11_feed_35 rfl (Nat.le_of_ble_eq_true rfl) ?_
        refine PW.st (upS (upS σ (h + 12 + 1) (fdF (σ (h + 12 + 1)) (σ (h + 12) 2) (n - 1 - (n - 1)) (n - 1) b)) (h + 12) (up1 (σ (h + 12)) 2 ((σ (h + 12) 2) + (n - 1 - (n - 1))))) ?_ (feed_loop hA (by omega) (by omega) ⟨?_, rfl, ?_⟩ 9 (n - 1) (by omega) (by omega) (by omega))
        · rw [show n - 1 - (n - 1) = 0 by omega, fdF_0, upS_self, Int.add_zero, up1_self, upS_self]
        · rw [if_neg (by omega), if_neg (by omega)]
        · rw [if_pos ⟨by omega, by omega⟩]
      · refine PW.ldc (-100004) kc_X11_106 rfl rfl dX11_feed_29 ?_
        exact PW.iret rfl rfl dX11_feed_31 ⟨ret_eq (by rw [if_neg (by omega), if_pos (by omega)]), rfl, by rw [if_neg (by omega)]⟩
    · refine PW.ldc (-100002) kc_X11_101 rfl rfl dX11_feed_11 ?_
      exact PW.iret rfl rfl dX11_feed_13 ⟨ret_eq (by rw [if_pos (by omega)]), rfl, by rw [if_neg (by omega)]⟩
theorem rdC_b (B : Int → Int) (z n p : Int) : 0 ≤ (rdC B z n p).1 ∧ (rdC B z n p).1 ≤ 3 := by
  have rl : ∀ (c : Nat) (i q : Int) (g : Int → Int) (k : Int), 0 ≤ (rdL B z k c i q g).1 ∧ (rdL B z k c i q g).1 ≤ 3 := by
    intro c
    induction c with
    | zero => intro i q g k; simp [rdL]
    | succ c ih =>
      intro i q g k
      simp only [rdL]
      split
      · exact ih _ _ _ _
      · exact rdFt_b _ _ _ _ _ _
  unfold rdC
  split
  · simp
  · split
    · simp
    · split
      · exact rl _ _ _ _ _
      · split <;> simp
theorem rdT_b (B : Int → Int) (z : Int) : ∀ (c : Nat) (n p : Int) (f : Int → Int), 0 ≤ (rdT B z c n p f).1 ∧ (rdT B z c n p f).1 ≤ 3
  | 0, _, _, _ => by simp [rdT]
  | c + 1, n, p, f => by
    simp only [rdT]
    split
    · simp
    · split
      · exact rdT_b B z c _ _ _
      · exact rdC_b _ _ _ _
set_option maxRecDepth 20000 in
theorem c_X11_read {G : GT} {S : Shp} {σ : Sto} {h : Nat} (hA : IsHill S h) (hb : bsOk (σ (h + 12 + 1)) (σ (h + 12) 2)) : PMet G mX11_read 9 0 0 [.ref h] S σ (fun r S' τ => S' = S ∧ r = some (.int (iI (if (rdT (σ (h + 12 + 1)) (σ (h + 12) 2) 17 0 0 (σ (h + 7 + 1))).1 = 0 then (rdT (σ (h + 12 + 1)) (σ (h + 12) 2) 17 0 0 (σ (h + 7 + 1))).2.2.1 else -10 - (rdT (σ (h + 12 + 1)) (σ (h + 12) 2) 17 0 0 (σ (h + 7 + 1))).1))) ∧ ∃ μ : Sto, τ = (if (rdT (σ (h + 12 + 1)) (σ (h + 12) 2) 17 0 0 (σ (h + 7 + 1))).1 = 0 then rnS μ h else μ) ∧ (∀ b, b ≠ h + 12 → b ≠ h + 14 → b ≠ h + 7 → b ≠ h + 8 → b ≠ h + 1 → b ≠ h + 2 → μ b = σ b) ∧ μ (h + 12) 2 = 0 ∧ μ (h + 12) 4 = (rdT (σ (h + 12 + 1)) (σ (h + 12) 2) 17 0 0 (σ (h + 7 + 1))).2.1 ∧ ((rdT (σ (h + 12 + 1)) (σ (h + 12) 2) 17 0 0 (σ (h + 7 + 1))).1 = 0 → taOk μ (h + 1) ∧ μ (h + 1) 2 = (rdT (σ (h + 12 + 1)) (σ (h + 12) 2) 17 0 0 (σ (h + 7 + 1))).2.2.1 ∧ μ (h + 1 + 1) = cpF (rdT (σ (h + 12 + 1)) (σ (h + 12) 2) 17 0 0 (σ (h + 7 + 1))).2.2.2 (σ (h + 1 + 1)) 0 0 112) ∧ (¬ (rdT (σ (h + 12 + 1)) (σ (h + 12) 2) 17 0 0 (σ (h + 7 + 1))).1 = 0 → μ (h + 1) = σ (h + 1) ∧ μ (h + 1 + 1) = σ (h + 1 + 1))) := by
  obtain ⟨hH0, hEv, hMi, hDf, hVr, hKp, hTx, hLd, hOt, hEn, hSg, hAg, hDw, hTe, hHo, hVs⟩ := id hA
  have hz := hb.1
  have rb := rdT_b (σ (h + 12 + 1)) (σ (h + 12) 2) 17 0 0 (σ (h + 7 + 1))
  refine PMet.of [(0, .ref h)] (by decide +kernel) rfl (Nat.le_of_ble_eq_true rfl) ?_
  refine PW.aload_n dX11_read_0 rfl ?_
  refine PW.getR fl_X11_33 rfl (by assumption) rfl dX11_read_1 ?_
  refine PW.aload_n dX11_read_4 rfl ?_
  refine PW.getR fl_X11_19 rfl (by assumption) rfl dX11_read_5 ?_
  refine PW.callVg (c_X10_parse hTx hb hDf (by omega)) cv_X10_parse lk_X11_175 (by first | assumption | exact And.left (by assumption)) dX11_read_8 rfl rfl rfl rfl (fun r S' τ8 hq => ?_)
  obtain ⟨hS, rfl, x1, x2, x3, x4⟩ := hq
  have hS2 := hS.symm
  subst hS2
  refine PW.istore_n [(0, _), (1, _)] dX11_read_11 rfl (Nat.le_of_ble_eq_true rfl) ?_
  refine PW.aload_n dX11_read_12 rfl ?_
  refine PW.getR fl_X11_33 rfl (by assumption) rfl dX11_read_13 ?_
  refine PW.callVv (c_X10_empty hTx) cv_X10_empty lk_X11_178 (by first | assumption | exact And.left (by assumption)) dX11_read_16 rfl rfl rfl rfl ?_
  refine PW.iload_n dX11_read_19 rfl ?_
  refine PW.if_eq 28 dX11_read_20 (by decide) (by first | (unfold inR; omega) | assumption) (fun h20 => ?_) (fun h20 => ?_)
  · have hR : (rdT (σ (h + 12 + 1)) (σ (h + 12) 2) 17 0 0 (σ (h + 7 + 1))).1 = 0 := by assumption
    obtain ⟨y1, y2, y3⟩ := x4 hR
    refine PW.aload_n dX11_read_28 rfl ?_
    refine PW.getR fl_X11_10 rfl (by assumption) rfl dX11_read_29 ?_
    refine PW.aload_n dX11_read_32 rfl ?_
    refine PW.getR fl_X11_19 rfl (by assumption) rfl dX11_read_33 ?_
    refine PW.callVv (c_X8_become hEv hDf (by omega)) cv_X8_become lk_X11_179 (by first | assumption | exact And.left (by assumption)) dX11_read_36 rfl rfl rfl rfl ?_
    have hT3 : taOk (upS (upS (upS τ8 (h + 12) (up1 (τ8 (h + 12)) 2 0)) (h + 1 + 1) (cpF ((upS τ8 (h + 12) (up1 (τ8 (h + 12)) 2 0)) (h + 7 + 1)) ((upS τ8 (h + 12) (up1 (τ8 (h + 12)) 2 0)) (h + 1 + 1)) 0 0 112)) (h + 1) (up1 ((upS τ8 (h + 12) (up1 (τ8 (h + 12)) 2 0)) (h + 1)) 2 ((upS τ8 (h + 12) (up1 (τ8 (h + 12)) 2 0)) (h + 7) 2))) (h + 1) := taOk_be (σ := (upS τ8 (h + 12) (up1 (τ8 (h + 12)) 2 0))) (t := h + 7) (taOk_congr (upS_ne (by omega)) (upS_ne (by omega)) y3) (by rw [upS_same, up1_same]) (by rw [upS_ne (show h + 1 + 1 ≠ h + 1 by omega), upS_same])
    refine PW.aload_n dX11_read_39 rfl ?_
    refine PW.callVv (c_X11_renew hA hT3) cv_X11_renew lk_X11_111 (by first | assumption | exact And.left (by assumption)) dX11_read_40 rfl rfl rfl rfl ?_
    refine PW.aload_n dX11_read_43 rfl ?_
    refine PW.getR fl_X11_10 rfl (by assumption) rfl dX11_read_44 ?_
    refine PW.callVr (c_X8_size (by assumption)) cv_X8_size lk_X11_102 (by first | assumption | exact And.left (by assumption)) dX11_read_47 rfl rfl rfl rfl ?_
    refine PW.top (rdT (σ (h + 12 + 1)) (σ (h + 12) 2) 17 0 0 (σ (h + 7 + 1))).2.2.1 (by rw [rnS_ne (by omega), upS_same, up1_same, upS_ne (by omega)]; exact y1) ?_
    refine PW.iret rfl rfl dX11_read_50 ⟨rfl, ret_eq (by rw [if_pos hR]), (upS (upS (upS τ8 (h + 12) (up1 (τ8 (h + 12)) 2 0)) (h + 1 + 1) (cpF ((upS τ8 (h + 12) (up1 (τ8 (h + 12)) 2 0)) (h + 7 + 1)) ((upS τ8 (h + 12) (up1 (τ8 (h + 12)) 2 0)) (h + 1 + 1)) 0 0 112)) (h + 1) (up1 ((upS τ8 (h + 12) (up1 (τ8 (h + 12)) 2 0)) (h + 1)) 2 ((upS τ8 (h + 12) (up1 (τ8 (h + 12)) 2 0)) (h + 7) 2))), by rw [if_pos hR], fun b b1 b2 b3 b4 b5 b6 => ?_, ?_, ?_, fun _ => ⟨hT3, ?_, ?_⟩, fun q => absurd hR q⟩
    · rw [upS_ne b5, upS_ne b6, upS_ne b1]; exact x1 b b1 b2 b3 b4
    · rw [upS_ne (by omega), upS_ne (by omega), upS_same, up1_same]
    · rw [upS_ne (by omega), upS_ne (by omega), upS_same, up1_ne (by decide)]; exact x3
    · rw [upS_same, up1_same, upS_ne (by omega)]; exact y1
    · rw [upS_ne (show h + 1 + 1 ≠ h + 1 by omega), upS_same, upS_ne (show h + 7 + 1 ≠ h + 12 by omega), upS_ne (show h + 1 + 1 ≠ h + 12 by omega), y2, x1 (h + 1 + 1) (by omega) (by omega) (by omega) (by omega)]
  · refine PW.bipush (by decide) dX11_read_23 ?_
    refine PW.iload_n dX11_read_25 rfl ?_
    refine PW.isub dX11_read_26 ?_
    have hR : ¬ (rdT (σ (h + 12 + 1)) (σ (h + 12) 2) 17 0 0 (σ (h + 7 + 1))).1 = 0 := by assumption
    refine PW.iret rfl rfl dX11_read_27 ⟨rfl, ret_eq (by rw [if_neg hR]), _, by rw [if_neg hR], fun b b1 b2 b3 b4 b5 b6 => ?_, by rw [upS_same, up1_same], by rw [upS_same, up1_ne (by decide)]; exact x3, fun q => absurd q hR, fun _ => ⟨?_, ?_⟩⟩
    · rw [upS_ne b1]; exact x1 b b1 b2 b3 b4
    · rw [upS_ne (by omega)]; exact x1 _ (by omega) (by omega) (by omega) (by omega)
    · rw [upS_ne (by omega)]; exact x1 _ (by omega) (by omega) (by omega) (by omega)
theorem c_X11_keep {G : GT} {S : Shp} {σ : Sto} {h : Nat} {v : Int} (hA : IsHill S h) (rv : inR v) (hkp : ∀ v, 0 ≤ v → v < 4 → 0 ≤ σ (h + 11) v ∧ σ (h + 11) v ≤ 1) : PMet G mX11_keep 3 0 0 [.ref h, .int (iI (v))] S σ (isP (some (.int (iI (if ¬ (0 ≤ v ∧ v < 4) then -100002 else σ (h + 1) 2)))) S (if (0 ≤ v ∧ v < 4) then upS (upS (upS σ ((veA h v) + 1) (cpF (σ (h + 1 + 1)) (σ ((veA h v) + 1)) 0 0 112)) (veA h v) (up1 (σ (veA h v)) 2 (σ (h + 1) 2))) (h + 11) (up1 (σ (h + 11)) v 1) else σ)) := by
  obtain ⟨hH0, hEv, hMi, hDf, hVr, hKp, hTx, hLd, hOt, hEn, hSg, hAg, hDw, hTe, hHo, hVs⟩ := id hA
  refine PMet.of [(0, .ref h), (1, .int (iI (v)))] (by decide +kernel) rfl (Nat.le_of_ble_eq_true rfl) ?_
  refine PW.iload_n dX11_keep_0 rfl ?_
  refine PW.if_lt 9 dX11_keep_1 (by decide) (by first | (unfold inR; omega) | assumption) (fun h1 => ?_) (fun h1 => ?_)
  · refine PW.ldc (-100002) kc_X11_101 rfl rfl dX11_keep_9 ?_
    exact PW.iret rfl rfl dX11_keep_11 ⟨ret_eq (by rw [if_pos (by omega)]), rfl, by rw [if_neg (by omega)]⟩
  · refine PW.iload_n dX11_keep_4 rfl ?_
    refine PW.iconst dX11_keep_5 ?_
    refine PW.icmp_lt 12 dX11_keep_6 (by decide) (by first | (unfold inR; omega) | assumption) (by first | (unfold inR; omega) | assumption) (fun h6 => ?_) (fun h6 => ?_)
    · have hv := hVs v (by omega) (by omega)
      have hva : h + 461 ≤ veA h v ∧ veA h v + 3 ≤ h + 473 := by unfold veA; omega
      refine PW.aload_n dX11_keep_12 rfl ?_
      refine PW.iload_n dX11_keep_13 rfl ?_
      refine PW.callVr (c_X11_version hA (by omega)) cv_X11_version lk_X11_235 (by first | assumption | exact And.left (by assumption)) dX11_keep_14 rfl rfl rfl rfl ?_
      refine PW.aload_n dX11_keep_17 rfl ?_
      refine PW.getR fl_X11_10 rfl (by assumption) rfl dX11_keep_18 ?_
      refine PW.callVv (c_X8_become hv hEv (by omega)) cv_X8_become lk_X11_179 (by first | assumption | exact And.left (by assumption)) dX11_keep_21 rfl rfl rfl rfl ?_
      refine PW.iload_n dX11_keep_24 rfl ?_
      refine PW.aload_n dX11_keep_25 rfl ?_
      refine PW.getR fl_X11_26 rfl (by assumption) rfl dX11_keep_26 ?_
      refine PW.alen (by assumption) (by decide) dX11_keep_29 ?_
      refine PW.icmp_ge 40 dX11_keep_30 (by decide) (by first | (unfold inR; omega) | assumption) (by first | (unfold inR; omega) | assumption) (fun h30 => ?_) (fun h30 => ?_)
      · exfalso; omega
      · refine PW.aload_n dX11_keep_33 rfl ?_
        refine PW.getR fl_X11_26 rfl (by assumption) rfl dX11_keep_34 ?_
        refine PW.iload_n dX11_keep_37 rfl ?_
        refine PW.iconst dX11_keep_38 ?_
        refine PW.zastore (by assumption) (by first | (unfold inR; omega) | assumption) (by omega) (by omega) (show narrow .boolean (.int (iI 1)) = .int (iI 1) from rfl) dX11_keep_39 ?_
        refine PW.st (upS (upS (upS σ ((veA h v) + 1) (cpF (σ (h + 1 + 1)) (σ ((veA h v) + 1)) 0 0 112)) (veA h v) (up1 (σ (veA h v)) 2 (σ (h + 1) 2))) (h + 11) (up1 (σ (h + 11)) v 1)) (by rw [upS_ne (show h + 11 ≠ veA h v by omega), upS_ne (show h + 11 ≠ veA h v + 1 by omega)]) ?_
        refine PW.aload_n dX11_keep_40 rfl ?_
        refine PW.getR fl_X11_10 rfl (by assumption) rfl dX11_keep_41 ?_
        skip
        refine PW.callVr (c_X8_size (by assumption)) cv_X8_size lk_X11_102 (by first | assumption | exact And.left (by assumption)) dX11_keep_44 rfl rfl rfl rfl ?_
        refine PW.top (σ (h + 1) 2) (by rw [upS_ne (by omega), upS_ne (by omega), upS_ne (by omega)]) ?_
        exact PW.iret rfl rfl dX11_keep_47 ⟨ret_eq (by rw [if_neg (by omega)]), rfl, by rw [if_pos (by omega)]⟩
    · refine PW.ldc (-100002) kc_X11_101 rfl rfl dX11_keep_9 ?_
      exact PW.iret rfl rfl dX11_keep_11 ⟨ret_eq (by rw [if_pos (by omega)]), rfl, by rw [if_neg (by omega)]⟩
theorem c_X11_back {G : GT} {S : Shp} {σ : Sto} {h : Nat} {v : Int} (hA : IsHill S h) (rv : inR v) (hkp : ∀ v, 0 ≤ v → v < 4 → 0 ≤ σ (h + 11) v ∧ σ (h + 11) v ≤ 1) (hvt : ∀ v, 0 ≤ v → v < 4 → ¬ σ (h + 11) v = 0 → taOk σ (veA h v)) : PMet G mX11_back 7 0 0 [.ref h, .int (iI (v))] S σ (isP (some (.int (iI (if ¬ ((0 ≤ v ∧ v < 4) ∧ ¬ σ (h + 11) v = 0) then -100001 else σ (veA h v) 2)))) S (if (0 ≤ v ∧ v < 4) ∧ ¬ σ (h + 11) v = 0 then rnS (upS (upS σ (h + 1 + 1) (cpF (σ ((veA h v) + 1)) (σ (h + 1 + 1)) 0 0 112)) (h + 1) (up1 (σ (h + 1)) 2 (σ (veA h v) 2))) h else σ)) := by
  obtain ⟨hH0, hEv, hMi, hDf, hVr, hKp, hTx, hLd, hOt, hEn, hSg, hAg, hDw, hTe, hHo, hVs⟩ := id hA
  refine PMet.of [(0, .ref h), (1, .int (iI (v)))] (by decide +kernel) rfl (Nat.le_of_ble_eq_true rfl) ?_
  refine PW.aload_n dX11_back_0 rfl ?_
  refine PW.iload_n dX11_back_1 rfl ?_
  refine PW.callVr (c_X11_hasVersion hA hkp rv) cv_X11_hasVersion lk_X11_239 (by first | assumption | exact And.left (by assumption)) dX11_back_2 rfl rfl rfl rfl ?_
  refine PW.if_neB 11 dX11_back_5 (by decide) (fun h5 => ?_) (fun h5 => ?_)
  · have hq : (0 ≤ v ∧ v < 4) ∧ ¬ σ (h + 11) v = 0 := by assumption
    have hv := hVs v hq.1.1 hq.1.2
    have hva : h + 461 ≤ veA h v ∧ veA h v + 3 ≤ h + 473 := by unfold veA; omega
    have hT3 : taOk (upS (upS σ (h + 1 + 1) (cpF (σ ((veA h v) + 1)) (σ (h + 1 + 1)) 0 0 112)) (h + 1) (up1 (σ (h + 1)) 2 (σ (veA h v) 2))) (h + 1) := taOk_be (σ := σ) (t := veA h v) (hvt v hq.1.1 hq.1.2 hq.2) (by rw [upS_same, up1_same]) (by rw [upS_ne (show h + 1 + 1 ≠ h + 1 by omega), upS_same])
    refine PW.aload_n dX11_back_11 rfl ?_
    refine PW.getR fl_X11_10 rfl (by assumption) rfl dX11_back_12 ?_
    refine PW.aload_n dX11_back_15 rfl ?_
    refine PW.iload_n dX11_back_16 rfl ?_
    refine PW.callVr (c_X11_version hA hq.1) cv_X11_version lk_X11_235 (by first | assumption | exact And.left (by assumption)) dX11_back_17 rfl rfl rfl rfl ?_
    refine PW.callVv (c_X8_become hEv hv (by omega)) cv_X8_become lk_X11_179 (by first | assumption | exact And.left (by assumption)) dX11_back_20 rfl rfl rfl rfl ?_
    refine PW.aload_n dX11_back_23 rfl ?_
    refine PW.callVv (c_X11_renew hA hT3) cv_X11_renew lk_X11_111 (by first | assumption | exact And.left (by assumption)) dX11_back_24 rfl rfl rfl rfl ?_
    refine PW.aload_n dX11_back_27 rfl ?_
    refine PW.getR fl_X11_10 rfl (by assumption) rfl dX11_back_28 ?_
    refine PW.callVr (c_X8_size (by assumption)) cv_X8_size lk_X11_102 (by first | assumption | exact And.left (by assumption)) dX11_back_31 rfl rfl rfl rfl ?_
    refine PW.top (σ (veA h v) 2) (by rw [rnS_ne (by omega), upS_same, up1_same]) ?_
    exact PW.iret rfl rfl dX11_back_34 ⟨ret_eq (by rw [if_neg (fun q => q hq)]), rfl, by rw [if_pos hq]⟩
  · refine PW.ldc (-100001) kc_X11_125 rfl rfl dX11_back_8 ?_
    exact PW.iret rfl rfl dX11_back_10 ⟨ret_eq (by rw [if_pos (by assumption)]), rfl, by rw [if_neg (by assumption)]⟩
theorem c_X11_differ {G : GT} {S : Shp} {σ : Sto} {h : Nat} {v w : Int} (hA : IsHill S h) (rv : inR v) (rw_ : inR w) (hT : taOk σ (h + 1)) (hkp : ∀ v, 0 ≤ v → v < 4 → 0 ≤ σ (h + 11) v ∧ σ (h + 11) v ≤ 1) (hvt : ∀ v, 0 ≤ v → v < 4 → ¬ σ (h + 11) v = 0 → taOk σ (veA h v)) (hlc : colsOk σ (h + 15) 64) : PMet G mX11_differ 7 0 0 [.ref h, .int (iI v), .int (iI w)] S σ (fun r S' τ => S' = S ∧ r = some (.int (iI (if ¬ ((0 ≤ v ∧ v < 4) ∧ ¬ σ (h + 11) v = 0) then -100001 else if w = 0 then smF (fun n => b01 (0 < ucF σ h (veA h v) n)) 64 else if w = 1 then firI (fun n => decide (0 < ucF σ h (veA h v) n)) 64 else if w = 2 then smF (ucF σ h (veA h v)) 64 else if w = 3 then ahF (σ (h + 1 + 1)) (σ ((veA h v) + 1)) (σ (h + 1) 2) (σ (veA h v) 2) else -100002))) ∧ ∃ f : Int → Int, τ = upS σ (h + 147 + 1) f) := by
  obtain ⟨hH0, hEv, hMi, hDf, hVr, hKp, hTx, hLd, hOt, hEn, hSg, hAg, hDw, hTe, hHo, hVs⟩ := id hA
  refine PMet.of [(0, .ref h), (1, .int (iI (v))), (2, .int (iI (w)))] (by decide +kernel) rfl (Nat.le_of_ble_eq_true rfl) ?_
  refine PW.aload_n dX11_differ_0 rfl ?_
  refine PW.iload_n dX11_differ_1 rfl ?_
  refine PW.callVr (c_X11_hasVersion hA hkp rv) cv_X11_hasVersion lk_X11_239 (by first | assumption | exact And.left (by assumption)) dX11_differ_2 rfl rfl rfl rfl ?_
  refine PW.if_neB 11 dX11_differ_5 (by decide) (fun h5 => ?_) (fun h5 => ?_)
  · have hqv : (0 ≤ v ∧ v < 4) ∧ ¬ σ (h + 11) v = 0 := by assumption
    have hv := hVs v hqv.1.1 hqv.1.2
    have hva : h + 461 ≤ veA h v ∧ veA h v + 3 ≤ h + 473 := by unfold veA; omega
    have htv := hvt v hqv.1.1 hqv.1.2 hqv.2
    refine PW.iload_n dX11_differ_11 rfl ?_
    rcases (show w = 0 ∨ w = 1 ∨ w = 2 ∨ w = 3 ∨ (w < 0 ∨ 3 < w) by omega) with h12 | h12 | h12 | h12 | h12
    · refine PW.tsIn (32) 44 (by first | (unfold inR; omega) | assumption) dX11_differ_12 (by omega) (by omega) (by rw [h12]; rfl) (by decide) ?_
      refine PW.aload_n dX11_differ_44 rfl ?_
      refine PW.aload_n dX11_differ_45 rfl ?_
      refine PW.iload_n dX11_differ_46 rfl ?_
      refine PW.callVr (c_X11_version hA hqv.1) cv_X11_version lk_X11_235 (by first | assumption | exact And.left (by assumption)) dX11_differ_47 rfl rfl rfl rfl ?_
      refine PW.callVg (c_X11_unlikeColumns hA hv htv hlc (by omega)) cv_X11_unlikeColumns lk_X11_151 (by first | assumption | exact And.left (by assumption)) dX11_differ_50 rfl rfl rfl rfl (fun r S' τ50 hq => ?_)
      obtain ⟨hS, rfl, f, rfl⟩ := hq
      have hS2 := hS.symm
      subst hS2
      exact PW.iret rfl rfl dX11_differ_53 ⟨rfl, ret_eq (by rw [if_neg (fun q => q hqv), if_pos h12]), f, rfl⟩
    · refine PW.tsIn (42) 54 (by first | (unfold inR; omega) | assumption) dX11_differ_12 (by omega) (by omega) (by rw [h12]; rfl) (by decide) ?_
      refine PW.aload_n dX11_differ_54 rfl ?_
      refine PW.aload_n dX11_differ_55 rfl ?_
      refine PW.iload_n dX11_differ_56 rfl ?_
      refine PW.callVr (c_X11_version hA hqv.1) cv_X11_version lk_X11_235 (by first | assumption | exact And.left (by assumption)) dX11_differ_57 rfl rfl rfl rfl ?_
      refine PW.callVg (c_X11_firstUnlikeColumn hA hv htv hlc (by omega)) cv_X11_firstUnlikeColumn lk_X11_242 (by first | assumption | exact And.left (by assumption)) dX11_differ_60 rfl rfl rfl rfl (fun r S' τ60 hq => ?_)
      obtain ⟨hS, rfl, f, rfl⟩ := hq
      have hS2 := hS.symm
      subst hS2
      exact PW.iret rfl rfl dX11_differ_63 ⟨rfl, ret_eq (by rw [if_neg (fun q => q hqv), if_neg (show ¬ w = 0 by omega), if_pos h12]), f, rfl⟩
    · refine PW.tsIn (52) 64 (by first | (unfold inR; omega) | assumption) dX11_differ_12 (by omega) (by omega) (by rw [h12]; rfl) (by decide) ?_
      refine PW.aload_n dX11_differ_64 rfl ?_
      refine PW.aload_n dX11_differ_65 rfl ?_
      refine PW.iload_n dX11_differ_66 rfl ?_
      refine PW.callVr (c_X11_version hA hqv.1) cv_X11_version lk_X11_235 (by first | assumption | exact And.left (by assumption)) dX11_differ_67 rfl rfl rfl rfl ?_
      refine PW.callVg (c_X11_unlikeCells hA hv htv hlc (by omega)) cv_X11_unlikeCells lk_X11_245 (by first | assumption | exact And.left (by assumption)) dX11_differ_70 rfl rfl rfl rfl (fun r S' τ70 hq => ?_)
      obtain ⟨hS, rfl, f, rfl⟩ := hq
      have hS2 := hS.symm
      subst hS2
      exact PW.iret rfl rfl dX11_differ_73 ⟨rfl, ret_eq (by rw [if_neg (fun q => q hqv), if_neg (show ¬ w = 0 by omega), if_neg (show ¬ w = 1 by omega), if_pos h12]), f, rfl⟩
    · refine PW.tsIn (62) 74 (by first | (unfold inR; omega) | assumption) dX11_differ_12 (by omega) (by omega) (by rw [h12]; rfl) (by decide) ?_
      refine PW.aload_n dX11_differ_74 rfl ?_
      refine PW.getR fl_X11_10 rfl (by assumption) rfl dX11_differ_75 ?_
      refine PW.aload_n dX11_differ_78 rfl ?_
      refine PW.iload_n dX11_differ_79 rfl ?_
      refine PW.callVr (c_X11_version hA hqv.1) cv_X11_version lk_X11_235 (by first | assumption | exact And.left (by assumption)) dX11_differ_80 rfl rfl rfl rfl ?_
      refine PW.callVr (c_X8_alikeAhead hEv hv hT htv) cv_X8_alikeAhead lk_X11_248 (by first | assumption | exact And.left (by assumption)) dX11_differ_83 rfl rfl rfl rfl ?_
      exact PW.iret rfl rfl dX11_differ_86 ⟨rfl, ret_eq (by rw [if_neg (fun q => q hqv), if_neg (show ¬ w = 0 by omega), if_neg (show ¬ w = 1 by omega), if_neg (show ¬ w = 2 by omega), if_pos h12]), _, (upS_self _ _).symm⟩
    · refine PW.tsOut 87 (by first | (unfold inR; omega) | assumption) dX11_differ_12 (by omega) (by decide) ?_
      refine PW.ldc (-100002) kc_X11_101 rfl rfl dX11_differ_87 ?_
      exact PW.iret rfl rfl dX11_differ_89 ⟨rfl, ret_eq (by rw [if_neg (fun q => q hqv), if_neg (show ¬ w = 0 by omega), if_neg (show ¬ w = 1 by omega), if_neg (show ¬ w = 2 by omega), if_neg (show ¬ w = 3 by omega)]), _, (upS_self _ _).symm⟩
  · refine PW.ldc (-100001) kc_X11_125 rfl rfl dX11_differ_8 ?_
    exact PW.iret rfl rfl dX11_differ_10 ⟨rfl, ret_eq (by rw [if_pos (by assumption)]), _, (upS_self _ _).symm⟩

theorem skE_idem (B : Int → Int) (z : Int) {p : Int} (h : 0 ≤ p ∧ p ≤ z) : skE B z (skE B z p) = skE B z p := by
  have hb := skE_b B z h
  have hstop : ¬ (skE B z p < z ∧ isBl (B (skE B z p)) = true) := fun q => by
    have h2 := run_at (P := isBl) (B := B) (z := z) (skE B z p - p).toNat (p := p) (fun j j0 j1 => by
      have h3 : j < runE isBl B z p := by
        have : runE isBl B z p = skE B z p := rfl
        omega
      refine ⟨by omega, ?_⟩
      unfold runE at h3
      exact runE_at _ j0 h3)
    rw [show p + (((skE B z p - p).toNat : Nat) : Int) = skE B z p by omega] at h2
    have h1 : runE isBl B z (skE B z p) = skE B z p := h2.symm
    rw [runE_s, if_pos q] at h1
    have := (runE_b isBl B z (skE B z p + 1)).1
    omega
  show runE isBl B z (skE B z p) = _
  rw [runE_s, if_neg hstop]
/-- while the clauses are read -/
def rdP (σ τ : Sto) (m : Nat) (z : Int) (R : Int × Int × Int × (Int → Int)) : Prop :=
  (∀ b, b ≠ m → b ≠ m + 6 → b ≠ m + 8 → b ≠ m + 9 → τ b = σ b) ∧ (∀ j, j ≠ 9 → j ≠ 10 → j ≠ 11 → j ≠ 12 → j ≠ 13 → j ≠ 16 → τ m j = σ m j) ∧ (0 ≤ τ m 9 ∧ τ m 9 ≤ z) ∧
  ((τ m 10 = 0 ∧ τ m 11 = -1 ∧ (0 ≤ τ m 16 ∧ τ m 16 ≤ 16) ∧ ∃ F : Int → Int, mRw (τ (m + 8)) (τ (m + 9)) F (τ m 16) ∧ (∀ i, 0 ≤ i → i < τ m 16 → F (7 * i + 6) = 0) ∧ rdT (σ (m + 7)) z (17 - τ m 16).toNat (τ m 16) (τ m 9) F = R) ∨ (τ m 10 = R.1 ∧ (1 ≤ R.1 ∧ R.1 ≤ 3) ∧ τ m 11 = R.2.1))
theorem rdP_s {σ τ μ : Sto} {m : Nat} {z : Int} {R : Int × Int × Int × (Int → Int)} (h : rdP σ τ m z R) (hb : bsOk (σ (m + 7)) z) (h0 : τ m 10 = 0) (hz : skE (σ (m + 7)) z (τ m 9) < z) (hc : rcP (upS τ m (up1 (τ m) 9 (skE (σ (m + 7)) z (τ m 9)))) μ m z (τ m 16) (rdC (σ (m + 7)) z (τ m 16) (skE (σ (m + 7)) z (τ m 9)))) : rdP σ μ m z R ∧ (μ m 10 = 0 → μ m 16 = τ m 16 + 1) := by
  obtain ⟨a1, a2, a3, a4⟩ := h
  obtain ⟨b1, b2, b3, b4, b5⟩ := hc
  have hs0 := skE_b (σ (m + 7)) z a3
  rcases a4 with ⟨-, q2, q3, F, q4, q5, q6⟩ | ⟨q1, q2, q3⟩
  · rw [show (17 - τ m 16).toNat = (16 - τ m 16).toNat + 1 by omega] at q6
    simp only [rdT] at q6
    rw [if_neg (show ¬ z ≤ skE (σ (m + 7)) z (τ m 9) by omega)] at q6
    have hbc := rdC_b (σ (m + 7)) z (τ m 16) (skE (σ (m + 7)) z (τ m 9))
    have f1 : ∀ b, b ≠ m → b ≠ m + 6 → b ≠ m + 8 → b ≠ m + 9 → μ b = σ b := fun b c0 c6 c8 c9 => by rw [b1 b c0 c6 c8 c9, upS_ne c0]; exact a1 b c0 c6 c8 c9
    have f2 : ∀ j, j ≠ 9 → j ≠ 10 → j ≠ 11 → j ≠ 12 → j ≠ 13 → j ≠ 16 → μ m j = σ m j := fun j j9 j10 j11 j12 j13 j16 => by rw [b2 j j9 j10 j11 j12 j13 j16, upS_same, up1_ne j9]; exact a2 j j9 j10 j11 j12 j13 j16
    have o8 : (upS τ m (up1 (τ m) 9 (skE (σ (m + 7)) z (τ m 9)))) (m + 8) = τ (m + 8) := upS_ne (by omega)
    have o9 : (upS τ m (up1 (τ m) 9 (skE (σ (m + 7)) z (τ m 9)))) (m + 9) = τ (m + 9) := upS_ne (by omega)
    have o11 : (upS τ m (up1 (τ m) 9 (skE (σ (m + 7)) z (τ m 9)))) m 11 = τ m 11 := by rw [upS_same, up1_ne (by decide)]
    rw [o8, o9, o11] at b4
    by_cases hr : (rdC (σ (m + 7)) z (τ m 16) (skE (σ (m + 7)) z (τ m 9))).1 = 0
    · rw [if_pos hr] at q6
      obtain ⟨c1, c2, c3, c4, c5, c6⟩ := b4 hr
      obtain ⟨k1, k2, k3, k4, k5⟩ := rdC_k hb ⟨by omega, hz⟩ hr
      have k3' : OKV _ _ _ _ _ _ := k3
      clear k3
      generalize rdC (σ (m + 7)) z (τ m 16) (skE (σ (m + 7)) z (τ m 9)) = C at *
      refine ⟨⟨f1, f2, b3, Or.inl ⟨c1, c2.trans q2, by omega, _, ?_, ?_, by rw [c4, c3, show (17 - (τ m 16 + 1)).toNat = (16 - τ m 16).toNat by omega]; exact q6⟩⟩, fun _ => c4⟩
      · rw [c4, c5, c6]
        intro i i0 i1
        by_cases hi : i = τ m 16
        · subst hi
          refine ⟨adF_new k3', ?_, fun p p0 p1 => ?_⟩
          · rw [up1_same]
            unfold adF
            rw [if_pos (by omega), show 7 * τ m 16 - 7 * τ m 16 = 0 by omega]
            rfl
          · unfold pfF adF
            rw [if_pos (by omega), if_pos (by omega), show 7 * τ m 16 + 1 + p - 7 * τ m 16 = 1 + p by omega]
            have := rowF_g (g := C.2.2.2.2) k1 (fun j j0 j1 => by
              unfold nzF giF
              by_cases hj : j < xT 0 C.2.2.2.1
              · rw [if_pos hj]
                rcases (show j = 0 ∨ j = 1 ∨ j = 2 ∨ j = 3 ∨ j = 4 by omega) with rfl | rfl | rfl | rfl | rfl <;> rfl
              · rw [if_neg hj]
                exact k4 j (by omega) j1) p p0 p1
            rw [this]
            dsimp only
            rw [show 5 * τ m 16 + p - 5 * τ m 16 = p by omega]
        · obtain ⟨d1, d2, d3⟩ := q4 i i0 (by omega)
          refine ⟨adF_old (by omega) d1, ?_, fun p p0 p1 => ?_⟩
          · rw [up1_ne hi]
            unfold adF
            rw [if_neg (by omega)]
            exact d2
          · unfold pfF adF
            rw [if_neg (by omega), if_neg (by omega)]
            exact d3 p p0 p1
      · intro i i0 i1
        rw [c4] at i1
        by_cases hi : i = τ m 16
        · subst hi
          unfold adF
          rw [if_pos (by omega), show 7 * τ m 16 + 6 - 7 * τ m 16 = 6 by omega]
          rfl
        · unfold adF
          rw [if_neg (by omega)]
          exact q5 i i0 (by omega)
    · rw [if_neg hr] at q6
      obtain ⟨c1, c2, c3, c4, c5⟩ := b5 hr
      refine ⟨⟨f1, f2, b3, Or.inr ⟨by rw [c1, ← q6], by rw [← q6]; dsimp only; omega, by rw [c2, ← q6]⟩⟩, fun q => absurd (c1.symm.trans q) hr⟩
  · exact absurd q2.1 (by omega)
theorem mo_read_loop {G : GT} {S : Shp} {σ : Sto} {m : Nat} {z : Int} {R : Int × Int × Int × (Int → Int)} {Q : Option Value → Shp → Sto → Prop} (hA : IsMod S m) (hb : bsOk (σ (m + 7)) z) (hz : σ m 8 = z) (hK : ∀ τ, rdP σ τ m z R → (τ m 10 = 0 → z ≤ skE (σ (m + 7)) z (τ m 9)) → PW (fm G mX12_read 7 0 0 Q) G S τ 0 0 41 [(0, .ref m)] []) : ∀ (t : Nat) (i : Int) (τ : Sto), 0 ≤ i → 17 - i < t → rdP σ τ m z R → (τ m 10 = 0 → τ m 16 = i) → PW (fm G mX12_read 7 0 0 Q) G S τ 0 0 20 [(0, .ref m)] [] := by
  obtain ⟨hM0, hM1, hM2, hM3, hM4, hM5, hM6, hM7, hM8, hM9, hM10, hM11, hM12, hM13, hM14, hM15, hM16, hM17, hM18, hM19, hM20, hM21, hM22, hM23, hM24, hM25, hM26, hM27, hM28, hM29, hM30, hM31, hM32, hM33, hM34⟩ := id hA
  have hz0 := hb.1
  intro t
  induction t with
  | zero =>
    intro i τ h1 h2 g1 g2
    have f10 : inR (τ m 10) ∧ (τ m 10 = 0 → i ≤ 16) := by
      rcases g1.2.2.2 with q | q
      · exact ⟨by rw [q.1]; unfold inR; omega, fun e => by have := q.2.2.1; have := g2 e; omega⟩
      · exact ⟨by unfold inR; omega, fun e => by omega⟩
    refine PW.aload_n dX12_read_20 rfl ?_
    refine PW.getI 10 fl_X12_252 rfl (by assumption) rfl rfl dX12_read_21 ?_
    refine PW.if_ne 41 dX12_read_24 (by decide) (by first | assumption | exact f10.1 | (unfold inR; omega)) (fun h24 => ?_) (fun h24 => ?_)
    · exact hK τ g1 (fun q => absurd q (by assumption))
    · (have := f10.2 (by assumption); omega)
  | succ t ih =>
    intro i τ h1 h2 g1 g2
    have e7 : τ (m + 7) = σ (m + 7) := g1.1 _ (by omega) (by omega) (by omega) (by omega)
    have e8 : τ m 8 = z := by rw [g1.2.1 8 (by decide) (by decide) (by decide) (by decide) (by decide) (by decide)]; exact hz
    have hsk := skE_b (σ (m + 7)) z g1.2.2.1
    have hbt := btF_b hb (skE (σ (m + 7)) z (τ m 9))
    have h9 := g1.2.2.1
    have f10 : inR (τ m 10) ∧ (τ m 10 = 0 → 0 ≤ τ m 16 ∧ τ m 16 ≤ 16) := by
      rcases g1.2.2.2 with q | q
      · exact ⟨by rw [q.1]; unfold inR; omega, fun _ => q.2.2.1⟩
      · exact ⟨by unfold inR; omega, fun e => by omega⟩
    refine PW.aload_n dX12_read_20 rfl ?_
    refine PW.getI 10 fl_X12_252 rfl (by assumption) rfl rfl dX12_read_21 ?_
    refine PW.if_ne 41 dX12_read_24 (by decide) (by first | assumption | exact f10.1 | (unfold inR; omega)) (fun h24 => ?_) (fun h24 => ?_)
    · first
        | exact hK τ g1 (fun q => absurd q (by assumption))
        | (refine hK _ ⟨fun b b0 b6 b8 b9 => by rw [upS_ne b0]; exact g1.1 b b0 b6 b8 b9, fun j j9 j10 j11 j12 j13 j16 => by rw [upS_same, up1_ne j9]; exact g1.2.1 j j9 j10 j11 j12 j13 j16, by rw [upS_same, up1_same]; omega, ?_⟩ (fun _ => ?_)
           · have hge : z ≤ skE (σ (m + 7)) z (τ m 9) := by
               refine Classical.byContradiction fun q => ?_
               have hb2 := hb.2 (skE (σ (m + 7)) z (τ m 9)) (by omega) (by omega)
               have : btF (σ (m + 7)) z (skE (σ (m + 7)) z (τ m 9)) = σ (m + 7) (skE (σ (m + 7)) z (τ m 9)) := if_pos ⟨by omega, by omega⟩
               omega
             rw [upS_same, up1_ne (by decide), up1_ne (by decide), up1_ne (by decide), up1_same, upS_ne (by omega), upS_ne (by omega)]
             rcases g1.2.2.2 with ⟨q1, q2, q3, F, q4, q5, q6⟩ | q
             · refine Or.inl ⟨q1, q2, q3, F, q4, q5, ?_⟩
               rw [← q6, show (17 - τ m 16).toNat = (16 - τ m 16).toNat + 1 by omega]
               simp only [rdT]
               rw [skE_idem _ _ g1.2.2.1, if_pos hge]
             · exact absurd q.2.1.1 (by omega)
           · rw [upS_same, up1_same, skE_idem _ _ g1.2.2.1]
             refine Classical.byContradiction fun q => ?_
             have hb2 := hb.2 (skE (σ (m + 7)) z (τ m 9)) (by omega) (by omega)
             have : btF (σ (m + 7)) z (skE (σ (m + 7)) z (τ m 9)) = σ (m + 7) (skE (σ (m + 7)) z (τ m 9)) := if_pos ⟨by omega, by omega⟩
             omega)
    · refine PW.aload_n dX12_read_27 rfl ?_
      refine PW.callVr (c_X12_here hA (z := z) (p := τ m 9) (by rw [e7]; exact hb) e8 rfl g1.2.2.1) cv_X12_here lk_X12_255 (by first | assumption | exact And.left (by assumption)) dX12_read_28 rfl rfl rfl rfl ?_
      rw [e7]
      refine PW.if_lt 41 dX12_read_31 (by decide) (by first | assumption | exact f10.1 | (unfold inR; omega)) (fun h31 => ?_) (fun h31 => ?_)
      · first
          | exact hK τ g1 (fun q => absurd q (by assumption))
          | (refine hK _ ⟨fun b b0 b6 b8 b9 => by rw [upS_ne b0]; exact g1.1 b b0 b6 b8 b9, fun j j9 j10 j11 j12 j13 j16 => by rw [upS_same, up1_ne j9]; exact g1.2.1 j j9 j10 j11 j12 j13 j16, by rw [upS_same, up1_same]; omega, ?_⟩ (fun _ => ?_)
             · have hge : z ≤ skE (σ (m + 7)) z (τ m 9) := by
                 refine Classical.byContradiction fun q => ?_
                 have hb2 := hb.2 (skE (σ (m + 7)) z (τ m 9)) (by omega) (by omega)
                 have : btF (σ (m + 7)) z (skE (σ (m + 7)) z (τ m 9)) = σ (m + 7) (skE (σ (m + 7)) z (τ m 9)) := if_pos ⟨by omega, by omega⟩
                 omega
               rw [upS_same, up1_ne (by decide), up1_ne (by decide), up1_ne (by decide), up1_same, upS_ne (by omega), upS_ne (by omega)]
               rcases g1.2.2.2 with ⟨q1, q2, q3, F, q4, q5, q6⟩ | q
               · refine Or.inl ⟨q1, q2, q3, F, q4, q5, ?_⟩
                 rw [← q6, show (17 - τ m 16).toNat = (16 - τ m 16).toNat + 1 by omega]
                 simp only [rdT]
                 rw [skE_idem _ _ g1.2.2.1, if_pos hge]
               · exact absurd q.2.1.1 (by omega)
             · rw [upS_same, up1_same, skE_idem _ _ g1.2.2.1]
               refine Classical.byContradiction fun q => ?_
               have hb2 := hb.2 (skE (σ (m + 7)) z (τ m 9)) (by omega) (by omega)
               have : btF (σ (m + 7)) z (skE (σ (m + 7)) z (τ m 9)) = σ (m + 7) (skE (σ (m + 7)) z (τ m 9)) := if_pos ⟨by omega, by omega⟩
               omega)
      · have hlt : skE (σ (m + 7)) z (τ m 9) < z := (btF_lt (B := σ (m + 7)) (z := z) (p := skE (σ (m + 7)) z (τ m 9)) (by omega)).2
        refine PW.aload_n dX12_read_34 rfl ?_
        refine PW.callVg (c_X12_readClause hA (z := z) (n := τ m 16) (p := skE (σ (m + 7)) z (τ m 9)) (by rw [upS_ne (by omega), e7]; exact hb) (by rw [upS_same, up1_ne (by decide)]; exact e8) (by rw [upS_same, up1_ne (by decide)]; exact h24) (by rw [upS_same, up1_ne (by decide)]) (f10.2 h24) (by rw [upS_same, up1_same]) (by omega)) cv_X12_readClause lk_X12_295 (by first | assumption | exact And.left (by assumption)) dX12_read_35 rfl rfl rfl rfl (fun r S' τ35 hq => ?_)
        obtain ⟨rfl, hS, hc⟩ := hq
        have hS2 := hS.symm
        subst hS2
        rw [upS_ne (show m + 7 ≠ m by omega), e7, skE_idem _ _ g1.2.2.1] at hc
        refine PW.goto 20 dX12_read_38 (by decide) ?_
        have hn := rdP_s g1 hb h24 hlt hc
        exact ih (i + 1) _ (by omega) (by omega) hn.1 (fun q => by rw [hn.2 q, g2 h24])
theorem mo_rgiv_loop {G : GT} {S : Shp} {σ : Sto} {m : Nat} {i : Int} {τ : Sto} {Q : Option Value → Shp → Sto → Prop} (hA : IsMod S m) (hi : 0 ≤ i ∧ i ≤ 15) (hK : PW (fm G mX12_read 7 0 0 Q) G S (upS τ (m + 6) (pfF (τ (m + 6)) (fun j => τ (m + 9) (5 * i + j)) 0 5)) 0 0 105 [(0, .ref m), (1, .int (iI i))] []) : ∀ (t : Nat) (p : Int), 0 ≤ p → p ≤ 5 → 5 - p < t → PW (fm G mX12_read 7 0 0 Q) G S (upS τ (m + 6) (pfF (τ (m + 6)) (fun j => τ (m + 9) (5 * i + j)) 0 p)) 0 0 78 [(0, .ref m), (1, .int (iI (i))), (2, .int (iI (p)))] [] := by
  obtain ⟨hM0, hM1, hM2, hM3, hM4, hM5, hM6, hM7, hM8, hM9, hM10, hM11, hM12, hM13, hM14, hM15, hM16, hM17, hM18, hM19, hM20, hM21, hM22, hM23, hM24, hM25, hM26, hM27, hM28, hM29, hM30, hM31, hM32, hM33, hM34⟩ := id hA
  intro t
  induction t with
  | zero => intro p h1 h2 h3; omega
  | succ t ih =>
    intro p h1 h2 h3
    refine PW.iload_n dX12_read_78 rfl ?_
    refine PW.iconst dX12_read_79 ?_
    refine PW.icmp_ge 105 dX12_read_80 (by decide) (by first | assumption | (unfold inR; omega)) (by first | assumption | (unfold inR; omega)) (fun h80 => ?_) (fun h80 => ?_)
    · have hp : p = 5 := by omega
      subst hp
      refine PW.take 2 ?_
      exact hK
    · refine PW.aload_n dX12_read_83 rfl ?_
      refine PW.getR fl_X12_27 rfl (by assumption) rfl dX12_read_84 ?_
      refine PW.iload_n dX12_read_87 rfl ?_
      refine PW.aload_n dX12_read_88 rfl ?_
      refine PW.getR fl_X12_40 rfl (by assumption) rfl dX12_read_89 ?_
      refine PW.iconst dX12_read_92 ?_
      refine PW.iload_n dX12_read_93 rfl ?_
      refine PW.imul dX12_read_94 ?_
      refine PW.iload_n dX12_read_95 rfl ?_
      refine PW.iadd dX12_read_96 ?_
      refine PW.iaload (by assumption) (by unfold inR; omega) (by omega) (by omega) dX12_read_97 ?_
      refine PW.top (τ (m + 9) (5 * i + p)) (by rw [upS_ne (by omega)]) ?_
      refine PW.iastore (by assumption) (by first | assumption | (unfold inR; omega)) (by omega) (by omega) dX12_read_98 ?_
      refine PW.st (upS τ (m + 6) (pfF (τ (m + 6)) (fun j => τ (m + 9) (5 * i + j)) 0 (p + 1))) (by
        rw [upS_upS, upS_same]
        refine congrArg (upS τ (m + 6)) ?_
        rw [← pfF_s (by omega)]) ?_
      refine PW.iinc [(0, _), (1, _), (2, _)] dX12_read_99 rfl rfl (Nat.le_of_ble_eq_true rfl) ?_
      refine PW.goto 78 dX12_read_102 (by decide) ?_
      exact ih (p + 1) (by omega) (by omega) (by omega)
theorem mo_radd_loop {G : GT} {S : Shp} {σ : Sto} {m : Nat} {k : Int} {F : Int → Int} {Q : Option Value → Shp → Sto → Prop} (hA : IsMod S m) (hn : σ m 16 = k) (kb : 0 ≤ k ∧ k ≤ 16) (hr : mRw (σ (m + 8)) (σ (m + 9)) F k) (h6 : ∀ i, 0 ≤ i → i < k → F (7 * i + 6) = 0) (hC : cOk (σ (m + 1)) 15360) (hQ : ∀ τ, (∀ b, b < m ∨ m + 6 < b → τ b = σ b) → (∀ j, j ≠ 2 → τ m j = σ m j) → mCore τ m F k → Q (some (.int (iI k))) S τ) : ∀ (t : Nat) (i : Int) (τ : Sto), 0 ≤ i → i ≤ k → k - i < t → eFr σ τ m → τ (m + 1) = σ (m + 1) → mEv τ m F i → PW (fm G mX12_read 7 0 0 Q) G S (τ) 0 0 68 [(0, .ref m), (1, .int (iI (i)))] [] := by
  obtain ⟨hM0, hM1, hM2, hM3, hM4, hM5, hM6, hM7, hM8, hM9, hM10, hM11, hM12, hM13, hM14, hM15, hM16, hM17, hM18, hM19, hM20, hM21, hM22, hM23, hM24, hM25, hM26, hM27, hM28, hM29, hM30, hM31, hM32, hM33, hM34⟩ := id hA
  intro t
  induction t with
  | zero => intro i τ h1 h2 h3 g1 g2 g3; omega
  | succ t ih =>
    intro i τ h1 h2 h3 g1 g2 g3
    have e16 : τ m 16 = k := by rw [g1.2 16 (by decide)]; exact hn
    have e8 : τ (m + 8) = σ (m + 8) := g1.1 _ (by omega)
    have e9 : τ (m + 9) = σ (m + 9) := g1.1 _ (by omega)
    have g30 := g3.1
    refine PW.iload_n dX12_read_68 rfl ?_
    refine PW.aload_n dX12_read_69 rfl ?_
    refine PW.getI 16 fl_X12_290 rfl (by assumption) rfl rfl dX12_read_70 ?_
    refine PW.top (k) (by exact e16) ?_
    refine PW.icmp_ge 121 dX12_read_73 (by decide) (by first | assumption | (unfold inR; omega)) (by first | assumption | (unfold inR; omega)) (fun h73 => ?_) (fun h73 => ?_)
    · refine PW.aload_n dX12_read_121 rfl ?_
      refine PW.aload_n dX12_read_122 rfl ?_
      refine PW.getI 2 fl_X12_184 rfl (by assumption) rfl rfl dX12_read_123 ?_
      refine PW.top i (by exact g30) ?_
      refine PW.callVg (c_X12_buildAll (f := F) hA (by rw [g2]; exact hC) (by omega) g3.2.2.1) cv_X12_buildAll lk_X12_119 (by first | assumption | exact And.left (by assumption)) dX12_read_126 rfl rfl rfl rfl (fun r S' τ126 hq => ?_)
      have hi : i = k := by omega
      subst hi
      obtain ⟨rfl, hS, hb⟩ := hq
      have hS2 := hS.symm
      subst hS2
      refine PW.aload_n dX12_read_129 rfl ?_
      refine PW.getI 2 fl_X12_184 rfl (by assumption) rfl rfl dX12_read_130 ?_
      refine PW.top i (by rw [hb.1 m (by omega) (by omega) (by omega)]; exact g30) ?_
      exact PW.iret rfl rfl dX12_read_133 (hQ _ (g1.trans hb.1.e).1 (g1.trans hb.1.e).2 (hb.core g3))
    · refine PW.iconst dX12_read_76 ?_
      refine PW.istore_n [(0, _), (1, _), (2, _)] dX12_read_77 rfl (Nat.le_of_ble_eq_true rfl) ?_
      refine PW.st (upS τ (m + 6) (pfF (τ (m + 6)) (fun j => τ (m + 9) (5 * i + j)) 0 0)) (by rw [pfF_0, upS_self]) ?_
      refine mo_rgiv_loop (σ := σ) (i := i) (τ := τ) (Q := Q) hA (by omega) ?_ 6 0 (by omega) (by omega) (by omega)
      refine PW.aload_n dX12_read_105 rfl ?_
      refine PW.aload_n dX12_read_106 rfl ?_
      refine PW.getR fl_X12_37 rfl (by assumption) rfl dX12_read_107 ?_
      refine PW.iload_n dX12_read_110 rfl ?_
      refine PW.iaload (by assumption) (by unfold inR; omega) (by omega) (by omega) dX12_read_111 ?_
      refine PW.top (σ (m + 8) i) (by rw [upS_ne (by omega), e8]) ?_
      refine PW.callVv (c_X12_add (n := i) hA (by rw [upS_ne (by omega)]; exact g30) (by omega)) cv_X12_add lk_X12_197 (by first | assumption | exact And.left (by assumption)) dX12_read_112 rfl rfl rfl rfl ?_
      refine PW.iinc [(0, _), (1, _)] dX12_read_115 rfl rfl (Nat.le_of_ble_eq_true rfl) ?_
      refine PW.goto 68 dX12_read_118 (by decide) ?_
      have hri := hr i h1 (by omega)
      have hsf := mRw_at (g0 := τ (m + 6)) hr h1 (show i < k by omega)
      refine ih (i + 1) _ (by omega) (by omega) (by omega) ⟨fun b hb => ?_, fun j hj => ?_⟩ ?_ ?_
      · rw [maS_ne (by omega) (by omega) (by omega) (by omega), upS_ne (by omega)]
        exact g1.1 b hb
      · rw [maS_j hj, upS_ne (by omega)]
        exact g1.2 j hj
      · rw [maS_ne (by omega) (by omega) (by omega) (by omega), upS_ne (by omega)]
        exact g2
      · refine maS_ev (mEv_congr g3 (by rw [upS_ne (by omega)]) (upS_ne (by omega)) (upS_ne (by omega)) (upS_ne (by omega))) (by omega) (fun q q0 q1 => ⟨(g3.2.2.1 q q0 q1).1, rfl, fun _ _ _ => rfl⟩) hri.2.1.symm (fun p p0 p1 => ?_) (h6 i h1 (by omega)) hri.1
        rw [upS_same, e9]
        unfold pfF
        rw [if_pos (by omega)]
        exact (hri.2.2 p p0 p1).symm
theorem rd_core {σ τ : Sto} {m : Nat} {z n : Int} {f : Int → Int} {R : Int × Int × Int × (Int → Int)} (h : rdP σ τ m z R) (hE : mCore σ m f n) : mCore τ m f n := ⟨mEv_congr hE.1 (by rw [h.2.1 2 (by decide) (by decide) (by decide) (by decide) (by decide) (by decide)]) (h.1 _ (by omega) (by omega) (by omega) (by omega)) (h.1 _ (by omega) (by omega) (by omega) (by omega)) (h.1 _ (by omega) (by omega) (by omega) (by omega)), by rw [h.1 (m + 1) (by omega) (by omega) (by omega) (by omega)]; exact hE.2.1, by rw [h.1 (m + 1) (by omega) (by omega) (by omega) (by omega)]; exact hE.2.2⟩
theorem read_end {G : GT} {S : Shp} {σ : Sto} {m : Nat} {n z : Int} {f F0 : Int → Int} {τ : Sto} (hA : IsMod S m) (hE : mCore σ m f n) (hb : bsOk (σ (m + 7)) z) (hz : σ m 8 = z) (g1 : rdP σ τ m z (rdT (σ (m + 7)) z 17 0 0 F0)) (g2 : τ m 10 = 0 → z ≤ skE (σ (m + 7)) z (τ m 9)) : PW (fm G mX12_read 7 0 0 (fun r S' τ => S' = S ∧ r = some (.int (iI (if (rdT (σ (m + 7)) z 17 0 0 F0).1 = 0 then (rdT (σ (m + 7)) z 17 0 0 F0).2.2.1 else -10 - (rdT (σ (m + 7)) z 17 0 0 F0).1))) ∧ (∀ b, b < m ∨ (m + 6 < b ∧ b ≠ m + 8 ∧ b ≠ m + 9) → τ b = σ b) ∧ (∀ j, j ≠ 2 → j ≠ 8 → j ≠ 9 → j ≠ 10 → j ≠ 11 → j ≠ 12 → j ≠ 13 → j ≠ 16 → τ m j = σ m j) ∧ τ m 8 = 0 ∧ τ m 11 = (rdT (σ (m + 7)) z 17 0 0 F0).2.1 ∧ ((rdT (σ (m + 7)) z 17 0 0 F0).1 = 0 → mCore τ m (rdT (σ (m + 7)) z 17 0 0 F0).2.2.2 (rdT (σ (m + 7)) z 17 0 0 F0).2.2.1) ∧ (¬ (rdT (σ (m + 7)) z 17 0 0 F0).1 = 0 → mCore τ m f n))) G S τ 0 0 41 [(0, .ref m)] [] := by
  obtain ⟨hM0, hM1, hM2, hM3, hM4, hM5, hM6, hM7, hM8, hM9, hM10, hM11, hM12, hM13, hM14, hM15, hM16, hM17, hM18, hM19, hM20, hM21, hM22, hM23, hM24, hM25, hM26, hM27, hM28, hM29, hM30, hM31, hM32, hM33, hM34⟩ := id hA
  have hz0 := hb.1
  have hcor := rd_core g1 hE
  have e1 : τ (m + 1) = σ (m + 1) := g1.1 _ (by omega) (by omega) (by omega) (by omega)
  generalize hR : rdT (σ (m + 7)) z 17 0 0 F0 = R at *
  have hsk := skE_b (σ (m + 7)) z g1.2.2.1
  have hq0 := g1.2.2.2
  have f10 : inR (τ m 10) := by
    rcases hq0 with q | q
    · rw [q.1]; unfold inR; omega
    · unfold inR; omega
  have hcl : ∀ v : Int, mCore (upS τ m (up1 (τ m) 8 v)) m f n := fun v => ⟨mEv_congr hcor.1 (by rw [upS_same, up1_ne (by decide)]) (upS_ne (by omega)) (upS_ne (by omega)) (upS_ne (by omega)), by rw [upS_ne (by omega)]; exact hcor.2.1, by rw [upS_ne (by omega)]; exact hcor.2.2⟩
  refine PW.aload_n dX12_read_41 rfl ?_
  refine PW.iconst dX12_read_42 ?_
  refine PW.putI 8 fl_X12_236 rfl (fun h => absurd h (by decide)) (by assumption) rfl rfl rfl rfl dX12_read_43 ?_
  refine PW.aload_n dX12_read_46 rfl ?_
  refine PW.getI 10 fl_X12_252 rfl (by assumption) rfl rfl dX12_read_47 ?_
  refine PW.top (τ m 10) (by rw [upS_same, up1_ne (by decide)]) ?_
  refine PW.if_le 61 dX12_read_50 (by decide) (by first | assumption | (unfold inR; omega)) (fun h50 => ?_) (fun h50 => ?_)
  · refine PW.aload_n dX12_read_61 rfl ?_
    refine PW.iconst dX12_read_62 ?_
    refine PW.putI 2 fl_X12_184 rfl (fun h => absurd h (by decide)) (by assumption) rfl rfl rfl rfl dX12_read_63 ?_
    refine PW.iconst dX12_read_66 ?_
    refine PW.istore_n [(0, _), (1, _)] dX12_read_67 rfl (Nat.le_of_ble_eq_true rfl) ?_
    have h10 : τ m 10 = 0 := by
      rcases hq0 with q | q
      · exact q.1
      · exfalso; omega
    obtain ⟨q1, q2, q3, F, q4, q5, q6⟩ : τ m 10 = 0 ∧ τ m 11 = -1 ∧ (0 ≤ τ m 16 ∧ τ m 16 ≤ 16) ∧ ∃ F : Int → Int, mRw (τ (m + 8)) (τ (m + 9)) F (τ m 16) ∧ (∀ i, 0 ≤ i → i < τ m 16 → F (7 * i + 6) = 0) ∧ rdT (σ (m + 7)) z (17 - τ m 16).toNat (τ m 16) (τ m 9) F = R := by
      rcases hq0 with q | q
      · exact q
      · exfalso; omega
    rw [show (17 - τ m 16).toNat = (16 - τ m 16).toNat + 1 by omega] at q6
    simp only [rdT] at q6
    rw [if_pos (g2 h10)] at q6
    refine PW.st (upS τ m (up1 (up1 (τ m) 8 0) 2 0)) (by rw [upS_upS, upS_same]) ?_
    refine mo_radd_loop (σ := upS τ m (up1 (up1 (τ m) 8 0) 2 0)) (k := τ m 16) (F := F) hA (by rw [upS_same, up1_ne (by decide), up1_ne (by decide)]) q3 (by rw [upS_ne (by omega), upS_ne (by omega)]; exact q4) q5 (by rw [upS_ne (by omega), e1]; exact hE.2.1) (fun μ u1 u2 u3 => ?_) 18 0 _ (by omega) (by omega) (by omega) ⟨fun _ _ => rfl, fun _ _ => rfl⟩ rfl ⟨by rw [upS_same, up1_same], by omega, fun i i0 i1 => absurd i1 (by omega), fun i i0 i1 => absurd i1 (by omega)⟩
    refine ⟨rfl, ret_eq ?_, fun b hb' => ?_, fun j j2 j8 j9 j10 j11 j12 j13 j16 => ?_, ?_, ?_, fun _ => ?_, fun q => ?_⟩
    · rw [← q6]
      rfl
    · rw [u1 b (by omega), upS_ne (by omega)]
      exact g1.1 b (by omega) (by omega) (by omega) (by omega)
    · rw [u2 j j2, upS_same, up1_ne j2, up1_ne j8]
      exact g1.2.1 j j9 j10 j11 j12 j13 j16
    · rw [u2 8 (by decide), upS_same, up1_ne (by decide), up1_same]
    · rw [u2 11 (by decide), upS_same, up1_ne (by decide), up1_ne (by decide), q2, ← q6]
    · rw [← q6]
      exact u3
    · exact absurd (by rw [← q6]) q
  · refine PW.bipush (by decide) dX12_read_53 ?_
    refine PW.aload_n dX12_read_55 rfl ?_
    refine PW.getI 10 fl_X12_252 rfl (by assumption) rfl rfl dX12_read_56 ?_
    refine PW.top (τ m 10) (by rw [upS_same, up1_ne (by decide)]) ?_
    refine PW.isub dX12_read_59 ?_
    have hr : τ m 10 = R.1 ∧ (1 ≤ R.1 ∧ R.1 ≤ 3) ∧ τ m 11 = R.2.1 := by
      rcases hq0 with q | q
      · exact absurd q.1 (by omega)
      · exact q
    refine PW.iret rfl rfl dX12_read_60 ⟨rfl, ret_eq ?_, fun b hb' => ?_, fun j j2 j8 j9 j10 j11 j12 j13 j16 => ?_, ?_, ?_, fun q => by omega, fun _ => hcl 0⟩
    · rw [if_neg (by omega), hr.1]
    · rw [upS_ne (by omega)]
      exact g1.1 b (by omega) (by omega) (by omega) (by omega)
    · rw [upS_same, up1_ne j8]
      exact g1.2.1 j j9 j10 j11 j12 j13 j16
    · rw [upS_same, up1_same]
    · rw [upS_same, up1_ne (by decide)]
      exact hr.2.2
theorem c_X12_read {G : GT} {S : Shp} {σ : Sto} {m : Nat} {n z : Int} {f F0 : Int → Int} (hA : IsMod S m) (hE : mCore σ m f n) (hb : bsOk (σ (m + 7)) z) (hz : σ m 8 = z) : PMet G mX12_read 7 0 0 [.ref m] S σ (fun r S' τ => S' = S ∧ r = some (.int (iI (if (rdT (σ (m + 7)) z 17 0 0 F0).1 = 0 then (rdT (σ (m + 7)) z 17 0 0 F0).2.2.1 else -10 - (rdT (σ (m + 7)) z 17 0 0 F0).1))) ∧ (∀ b, b < m ∨ (m + 6 < b ∧ b ≠ m + 8 ∧ b ≠ m + 9) → τ b = σ b) ∧ (∀ j, j ≠ 2 → j ≠ 8 → j ≠ 9 → j ≠ 10 → j ≠ 11 → j ≠ 12 → j ≠ 13 → j ≠ 16 → τ m j = σ m j) ∧ τ m 8 = 0 ∧ τ m 11 = (rdT (σ (m + 7)) z 17 0 0 F0).2.1 ∧ ((rdT (σ (m + 7)) z 17 0 0 F0).1 = 0 → mCore τ m (rdT (σ (m + 7)) z 17 0 0 F0).2.2.2 (rdT (σ (m + 7)) z 17 0 0 F0).2.2.1) ∧ (¬ (rdT (σ (m + 7)) z 17 0 0 F0).1 = 0 → mCore τ m f n)) := by
  obtain ⟨hM0, hM1, hM2, hM3, hM4, hM5, hM6, hM7, hM8, hM9, hM10, hM11, hM12, hM13, hM14, hM15, hM16, hM17, hM18, hM19, hM20, hM21, hM22, hM23, hM24, hM25, hM26, hM27, hM28, hM29, hM30, hM31, hM32, hM33, hM34⟩ := id hA
  have hn := hE.1.1
  have hnb := hE.1.2.1
  have hz0 := hb.1
  refine PMet.of [(0, .ref m)] (by decide +kernel) rfl (Nat.le_of_ble_eq_true rfl) ?_
  refine PW.aload_n dX12_read_0 rfl ?_
  refine PW.iconst dX12_read_1 ?_
  refine PW.putI 9 fl_X12_249 rfl (fun h => absurd h (by decide)) (by assumption) rfl rfl rfl rfl dX12_read_2 ?_
  refine PW.aload_n dX12_read_5 rfl ?_
  refine PW.iconst dX12_read_6 ?_
  refine PW.putI 10 fl_X12_252 rfl (fun h => absurd h (by decide)) (by assumption) rfl rfl rfl rfl dX12_read_7 ?_
  refine PW.aload_n dX12_read_10 rfl ?_
  refine PW.iconst dX12_read_11 ?_
  refine PW.putI 11 fl_X12_33 rfl (fun h => absurd h (by decide)) (by assumption) rfl rfl rfl rfl dX12_read_12 ?_
  refine PW.aload_n dX12_read_15 rfl ?_
  refine PW.iconst dX12_read_16 ?_
  refine PW.putI 16 fl_X12_290 rfl (fun h => absurd h (by decide)) (by assumption) rfl rfl rfl rfl dX12_read_17 ?_
  refine PW.st (upS σ m (up1 (up1 (up1 (up1 (σ m) 9 0) 10 0) 11 (-1)) 16 0)) (by simp only [upS_upS, upS_same]) ?_
  have fo : (upS σ m (up1 (up1 (up1 (up1 (σ m) 9 0) 10 0) 11 (-1)) 16 0)) m = up1 (up1 (up1 (up1 (σ m) 9 0) 10 0) 11 (-1)) 16 0 := upS_same _ _ _
  refine mo_read_loop (R := rdT (σ (m + 7)) z 17 0 0 F0) hA hb hz (fun τ g1 g2 => ?_) 18 0 _ (by omega) (by omega) ⟨fun b b0 _ _ _ => upS_ne b0, fun j j9 j10 j11 j12 j13 j16 => by rw [fo, up1_ne j16, up1_ne j11, up1_ne j10, up1_ne j9], ?_, ?_⟩ (fun _ => by rw [fo, up1_same])
  rotate_left
  · rw [fo, up1_ne (by decide), up1_ne (by decide), up1_ne (by decide), up1_same]
    omega
  · have f16 : (upS σ m (up1 (up1 (up1 (up1 (σ m) 9 0) 10 0) 11 (-1)) 16 0)) m 16 = 0 := by rw [fo, up1_same]
    have f9 : (upS σ m (up1 (up1 (up1 (up1 (σ m) 9 0) 10 0) 11 (-1)) 16 0)) m 9 = 0 := by rw [fo, up1_ne (by decide), up1_ne (by decide), up1_ne (by decide), up1_same]
    refine Or.inl ⟨by rw [fo, up1_ne (by decide), up1_ne (by decide), up1_same], by rw [fo, up1_ne (by decide), up1_same], by omega, F0, ?_, ?_, ?_⟩
    · rw [f16]
      exact fun i i0 i1 => absurd i1 (by omega)
    · rw [f16]
      exact fun i i0 i1 => absurd i1 (by omega)
    · rw [f16, f9]
      rfl
  · exact read_end (F0 := F0) hA hE hb hz g1 g2
theorem c_X12_fault {G : GT} {S : Shp} {σ : Sto} {m : Nat} (hA : IsMod S m) : PMet G mX12_fault 0 0 0 [.ref m] S σ (isP (some (.int (iI (σ m 11)))) S σ) := by
  obtain ⟨hM0, hM1, hM2, hM3, hM4, hM5, hM6, hM7, hM8, hM9, hM10, hM11, hM12, hM13, hM14, hM15, hM16, hM17, hM18, hM19, hM20, hM21, hM22, hM23, hM24, hM25, hM26, hM27, hM28, hM29, hM30, hM31, hM32, hM33, hM34⟩ := id hA
  refine PMet.of [(0, .ref m)] (by decide +kernel) rfl (Nat.le_of_ble_eq_true rfl) ?_
  refine PW.aload_n dX12_fault_0 rfl ?_
  refine PW.getI 11 fl_X12_33 rfl (by assumption) rfl rfl dX12_fault_1 ?_
  exact PW.iret rfl rfl dX12_fault_4 ⟨rfl, rfl, rfl⟩

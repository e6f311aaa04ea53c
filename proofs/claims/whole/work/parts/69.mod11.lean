/-- behind the reading of a clause; what it was is R -/
def rcP (σ τ : Sto) (m : Nat) (z n : Int) (R : Int × Int × Int × Int × (Int → Int)) : Prop :=
  (∀ b, b ≠ m → b ≠ m + 6 → b ≠ m + 8 → b ≠ m + 9 → τ b = σ b) ∧ (∀ j, j ≠ 9 → j ≠ 10 → j ≠ 11 → j ≠ 12 → j ≠ 13 → j ≠ 16 → τ m j = σ m j) ∧ (0 ≤ τ m 9 ∧ τ m 9 ≤ z) ∧
  (R.1 = 0 → τ m 10 = 0 ∧ τ m 11 = σ m 11 ∧ τ m 9 = R.2.2.1 ∧ τ m 16 = n + 1 ∧ τ (m + 8) = up1 (σ (m + 8)) n R.2.2.2.1 ∧ τ (m + 9) = pfF (σ (m + 9)) (fun j => R.2.2.2.2 (j - 5 * n)) (5 * n) (5 * n + 5)) ∧
  (¬ R.1 = 0 → τ m 10 = R.1 ∧ τ m 11 = R.2.1 ∧ τ m 16 = n ∧ τ (m + 8) = σ (m + 8) ∧ τ (m + 9) = σ (m + 9))
/-- while the numbers of a clause are read -/
def nlP (σ τ : Sto) (m : Nat) (z k i : Int) (R : Int × Int × Int × (Int → Int)) : Prop :=
  (∀ b, b ≠ m → b ≠ m + 6 → τ b = σ b) ∧ (∀ j, j ≠ 9 → j ≠ 10 → j ≠ 11 → j ≠ 12 → j ≠ 13 → τ m j = σ m j) ∧ (0 ≤ τ m 9 ∧ τ m 9 ≤ z) ∧
  ((τ m 10 = 0 ∧ τ m 11 = σ m 11 ∧ rdL (σ (m + 7)) z k (xT 0 k - i).toNat i (τ m 9) (τ (m + 6)) = R ∧ ∀ j, 0 ≤ j → j < 5 → -40 ≤ τ (m + 6) j ∧ τ (m + 6) j ≤ 39) ∨ (τ m 10 = R.1 ∧ 1 ≤ R.1 ∧ R.1 ≤ 3 ∧ τ m 11 = R.2.1))
theorem kd_wh {B : Int → Int} {z e k : Int} (h : kdF B z e = k) (hk : 0 ≤ k) : k ≤ 5 ∧ whP B z k.toNat e := by
  have hb := kdF_b B z e
  have := ((firI_spec (P := fun k => decide (whP B z k.toNat e)) (n := 6)).2 (show ¬ kdF B z e = -1 by omega)).1
  have h2 := of_decide_eq_true this
  have h3 : firI (fun k => decide (whP B z k.toNat e)) 6 = k := h
  rw [h3] at h2
  exact ⟨by omega, h2⟩
theorem wh_len {B : Int → Int} {z e : Int} {k0 : Nat} (hk : k0 < 8) (he : 0 ≤ e ∧ e ≤ z) (h : whP B z k0 e) : ltE B z e = e + lenF k0 := by
  have := ((wd_iff hk he (ch_at hk)).mpr h).1
  omega
theorem nlP_s {σ τ τ' : Sto} {m : Nat} {z k i : Int} {R : Int × Int × Int × (Int → Int)} (h : nlP σ τ m z k i R) (h0 : τ m 10 = 0) (hk : 0 ≤ k ∧ k ≤ 5) (hi : 0 ≤ i ∧ i < xT 0 k) (hn : nrP τ τ' m z k i (skE (σ (m + 7)) z (τ m 9))) : nlP σ τ' m z k (i + 1) R := by
  obtain ⟨a1, a2, a3, a4⟩ := h
  obtain ⟨b1, b2, b3, b4, b5⟩ := hn
  have hx := xT_0 hk
  have e7 : τ (m + 7) = σ (m + 7) := a1 _ (by omega) (by omega)
  rw [e7] at b4 b5
  have hR : τ m 11 = σ m 11 ∧ rdL (σ (m + 7)) z k (xT 0 k - i).toNat i (τ m 9) (τ (m + 6)) = R ∧ ∀ j, 0 ≤ j → j < 5 → -40 ≤ τ (m + 6) j ∧ τ (m + 6) j ≤ 39 := by
    rcases a4 with a4 | a4
    · exact a4.2
    · exact absurd a4.2.1 (by omega)
  obtain ⟨r1, r2, r3⟩ := hR
  rw [show (xT 0 k - i).toNat = (xT 0 k - (i + 1)).toNat + 1 by omega] at r2
  simp only [rdL] at r2
  refine ⟨fun b q1 q2 => (b1 b q1 q2).trans (a1 b q1 q2), fun j j9 j10 j11 j12 j13 => (b2 j j9 j10 j11 j12 j13).trans (a2 j j9 j10 j11 j12 j13), b3, ?_⟩
  have hfb := rdFt_b (σ (m + 7)) z k i (skE (σ (m + 7)) z (τ m 9)) (τ (m + 6))
  by_cases hf : rdFt (σ (m + 7)) z k i (skE (σ (m + 7)) z (τ m 9)) (τ (m + 6)) = 0
  · rw [if_pos hf] at r2
    obtain ⟨c1, c2, c3, c4⟩ := b4 hf
    refine Or.inl ⟨c3, c4.trans r1, by rw [c1, c2]; exact r2, fun j j0 j1 => ?_⟩
    rw [c2]
    by_cases hj : j = i
    · rw [hj, up1_same]
      exact okv_b hk hi (rd_su hk (by omega) hf).1
    · rw [up1_ne hj]
      exact r3 j j0 j1
  · rw [if_neg hf] at r2
    obtain ⟨c1, c2⟩ := b5 hf
    refine Or.inr ⟨by rw [c1, ← r2], by rw [← r2]; dsimp only; omega, by rw [← r2]; dsimp only; omega, by rw [c2, ← r2]⟩
theorem nlP_g2 {σ τ : Sto} {m : Nat} {z k i : Int} {R : Int × Int × Int × (Int → Int)} (h : nlP σ τ m z k i R) (h0 : τ m 10 = 0) : inR (τ (m + 6) 2) := by
  rcases h.2.2.2 with q | q
  · have := q.2.2.2 2 (by omega) (by omega)
    unfold inR
    omega
  · exact absurd q.2.1 (by omega)
theorem mo_nums_loop {G : GT} {S : Shp} {σ : Sto} {m : Nat} {z k : Int} {R : Int × Int × Int × (Int → Int)} {Q : Option Value → Shp → Sto → Prop} (hA : IsMod S m) (hb : bsOk (σ (m + 7)) z) (hz : σ m 8 = z) (hk : 0 ≤ k ∧ k ≤ 5) (hK : ∀ (τ : Sto) (i : Int), nlP σ τ m z k i R → (τ m 10 = 0 → i = xT 0 k) → PW (fm G mX12_readClause 3 0 0 Q) G S τ 0 0 95 [(0, .ref m), (1, .int (iI k)), (2, .int (iI i))] []) : ∀ (t : Nat) (i : Int) (τ : Sto), 0 ≤ i → i ≤ xT 0 k → xT 0 k - i < t → nlP σ τ m z k i R → PW (fm G mX12_readClause 3 0 0 Q) G S (τ) 0 0 68 [(0, .ref m), (1, .int (iI (k))), (2, .int (iI (i)))] [] := by
  obtain ⟨hM0, hM1, hM2, hM3, hM4, hM5, hM6, hM7, hM8, hM9, hM10, hM11, hM12, hM13, hM14, hM15, hM16, hM17, hM18, hM19, hM20, hM21, hM22, hM23, hM24, hM25, hM26, hM27, hM28, hM29, hM30, hM31, hM32, hM33, hM34⟩ := id hA
  have hxt := xT_0 hk
  intro t
  induction t with
  | zero => intro i τ h1 h2 h3 g1; omega
  | succ t ih =>
    intro i τ h1 h2 h3 g1
    have e7 : τ (m + 7) = σ (m + 7) := g1.1 _ (by omega) (by omega)
    have e8 : τ m 8 = z := by rw [g1.2.1 8 (by decide) (by decide) (by decide) (by decide) (by decide)]; exact hz
    have f10 : inR (τ m 10) := by
      rcases g1.2.2.2 with q | q
      · rw [q.1]; unfold inR; omega
      · unfold inR; omega
    refine PW.iload_n dX12_readClause_68 rfl ?_
    refine PW.iload_n dX12_readClause_69 rfl ?_
    refine PW.callSr (c_X12_many (by omega)) cs_X12_many lk_X12_140 dX12_readClause_70 rfl rfl rfl ?_
    refine PW.icmp_ge 95 dX12_readClause_73 (by decide) (by first | assumption | (unfold inR; omega)) (by first | assumption | (unfold inR; omega)) (fun h73 => ?_) (fun h73 => ?_)
    · exact hK τ i g1 (fun q => by first | omega | (exfalso; contradiction))
    · refine PW.aload_n dX12_readClause_76 rfl ?_
      refine PW.getI 10 fl_X12_252 rfl (by assumption) rfl rfl dX12_readClause_77 ?_
      refine PW.if_ne 95 dX12_readClause_80 (by decide) (by first | assumption | (unfold inR; omega)) (fun h80 => ?_) (fun h80 => ?_)
      · exact hK τ i g1 (fun q => by first | omega | (exfalso; contradiction))
      · refine PW.aload_n dX12_readClause_83 rfl ?_
        refine PW.iload_n dX12_readClause_84 rfl ?_
        refine PW.iload_n dX12_readClause_85 rfl ?_
        refine PW.callVg (c_X12_readNumber hA (by rw [e7]; exact hb) e8 h80 hk (by omega) (nlP_g2 g1 h80) rfl g1.2.2.1) cv_X12_readNumber lk_X12_293 (by first | assumption | exact And.left (by assumption)) dX12_readClause_86 rfl rfl rfl rfl (fun r S' τ86 hq => ?_)
        obtain ⟨rfl, hS, hn⟩ := hq
        have hS2 := hS.symm
        subst hS2
        refine PW.iinc [(0, _), (1, _), (2, _)] dX12_readClause_89 rfl rfl (Nat.le_of_ble_eq_true rfl) ?_
        refine PW.goto 68 dX12_readClause_92 (by decide) ?_
        rw [e7] at hn
        exact ih (i + 1) _ (by omega) (by omega) (by omega) (nlP_s g1 h80 hk (by omega) hn)
theorem mo_put_loop {G : GT} {S : Shp} {σ : Sto} {m : Nat} {n k w : Int} {Q : Option Value → Shp → Sto → Prop} (hA : IsMod S m) (hn : σ m 16 = n) (nb : 0 ≤ n ∧ n < 16) (hQ : Q none S (upS (upS σ (m + 9) (pfF (σ (m + 9)) (fun j => σ (m + 6) (j - 5 * n)) (5 * n) (5 * n + 5))) m (up1 (σ m) 16 (n + 1)))) : ∀ (t : Nat) (i : Int), 0 ≤ i → i ≤ 5 → 5 - i < t → PW (fm G mX12_readClause 3 0 0 Q) G S (upS σ (m + 9) (pfF (σ (m + 9)) (fun j => σ (m + 6) (j - 5 * n)) (5 * n) (5 * n + i))) 0 0 153 [(0, .ref m), (1, .int (iI (k))), (2, .int (iI (w))), (3, .int (iI (i)))] [] := by
  obtain ⟨hM0, hM1, hM2, hM3, hM4, hM5, hM6, hM7, hM8, hM9, hM10, hM11, hM12, hM13, hM14, hM15, hM16, hM17, hM18, hM19, hM20, hM21, hM22, hM23, hM24, hM25, hM26, hM27, hM28, hM29, hM30, hM31, hM32, hM33, hM34⟩ := id hA
  intro t
  induction t with
  | zero => intro i h1 h2 h3; omega
  | succ t ih =>
    intro i h1 h2 h3
    refine PW.iload_n dX12_readClause_153 rfl ?_
    refine PW.iconst dX12_readClause_154 ?_
    refine PW.icmp_ge 183 dX12_readClause_155 (by decide) (by first | assumption | (unfold inR; omega)) (by first | assumption | (unfold inR; omega)) (fun h155 => ?_) (fun h155 => ?_)
    · refine PW.aload_n dX12_readClause_183 rfl ?_
      refine PW.dup rfl dX12_readClause_184 ?_
      refine PW.getI 16 fl_X12_290 rfl (by assumption) rfl rfl dX12_readClause_185 ?_
      refine PW.top (n) (by rw [upS_ne (by omega)]; exact hn) ?_
      refine PW.iconst dX12_readClause_188 ?_
      refine PW.iadd dX12_readClause_189 ?_
      refine PW.putI 16 fl_X12_290 rfl (fun h => absurd h (by decide)) (by assumption) rfl rfl rfl rfl dX12_readClause_190 ?_
      have hi : i = 5 := by omega
      subst hi
      refine PW.st _ (by rw [upS_ne (show m ≠ m + 9 by omega)]) ?_
      exact PW.vret rfl dX12_readClause_193 hQ
    · refine PW.aload_n dX12_readClause_158 rfl ?_
      refine PW.getR fl_X12_40 rfl (by assumption) rfl dX12_readClause_159 ?_
      refine PW.iconst dX12_readClause_162 ?_
      refine PW.aload_n dX12_readClause_163 rfl ?_
      refine PW.getI 16 fl_X12_290 rfl (by assumption) rfl rfl dX12_readClause_164 ?_
      refine PW.top (n) (by rw [upS_ne (by omega)]; exact hn) ?_
      refine PW.imul dX12_readClause_167 ?_
      refine PW.iload_n dX12_readClause_168 rfl ?_
      refine PW.iadd dX12_readClause_169 ?_
      refine PW.aload_n dX12_readClause_170 rfl ?_
      refine PW.getR fl_X12_27 rfl (by assumption) rfl dX12_readClause_171 ?_
      refine PW.iload_n dX12_readClause_174 rfl ?_
      refine PW.iaload (by assumption) (by unfold inR; omega) (by omega) (by omega) dX12_readClause_175 ?_
      refine PW.top (σ (m + 6) i) (by rw [upS_ne (by omega)]) ?_
      refine PW.iastore (by assumption) (by first | assumption | (unfold inR; omega)) (by omega) (by omega) dX12_readClause_176 ?_
      refine PW.st (upS σ (m + 9) (pfF (σ (m + 9)) (fun j => σ (m + 6) (j - 5 * n)) (5 * n) (5 * n + (i + 1)))) (by
        rw [upS_upS, upS_same]
        refine congrArg (upS σ (m + 9)) ?_
        rw [show 5 * n + (i + 1) = 5 * n + i + 1 by omega, ← pfF_s (by omega)]
        congr 2
        omega) ?_
      refine PW.iinc [(0, _), (1, _), (2, _), (3, _)] dX12_readClause_177 rfl rfl (Nat.le_of_ble_eq_true rfl) ?_
      refine PW.goto 153 dX12_readClause_180 (by decide) ?_
      exact ih (i + 1) (by omega) (by omega) (by omega)
theorem cl_good {G : GT} {S : Shp} {σ : Sto} {m : Nat} {z n k i : Int} {τ : Sto} {R : Int × Int × Int × (Int → Int)} (hA : IsMod S m) (hb : bsOk (σ (m + 7)) z) (hz : σ m 8 = z) (nb : 0 ≤ n ∧ n < 16) (hk : 0 ≤ k ∧ k ≤ 5) (hn : σ m 16 = n) (hfr : ∀ b, b ≠ m → b ≠ m + 6 → τ b = σ b) (hj : ∀ j, j ≠ 9 → j ≠ 10 → j ≠ 11 → j ≠ 12 → j ≠ 13 → τ m j = σ m j) (h9 : 0 ≤ τ m 9 ∧ τ m 9 ≤ z) (h10 : τ m 10 = 0) (h11 : τ m 11 = σ m 11) (r1 : R.1 = 0) (r3 : R.2.2.1 = τ m 9) (r4 : ∀ j, 0 ≤ j → j < 5 → R.2.2.2 j = τ (m + 6) j) (h59 : btF (σ (m + 7)) z (skE (σ (m + 7)) z (τ m 9)) = 59) : PW (fm G mX12_readClause 3 0 0 (fun r S' μ => r = none ∧ S' = S ∧ rcP σ μ m z n (if ¬ R.1 = 0 then (R.1, R.2.1, 0, -1, fun _ => 0) else if btF (σ (m + 7)) z (skE (σ (m + 7)) z R.2.2.1) = 59 then (0, 0, skE (σ (m + 7)) z R.2.2.1 + 1, k, R.2.2.2) else (1, skE (σ (m + 7)) z R.2.2.1, 0, -1, fun _ => 0)))) G S (upS τ m (up1 (τ m) 9 (skE (σ (m + 7)) z (τ m 9)))) 0 0 119 [(0, .ref m), (1, .int (iI k)), (2, .int (iI (btF (σ (m + 7)) z (skE (σ (m + 7)) z (τ m 9)))))] [.int (iI 1), .ref m] := by
  obtain ⟨hM0, hM1, hM2, hM3, hM4, hM5, hM6, hM7, hM8, hM9, hM10, hM11, hM12, hM13, hM14, hM15, hM16, hM17, hM18, hM19, hM20, hM21, hM22, hM23, hM24, hM25, hM26, hM27, hM28, hM29, hM30, hM31, hM32, hM33, hM34⟩ := id hA
  have hz0 := hb.1
  have e7 : τ (m + 7) = σ (m + 7) := hfr _ (by omega) (by omega)
  have e8 : τ m 8 = z := by rw [hj 8 (by decide) (by decide) (by decide) (by decide) (by decide)]; exact hz
  have e16 : τ m 16 = n := by rw [hj 16 (by decide) (by decide) (by decide) (by decide) (by decide)]; exact hn
  have hsk := skE_b (σ (m + 7)) z h9
  have hlt := (btF_lt (B := σ (m + 7)) (z := z) (p := (skE (σ (m + 7)) z (τ m 9))) (by omega)).2
  refine PW.iconst dX12_readClause_119 ?_
  refine PW.aload_n dX12_readClause_120 rfl ?_
  refine PW.getI 9 fl_X12_249 rfl (by assumption) rfl rfl dX12_readClause_121 ?_
  refine PW.top ((skE (σ (m + 7)) z (τ m 9))) (by rw [upS_same, up1_same]) ?_
  refine PW.callVr (c_X12_want (v := 1) hA (fo := 0) (by omega) (by rw [upS_same, up1_ne (by decide)]; exact h10) (by unfold inR; omega) (by omega)) cv_X12_want lk_X12_279 (by first | assumption | exact And.left (by assumption)) dX12_readClause_124 rfl rfl rfl rfl ?_
  refine PW.if_neB 131 dX12_readClause_127 (by decide) (fun h127 => ?_) (fun h127 => ?_)
  · refine PW.aload_n dX12_readClause_131 rfl ?_
    refine PW.dup rfl dX12_readClause_132 ?_
    refine PW.getI 9 fl_X12_249 rfl (by assumption) rfl rfl dX12_readClause_133 ?_
    refine PW.top ((skE (σ (m + 7)) z (τ m 9))) (by rw [if_neg (by omega), upS_same, up1_same]) ?_
    refine PW.iconst dX12_readClause_136 ?_
    refine PW.iadd dX12_readClause_137 ?_
    refine PW.putI 9 fl_X12_249 rfl (fun h => absurd h (by decide)) (by assumption) rfl rfl rfl rfl dX12_readClause_138 ?_
    refine PW.aload_n dX12_readClause_141 rfl ?_
    refine PW.getR fl_X12_37 rfl (by assumption) rfl dX12_readClause_142 ?_
    refine PW.aload_n dX12_readClause_145 rfl ?_
    refine PW.getI 16 fl_X12_290 rfl (by assumption) rfl rfl dX12_readClause_146 ?_
    refine PW.top (n) (by rw [upS_same, up1_ne (by decide), if_neg (by omega), upS_same, up1_ne (by decide)]; exact e16) ?_
    refine PW.iload_n dX12_readClause_149 rfl ?_
    refine PW.iastore (by assumption) (by first | assumption | (unfold inR; omega)) (by omega) (by omega) dX12_readClause_150 ?_
    refine PW.iconst dX12_readClause_151 ?_
    refine PW.istore_n [(0, _), (1, _), (2, _), (3, _)] dX12_readClause_152 rfl (Nat.le_of_ble_eq_true rfl) ?_
    refine PW.st (upS (upS τ m (up1 (τ m) 9 ((skE (σ (m + 7)) z (τ m 9)) + 1))) (m + 8) (up1 (τ (m + 8)) n k)) (by
      rw [if_neg (show ¬ ((1 : Int) = 0 ∧ (0 : Int) = 0) by omega), upS_upS, upS_same, up1_up1, upS_ne (show m + 8 ≠ m by omega)]) ?_
    refine PW.st (upS (upS (upS τ m (up1 (τ m) 9 ((skE (σ (m + 7)) z (τ m 9)) + 1))) (m + 8) (up1 (τ (m + 8)) n k)) (m + 9) (pfF ((upS (upS τ m (up1 (τ m) 9 ((skE (σ (m + 7)) z (τ m 9)) + 1))) (m + 8) (up1 (τ (m + 8)) n k)) (m + 9)) (fun j => (upS (upS τ m (up1 (τ m) 9 ((skE (σ (m + 7)) z (τ m 9)) + 1))) (m + 8) (up1 (τ (m + 8)) n k)) (m + 6) (j - 5 * n)) (5 * n) (5 * n + 0))) (by rw [Int.add_zero, pfF_0, upS_self]) ?_
    refine mo_put_loop (G := G) (S := S) (σ := upS (upS τ m (up1 (τ m) 9 ((skE (σ (m + 7)) z (τ m 9)) + 1))) (m + 8) (up1 (τ (m + 8)) n k)) hA (n := n) (by rw [upS_ne (by omega), upS_same, up1_ne (by decide)]; exact e16) nb ?_ 6 0 (by omega) (by omega) (by omega)
    refine ⟨rfl, rfl, ?_⟩
    rw [if_neg (show ¬ ¬ R.1 = 0 from fun q => q r1), if_pos (show btF (σ (m + 7)) z (skE (σ (m + 7)) z R.2.2.1) = 59 by rw [r3]; exact h59)]
    refine ⟨fun b b0 b6 b8 b9 => by rw [upS_ne b0, upS_ne b9, upS_ne b8, upS_ne b0]; exact hfr b b0 b6, fun j j9 j10 j11 j12 j13 j16 => by rw [upS_same, up1_ne j16, upS_ne (by omega), upS_same, up1_ne j9]; exact hj j j9 j10 j11 j12 j13, ?_, fun _ => ⟨?_, ?_, ?_, ?_, ?_, ?_⟩, fun q => absurd rfl q⟩
    · rw [upS_same, up1_ne (by decide), upS_ne (by omega), upS_same, up1_same]
      omega
    · rw [upS_same, up1_ne (by decide), upS_ne (by omega), upS_same, up1_ne (by decide)]
      exact h10
    · rw [upS_same, up1_ne (by decide), upS_ne (by omega), upS_same, up1_ne (by decide)]
      exact h11
    · rw [upS_same, up1_ne (by decide), upS_ne (by omega), upS_same, up1_same, r3]
    · rw [upS_same, up1_same]
    · rw [upS_ne (by omega), upS_ne (by omega), upS_same, hfr _ (by omega) (by omega)]
    · rw [upS_ne (by omega), upS_same, upS_ne (by omega), upS_ne (by omega), hfr (m + 9) (by omega) (by omega), upS_ne (show m + 6 ≠ m + 8 by omega), upS_ne (show m + 6 ≠ m by omega)]
      funext j
      unfold pfF
      by_cases hh : 5 * n ≤ j ∧ j < 5 * n + 5
      · rw [if_pos hh, if_pos hh]
        exact (r4 _ (by omega) (by omega)).symm
      · rw [if_neg hh, if_neg hh]
  · exact absurd ⟨rfl, rfl⟩ h127
theorem cl_bad {G : GT} {S : Shp} {σ : Sto} {m : Nat} {z n k i : Int} {τ : Sto} {R : Int × Int × Int × (Int → Int)} (hA : IsMod S m) (hb : bsOk (σ (m + 7)) z) (hz : σ m 8 = z) (nb : 0 ≤ n ∧ n < 16) (hk : 0 ≤ k ∧ k ≤ 5) (hn : σ m 16 = n) (hfr : ∀ b, b ≠ m → b ≠ m + 6 → τ b = σ b) (hj : ∀ j, j ≠ 9 → j ≠ 10 → j ≠ 11 → j ≠ 12 → j ≠ 13 → τ m j = σ m j) (h9 : 0 ≤ τ m 9 ∧ τ m 9 ≤ z) (h10 : τ m 10 = 0) (h11 : τ m 11 = σ m 11) (r1 : R.1 = 0) (r3 : R.2.2.1 = τ m 9) (r4 : ∀ j, 0 ≤ j → j < 5 → R.2.2.2 j = τ (m + 6) j) (h59 : ¬ btF (σ (m + 7)) z (skE (σ (m + 7)) z (τ m 9)) = 59) : PW (fm G mX12_readClause 3 0 0 (fun r S' μ => r = none ∧ S' = S ∧ rcP σ μ m z n (if ¬ R.1 = 0 then (R.1, R.2.1, 0, -1, fun _ => 0) else if btF (σ (m + 7)) z (skE (σ (m + 7)) z R.2.2.1) = 59 then (0, 0, skE (σ (m + 7)) z R.2.2.1 + 1, k, R.2.2.2) else (1, skE (σ (m + 7)) z R.2.2.1, 0, -1, fun _ => 0)))) G S (upS τ m (up1 (τ m) 9 (skE (σ (m + 7)) z (τ m 9)))) 0 0 119 [(0, .ref m), (1, .int (iI k)), (2, .int (iI (btF (σ (m + 7)) z (skE (σ (m + 7)) z (τ m 9)))))] [.int (iI 0), .ref m] := by
  obtain ⟨hM0, hM1, hM2, hM3, hM4, hM5, hM6, hM7, hM8, hM9, hM10, hM11, hM12, hM13, hM14, hM15, hM16, hM17, hM18, hM19, hM20, hM21, hM22, hM23, hM24, hM25, hM26, hM27, hM28, hM29, hM30, hM31, hM32, hM33, hM34⟩ := id hA
  have hz0 := hb.1
  have e7 : τ (m + 7) = σ (m + 7) := hfr _ (by omega) (by omega)
  have e8 : τ m 8 = z := by rw [hj 8 (by decide) (by decide) (by decide) (by decide) (by decide)]; exact hz
  have e16 : τ m 16 = n := by rw [hj 16 (by decide) (by decide) (by decide) (by decide) (by decide)]; exact hn
  have hsk := skE_b (σ (m + 7)) z h9
  refine PW.iconst dX12_readClause_119 ?_
  refine PW.aload_n dX12_readClause_120 rfl ?_
  refine PW.getI 9 fl_X12_249 rfl (by assumption) rfl rfl dX12_readClause_121 ?_
  refine PW.top ((skE (σ (m + 7)) z (τ m 9))) (by rw [upS_same, up1_same]) ?_
  refine PW.callVr (c_X12_want (v := 0) hA (fo := 0) (by omega) (by rw [upS_same, up1_ne (by decide)]; exact h10) (by unfold inR; omega) (by omega)) cv_X12_want lk_X12_279 (by first | assumption | exact And.left (by assumption)) dX12_readClause_124 rfl rfl rfl rfl ?_
  refine PW.if_neB 131 dX12_readClause_127 (by decide) (fun h127 => ?_) (fun h127 => ?_)
  · exact absurd h127.1 (by decide)
  · refine PW.vret rfl dX12_readClause_130 ⟨rfl, rfl, ?_⟩
    rw [if_pos (show (0 : Int) = 0 ∧ (0 : Int) = 0 from ⟨rfl, rfl⟩)]
    rw [if_neg (show ¬ ¬ R.1 = 0 from fun q => q r1), if_neg (show ¬ btF (σ (m + 7)) z (skE (σ (m + 7)) z R.2.2.1) = 59 by rw [r3]; exact h59)]
    exact ⟨fun b b0 b6 b8 b9 => by rw [upS_ne b0, upS_ne b0]; exact hfr b b0 b6, fun j j9 j10 j11 j12 j13 j16 => by rw [upS_same, up1_ne j11, up1_ne j10, upS_same, up1_ne j9]; exact hj j j9 j10 j11 j12 j13, by rw [upS_same, up1_ne (by decide), up1_ne (by decide), upS_same, up1_same]; omega, fun q => absurd q (show ¬ (1 : Int) = 0 by decide), fun _ => ⟨by rw [upS_same, up1_ne (by decide), up1_same], by rw [upS_same, up1_same, r3], by rw [upS_same, up1_ne (by decide), up1_ne (by decide), upS_same, up1_ne (by decide)]; exact e16, by rw [upS_ne (by omega), upS_ne (by omega)]; exact hfr _ (by omega) (by omega), by rw [upS_ne (by omega), upS_ne (by omega)]; exact hfr _ (by omega) (by omega)⟩⟩
theorem cl_ok {G : GT} {S : Shp} {σ : Sto} {m : Nat} {z n k i : Int} {τ : Sto} {R : Int × Int × Int × (Int → Int)} (hA : IsMod S m) (hb : bsOk (σ (m + 7)) z) (hz : σ m 8 = z) (nb : 0 ≤ n ∧ n < 16) (hk : 0 ≤ k ∧ k ≤ 5) (hn : σ m 16 = n) (hfr : ∀ b, b ≠ m → b ≠ m + 6 → τ b = σ b) (hj : ∀ j, j ≠ 9 → j ≠ 10 → j ≠ 11 → j ≠ 12 → j ≠ 13 → τ m j = σ m j) (h9 : 0 ≤ τ m 9 ∧ τ m 9 ≤ z) (h10 : τ m 10 = 0) (h11 : τ m 11 = σ m 11) (r1 : R.1 = 0) (r3 : R.2.2.1 = τ m 9) (r4 : ∀ j, 0 ≤ j → j < 5 → R.2.2.2 j = τ (m + 6) j) : PW (fm G mX12_readClause 3 0 0 (fun r S' μ => r = none ∧ S' = S ∧ rcP σ μ m z n (if ¬ R.1 = 0 then (R.1, R.2.1, 0, -1, fun _ => 0) else if btF (σ (m + 7)) z (skE (σ (m + 7)) z R.2.2.1) = 59 then (0, 0, skE (σ (m + 7)) z R.2.2.1 + 1, k, R.2.2.2) else (1, skE (σ (m + 7)) z R.2.2.1, 0, -1, fun _ => 0)))) G S τ 0 0 95 [(0, .ref m), (1, .int (iI k)), (2, .int (iI i))] [] := by
  obtain ⟨hM0, hM1, hM2, hM3, hM4, hM5, hM6, hM7, hM8, hM9, hM10, hM11, hM12, hM13, hM14, hM15, hM16, hM17, hM18, hM19, hM20, hM21, hM22, hM23, hM24, hM25, hM26, hM27, hM28, hM29, hM30, hM31, hM32, hM33, hM34⟩ := id hA
  have hz0 := hb.1
  have e7 : τ (m + 7) = σ (m + 7) := hfr _ (by omega) (by omega)
  have e8 : τ m 8 = z := by rw [hj 8 (by decide) (by decide) (by decide) (by decide) (by decide)]; exact hz
  have e16 : τ m 16 = n := by rw [hj 16 (by decide) (by decide) (by decide) (by decide) (by decide)]; exact hn
  have hsk := skE_b (σ (m + 7)) z h9
  have hbt := btF_b hb (skE (σ (m + 7)) z (τ m 9))
  refine PW.aload_n dX12_readClause_95 rfl ?_
  refine PW.callVr (c_X12_here hA (z := z) (p := τ m 9) (by rw [e7]; exact hb) e8 rfl h9) cv_X12_here lk_X12_255 (by first | assumption | exact And.left (by assumption)) dX12_readClause_96 rfl rfl rfl rfl ?_
  rw [e7]
  refine PW.istore_n [(0, _), (1, _), (2, _)] dX12_readClause_99 rfl (Nat.le_of_ble_eq_true rfl) ?_
  refine PW.aload_n dX12_readClause_100 rfl ?_
  refine PW.getI 10 fl_X12_252 rfl (by assumption) rfl rfl dX12_readClause_101 ?_
  refine PW.top (0) (by rw [upS_same, up1_ne (by decide)]; exact h10) ?_
  refine PW.if_gt 130 dX12_readClause_104 (by decide) (by first | assumption | (unfold inR; omega)) (fun h104 => ?_) (fun h104 => ?_)
  · omega
  · refine PW.aload_n dX12_readClause_107 rfl ?_
    refine PW.iload_n dX12_readClause_108 rfl ?_
    refine PW.bipush (by decide) dX12_readClause_109 ?_
    refine PW.icmp_ne 118 dX12_readClause_111 (by decide) (by first | assumption | (unfold inR; omega)) (by first | assumption | (unfold inR; omega)) (fun h111 => ?_) (fun h111 => ?_)
    · refine PW.iconst dX12_readClause_118 ?_
      first
        | exact cl_good (i := i) hA hb hz nb hk hn hfr hj h9 h10 h11 r1 r3 r4 (by omega)
        | exact cl_bad (i := i) hA hb hz nb hk hn hfr hj h9 h10 h11 r1 r3 r4 (by omega)
    · refine PW.iconst dX12_readClause_114 ?_
      refine PW.goto 119 dX12_readClause_115 (by decide) ?_
      first
        | exact cl_good (i := i) hA hb hz nb hk hn hfr hj h9 h10 h11 r1 r3 r4 (by omega)
        | exact cl_bad (i := i) hA hb hz nb hk hn hfr hj h9 h10 h11 r1 r3 r4 (by omega)
theorem cl_no {G : GT} {S : Shp} {σ : Sto} {m : Nat} {z n k i : Int} {τ : Sto} {R : Int × Int × Int × (Int → Int)} (hA : IsMod S m) (hb : bsOk (σ (m + 7)) z) (hz : σ m 8 = z) (nb : 0 ≤ n ∧ n < 16) (hk : 0 ≤ k ∧ k ≤ 5) (hn : σ m 16 = n) (hfr : ∀ b, b ≠ m → b ≠ m + 6 → τ b = σ b) (hj : ∀ j, j ≠ 9 → j ≠ 10 → j ≠ 11 → j ≠ 12 → j ≠ 13 → τ m j = σ m j) (h9 : 0 ≤ τ m 9 ∧ τ m 9 ≤ z) (h10 : τ m 10 = R.1) (r1 : 1 ≤ R.1 ∧ R.1 ≤ 3) (h11 : τ m 11 = R.2.1) : PW (fm G mX12_readClause 3 0 0 (fun r S' μ => r = none ∧ S' = S ∧ rcP σ μ m z n (if ¬ R.1 = 0 then (R.1, R.2.1, 0, -1, fun _ => 0) else if btF (σ (m + 7)) z (skE (σ (m + 7)) z R.2.2.1) = 59 then (0, 0, skE (σ (m + 7)) z R.2.2.1 + 1, k, R.2.2.2) else (1, skE (σ (m + 7)) z R.2.2.1, 0, -1, fun _ => 0)))) G S τ 0 0 95 [(0, .ref m), (1, .int (iI k)), (2, .int (iI i))] [] := by
  obtain ⟨hM0, hM1, hM2, hM3, hM4, hM5, hM6, hM7, hM8, hM9, hM10, hM11, hM12, hM13, hM14, hM15, hM16, hM17, hM18, hM19, hM20, hM21, hM22, hM23, hM24, hM25, hM26, hM27, hM28, hM29, hM30, hM31, hM32, hM33, hM34⟩ := id hA
  have hz0 := hb.1
  have e7 : τ (m + 7) = σ (m + 7) := hfr _ (by omega) (by omega)
  have e8 : τ m 8 = z := by rw [hj 8 (by decide) (by decide) (by decide) (by decide) (by decide)]; exact hz
  have e16 : τ m 16 = n := by rw [hj 16 (by decide) (by decide) (by decide) (by decide) (by decide)]; exact hn
  have hsk := skE_b (σ (m + 7)) z h9
  refine PW.aload_n dX12_readClause_95 rfl ?_
  refine PW.callVr (c_X12_here hA (z := z) (p := τ m 9) (by rw [e7]; exact hb) e8 rfl h9) cv_X12_here lk_X12_255 (by first | assumption | exact And.left (by assumption)) dX12_readClause_96 rfl rfl rfl rfl ?_
  rw [e7]
  refine PW.istore_n [(0, _), (1, _), (2, _)] dX12_readClause_99 rfl (Nat.le_of_ble_eq_true rfl) ?_
  refine PW.aload_n dX12_readClause_100 rfl ?_
  refine PW.getI 10 fl_X12_252 rfl (by assumption) rfl rfl dX12_readClause_101 ?_
  refine PW.top (R.1) (by rw [upS_same, up1_ne (by decide)]; exact h10) ?_
  refine PW.if_gt 130 dX12_readClause_104 (by decide) (by first | assumption | (unfold inR; omega)) (fun h104 => ?_) (fun h104 => ?_)
  · refine PW.vret rfl dX12_readClause_130 ⟨rfl, rfl, ?_⟩
    rw [if_pos (show ¬ R.1 = 0 by omega)]
    exact ⟨fun b b0 b6 b8 b9 => by rw [upS_ne b0]; exact hfr b b0 b6, fun j j9 j10 j11 j12 j13 j16 => by rw [upS_same, up1_ne j9]; exact hj j j9 j10 j11 j12 j13, by rw [upS_same, up1_same]; omega, fun q => by dsimp only at q; omega, fun _ => ⟨by rw [upS_same, up1_ne (by decide)]; exact h10, by rw [upS_same, up1_ne (by decide)]; exact h11, by rw [upS_same, up1_ne (by decide)]; exact e16, by rw [upS_ne (by omega)]; exact hfr _ (by omega) (by omega), by rw [upS_ne (by omega)]; exact hfr _ (by omega) (by omega)⟩⟩
  · omega
theorem rdL_g {B : Int → Int} {z k : Int} : ∀ (c : Nat) (i p : Int) (g g' : Int → Int), 0 ≤ i → i + c ≤ 5 → (∀ j, 0 ≤ j → j < 5 → g j = g' j) → (rdL B z k c i p g).1 = (rdL B z k c i p g').1 ∧ (rdL B z k c i p g).2.1 = (rdL B z k c i p g').2.1 ∧ (rdL B z k c i p g).2.2.1 = (rdL B z k c i p g').2.2.1 ∧ ∀ j, 0 ≤ j → j < 5 → (rdL B z k c i p g).2.2.2 j = (rdL B z k c i p g').2.2.2 j
  | 0, i, p, g, g', h0, h1, h => ⟨rfl, rfl, rfl, h⟩
  | c + 1, i, p, g, g', h0, h1, h => by
    have e := rdFt_congr (B := B) (z := z) (k := k) (i := i) (p := skE B z p) (h 2 (by omega) (by omega))
    simp only [rdL]
    rw [e]
    by_cases hf : rdFt B z k i (skE B z p) g' = 0
    · rw [if_pos hf, if_pos hf]
      refine rdL_g c (i + 1) _ _ _ (by omega) (by omega) (fun j j0 j1 => ?_)
      unfold up1
      split
      · rfl
      · exact h j j0 j1
    · rw [if_neg hf, if_neg hf]
      exact ⟨rfl, rfl, rfl, h⟩
theorem clause_go {G : GT} {S : Shp} {σ : Sto} {m : Nat} {z n p : Int} (hA : IsMod S m) (hb : bsOk (σ (m + 7)) z) (hz : σ m 8 = z) (h10 : σ m 10 = 0) (hn : σ m 16 = n) (nb : 0 ≤ n ∧ n < 16) (hp : σ m 9 = p) (pb : 0 ≤ p ∧ p ≤ z) (hk : 0 ≤ (kdF (σ (m + 7)) z (skE (σ (m + 7)) z p)) ∧ (kdF (σ (m + 7)) z (skE (σ (m + 7)) z p)) ≤ 5) (hwl : ltE (σ (m + 7)) z (skE (σ (m + 7)) z p) = (skE (σ (m + 7)) z p) + lenF (kdF (σ (m + 7)) z (skE (σ (m + 7)) z p)).toNat) : PW (fm G mX12_readClause 3 0 0 (fun r S' τ => r = none ∧ S' = S ∧ rcP σ τ m z n (rdC (σ (m + 7)) z n (skE (σ (m + 7)) z p)))) G S (upS σ m (tkW (σ m) (skE (σ (m + 7)) z p) (ltE (σ (m + 7)) z (skE (σ (m + 7)) z p)))) 0 0 57 [(0, .ref m), (1, .int (iI (kdF (σ (m + 7)) z (skE (σ (m + 7)) z p))))] [] := by
  obtain ⟨hM0, hM1, hM2, hM3, hM4, hM5, hM6, hM7, hM8, hM9, hM10, hM11, hM12, hM13, hM14, hM15, hM16, hM17, hM18, hM19, hM20, hM21, hM22, hM23, hM24, hM25, hM26, hM27, hM28, hM29, hM30, hM31, hM32, hM33, hM34⟩ := id hA
  have hz0 := hb.1
  have hsk := skE_b (σ (m + 7)) z pb
  have hr := (runE_b isLt (σ (m + 7)) z (skE (σ (m + 7)) z p)).2 (by omega)
  have hrl := (runE_b isLt (σ (m + 7)) z (skE (σ (m + 7)) z p)).1
  have hle : runE isLt (σ (m + 7)) z (skE (σ (m + 7)) z p) = ltE (σ (m + 7)) z (skE (σ (m + 7)) z p) := rfl
  have hxt := xT_0 hk
  have hRc : rdC (σ (m + 7)) z n (skE (σ (m + 7)) z p) = if ¬ (rdL (σ (m + 7)) z (kdF (σ (m + 7)) z (skE (σ (m + 7)) z p)) (xT 0 (kdF (σ (m + 7)) z (skE (σ (m + 7)) z p))).toNat 0 ((skE (σ (m + 7)) z p) + lenF (kdF (σ (m + 7)) z (skE (σ (m + 7)) z p)).toNat) (fun _ => 0)).1 = 0 then ((rdL (σ (m + 7)) z (kdF (σ (m + 7)) z (skE (σ (m + 7)) z p)) (xT 0 (kdF (σ (m + 7)) z (skE (σ (m + 7)) z p))).toNat 0 ((skE (σ (m + 7)) z p) + lenF (kdF (σ (m + 7)) z (skE (σ (m + 7)) z p)).toNat) (fun _ => 0)).1, (rdL (σ (m + 7)) z (kdF (σ (m + 7)) z (skE (σ (m + 7)) z p)) (xT 0 (kdF (σ (m + 7)) z (skE (σ (m + 7)) z p))).toNat 0 ((skE (σ (m + 7)) z p) + lenF (kdF (σ (m + 7)) z (skE (σ (m + 7)) z p)).toNat) (fun _ => 0)).2.1, 0, -1, fun _ => 0) else if btF (σ (m + 7)) z (skE (σ (m + 7)) z (rdL (σ (m + 7)) z (kdF (σ (m + 7)) z (skE (σ (m + 7)) z p)) (xT 0 (kdF (σ (m + 7)) z (skE (σ (m + 7)) z p))).toNat 0 ((skE (σ (m + 7)) z p) + lenF (kdF (σ (m + 7)) z (skE (σ (m + 7)) z p)).toNat) (fun _ => 0)).2.2.1) = 59 then (0, 0, skE (σ (m + 7)) z (rdL (σ (m + 7)) z (kdF (σ (m + 7)) z (skE (σ (m + 7)) z p)) (xT 0 (kdF (σ (m + 7)) z (skE (σ (m + 7)) z p))).toNat 0 ((skE (σ (m + 7)) z p) + lenF (kdF (σ (m + 7)) z (skE (σ (m + 7)) z p)).toNat) (fun _ => 0)).2.2.1 + 1, (kdF (σ (m + 7)) z (skE (σ (m + 7)) z p)), (rdL (σ (m + 7)) z (kdF (σ (m + 7)) z (skE (σ (m + 7)) z p)) (xT 0 (kdF (σ (m + 7)) z (skE (σ (m + 7)) z p))).toNat 0 ((skE (σ (m + 7)) z p) + lenF (kdF (σ (m + 7)) z (skE (σ (m + 7)) z p)).toNat) (fun _ => 0)).2.2.2) else (1, skE (σ (m + 7)) z (rdL (σ (m + 7)) z (kdF (σ (m + 7)) z (skE (σ (m + 7)) z p)) (xT 0 (kdF (σ (m + 7)) z (skE (σ (m + 7)) z p))).toNat 0 ((skE (σ (m + 7)) z p) + lenF (kdF (σ (m + 7)) z (skE (σ (m + 7)) z p)).toNat) (fun _ => 0)).2.2.1, 0, -1, fun _ => 0) := by
    unfold rdC
    rw [if_neg (by omega), if_neg (by omega)]
  rw [hRc]
  have hg := rdL_g (B := σ (m + 7)) (z := z) (k := (kdF (σ (m + 7)) z (skE (σ (m + 7)) z p))) (xT 0 (kdF (σ (m + 7)) z (skE (σ (m + 7)) z p))).toNat 0 ((skE (σ (m + 7)) z p) + lenF (kdF (σ (m + 7)) z (skE (σ (m + 7)) z p)).toNat) (fun _ => 0) (giF ((upS σ m (tkW (σ m) (skE (σ (m + 7)) z p) (ltE (σ (m + 7)) z (skE (σ (m + 7)) z p)))) (m + 6)) 0 0 0 0 0) (by omega) (by omega) (fun j j0 j1 => by
    unfold giF
    rcases (show j = 0 ∨ j = 1 ∨ j = 2 ∨ j = 3 ∨ j = 4 by omega) with rfl | rfl | rfl | rfl | rfl <;> rfl)
  obtain ⟨g1_, g2_, g3_, g4_⟩ := hg
  refine PW.aload_n dX12_readClause_57 rfl ?_
  refine PW.iconst dX12_readClause_58 ?_
  refine PW.iconst dX12_readClause_59 ?_
  refine PW.iconst dX12_readClause_60 ?_
  refine PW.iconst dX12_readClause_61 ?_
  refine PW.iconst dX12_readClause_62 ?_
  refine PW.callVv (c_X12_give hA) cv_X12_give lk_X12_187 (by first | assumption | exact And.left (by assumption)) dX12_readClause_63 rfl rfl rfl rfl ?_
  refine PW.iconst dX12_readClause_66 ?_
  refine PW.istore_n [(0, _), (1, _), (2, _)] dX12_readClause_67 rfl (Nat.le_of_ble_eq_true rfl) ?_
  have f7 : (upS (upS σ m (tkW (σ m) (skE (σ (m + 7)) z p) (ltE (σ (m + 7)) z (skE (σ (m + 7)) z p)))) (m + 6) (giF ((upS σ m (tkW (σ m) (skE (σ (m + 7)) z p) (ltE (σ (m + 7)) z (skE (σ (m + 7)) z p)))) (m + 6)) 0 0 0 0 0)) (m + 7) = σ (m + 7) := by rw [upS_ne (by omega), upS_ne (by omega)]
  have fo : (upS (upS σ m (tkW (σ m) (skE (σ (m + 7)) z p) (ltE (σ (m + 7)) z (skE (σ (m + 7)) z p)))) (m + 6) (giF ((upS σ m (tkW (σ m) (skE (σ (m + 7)) z p) (ltE (σ (m + 7)) z (skE (σ (m + 7)) z p)))) (m + 6)) 0 0 0 0 0)) m = tkW (σ m) (skE (σ (m + 7)) z p) (ltE (σ (m + 7)) z (skE (σ (m + 7)) z p)) := by rw [upS_ne (by omega), upS_same]
  have f6 : (upS (upS σ m (tkW (σ m) (skE (σ (m + 7)) z p) (ltE (σ (m + 7)) z (skE (σ (m + 7)) z p)))) (m + 6) (giF ((upS σ m (tkW (σ m) (skE (σ (m + 7)) z p) (ltE (σ (m + 7)) z (skE (σ (m + 7)) z p)))) (m + 6)) 0 0 0 0 0)) (m + 6) = giF ((upS σ m (tkW (σ m) (skE (σ (m + 7)) z p) (ltE (σ (m + 7)) z (skE (σ (m + 7)) z p)))) (m + 6)) 0 0 0 0 0 := upS_same _ _ _
  refine mo_nums_loop (σ := upS (upS σ m (tkW (σ m) (skE (σ (m + 7)) z p) (ltE (σ (m + 7)) z (skE (σ (m + 7)) z p)))) (m + 6) (giF ((upS σ m (tkW (σ m) (skE (σ (m + 7)) z p) (ltE (σ (m + 7)) z (skE (σ (m + 7)) z p)))) (m + 6)) 0 0 0 0 0)) (k := (kdF (σ (m + 7)) z (skE (σ (m + 7)) z p))) (R := rdL (σ (m + 7)) z (kdF (σ (m + 7)) z (skE (σ (m + 7)) z p)) (xT 0 (kdF (σ (m + 7)) z (skE (σ (m + 7)) z p))).toNat 0 ((skE (σ (m + 7)) z p) + lenF (kdF (σ (m + 7)) z (skE (σ (m + 7)) z p)).toNat) (giF ((upS σ m (tkW (σ m) (skE (σ (m + 7)) z p) (ltE (σ (m + 7)) z (skE (σ (m + 7)) z p)))) (m + 6)) 0 0 0 0 0)) hA (z := z) (by rw [f7]; exact hb) (by rw [fo, tkW_ne (by decide) (by decide) (by decide)]; exact hz) hk (fun τ i g1 hend => ?_) 6 0 _ (by omega) (by omega) (by omega) ?_
  · obtain ⟨a1, a2, a3, a4⟩ := g1
    rw [f7] at a4
    have hfr : ∀ b, b ≠ m → b ≠ m + 6 → τ b = σ b := fun b b0 b6 => by rw [a1 b b0 b6, upS_ne b6, upS_ne b0]
    have hj : ∀ j, j ≠ 9 → j ≠ 10 → j ≠ 11 → j ≠ 12 → j ≠ 13 → τ m j = σ m j := fun j j9 j10 j11 j12 j13 => by rw [a2 j j9 j10 j11 j12 j13, fo, tkW_ne j9 j12 j13]
    rcases a4 with ⟨q1, q2, q3, q4⟩ | ⟨q1, q2, q3, q4⟩
    · have hi := hend q1
      rw [hi, show (xT 0 (kdF (σ (m + 7)) z (skE (σ (m + 7)) z p)) - xT 0 (kdF (σ (m + 7)) z (skE (σ (m + 7)) z p))).toNat = 0 by omega] at q3
      simp only [rdL] at q3
      refine cl_ok hA hb hz nb hk hn hfr hj a3 q1 (by rw [q2, fo, tkW_ne (by decide) (by decide) (by decide)]) ?_ ?_ (fun j j0 j1 => ?_)
      · rw [g1_, ← q3]
      · rw [g3_, ← q3]
      · rw [g4_ j j0 j1, ← q3]
    · exact cl_no hA hb hz nb hk hn hfr hj a3 (q1.trans g1_.symm) (by rw [g1_]; exact ⟨q2, q3⟩) (q4.trans g2_.symm)
  · refine ⟨fun b _ _ => rfl, fun j _ _ _ _ _ => rfl, by rw [fo, tkW_9]; omega, Or.inl ⟨by rw [fo, tkW_ne (by decide) (by decide) (by decide)]; exact h10, rfl, ?_, fun j j0 j1 => ?_⟩⟩
    · rw [f7, f6, fo, tkW_9, hwl, Int.sub_zero]
    · rw [f6]
      have e0 : giF ((upS σ m (tkW (σ m) (skE (σ (m + 7)) z p) (ltE (σ (m + 7)) z (skE (σ (m + 7)) z p)))) (m + 6)) 0 0 0 0 0 j = 0 := by
        unfold giF
        rcases (show j = 0 ∨ j = 1 ∨ j = 2 ∨ j = 3 ∨ j = 4 by omega) with rfl | rfl | rfl | rfl | rfl <;> rfl
      rw [e0]
      omega
theorem cl_full {G : GT} {S : Shp} {σ : Sto} {m : Nat} {z n p : Int} (hA : IsMod S m) (hb : bsOk (σ (m + 7)) z) (hz : σ m 8 = z) (h10 : σ m 10 = 0) (hn : σ m 16 = n) (nb : 0 ≤ n ∧ n ≤ 16) (hp : σ m 9 = p) (pb : 0 ≤ p ∧ p ≤ z) (hk : 0 ≤ (kdF (σ (m + 7)) z (skE (σ (m + 7)) z p))) (hn16 : 16 ≤ n) : PW (fm G mX12_readClause 3 0 0 (fun r S' τ => r = none ∧ S' = S ∧ rcP σ τ m z n (rdC (σ (m + 7)) z n (skE (σ (m + 7)) z p)))) G S (upS σ m (tkW (σ m) (skE (σ (m + 7)) z p) (ltE (σ (m + 7)) z (skE (σ (m + 7)) z p)))) 0 0 45 [(0, .ref m), (1, .int (iI (kdF (σ (m + 7)) z (skE (σ (m + 7)) z p))))] [.int (iI 0), .ref m] := by
  obtain ⟨hM0, hM1, hM2, hM3, hM4, hM5, hM6, hM7, hM8, hM9, hM10, hM11, hM12, hM13, hM14, hM15, hM16, hM17, hM18, hM19, hM20, hM21, hM22, hM23, hM24, hM25, hM26, hM27, hM28, hM29, hM30, hM31, hM32, hM33, hM34⟩ := id hA
  have hz0 := hb.1
  have hsk := skE_b (σ (m + 7)) z pb
  have hr := runE_b isLt (σ (m + 7)) z (skE (σ (m + 7)) z p)
  have hle : runE isLt (σ (m + 7)) z (skE (σ (m + 7)) z p) = ltE (σ (m + 7)) z (skE (σ (m + 7)) z p) := rfl
  have hrz := hr.2 (by omega)
  have hkb := kdF_b (σ (m + 7)) z (skE (σ (m + 7)) z p)
  have t7 : (upS σ m (tkW (σ m) (skE (σ (m + 7)) z p) (ltE (σ (m + 7)) z (skE (σ (m + 7)) z p)))) (m + 7) = σ (m + 7) := upS_ne (by omega)
  have t9 : (upS σ m (tkW (σ m) (skE (σ (m + 7)) z p) (ltE (σ (m + 7)) z (skE (σ (m + 7)) z p)))) m 9 = ltE (σ (m + 7)) z (skE (σ (m + 7)) z p) := by rw [upS_same, tkW_9]
  have t10 : (upS σ m (tkW (σ m) (skE (σ (m + 7)) z p) (ltE (σ (m + 7)) z (skE (σ (m + 7)) z p)))) m 10 = 0 := by rw [upS_same, tkW_ne (by decide) (by decide) (by decide)]; exact h10
  have t12 : (upS σ m (tkW (σ m) (skE (σ (m + 7)) z p) (ltE (σ (m + 7)) z (skE (σ (m + 7)) z p)))) m 12 = (skE (σ (m + 7)) z p) := by rw [upS_same, tkW_12]
  have t13 : (upS σ m (tkW (σ m) (skE (σ (m + 7)) z p) (ltE (σ (m + 7)) z (skE (σ (m + 7)) z p)))) m 13 = ltE (σ (m + 7)) z (skE (σ (m + 7)) z p) - (skE (σ (m + 7)) z p) := by rw [upS_same, tkW_13]
  have t16 : (upS σ m (tkW (σ m) (skE (σ (m + 7)) z p) (ltE (σ (m + 7)) z (skE (σ (m + 7)) z p)))) m 16 = n := by rw [upS_same, tkW_ne (by decide) (by decide) (by decide)]; exact hn
  have t8 : (upS σ m (tkW (σ m) (skE (σ (m + 7)) z p) (ltE (σ (m + 7)) z (skE (σ (m + 7)) z p)))) m 8 = z := by rw [upS_same, tkW_ne (by decide) (by decide) (by decide)]; exact hz
  refine PW.iconst dX12_readClause_45 ?_
  refine PW.aload_n dX12_readClause_46 rfl ?_
  refine PW.getI 12 fl_X12_258 rfl (by assumption) rfl rfl dX12_readClause_47 ?_
  refine PW.top ((skE (σ (m + 7)) z p)) (by exact t12) ?_
  refine PW.callVr (c_X12_want (v := 0) (fo := 0) hA (by omega) t10 (by unfold inR; omega) (by omega)) cv_X12_want lk_X12_279 (by first | assumption | exact And.left (by assumption)) dX12_readClause_50 rfl rfl rfl rfl ?_
  refine PW.if_neB 57 dX12_readClause_53 (by decide) (fun h53 => ?_) (fun h53 => ?_)
  · exact absurd h53.1 (by decide)
  · refine PW.vret rfl dX12_readClause_56 ⟨rfl, rfl, ?_⟩
    rw [show rdC (σ (m + 7)) z n (skE (σ (m + 7)) z p) = (3, (skE (σ (m + 7)) z p), 0, -1, fun _ => 0) by unfold rdC; rw [if_neg (by omega), if_pos hn16]]
    rw [if_pos (show (0 : Int) = 0 ∧ (0 : Int) = 0 from ⟨rfl, rfl⟩)]
    exact ⟨fun b b0 b6 b8 b9 => by rw [upS_ne b0, upS_ne b0], fun j j9 j10 j11 j12 j13 j16 => by rw [upS_same, up1_ne j11, up1_ne j10, upS_same, tkW_ne j9 j12 j13], by rw [upS_same, up1_ne (by decide), up1_ne (by decide), t9]; omega, fun q => absurd q (show ¬ (3 : Int) = 0 by decide), fun _ => ⟨by rw [upS_same, up1_ne (by decide), up1_same], by rw [upS_same, up1_same], by rw [upS_same, up1_ne (by decide), up1_ne (by decide)]; exact t16, by rw [upS_ne (by omega), upS_ne (by omega)], by rw [upS_ne (by omega), upS_ne (by omega)]⟩⟩
theorem cl_go16 {G : GT} {S : Shp} {σ : Sto} {m : Nat} {z n p : Int} (hA : IsMod S m) (hb : bsOk (σ (m + 7)) z) (hz : σ m 8 = z) (h10 : σ m 10 = 0) (hn : σ m 16 = n) (nb : 0 ≤ n ∧ n ≤ 16) (hp : σ m 9 = p) (pb : 0 ≤ p ∧ p ≤ z) (hk : 0 ≤ (kdF (σ (m + 7)) z (skE (σ (m + 7)) z p))) (hn16 : n < 16) : PW (fm G mX12_readClause 3 0 0 (fun r S' τ => r = none ∧ S' = S ∧ rcP σ τ m z n (rdC (σ (m + 7)) z n (skE (σ (m + 7)) z p)))) G S (upS σ m (tkW (σ m) (skE (σ (m + 7)) z p) (ltE (σ (m + 7)) z (skE (σ (m + 7)) z p)))) 0 0 45 [(0, .ref m), (1, .int (iI (kdF (σ (m + 7)) z (skE (σ (m + 7)) z p))))] [.int (iI 1), .ref m] := by
  obtain ⟨hM0, hM1, hM2, hM3, hM4, hM5, hM6, hM7, hM8, hM9, hM10, hM11, hM12, hM13, hM14, hM15, hM16, hM17, hM18, hM19, hM20, hM21, hM22, hM23, hM24, hM25, hM26, hM27, hM28, hM29, hM30, hM31, hM32, hM33, hM34⟩ := id hA
  have hz0 := hb.1
  have hsk := skE_b (σ (m + 7)) z pb
  have hr := runE_b isLt (σ (m + 7)) z (skE (σ (m + 7)) z p)
  have hle : runE isLt (σ (m + 7)) z (skE (σ (m + 7)) z p) = ltE (σ (m + 7)) z (skE (σ (m + 7)) z p) := rfl
  have hrz := hr.2 (by omega)
  have hkb := kdF_b (σ (m + 7)) z (skE (σ (m + 7)) z p)
  have t7 : (upS σ m (tkW (σ m) (skE (σ (m + 7)) z p) (ltE (σ (m + 7)) z (skE (σ (m + 7)) z p)))) (m + 7) = σ (m + 7) := upS_ne (by omega)
  have t9 : (upS σ m (tkW (σ m) (skE (σ (m + 7)) z p) (ltE (σ (m + 7)) z (skE (σ (m + 7)) z p)))) m 9 = ltE (σ (m + 7)) z (skE (σ (m + 7)) z p) := by rw [upS_same, tkW_9]
  have t10 : (upS σ m (tkW (σ m) (skE (σ (m + 7)) z p) (ltE (σ (m + 7)) z (skE (σ (m + 7)) z p)))) m 10 = 0 := by rw [upS_same, tkW_ne (by decide) (by decide) (by decide)]; exact h10
  have t12 : (upS σ m (tkW (σ m) (skE (σ (m + 7)) z p) (ltE (σ (m + 7)) z (skE (σ (m + 7)) z p)))) m 12 = (skE (σ (m + 7)) z p) := by rw [upS_same, tkW_12]
  have t13 : (upS σ m (tkW (σ m) (skE (σ (m + 7)) z p) (ltE (σ (m + 7)) z (skE (σ (m + 7)) z p)))) m 13 = ltE (σ (m + 7)) z (skE (σ (m + 7)) z p) - (skE (σ (m + 7)) z p) := by rw [upS_same, tkW_13]
  have t16 : (upS σ m (tkW (σ m) (skE (σ (m + 7)) z p) (ltE (σ (m + 7)) z (skE (σ (m + 7)) z p)))) m 16 = n := by rw [upS_same, tkW_ne (by decide) (by decide) (by decide)]; exact hn
  have t8 : (upS σ m (tkW (σ m) (skE (σ (m + 7)) z p) (ltE (σ (m + 7)) z (skE (σ (m + 7)) z p)))) m 8 = z := by rw [upS_same, tkW_ne (by decide) (by decide) (by decide)]; exact hz
  refine PW.iconst dX12_readClause_45 ?_
  refine PW.aload_n dX12_readClause_46 rfl ?_
  refine PW.getI 12 fl_X12_258 rfl (by assumption) rfl rfl dX12_readClause_47 ?_
  refine PW.top ((skE (σ (m + 7)) z p)) (by exact t12) ?_
  refine PW.callVr (c_X12_want (v := 1) (fo := 0) hA (by omega) t10 (by unfold inR; omega) (by omega)) cv_X12_want lk_X12_279 (by first | assumption | exact And.left (by assumption)) dX12_readClause_50 rfl rfl rfl rfl ?_
  refine PW.if_neB 57 dX12_readClause_53 (by decide) (fun h53 => ?_) (fun h53 => ?_)
  · refine PW.st (upS σ m (tkW (σ m) (skE (σ (m + 7)) z p) (ltE (σ (m + 7)) z (skE (σ (m + 7)) z p)))) (if_neg (by omega)) ?_
    exact clause_go hA hb hz h10 hn ⟨nb.1, hn16⟩ hp pb ⟨hk, hkb.2⟩ (wh_len (by omega) (by omega) (kd_wh (rfl : (kdF (σ (m + 7)) z (skE (σ (m + 7)) z p)) = (kdF (σ (m + 7)) z (skE (σ (m + 7)) z p))) hk).2)
  · exact absurd ⟨rfl, rfl⟩ h53
theorem cl_nk {G : GT} {S : Shp} {σ : Sto} {m : Nat} {z n p : Int} (hA : IsMod S m) (hb : bsOk (σ (m + 7)) z) (hz : σ m 8 = z) (h10 : σ m 10 = 0) (hn : σ m 16 = n) (nb : 0 ≤ n ∧ n ≤ 16) (hp : σ m 9 = p) (pb : 0 ≤ p ∧ p ≤ z) (hk : (kdF (σ (m + 7)) z (skE (σ (m + 7)) z p)) = -1) : PW (fm G mX12_readClause 3 0 0 (fun r S' τ => r = none ∧ S' = S ∧ rcP σ τ m z n (rdC (σ (m + 7)) z n (skE (σ (m + 7)) z p)))) G S (upS σ m (tkW (σ m) (skE (σ (m + 7)) z p) (ltE (σ (m + 7)) z (skE (σ (m + 7)) z p)))) 0 0 19 [(0, .ref m), (1, .int (iI (kdF (σ (m + 7)) z (skE (σ (m + 7)) z p))))] [.int (iI 0), .ref m] := by
  obtain ⟨hM0, hM1, hM2, hM3, hM4, hM5, hM6, hM7, hM8, hM9, hM10, hM11, hM12, hM13, hM14, hM15, hM16, hM17, hM18, hM19, hM20, hM21, hM22, hM23, hM24, hM25, hM26, hM27, hM28, hM29, hM30, hM31, hM32, hM33, hM34⟩ := id hA
  have hz0 := hb.1
  have hsk := skE_b (σ (m + 7)) z pb
  have hr := runE_b isLt (σ (m + 7)) z (skE (σ (m + 7)) z p)
  have hle : runE isLt (σ (m + 7)) z (skE (σ (m + 7)) z p) = ltE (σ (m + 7)) z (skE (σ (m + 7)) z p) := rfl
  have hrz := hr.2 (by omega)
  have hkb := kdF_b (σ (m + 7)) z (skE (σ (m + 7)) z p)
  have t7 : (upS σ m (tkW (σ m) (skE (σ (m + 7)) z p) (ltE (σ (m + 7)) z (skE (σ (m + 7)) z p)))) (m + 7) = σ (m + 7) := upS_ne (by omega)
  have t9 : (upS σ m (tkW (σ m) (skE (σ (m + 7)) z p) (ltE (σ (m + 7)) z (skE (σ (m + 7)) z p)))) m 9 = ltE (σ (m + 7)) z (skE (σ (m + 7)) z p) := by rw [upS_same, tkW_9]
  have t10 : (upS σ m (tkW (σ m) (skE (σ (m + 7)) z p) (ltE (σ (m + 7)) z (skE (σ (m + 7)) z p)))) m 10 = 0 := by rw [upS_same, tkW_ne (by decide) (by decide) (by decide)]; exact h10
  have t12 : (upS σ m (tkW (σ m) (skE (σ (m + 7)) z p) (ltE (σ (m + 7)) z (skE (σ (m + 7)) z p)))) m 12 = (skE (σ (m + 7)) z p) := by rw [upS_same, tkW_12]
  have t13 : (upS σ m (tkW (σ m) (skE (σ (m + 7)) z p) (ltE (σ (m + 7)) z (skE (σ (m + 7)) z p)))) m 13 = ltE (σ (m + 7)) z (skE (σ (m + 7)) z p) - (skE (σ (m + 7)) z p) := by rw [upS_same, tkW_13]
  have t16 : (upS σ m (tkW (σ m) (skE (σ (m + 7)) z p) (ltE (σ (m + 7)) z (skE (σ (m + 7)) z p)))) m 16 = n := by rw [upS_same, tkW_ne (by decide) (by decide) (by decide)]; exact hn
  have t8 : (upS σ m (tkW (σ m) (skE (σ (m + 7)) z p) (ltE (σ (m + 7)) z (skE (σ (m + 7)) z p)))) m 8 = z := by rw [upS_same, tkW_ne (by decide) (by decide) (by decide)]; exact hz
  refine PW.iconst dX12_readClause_19 ?_
  refine PW.aload_n dX12_readClause_20 rfl ?_
  refine PW.getI 12 fl_X12_258 rfl (by assumption) rfl rfl dX12_readClause_21 ?_
  refine PW.top ((skE (σ (m + 7)) z p)) (by exact t12) ?_
  refine PW.callVr (c_X12_want (v := 0) (fo := 0) hA (by omega) t10 (by unfold inR; omega) (by omega)) cv_X12_want lk_X12_279 (by first | assumption | exact And.left (by assumption)) dX12_readClause_24 rfl rfl rfl rfl ?_
  refine PW.if_eqB 56 dX12_readClause_27 (by decide) (fun h27 => ?_) (fun h27 => ?_)
  · refine PW.vret rfl dX12_readClause_56 ⟨rfl, rfl, ?_⟩
    rw [show rdC (σ (m + 7)) z n (skE (σ (m + 7)) z p) = (1, (skE (σ (m + 7)) z p), 0, -1, fun _ => 0) by unfold rdC; rw [if_pos hk]]
    rw [if_pos (show (0 : Int) = 0 ∧ (0 : Int) = 0 from ⟨rfl, rfl⟩)]
    exact ⟨fun b b0 b6 b8 b9 => by rw [upS_ne b0, upS_ne b0], fun j j9 j10 j11 j12 j13 j16 => by rw [upS_same, up1_ne j11, up1_ne j10, upS_same, tkW_ne j9 j12 j13], by rw [upS_same, up1_ne (by decide), up1_ne (by decide), t9]; omega, fun q => absurd q (show ¬ (1 : Int) = 0 by decide), fun _ => ⟨by rw [upS_same, up1_ne (by decide), up1_same], by rw [upS_same, up1_same], by rw [upS_same, up1_ne (by decide), up1_ne (by decide)]; exact t16, by rw [upS_ne (by omega), upS_ne (by omega)], by rw [upS_ne (by omega), upS_ne (by omega)]⟩⟩
  · exact absurd h27.1 (by decide)
theorem cl_k {G : GT} {S : Shp} {σ : Sto} {m : Nat} {z n p : Int} (hA : IsMod S m) (hb : bsOk (σ (m + 7)) z) (hz : σ m 8 = z) (h10 : σ m 10 = 0) (hn : σ m 16 = n) (nb : 0 ≤ n ∧ n ≤ 16) (hp : σ m 9 = p) (pb : 0 ≤ p ∧ p ≤ z) (hk : 0 ≤ (kdF (σ (m + 7)) z (skE (σ (m + 7)) z p))) : PW (fm G mX12_readClause 3 0 0 (fun r S' τ => r = none ∧ S' = S ∧ rcP σ τ m z n (rdC (σ (m + 7)) z n (skE (σ (m + 7)) z p)))) G S (upS σ m (tkW (σ m) (skE (σ (m + 7)) z p) (ltE (σ (m + 7)) z (skE (σ (m + 7)) z p)))) 0 0 19 [(0, .ref m), (1, .int (iI (kdF (σ (m + 7)) z (skE (σ (m + 7)) z p))))] [.int (iI 1), .ref m] := by
  obtain ⟨hM0, hM1, hM2, hM3, hM4, hM5, hM6, hM7, hM8, hM9, hM10, hM11, hM12, hM13, hM14, hM15, hM16, hM17, hM18, hM19, hM20, hM21, hM22, hM23, hM24, hM25, hM26, hM27, hM28, hM29, hM30, hM31, hM32, hM33, hM34⟩ := id hA
  have hz0 := hb.1
  have hsk := skE_b (σ (m + 7)) z pb
  have hr := runE_b isLt (σ (m + 7)) z (skE (σ (m + 7)) z p)
  have hle : runE isLt (σ (m + 7)) z (skE (σ (m + 7)) z p) = ltE (σ (m + 7)) z (skE (σ (m + 7)) z p) := rfl
  have hrz := hr.2 (by omega)
  have hkb := kdF_b (σ (m + 7)) z (skE (σ (m + 7)) z p)
  have t7 : (upS σ m (tkW (σ m) (skE (σ (m + 7)) z p) (ltE (σ (m + 7)) z (skE (σ (m + 7)) z p)))) (m + 7) = σ (m + 7) := upS_ne (by omega)
  have t9 : (upS σ m (tkW (σ m) (skE (σ (m + 7)) z p) (ltE (σ (m + 7)) z (skE (σ (m + 7)) z p)))) m 9 = ltE (σ (m + 7)) z (skE (σ (m + 7)) z p) := by rw [upS_same, tkW_9]
  have t10 : (upS σ m (tkW (σ m) (skE (σ (m + 7)) z p) (ltE (σ (m + 7)) z (skE (σ (m + 7)) z p)))) m 10 = 0 := by rw [upS_same, tkW_ne (by decide) (by decide) (by decide)]; exact h10
  have t12 : (upS σ m (tkW (σ m) (skE (σ (m + 7)) z p) (ltE (σ (m + 7)) z (skE (σ (m + 7)) z p)))) m 12 = (skE (σ (m + 7)) z p) := by rw [upS_same, tkW_12]
  have t13 : (upS σ m (tkW (σ m) (skE (σ (m + 7)) z p) (ltE (σ (m + 7)) z (skE (σ (m + 7)) z p)))) m 13 = ltE (σ (m + 7)) z (skE (σ (m + 7)) z p) - (skE (σ (m + 7)) z p) := by rw [upS_same, tkW_13]
  have t16 : (upS σ m (tkW (σ m) (skE (σ (m + 7)) z p) (ltE (σ (m + 7)) z (skE (σ (m + 7)) z p)))) m 16 = n := by rw [upS_same, tkW_ne (by decide) (by decide) (by decide)]; exact hn
  have t8 : (upS σ m (tkW (σ m) (skE (σ (m + 7)) z p) (ltE (σ (m + 7)) z (skE (σ (m + 7)) z p)))) m 8 = z := by rw [upS_same, tkW_ne (by decide) (by decide) (by decide)]; exact hz
  refine PW.iconst dX12_readClause_19 ?_
  refine PW.aload_n dX12_readClause_20 rfl ?_
  refine PW.getI 12 fl_X12_258 rfl (by assumption) rfl rfl dX12_readClause_21 ?_
  refine PW.top ((skE (σ (m + 7)) z p)) (by exact t12) ?_
  refine PW.callVr (c_X12_want (v := 1) (fo := 0) hA (by omega) t10 (by unfold inR; omega) (by omega)) cv_X12_want lk_X12_279 (by first | assumption | exact And.left (by assumption)) dX12_readClause_24 rfl rfl rfl rfl ?_
  refine PW.if_eqB 56 dX12_readClause_27 (by decide) (fun h27 => ?_) (fun h27 => ?_)
  · exact absurd ⟨rfl, rfl⟩ h27
  · refine PW.st (upS σ m (tkW (σ m) (skE (σ (m + 7)) z p) (ltE (σ (m + 7)) z (skE (σ (m + 7)) z p)))) (if_neg (by omega)) ?_
    refine PW.aload_n dX12_readClause_30 rfl ?_
    refine PW.aload_n dX12_readClause_31 rfl ?_
    refine PW.getI 16 fl_X12_290 rfl (by assumption) rfl rfl dX12_readClause_32 ?_
    refine PW.top (n) (by exact t16) ?_
    refine PW.bipush (by decide) dX12_readClause_35 ?_
    refine PW.icmp_ge 44 dX12_readClause_37 (by decide) (by first | assumption | (unfold inR; omega)) (by first | assumption | (unfold inR; omega)) (fun h37 => ?_) (fun h37 => ?_)
    · refine PW.iconst dX12_readClause_44 ?_
      first
        | exact cl_go16 hA hb hz h10 hn nb hp pb hk (by omega)
        | exact cl_full hA hb hz h10 hn nb hp pb hk (by omega)
    · refine PW.iconst dX12_readClause_40 ?_
      refine PW.goto 45 dX12_readClause_41 (by decide) ?_
      first
        | exact cl_go16 hA hb hz h10 hn nb hp pb hk (by omega)
        | exact cl_full hA hb hz h10 hn nb hp pb hk (by omega)
theorem c_X12_readClause {G : GT} {S : Shp} {σ : Sto} {m : Nat} {z n p : Int} (hA : IsMod S m) (hb : bsOk (σ (m + 7)) z) (hz : σ m 8 = z) (h10 : σ m 10 = 0) (hn : σ m 16 = n) (nb : 0 ≤ n ∧ n ≤ 16) (hp : σ m 9 = p) (pb : 0 ≤ p ∧ p ≤ z) : PMet G mX12_readClause 3 0 0 [.ref m] S σ (fun r S' τ => r = none ∧ S' = S ∧ rcP σ τ m z n (rdC (σ (m + 7)) z n (skE (σ (m + 7)) z p))) := by
  obtain ⟨hM0, hM1, hM2, hM3, hM4, hM5, hM6, hM7, hM8, hM9, hM10, hM11, hM12, hM13, hM14, hM15, hM16, hM17, hM18, hM19, hM20, hM21, hM22, hM23, hM24, hM25, hM26, hM27, hM28, hM29, hM30, hM31, hM32, hM33, hM34⟩ := id hA
  have hz0 := hb.1
  have hsk := skE_b (σ (m + 7)) z pb
  have hr := runE_b isLt (σ (m + 7)) z (skE (σ (m + 7)) z p)
  have hle : runE isLt (σ (m + 7)) z (skE (σ (m + 7)) z p) = ltE (σ (m + 7)) z (skE (σ (m + 7)) z p) := rfl
  have hrz := hr.2 (by omega)
  have hkb := kdF_b (σ (m + 7)) z (skE (σ (m + 7)) z p)
  have t7 : (upS σ m (tkW (σ m) (skE (σ (m + 7)) z p) (ltE (σ (m + 7)) z (skE (σ (m + 7)) z p)))) (m + 7) = σ (m + 7) := upS_ne (by omega)
  have t9 : (upS σ m (tkW (σ m) (skE (σ (m + 7)) z p) (ltE (σ (m + 7)) z (skE (σ (m + 7)) z p)))) m 9 = ltE (σ (m + 7)) z (skE (σ (m + 7)) z p) := by rw [upS_same, tkW_9]
  have t10 : (upS σ m (tkW (σ m) (skE (σ (m + 7)) z p) (ltE (σ (m + 7)) z (skE (σ (m + 7)) z p)))) m 10 = 0 := by rw [upS_same, tkW_ne (by decide) (by decide) (by decide)]; exact h10
  have t12 : (upS σ m (tkW (σ m) (skE (σ (m + 7)) z p) (ltE (σ (m + 7)) z (skE (σ (m + 7)) z p)))) m 12 = (skE (σ (m + 7)) z p) := by rw [upS_same, tkW_12]
  have t13 : (upS σ m (tkW (σ m) (skE (σ (m + 7)) z p) (ltE (σ (m + 7)) z (skE (σ (m + 7)) z p)))) m 13 = ltE (σ (m + 7)) z (skE (σ (m + 7)) z p) - (skE (σ (m + 7)) z p) := by rw [upS_same, tkW_13]
  have t16 : (upS σ m (tkW (σ m) (skE (σ (m + 7)) z p) (ltE (σ (m + 7)) z (skE (σ (m + 7)) z p)))) m 16 = n := by rw [upS_same, tkW_ne (by decide) (by decide) (by decide)]; exact hn
  have t8 : (upS σ m (tkW (σ m) (skE (σ (m + 7)) z p) (ltE (σ (m + 7)) z (skE (σ (m + 7)) z p)))) m 8 = z := by rw [upS_same, tkW_ne (by decide) (by decide) (by decide)]; exact hz
  refine PMet.of [(0, .ref m)] (by decide +kernel) rfl (Nat.le_of_ble_eq_true rfl) ?_
  refine PW.aload_n dX12_readClause_0 rfl ?_
  refine PW.callVv (c_X12_takeWord hA hb hz hp pb) cv_X12_takeWord lk_X12_276 (by first | assumption | exact And.left (by assumption)) dX12_readClause_1 rfl rfl rfl rfl ?_
  refine PW.aload_n dX12_readClause_4 rfl ?_
  refine PW.callVr (c_X12_kindOf hA (z := z) (e := (skE (σ (m + 7)) z p)) (by rw [t7]; exact hb) (by rw [t7]; exact t13) t12 (by omega)) cv_X12_kindOf lk_X12_287 (by first | assumption | exact And.left (by assumption)) dX12_readClause_5 rfl rfl rfl rfl ?_
  rw [t7]
  refine PW.istore_n [(0, _), (1, _)] dX12_readClause_8 rfl (Nat.le_of_ble_eq_true rfl) ?_
  refine PW.aload_n dX12_readClause_9 rfl ?_
  refine PW.iload_n dX12_readClause_10 rfl ?_
  refine PW.if_lt 18 dX12_readClause_11 (by decide) (by first | assumption | (unfold inR; omega)) (fun h11 => ?_) (fun h11 => ?_)
  · refine PW.iconst dX12_readClause_18 ?_
    first
      | exact cl_k hA hb hz h10 hn nb hp pb (by omega)
      | exact cl_nk hA hb hz h10 hn nb hp pb (by omega)
  · refine PW.iconst dX12_readClause_14 ?_
    refine PW.goto 19 dX12_readClause_15 (by decide) ?_
    first
      | exact cl_k hA hb hz h10 hn nb hp pb (by omega)
      | exact cl_nk hA hb hz h10 hn nb hp pb (by omega)

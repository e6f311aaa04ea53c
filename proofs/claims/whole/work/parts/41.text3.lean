theorem okv_b {k i v : Int} (hk : 0 ≤ k ∧ k ≤ 5) (hi : 0 ≤ i ∧ i < xT 0 k) (h : suF k i v) : -40 ≤ v ∧ v ≤ 39 := by
  have x0 := xT_0 hk
  have t := tb_lim ⟨k.toNat, by omega⟩ ⟨i.toNat, by omega⟩
  dsimp only at t
  rw [show ((k.toNat : Nat) : Int) = k by omega, show ((i.toNat : Nat) : Int) = i by omega] at t
  rcases h with h | h
  · exact absurd hi.2 h
  · omega
set_option maxRecDepth 20000 in
theorem cl_loop {G : GT} {S : Shp} {σ : Sto} {a u : Nat} {k : Int} {R : Int × Int × Int × (Int → Int)} {Q : Option Value → Shp → Sto → Prop} (hA : IsTxt S a) (hb : bsOk (σ (a + 1)) (σ a 2)) (hk : 0 ≤ k ∧ k ≤ 5) (hgood : ∀ (τ : Sto) (g : Int → Int), (∀ b, b ≠ a → b ≠ a + 2 → τ b = σ b) → (τ a 2 = σ a 2 ∧ τ a 4 = σ a 4 ∧ τ a 5 = σ a 5) → (0 ≤ τ a 3 ∧ τ a 3 ≤ σ a 2) → (∀ j, 0 ≤ j → j < 5 → τ (a + 2) j = g j) → R = (0, 0, τ a 3, g) → PW (fm G mX10_readClause 7 0 0 Q) G S τ 0 0 119 [(0, .ref a), (1, .ref u), (2, .int (iI k))] []) (hbad : ∀ τ : Sto, (∀ b, b ≠ a → b ≠ a + 2 → τ b = σ b) → τ a 2 = σ a 2 → τ a 5 = R.1 → τ a 4 = R.2.1 → ¬ R.1 = 0 → Q (some (.int (iI (b01 False)))) S τ) : ∀ (t : Nat) (i : Int) (τ : Sto) (g : Int → Int), 0 ≤ i → i ≤ xT 0 k → xT 0 k - i < t → (∀ b, b ≠ a → b ≠ a + 2 → τ b = σ b) → (τ a 2 = σ a 2 ∧ τ a 4 = σ a 4 ∧ τ a 5 = σ a 5) → (0 ≤ τ a 3 ∧ τ a 3 ≤ σ a 2) → (∀ j, 0 ≤ j → j < 5 → τ (a + 2) j = g j ∧ -40 ≤ g j ∧ g j ≤ 39) → rdL (σ (a + 1)) (σ a 2) k (xT 0 k - i).toNat i (τ a 3) g = R → PW (fm G mX10_readClause 7 0 0 Q) G S (τ) 0 0 71 [(0, .ref a), (1, .ref u), (2, .int (iI (k))), (3, .int (iI (i)))] [] := by
  obtain ⟨hA0, hA1, hA2⟩ := id hA
  have hz := hb.1
  have xb := xT_0 hk
  intro t
  induction t with
  | zero => intro i τ g h1 h2 h3 g1 g2 g3 g4 g5; omega
  | succ t ih =>
    intro i τ g h1 h2 h3 g1 g2 g3 g4 g5
    have e1 : τ (a + 1) = σ (a + 1) := g1 _ (by omega) (by omega)
    have sb := skE_b (σ (a + 1)) (σ a 2) (p := τ a 3) g3
    have hrl := g5
    have m1 : (upS τ a (up1 (τ a) 3 (skE (σ (a + 1)) (σ a 2) (τ a 3)))) (a + 1) = σ (a + 1) := by rw [upS_ne (by omega)]; exact e1
    have m2 : (upS τ a (up1 (τ a) 3 (skE (σ (a + 1)) (σ a 2) (τ a 3)))) a 2 = σ a 2 := by rw [upS_same, up1_ne (by decide)]; exact g2.1
    have m3 : (upS τ a (up1 (τ a) 3 (skE (σ (a + 1)) (σ a 2) (τ a 3)))) a 3 = (skE (σ (a + 1)) (σ a 2) (τ a 3)) := by rw [upS_same, up1_same]
    have m4 : (upS τ a (up1 (τ a) 3 (skE (σ (a + 1)) (σ a 2) (τ a 3)))) (a + 2) 2 = g 2 := by rw [upS_ne (by omega)]; exact (g4 2 (by omega) (by omega)).1
    refine PW.iload_n dX10_readClause_71 rfl ?_
    refine PW.iload_n dX10_readClause_72 rfl ?_
    refine PW.callSr (c_X5_numbers (by omega)) cs_X5_numbers lk_X10_72 dX10_readClause_73 rfl rfl rfl ?_
    refine PW.icmp_ge 119 dX10_readClause_76 (by decide) (by first | assumption | (unfold inR; omega)) (by first | assumption | (unfold inR; omega)) (fun h76 => ?_) (fun h76 => ?_)
    · have hi : i = xT 0 k := by omega
      subst hi
      rw [Int.sub_self] at hrl
      refine PW.take 3 ?_
      exact hgood τ g g1 g2 g3 (fun j j0 j1 => (g4 j j0 j1).1) hrl.symm
    · rw [show (xT 0 k - i).toNat = (xT 0 k - (i + 1)).toNat + 1 by omega] at hrl
      simp only [rdL] at hrl
      refine PW.aload_n dX10_readClause_79 rfl ?_
      refine PW.callVv (c_X10_skipBlanks hA (by rw [e1, g2.1]; exact hb) (by rw [g2.1]; exact g3)) cv_X10_skipBlanks lk_X10_42 (by first | assumption | exact And.left (by assumption)) dX10_readClause_80 rfl rfl rfl rfl ?_
      refine PW.st (upS τ a (up1 (τ a) 3 (skE (σ (a + 1)) (σ a 2) (τ a 3)))) (by rw [e1, g2.1]) ?_
      refine PW.iload_n dX10_readClause_83 rfl ?_
      refine PW.iload_n dX10_readClause_84 rfl ?_
      refine PW.callSr (c_X5_isAxisPlace (by first | assumption | (unfold inR; omega)) (by first | assumption | (unfold inR; omega))) cs_X5_isAxisPlace lk_X10_75 dX10_readClause_85 rfl rfl rfl ?_
      refine PW.if_eqB 102 dX10_readClause_88 (by decide) (fun h88 => ?_) (fun h88 => ?_)
      · refine PW.aload_n dX10_readClause_102 rfl ?_
        refine PW.iload_n dX10_readClause_103 rfl ?_
        refine PW.iload_n dX10_readClause_104 rfl ?_
        refine PW.callVg (c_X10_readNumber (k := k) hA (by rw [m1, m2]; exact hb) (by rw [m2, m3]; omega) hk (by omega) (by assumption) (by rw [m4]; exact (g4 2 (by omega) (by omega)).2)) cv_X10_readNumber lk_X10_82 (by first | assumption | exact And.left (by assumption)) dX10_readClause_105 rfl rfl rfl rfl (fun r S' τ105 hq => ?_)
        obtain ⟨hS, rfl, okk, bad⟩ := hq
        have hS2 := hS.symm
        subst hS2
        rw [m1, m2, m3] at okk bad ⊢
        rw [rdFt_congr (g' := g) m4] at okk bad ⊢
        refine PW.if_neB 113 dX10_readClause_108 (by decide) (fun h108 => ?_) (fun h108 => ?_)
        · refine PW.iinc [(0, _), (1, _), (2, _), (3, _)] dX10_readClause_113 rfl rfl (Nat.le_of_ble_eq_true rfl) ?_
          refine PW.goto 71 dX10_readClause_116 (by decide) ?_
          have eq0 := okk (by assumption)
          rw [if_pos (by assumption)] at hrl
          have su := rd_su hk ⟨h1, by omega⟩ (by assumption : rdFt (σ (a + 1)) (σ a 2) k i (skE (σ (a + 1)) (σ a 2) (τ a 3)) g = 0)
          have pb2 := rdPl_b (B := σ (a + 1)) (z := σ a 2) (k := k) (i := i) (p := (skE (σ (a + 1)) (σ a 2) (τ a 3))) (g := g) (by omega) (by assumption)
          have vb2 := okv_b hk ⟨h1, by omega⟩ su.1
          refine ih (i + 1) _ (up1 g i (rdVl (σ (a + 1)) (σ a 2) k i (skE (σ (a + 1)) (σ a 2) (τ a 3)))) (by omega) (by omega) (by omega) ?_ ?_ ?_ ?_ ?_
          · intro b b0 b1
            rw [eq0, upS_ne b0, upS_ne b1, upS_ne b0]
            exact g1 b b0 b1
          · rw [eq0, upS_same, up1_ne (by decide), up1_ne (by decide), up1_ne (by decide), upS_same, up1_ne (by decide), up1_ne (by decide), up1_ne (by decide)]
            exact g2
          · rw [eq0, upS_same, up1_same]
            omega
          · intro j j0 j1
            rw [eq0, upS_ne (by omega), upS_same]
            by_cases q : j = i
            · rw [q, up1_same, up1_same]
              exact ⟨rfl, vb2⟩
            · rw [up1_ne q, up1_ne q, upS_ne (by omega)]
              exact g4 j j0 j1
          · rw [eq0, upS_same, up1_same]
            exact hrl
        · refine PW.iconst dX10_readClause_111 ?_
          obtain ⟨pl, eb⟩ := bad (by assumption)
          rw [if_neg (by assumption)] at hrl
          refine PW.iret rfl rfl dX10_readClause_112 (hbad _ (fun b b0 b1 => ?_) ?_ ?_ ?_ ?_)
          · rw [eb, upS_ne b0, upS_ne b0]
            exact g1 b b0 b1
          · rw [eb, upS_same, up1_ne (by decide), up1_ne (by decide), up1_ne (by decide), upS_same, up1_ne (by decide)]
            exact g2.1
          · rw [eb, upS_same, up1_ne (by decide), up1_same, ← hrl]
          · rw [eb, upS_same, up1_same, ← hrl]
          · rw [← hrl]
            assumption
      · refine PW.aload_n dX10_readClause_91 rfl ?_
        refine PW.iload_n dX10_readClause_92 rfl ?_
        refine PW.callVg (c_X10_readAxis (k := k) hA (by rw [m1, m2]; exact hb) (by rw [m2, m3]; omega) hk (by omega) (by assumption)) cv_X10_readAxis lk_X10_78 (by first | assumption | exact And.left (by assumption)) dX10_readClause_93 rfl rfl rfl rfl (fun r S' τ93 hq => ?_)
        obtain ⟨hS, rfl, okk, bad⟩ := hq
        have hS2 := hS.symm
        subst hS2
        rw [m1, m2, m3] at okk bad ⊢
        rw [rdFt_congr (g' := g) m4] at okk bad ⊢
        refine PW.if_eqB 111 dX10_readClause_96 (by decide) (fun h96 => ?_) (fun h96 => ?_)
        · refine PW.iconst dX10_readClause_111 ?_
          obtain ⟨pl, eb⟩ := bad (by assumption)
          rw [if_neg (by assumption)] at hrl
          refine PW.iret rfl rfl dX10_readClause_112 (hbad _ (fun b b0 b1 => ?_) ?_ ?_ ?_ ?_)
          · rw [eb, upS_ne b0, upS_ne b0]
            exact g1 b b0 b1
          · rw [eb, upS_same, up1_ne (by decide), up1_ne (by decide), up1_ne (by decide), upS_same, up1_ne (by decide)]
            exact g2.1
          · rw [eb, upS_same, up1_ne (by decide), up1_same, ← hrl]
          · rw [eb, upS_same, up1_same, ← hrl]
          · rw [← hrl]
            assumption
        · refine PW.goto 113 dX10_readClause_99 (by decide) ?_
          refine PW.iinc [(0, _), (1, _), (2, _), (3, _)] dX10_readClause_113 rfl rfl (Nat.le_of_ble_eq_true rfl) ?_
          refine PW.goto 71 dX10_readClause_116 (by decide) ?_
          have eq0 := okk (by assumption)
          rw [if_pos (by assumption)] at hrl
          have su := rd_su hk ⟨h1, by omega⟩ (by assumption : rdFt (σ (a + 1)) (σ a 2) k i (skE (σ (a + 1)) (σ a 2) (τ a 3)) g = 0)
          have pb2 := rdPl_b (B := σ (a + 1)) (z := σ a 2) (k := k) (i := i) (p := (skE (σ (a + 1)) (σ a 2) (τ a 3))) (g := g) (by omega) (by assumption)
          have vb2 := okv_b hk ⟨h1, by omega⟩ su.1
          refine ih (i + 1) _ (up1 g i (rdVl (σ (a + 1)) (σ a 2) k i (skE (σ (a + 1)) (σ a 2) (τ a 3)))) (by omega) (by omega) (by omega) ?_ ?_ ?_ ?_ ?_
          · intro b b0 b1
            rw [eq0, upS_ne b0, upS_ne b1, upS_ne b0]
            exact g1 b b0 b1
          · rw [eq0, upS_same, up1_ne (by decide), up1_ne (by decide), up1_ne (by decide), upS_same, up1_ne (by decide), up1_ne (by decide), up1_ne (by decide)]
            exact g2
          · rw [eq0, upS_same, up1_same]
            omega
          · intro j j0 j1
            rw [eq0, upS_ne (by omega), upS_same]
            by_cases q : j = i
            · rw [q, up1_same, up1_same]
              exact ⟨rfl, vb2⟩
            · rw [up1_ne q, up1_ne q, upS_ne (by omega)]
              exact g4 j j0 j1
          · rw [eq0, upS_same, up1_same]
            exact hrl
set_option maxRecDepth 20000 in
theorem c_X10_readClause {G : GT} {S : Shp} {σ : Sto} {a t : Nat} (hA : IsTxt S a) (hb : bsOk (σ (a + 1)) (σ a 2)) (hT : IsTale S t) (hp : 0 ≤ σ a 3 ∧ σ a 3 < σ a 2) (hn : 0 ≤ σ t 2 ∧ σ t 2 ≤ 16) (hd : t + 2 < a ∨ a + 2 < t) : PMet G mX10_readClause 7 0 0 [.ref a, .ref t] S σ (fun r S' τ => S' = S ∧ r = some (.int (iI (b01 ((rdC (σ (a + 1)) (σ a 2) (σ t 2) (σ a 3)).1 = 0)))) ∧ (∀ b, b ≠ a → b ≠ a + 2 → b ≠ t → b ≠ t + 1 → τ b = σ b) ∧ τ a 2 = σ a 2 ∧ ((rdC (σ (a + 1)) (σ a 2) (σ t 2) (σ a 3)).1 = 0 → τ a 3 = (rdC (σ (a + 1)) (σ a 2) (σ t 2) (σ a 3)).2.2.1 ∧ τ a 4 = σ a 4 ∧ τ a 5 = σ a 5 ∧ τ t = up1 (σ t) 2 (σ t 2 + 1) ∧ τ (t + 1) = adF (σ (t + 1)) (σ t 2) (rdC (σ (a + 1)) (σ a 2) (σ t 2) (σ a 3)).2.2.2.1 ((rdC (σ (a + 1)) (σ a 2) (σ t 2) (σ a 3)).2.2.2.2 0) ((rdC (σ (a + 1)) (σ a 2) (σ t 2) (σ a 3)).2.2.2.2 1) ((rdC (σ (a + 1)) (σ a 2) (σ t 2) (σ a 3)).2.2.2.2 2) ((rdC (σ (a + 1)) (σ a 2) (σ t 2) (σ a 3)).2.2.2.2 3) ((rdC (σ (a + 1)) (σ a 2) (σ t 2) (σ a 3)).2.2.2.2 4)) ∧ (¬ (rdC (σ (a + 1)) (σ a 2) (σ t 2) (σ a 3)).1 = 0 → τ a 5 = (rdC (σ (a + 1)) (σ a 2) (σ t 2) (σ a 3)).1 ∧ τ a 4 = (rdC (σ (a + 1)) (σ a 2) (σ t 2) (σ a 3)).2.1 ∧ τ t = σ t ∧ τ (t + 1) = σ (t + 1))) := by
  obtain ⟨hA0, hA1, hA2⟩ := id hA
  have hz := hb.1
  obtain ⟨hT0, hT1, hT2⟩ := id hT
  have kb := kdF_b (σ (a + 1)) (σ a 2) (σ a 3)
  refine PMet.of [(0, .ref a), (1, .ref t)] (by decide +kernel) rfl (Nat.le_of_ble_eq_true rfl) ?_
  refine PW.aload_n dX10_readClause_0 rfl ?_
  refine PW.callVr (c_X10_kindHere hA hb (by omega)) cv_X10_kindHere lk_X10_49 (by first | assumption | exact And.left (by assumption)) dX10_readClause_1 rfl rfl rfl rfl ?_
  refine PW.istore_n [(0, _), (1, _), (2, _)] dX10_readClause_4 rfl (Nat.le_of_ble_eq_true rfl) ?_
  refine PW.iload_n dX10_readClause_5 rfl ?_
  refine PW.iconst dX10_readClause_6 ?_
  refine PW.icmp_ne 20 dX10_readClause_7 (by decide) (by first | assumption | (unfold inR; omega)) (by first | assumption | (unfold inR; omega)) (fun h7 => ?_) (fun h7 => ?_)
  · refine PW.aload_n dX10_readClause_20 rfl ?_
    refine PW.callVr (c_X8_size hT) cv_X8_size lk_X10_57 (by first | assumption | exact And.left (by assumption)) dX10_readClause_21 rfl rfl rfl rfl ?_
    refine PW.bipush (by decide) dX10_readClause_24 ?_
    refine PW.icmp_lt 39 dX10_readClause_26 (by decide) (by first | assumption | (unfold inR; omega)) (by first | assumption | (unfold inR; omega)) (fun h26 => ?_) (fun h26 => ?_)
    · refine PW.aload_n dX10_readClause_39 rfl ?_
      refine PW.dup rfl dX10_readClause_40 ?_
      refine PW.getI 3 fl_X10_24 rfl (by assumption) rfl rfl dX10_readClause_41 ?_
      refine PW.iload_n dX10_readClause_44 rfl ?_
      refine PW.callSr (c_X5_word (by omega)) cs_X5_word lk_X10_59 dX10_readClause_45 rfl rfl rfl ?_
      have hk5 : 0 ≤ (kdF (σ (a + 1)) (σ a 2) (σ a 3)) ∧ (kdF (σ (a + 1)) (σ a 2) (σ a 3)) ≤ 5 := by omega
      have lb := lenF_b (k0 := (kdF (σ (a + 1)) (σ a 2) (σ a 3)).toNat) (by omega)
      refine PW.callVXr (kdF (σ (a + 1)) (σ a 2) (σ a 3)).toNat (by omega) (c_J0_length (by omega)) cv_J0_length_8abf5 lk_X10_63 dX10_readClause_48 rfl rfl rfl rfl ?_
      refine PW.iadd dX10_readClause_51 ?_
      refine PW.putI 3 fl_X10_24 rfl (fun h => absurd h (by decide)) (by assumption) rfl rfl rfl rfl dX10_readClause_52 ?_
      have xb := xT_0 hk5
      have hwh : whP (σ (a + 1)) (σ a 2) (kdF (σ (a + 1)) (σ a 2) (σ a 3)).toNat (σ a 3) := of_decide_eq_true ((firI_spec (P := fun k => decide (whP (σ (a + 1)) (σ a 2) k.toNat (σ a 3))) (n := 6)).2 (by assumption : ¬ (kdF (σ (a + 1)) (σ a 2) (σ a 3)) = -1)).1
      have hpz : σ a 3 + lenF (kdF (σ (a + 1)) (σ a 2) (σ a 3)).toNat ≤ σ a 2 := by
        have f := (firI_spec (P := whB (σ (a + 1)) (σ a 2) (kdF (σ (a + 1)) (σ a 2) (σ a 3)).toNat (σ a 3)) (n := (lenF (kdF (σ (a + 1)) (σ a 2) (σ a 3)).toNat).toNat)).1 hwh.1 (lenF (kdF (σ (a + 1)) (σ a 2) (σ a 3)).toNat - 1) (by omega) (by omega)
        have f2 := Decidable.not_not.mp (of_decide_eq_false f)
        have f3 := chrF_b (k0 := (kdF (σ (a + 1)) (σ a 2) (σ a 3)).toNat) (by omega) (i := lenF (kdF (σ (a + 1)) (σ a 2) (σ a 3)).toNat - 1) (by omega) (by omega)
        have := btF_lt (B := σ (a + 1)) (z := σ a 2) (p := σ a 3 + (lenF (kdF (σ (a + 1)) (σ a 2) (σ a 3)).toNat - 1)) (by omega)
        omega
      refine PW.aload_n dX10_readClause_55 rfl ?_
      refine PW.getR fl_X10_17 rfl (by assumption) rfl dX10_readClause_56 ?_
      refine PW.iconst dX10_readClause_59 ?_
      refine PW.aload_n dX10_readClause_60 rfl ?_
      refine PW.getR fl_X10_17 rfl (by assumption) rfl dX10_readClause_61 ?_
      refine PW.alen (by assumption) (by decide) dX10_readClause_64 ?_
      refine PW.iconst dX10_readClause_65 ?_
      refine PW.callSv (c_X11_fill (by assumption) (by decide) (by first | assumption | (unfold inR; omega)) (by first | assumption | (unfold inR; omega))) cs_X11_fill lk_X10_68 dX10_readClause_66 rfl rfl rfl ?_
      refine PW.iconst dX10_readClause_69 ?_
      refine PW.istore_n [(0, _), (1, _), (2, _), (3, _)] dX10_readClause_70 rfl (Nat.le_of_ble_eq_true rfl) ?_
      have mm1 : (upS (upS σ a (up1 (σ a) 3 (σ a 3 + lenF (kdF (σ (a + 1)) (σ a 2) (σ a 3)).toNat))) (a + 2) (flI ((upS σ a (up1 (σ a) 3 (σ a 3 + lenF (kdF (σ (a + 1)) (σ a 2) (σ a 3)).toNat))) (a + 2)) 0 ((5 : Nat) : Int) 5 0)) (a + 1) = σ (a + 1) := by rw [upS_ne (by omega), upS_ne (by omega)]
      have mm2 : (upS (upS σ a (up1 (σ a) 3 (σ a 3 + lenF (kdF (σ (a + 1)) (σ a 2) (σ a 3)).toNat))) (a + 2) (flI ((upS σ a (up1 (σ a) 3 (σ a 3 + lenF (kdF (σ (a + 1)) (σ a 2) (σ a 3)).toNat))) (a + 2)) 0 ((5 : Nat) : Int) 5 0)) a 2 = σ a 2 := by rw [upS_ne (by omega), upS_same, up1_ne (by decide)]
      have mm3 : (upS (upS σ a (up1 (σ a) 3 (σ a 3 + lenF (kdF (σ (a + 1)) (σ a 2) (σ a 3)).toNat))) (a + 2) (flI ((upS σ a (up1 (σ a) 3 (σ a 3 + lenF (kdF (σ (a + 1)) (σ a 2) (σ a 3)).toNat))) (a + 2)) 0 ((5 : Nat) : Int) 5 0)) a 3 = σ a 3 + lenF (kdF (σ (a + 1)) (σ a 2) (σ a 3)).toNat := by rw [upS_ne (by omega), upS_same, up1_same]
      have hg0 : ∀ j : Int, 0 ≤ j → j < 5 → (upS (upS σ a (up1 (σ a) 3 (σ a 3 + lenF (kdF (σ (a + 1)) (σ a 2) (σ a 3)).toNat))) (a + 2) (flI ((upS σ a (up1 (σ a) 3 (σ a 3 + lenF (kdF (σ (a + 1)) (σ a 2) (σ a 3)).toNat))) (a + 2)) 0 ((5 : Nat) : Int) 5 0)) (a + 2) j = 0 ∧ -40 ≤ (0 : Int) ∧ (0 : Int) ≤ 39 := fun j j0 j1 => by
        rw [upS_same]
        unfold flI
        rw [if_pos (by omega)]
        omega
      refine cl_loop (R := (rdL (σ (a + 1)) (σ a 2) (kdF (σ (a + 1)) (σ a 2) (σ a 3)) (xT 0 (kdF (σ (a + 1)) (σ a 2) (σ a 3))).toNat 0 (σ a 3 + lenF (kdF (σ (a + 1)) (σ a 2) (σ a 3)).toNat) (fun _ => 0))) (σ := upS (upS σ a (up1 (σ a) 3 (σ a 3 + lenF (kdF (σ (a + 1)) (σ a 2) (σ a 3)).toNat))) (a + 2) (flI ((upS σ a (up1 (σ a) 3 (σ a 3 + lenF (kdF (σ (a + 1)) (σ a 2) (σ a 3)).toNat))) (a + 2)) 0 ((5 : Nat) : Int) 5 0)) hA (by rw [mm1, mm2]; exact hb) hk5 ?good ?bad 6 0 _ (fun _ => 0) (by omega) (by omega) (by omega) (fun _ _ _ => rfl) ⟨rfl, rfl, rfl⟩ (by rw [mm2, mm3]; omega) hg0 (by rw [mm1, mm2, mm3, Int.sub_zero])
      case good =>
        intro τ g f1 f2 f3 f4 f5
        have e1 : τ (a + 1) = σ (a + 1) := by rw [f1 _ (by omega) (by omega), upS_ne (by omega), upS_ne (by omega)]
        have e2 : τ a 2 = σ a 2 := by rw [f2.1, upS_ne (by omega), upS_same, up1_ne (by decide)]
        have hf3 : 0 ≤ τ a 3 ∧ τ a 3 ≤ σ a 2 := by rw [upS_ne (show a ≠ a + 2 by omega), upS_same, up1_ne (show (2 : Int) ≠ 3 by decide)] at f3; exact f3
        have sb := skE_b (σ (a + 1)) (σ a 2) (p := τ a 3) hf3
        have bb := btF_b hb (skE (σ (a + 1)) (σ a 2) (τ a 3))
        have et : τ t = σ t := by rw [f1 _ (by omega) (by omega), upS_ne (by omega), upS_ne (by omega)]
        have et1 : τ (t + 1) = σ (t + 1) := by rw [f1 _ (by omega) (by omega), upS_ne (by omega), upS_ne (by omega)]
        refine PW.aload_n dX10_readClause_119 rfl ?_
        refine PW.callVv (c_X10_skipBlanks hA (by rw [e1, e2]; exact hb) (by rw [e2]; exact hf3)) cv_X10_skipBlanks lk_X10_42 (by first | assumption | exact And.left (by assumption)) dX10_readClause_120 rfl rfl rfl rfl ?_
        refine PW.st (upS τ a (up1 (τ a) 3 (skE (σ (a + 1)) (σ a 2) (τ a 3)))) (by rw [e1, e2]) ?_
        have m1 : (upS τ a (up1 (τ a) 3 (skE (σ (a + 1)) (σ a 2) (τ a 3)))) (a + 1) = σ (a + 1) := by rw [upS_ne (by omega)]; exact e1
        have m2 : (upS τ a (up1 (τ a) 3 (skE (σ (a + 1)) (σ a 2) (τ a 3)))) a 2 = σ a 2 := by rw [upS_same, up1_ne (by decide)]; exact e2
        have m3 : (upS τ a (up1 (τ a) 3 (skE (σ (a + 1)) (σ a 2) (τ a 3)))) a 3 = (skE (σ (a + 1)) (σ a 2) (τ a 3)) := by rw [upS_same, up1_same]
        refine PW.aload_n dX10_readClause_123 rfl ?_
        refine PW.aload_n dX10_readClause_124 rfl ?_
        refine PW.getI 3 fl_X10_24 rfl (by assumption) rfl rfl dX10_readClause_125 ?_
        refine PW.top (skE (σ (a + 1)) (σ a 2) (τ a 3)) m3 ?_
        refine PW.callVr (c_X10_byteAt hA (by rw [m1, m2]; exact hb) (by unfold inR; omega)) cv_X10_byteAt lk_X10_85 (by first | assumption | exact And.left (by assumption)) dX10_readClause_128 rfl rfl rfl rfl ?_
        refine PW.top (btF (σ (a + 1)) (σ a 2) (skE (σ (a + 1)) (σ a 2) (τ a 3))) (by rw [m1, m2]) ?_
        refine PW.bipush (by decide) dX10_readClause_131 ?_
        refine PW.icmp_eq 146 dX10_readClause_133 (by decide) (by first | assumption | (unfold inR; omega)) (by first | assumption | (unfold inR; omega)) (fun h133 => ?_) (fun h133 => ?_)
        · refine PW.aload_n dX10_readClause_146 rfl ?_
          refine PW.dup rfl dX10_readClause_147 ?_
          refine PW.getI 3 fl_X10_24 rfl (by assumption) rfl rfl dX10_readClause_148 ?_
          refine PW.top (skE (σ (a + 1)) (σ a 2) (τ a 3)) m3 ?_
          refine PW.iconst dX10_readClause_151 ?_
          refine PW.iadd dX10_readClause_152 ?_
          refine PW.putI 3 fl_X10_24 rfl (fun h => absurd h (by decide)) (by assumption) rfl rfl rfl rfl dX10_readClause_153 ?_
          refine PW.st (upS τ a (up1 (τ a) 3 ((skE (σ (a + 1)) (σ a 2) (τ a 3)) + 1))) (by rw [upS_upS, upS_same, up1_up1]) ?_
          refine PW.aload_n dX10_readClause_156 rfl ?_
          refine PW.iload_n dX10_readClause_157 rfl ?_
          refine PW.aload_n dX10_readClause_158 rfl ?_
          refine PW.getR fl_X10_17 rfl (by assumption) rfl dX10_readClause_159 ?_
          refine PW.iconst dX10_readClause_162 ?_
          refine PW.callSr (c_X11_get (by assumption) (by unfold inR; omega) (by decide)) cs_X11_get lk_X10_88 dX10_readClause_163 rfl rfl rfl ?_
          refine PW.top (g 0) (by unfold gI; rw [if_pos (by decide), upS_ne (by omega)]; exact f4 0 (by decide) (by decide)) ?_
          refine PW.aload_n dX10_readClause_166 rfl ?_
          refine PW.getR fl_X10_17 rfl (by assumption) rfl dX10_readClause_167 ?_
          refine PW.iconst dX10_readClause_170 ?_
          refine PW.callSr (c_X11_get (by assumption) (by unfold inR; omega) (by decide)) cs_X11_get lk_X10_88 dX10_readClause_171 rfl rfl rfl ?_
          refine PW.top (g 1) (by unfold gI; rw [if_pos (by decide), upS_ne (by omega)]; exact f4 1 (by decide) (by decide)) ?_
          refine PW.aload_n dX10_readClause_174 rfl ?_
          refine PW.getR fl_X10_17 rfl (by assumption) rfl dX10_readClause_175 ?_
          refine PW.iconst dX10_readClause_178 ?_
          refine PW.callSr (c_X11_get (by assumption) (by unfold inR; omega) (by decide)) cs_X11_get lk_X10_88 dX10_readClause_179 rfl rfl rfl ?_
          refine PW.top (g 2) (by unfold gI; rw [if_pos (by decide), upS_ne (by omega)]; exact f4 2 (by decide) (by decide)) ?_
          refine PW.aload_n dX10_readClause_182 rfl ?_
          refine PW.getR fl_X10_17 rfl (by assumption) rfl dX10_readClause_183 ?_
          refine PW.iconst dX10_readClause_186 ?_
          refine PW.callSr (c_X11_get (by assumption) (by unfold inR; omega) (by decide)) cs_X11_get lk_X10_88 dX10_readClause_187 rfl rfl rfl ?_
          refine PW.top (g 3) (by unfold gI; rw [if_pos (by decide), upS_ne (by omega)]; exact f4 3 (by decide) (by decide)) ?_
          refine PW.aload_n dX10_readClause_190 rfl ?_
          refine PW.getR fl_X10_17 rfl (by assumption) rfl dX10_readClause_191 ?_
          refine PW.iconst dX10_readClause_194 ?_
          refine PW.callSr (c_X11_get (by assumption) (by unfold inR; omega) (by decide)) cs_X11_get lk_X10_88 dX10_readClause_195 rfl rfl rfl ?_
          refine PW.top (g 4) (by unfold gI; rw [if_pos (by decide), upS_ne (by omega)]; exact f4 4 (by decide) (by decide)) ?_
          refine PW.callVv (c_X8_add (n := σ t 2) hT (by rw [upS_ne (by omega), et]) (by omega) hk5) cv_X8_add lk_X10_92 (by first | assumption | exact And.left (by assumption)) dX10_readClause_198 rfl rfl rfl rfl ?_
          refine PW.iconst dX10_readClause_201 ?_
          have eC : rdC (σ (a + 1)) (σ a 2) (σ t 2) (σ a 3) = (0, 0, (skE (σ (a + 1)) (σ a 2) (τ a 3)) + 1, (kdF (σ (a + 1)) (σ a 2) (σ a 3)), g) := by
            unfold rdC
            rw [if_neg (show ¬ (kdF (σ (a + 1)) (σ a 2) (σ a 3)) = -1 by assumption), if_neg (by omega)]
            rw [f5]
            rw [if_neg (fun q => q rfl), if_pos (by assumption)]
          refine PW.iret rfl rfl dX10_readClause_202 ?_
          rw [eC]
          refine ⟨rfl, ret_eq ?_, fun b b0 b1 b2 b3 => ?_, ?_, fun _ => ⟨?_, ?_, ?_, ?_, ?_⟩, fun q => absurd rfl q⟩
          · rw [b01_t rfl]
          · rw [upS_ne b2, upS_ne b3, upS_ne b0, f1 b b0 b1, upS_ne b1, upS_ne b0]
          · rw [upS_ne (by omega), upS_ne (by omega), upS_same, up1_ne (by decide)]; exact e2
          · rw [upS_ne (by omega), upS_ne (by omega), upS_same, up1_same]
          · rw [upS_ne (by omega), upS_ne (by omega), upS_same, up1_ne (by decide), f2.2.1, upS_ne (by omega), upS_same, up1_ne (by decide)]
          · rw [upS_ne (by omega), upS_ne (by omega), upS_same, up1_ne (by decide), f2.2.2, upS_ne (by omega), upS_same, up1_ne (by decide)]
          · rw [upS_same, upS_ne (show t ≠ a by omega), et]
          · rw [upS_ne (by omega), upS_same, upS_ne (show t + 1 ≠ a by omega), et1]
        · refine PW.aload_n dX10_readClause_136 rfl ?_
          refine PW.iconst dX10_readClause_137 ?_
          refine PW.aload_n dX10_readClause_138 rfl ?_
          refine PW.getI 3 fl_X10_24 rfl (by assumption) rfl rfl dX10_readClause_139 ?_
          refine PW.top (skE (σ (a + 1)) (σ a 2) (τ a 3)) m3 ?_
          refine PW.callVr (c_X10_refuse (by assumption)) cv_X10_refuse lk_X10_53 (by first | assumption | exact And.left (by assumption)) dX10_readClause_142 rfl rfl rfl rfl ?_
          have eC : rdC (σ (a + 1)) (σ a 2) (σ t 2) (σ a 3) = (1, (skE (σ (a + 1)) (σ a 2) (τ a 3)), 0, -1, fun _ => 0) := by
            unfold rdC
            rw [if_neg (show ¬ (kdF (σ (a + 1)) (σ a 2) (σ a 3)) = -1 by assumption), if_neg (by omega)]
            rw [f5]
            rw [if_neg (fun q => q rfl), if_neg (by assumption)]
          refine PW.iret rfl rfl dX10_readClause_145 ?_
          rw [eC]
          refine ⟨rfl, ret_eq ?_, fun b b0 b1 b2 b3 => ?_, ?_, fun q => ?_, fun _ => ⟨?_, ?_, ?_, ?_⟩⟩
          · rw [b01_f (by simp), b01_f (by simp)]
          · rw [upS_ne b0, upS_ne b0, f1 b b0 b1, upS_ne b1, upS_ne b0]
          · rw [upS_same, up1_ne (by decide), up1_ne (by decide), upS_same, up1_ne (by decide)]; exact e2
          · simp at q
          · rw [upS_same, up1_ne (by decide), up1_same]
          · rw [upS_same, up1_same]
          · rw [upS_ne (by omega), upS_ne (by omega)]; exact et
          · rw [upS_ne (by omega), upS_ne (by omega)]; exact et1
      case bad =>
        intro τ f1 f2 f3 f4 f5
        have eC : rdC (σ (a + 1)) (σ a 2) (σ t 2) (σ a 3) = ((rdL (σ (a + 1)) (σ a 2) (kdF (σ (a + 1)) (σ a 2) (σ a 3)) (xT 0 (kdF (σ (a + 1)) (σ a 2) (σ a 3))).toNat 0 (σ a 3 + lenF (kdF (σ (a + 1)) (σ a 2) (σ a 3)).toNat) (fun _ => 0)).1, (rdL (σ (a + 1)) (σ a 2) (kdF (σ (a + 1)) (σ a 2) (σ a 3)) (xT 0 (kdF (σ (a + 1)) (σ a 2) (σ a 3))).toNat 0 (σ a 3 + lenF (kdF (σ (a + 1)) (σ a 2) (σ a 3)).toNat) (fun _ => 0)).2.1, 0, -1, fun _ => 0) := by
          unfold rdC
          rw [if_neg (show ¬ (kdF (σ (a + 1)) (σ a 2) (σ a 3)) = -1 by assumption), if_neg (by omega), if_pos f5]
        rw [eC]
        refine ⟨rfl, ret_eq ?_, fun b b0 b1 b2 b3 => ?_, ?_, fun q => absurd q f5, fun _ => ⟨f3, f4, ?_, ?_⟩⟩
        · rw [b01_f (by simp), b01_f f5]
        · rw [f1 b b0 b1, upS_ne b1, upS_ne b0]
        · rw [f2]; exact mm2
        · rw [f1 _ (by omega) (by omega), upS_ne (by omega), upS_ne (by omega)]
        · rw [f1 _ (by omega) (by omega), upS_ne (by omega), upS_ne (by omega)]
    · refine PW.aload_n dX10_readClause_29 rfl ?_
      refine PW.iconst dX10_readClause_30 ?_
      refine PW.aload_n dX10_readClause_31 rfl ?_
      refine PW.getI 3 fl_X10_24 rfl (by assumption) rfl rfl dX10_readClause_32 ?_
      refine PW.callVr (c_X10_refuse (by assumption)) cv_X10_refuse lk_X10_53 (by first | assumption | exact And.left (by assumption)) dX10_readClause_35 rfl rfl rfl rfl ?_
      have eC : rdC (σ (a + 1)) (σ a 2) (σ t 2) (σ a 3) = (3, σ a 3, 0, -1, fun _ => 0) := by
        unfold rdC
        rw [if_neg (by assumption), if_pos (by omega)]
      refine PW.iret rfl rfl dX10_readClause_38 ?_
      rw [eC]
      refine ⟨rfl, ret_eq ?_, fun b b0 b1 b2 b3 => ?_, ?_, fun q => ?_, fun _ => ⟨?_, ?_, ?_, ?_⟩⟩
      · rw [b01_f (by simp), b01_f (by simp)]
      · rw [upS_ne b0]
      · rw [upS_same, up1_ne (by decide), up1_ne (by decide)]
      · simp at q
      · rw [upS_same, up1_ne (by decide), up1_same]
      · rw [upS_same, up1_same]
      · rw [upS_ne (by omega)]
      · rw [upS_ne (by omega)]
  · refine PW.aload_n dX10_readClause_10 rfl ?_
    refine PW.iconst dX10_readClause_11 ?_
    refine PW.aload_n dX10_readClause_12 rfl ?_
    refine PW.getI 3 fl_X10_24 rfl (by assumption) rfl rfl dX10_readClause_13 ?_
    refine PW.callVr (c_X10_refuse (by assumption)) cv_X10_refuse lk_X10_53 (by first | assumption | exact And.left (by assumption)) dX10_readClause_16 rfl rfl rfl rfl ?_
    have eC : rdC (σ (a + 1)) (σ a 2) (σ t 2) (σ a 3) = (1, σ a 3, 0, -1, fun _ => 0) := by
      unfold rdC
      rw [if_pos (by assumption)]
    refine PW.iret rfl rfl dX10_readClause_19 ?_
    rw [eC]
    refine ⟨rfl, ret_eq ?_, fun b b0 b1 b2 b3 => ?_, ?_, fun q => ?_, fun _ => ⟨?_, ?_, ?_, ?_⟩⟩
    · rw [b01_f (by simp), b01_f (by simp)]
    · rw [upS_ne b0]
    · rw [upS_same, up1_ne (by decide), up1_ne (by decide)]
    · simp at q
    · rw [upS_same, up1_ne (by decide), up1_same]
    · rw [upS_same, up1_same]
    · rw [upS_ne (by omega)]
    · rw [upS_ne (by omega)]

set_option maxRecDepth 20000 in
theorem parse_loop {G : GT} {S : Shp} {σ : Sto} {a u : Nat} {R : Int × Int × Int × (Int → Int)} {Q : Option Value → Shp → Sto → Prop} (hA : IsTxt S a) (hb : bsOk (σ (a + 1)) (σ a 2)) (hT : IsTale S u) (hd : u + 2 < a ∨ a + 2 < u) (hQ : ∀ τ : Sto, (∀ b, b ≠ a → b ≠ a + 2 → b ≠ u → b ≠ u + 1 → τ b = σ b) → τ a 2 = σ a 2 → τ a 4 = R.2.1 → (R.1 = 0 → τ u 2 = R.2.2.1 ∧ τ (u + 1) = R.2.2.2 ∧ taOk τ u) → Q (some (.int (iI R.1))) S τ) : ∀ (t : Nat) (i : Int) (τ : Sto), 0 ≤ i → i ≤ 16 → 17 - i < t → (∀ b, b ≠ a → b ≠ a + 2 → b ≠ u → b ≠ u + 1 → τ b = σ b) → τ a 2 = σ a 2 → (0 ≤ τ a 3 ∧ τ a 3 ≤ σ a 2) → (τ a 4 = -1 ∧ τ a 5 = 0) → τ u 2 = i → taOk τ u → rdT (σ (a + 1)) (σ a 2) (17 - i).toNat i (τ a 3) (τ (u + 1)) = R → PW (fm G mX10_parse 8 0 0 Q) G S (τ) 0 0 27 [(0, .ref a), (1, .ref u), (2, .int (iI (i)))] [] := by
  obtain ⟨hA0, hA1, hA2⟩ := id hA
  have hz := hb.1
  obtain ⟨hT0, hT1, hT2⟩ := id hT
  intro t
  induction t with
  | zero => intro i τ h1 h2 h3 g1 g2 g3 g4 g5 g6 g7; omega
  | succ t ih =>
    intro i τ h1 h2 h3 g1 g2 g3 g4 g5 g6 g7
    have e1 : τ (a + 1) = σ (a + 1) := g1 _ (by omega) (by omega) (by omega) (by omega)
    have sb := skE_b (σ (a + 1)) (σ a 2) (p := τ a 3) g3
    have hrl := g7
    rw [show (17 - i).toNat = (16 - i).toNat + 1 by omega] at hrl
    simp only [rdT] at hrl
    have m1 : (upS τ a (up1 (τ a) 3 (skE (σ (a + 1)) (σ a 2) (τ a 3)))) (a + 1) = σ (a + 1) := by rw [upS_ne (by omega)]; exact e1
    have m2 : (upS τ a (up1 (τ a) 3 (skE (σ (a + 1)) (σ a 2) (τ a 3)))) a 2 = σ a 2 := by rw [upS_same, up1_ne (by decide)]; exact g2
    have m3 : (upS τ a (up1 (τ a) 3 (skE (σ (a + 1)) (σ a 2) (τ a 3)))) a 3 = (skE (σ (a + 1)) (σ a 2) (τ a 3)) := by rw [upS_same, up1_same]
    have m4 : (upS τ a (up1 (τ a) 3 (skE (σ (a + 1)) (σ a 2) (τ a 3)))) u 2 = i := by rw [upS_ne (by omega)]; exact g5
    have m5 : (upS τ a (up1 (τ a) 3 (skE (σ (a + 1)) (σ a 2) (τ a 3)))) (u + 1) = τ (u + 1) := upS_ne (by omega)
    refine PW.iload_n dX10_parse_27 rfl ?_
    refine PW.bipush (by decide) dX10_parse_28 ?_
    refine PW.icmp_gt 65 dX10_parse_30 (by decide) (by first | assumption | (unfold inR; omega)) (by first | assumption | (unfold inR; omega)) (fun h30 => ?_) (fun h30 => ?_)
    · exfalso; omega
    · refine PW.aload_n dX10_parse_33 rfl ?_
      refine PW.callVv (c_X10_skipBlanks hA (by rw [e1, g2]; exact hb) (by rw [g2]; exact g3)) cv_X10_skipBlanks lk_X10_42 (by first | assumption | exact And.left (by assumption)) dX10_parse_34 rfl rfl rfl rfl ?_
      refine PW.st (upS τ a (up1 (τ a) 3 (skE (σ (a + 1)) (σ a 2) (τ a 3)))) (by rw [e1, g2]) ?_
      refine PW.aload_n dX10_parse_37 rfl ?_
      refine PW.getI 3 fl_X10_24 rfl (by assumption) rfl rfl dX10_parse_38 ?_
      refine PW.top (skE (σ (a + 1)) (σ a 2) (τ a 3)) m3 ?_
      refine PW.aload_n dX10_parse_41 rfl ?_
      refine PW.getI 2 fl_X10_20 rfl (by assumption) rfl rfl dX10_parse_42 ?_
      refine PW.top (σ a 2) m2 ?_
      refine PW.icmp_ge 65 dX10_parse_45 (by decide) (by first | assumption | (unfold inR; omega)) (by first | assumption | (unfold inR; omega)) (fun h45 => ?_) (fun h45 => ?_)
      · refine PW.aload_n dX10_parse_65 rfl ?_
        refine PW.getI 5 fl_X10_30 rfl (by assumption) rfl rfl dX10_parse_66 ?_
        first
          | (rw [if_pos (by omega)] at hrl
             refine PW.top R.1 (by rw [← hrl, upS_same, up1_ne (by decide)]; exact g4.2) ?_
             refine PW.iret rfl rfl dX10_parse_69 (hQ _ (fun b b0 b1 b2 b3 => ?_) ?_ ?_ (fun _ => ?_))
             · rw [upS_ne b0]; exact g1 b b0 b1 b2 b3
             · rw [upS_same, up1_ne (by decide)]; exact g2
             · rw [upS_same, up1_ne (by decide), ← hrl]; exact g4.1
             · rw [upS_ne (by omega), upS_ne (by omega), ← hrl]
               exact ⟨g5, rfl, taOk_congr (upS_ne (by omega)) (upS_ne (by omega)) g6⟩)
          | (have hC : ¬ (rdC (σ (a + 1)) (σ a 2) i (skE (σ (a + 1)) (σ a 2) (τ a 3))).1 = 0 := by assumption
             rw [if_neg (by omega), if_neg hC] at hrl
             obtain ⟨y1, y2, y3, y4⟩ := bad hC
             refine PW.top R.1 (by rw [← hrl]; exact y1) ?_
             refine PW.iret rfl rfl dX10_parse_69 (hQ _ (fun b b0 b1 b2 b3 => ?_) ?_ ?_ (fun q => absurd (by rw [← hrl] at q; exact q) hC))
             · rw [x1 b b0 b1 b2 b3, upS_ne b0]; exact g1 b b0 b1 b2 b3
             · rw [x2, m2]
             · rw [y2, ← hrl])
      · refine PW.aload_n dX10_parse_48 rfl ?_
        refine PW.aload_n dX10_parse_49 rfl ?_
        refine PW.callVg (c_X10_readClause hA (by rw [m1, m2]; exact hb) hT (by rw [m3, m2]; omega) (by rw [m4]; omega) hd) cv_X10_readClause lk_X10_45 (by first | assumption | exact And.left (by assumption)) dX10_parse_50 rfl rfl rfl rfl (fun r S' τ50 hq => ?_)
        obtain ⟨hS, rfl, x1, x2, good, bad⟩ := hq
        have hS2 := hS.symm
        subst hS2
        rw [m1, m2, m3, m4] at good bad ⊢
        refine PW.if_neB 59 dX10_parse_53 (by decide) (fun h53 => ?_) (fun h53 => ?_)
        · have hC : (rdC (σ (a + 1)) (σ a 2) i (skE (σ (a + 1)) (σ a 2) (τ a 3))).1 = 0 := by assumption
          rw [if_neg (by omega), if_pos hC] at hrl
          obtain ⟨y1, y2, y3, y4, y5⟩ := good hC
          have ck := rdC_k (n := i) hb ⟨by omega, by omega⟩ hC
          refine PW.iinc [(0, _), (1, _), (2, _)] dX10_parse_59 rfl rfl (Nat.le_of_ble_eq_true rfl) ?_
          refine PW.goto 27 dX10_parse_62 (by decide) ?_
          have u2 : τ50 u 2 = i + 1 := by rw [y4, up1_same]
          refine ih (i + 1) τ50 (by omega) (by omega) (by omega) (fun b b0 b1 b2 b3 => ?_) (by rw [x2, m2]) (by rw [y1]; exact ck.2.2.2.2) ⟨?_, ?_⟩ u2 ⟨by rw [u2]; omega, fun q q0 q1 => ?_⟩ ?_
          · rw [x1 b b0 b1 b2 b3, upS_ne b0]; exact g1 b b0 b1 b2 b3
          · rw [y2, upS_same, up1_ne (by decide)]; exact g4.1
          · rw [y3, upS_same, up1_ne (by decide)]; exact g4.2
          · rw [u2] at q1
            rw [y5, m5]
            by_cases h : q = i
            · rw [h]
              exact adF_new ck.2.2.1
            · exact adF_old (by omega) (g6.2 q q0 (by rw [g5]; omega))
          · rw [y1, y5, m5, show (17 - (i + 1)).toNat = (16 - i).toNat by omega]
            exact hrl
        · refine PW.goto 65 dX10_parse_56 (by decide) ?_
          refine PW.aload_n dX10_parse_65 rfl ?_
          refine PW.getI 5 fl_X10_30 rfl (by assumption) rfl rfl dX10_parse_66 ?_
          first
            | (rw [if_pos (by omega)] at hrl
               refine PW.top R.1 (by rw [← hrl, upS_same, up1_ne (by decide)]; exact g4.2) ?_
               refine PW.iret rfl rfl dX10_parse_69 (hQ _ (fun b b0 b1 b2 b3 => ?_) ?_ ?_ (fun _ => ?_))
               · rw [upS_ne b0]; exact g1 b b0 b1 b2 b3
               · rw [upS_same, up1_ne (by decide)]; exact g2
               · rw [upS_same, up1_ne (by decide), ← hrl]; exact g4.1
               · rw [upS_ne (by omega), upS_ne (by omega), ← hrl]
                 exact ⟨g5, rfl, taOk_congr (upS_ne (by omega)) (upS_ne (by omega)) g6⟩)
            | (have hC : ¬ (rdC (σ (a + 1)) (σ a 2) i (skE (σ (a + 1)) (σ a 2) (τ a 3))).1 = 0 := by assumption
               rw [if_neg (by omega), if_neg hC] at hrl
               obtain ⟨y1, y2, y3, y4⟩ := bad hC
               refine PW.top R.1 (by rw [← hrl]; exact y1) ?_
               refine PW.iret rfl rfl dX10_parse_69 (hQ _ (fun b b0 b1 b2 b3 => ?_) ?_ ?_ (fun q => absurd (by rw [← hrl] at q; exact q) hC))
               · rw [x1 b b0 b1 b2 b3, upS_ne b0]; exact g1 b b0 b1 b2 b3
               · rw [x2, m2]
               · rw [y2, ← hrl])
set_option maxRecDepth 20000 in
theorem c_X10_parse {G : GT} {S : Shp} {σ : Sto} {a t : Nat} (hA : IsTxt S a) (hb : bsOk (σ (a + 1)) (σ a 2)) (hT : IsTale S t) (hd : t + 2 < a ∨ a + 2 < t) : PMet G mX10_parse 8 0 0 [.ref a, .ref t] S σ (fun r S' τ => S' = S ∧ r = some (.int (iI (rdT (σ (a + 1)) (σ a 2) 17 0 0 (σ (t + 1))).1)) ∧ (∀ b, b ≠ a → b ≠ a + 2 → b ≠ t → b ≠ t + 1 → τ b = σ b) ∧ τ a 2 = σ a 2 ∧ τ a 4 = (rdT (σ (a + 1)) (σ a 2) 17 0 0 (σ (t + 1))).2.1 ∧ ((rdT (σ (a + 1)) (σ a 2) 17 0 0 (σ (t + 1))).1 = 0 → τ t 2 = (rdT (σ (a + 1)) (σ a 2) 17 0 0 (σ (t + 1))).2.2.1 ∧ τ (t + 1) = (rdT (σ (a + 1)) (σ a 2) 17 0 0 (σ (t + 1))).2.2.2 ∧ taOk τ t)) := by
  obtain ⟨hA0, hA1, hA2⟩ := id hA
  have hz := hb.1
  obtain ⟨hT0, hT1, hT2⟩ := id hT
  refine PMet.of [(0, .ref a), (1, .ref t)] (by decide +kernel) rfl (Nat.le_of_ble_eq_true rfl) ?_
  refine PW.aload_n dX10_parse_0 rfl ?_
  refine PW.iconst dX10_parse_1 ?_
  refine PW.putI 3 fl_X10_24 rfl (fun h => absurd h (by decide)) (by assumption) rfl rfl rfl rfl dX10_parse_2 ?_
  refine PW.aload_n dX10_parse_5 rfl ?_
  refine PW.iconst dX10_parse_6 ?_
  refine PW.putI 4 fl_X10_27 rfl (fun h => absurd h (by decide)) (by assumption) rfl rfl rfl rfl dX10_parse_7 ?_
  refine PW.aload_n dX10_parse_10 rfl ?_
  refine PW.iconst dX10_parse_11 ?_
  refine PW.putI 5 fl_X10_30 rfl (fun h => absurd h (by decide)) (by assumption) rfl rfl rfl rfl dX10_parse_12 ?_
  refine PW.st (upS σ a (up1 (up1 (up1 (σ a) 3 0) 4 (-1)) 5 0)) (by simp only [upS_upS, upS_same]) ?_
  refine PW.aload_n dX10_parse_15 rfl ?_
  refine PW.ifnonnull 21 dX10_parse_16 (by decide) ?_
  refine PW.aload_n dX10_parse_21 rfl ?_
  refine PW.callVv (c_X8_empty hT) cv_X8_empty lk_X10_37 (by first | assumption | exact And.left (by assumption)) dX10_parse_22 rfl rfl rfl rfl ?_
  refine PW.iconst dX10_parse_25 ?_
  refine PW.istore_n [(0, _), (1, _), (2, _)] dX10_parse_26 rfl (Nat.le_of_ble_eq_true rfl) ?_
  have k1 : (upS (upS σ a (up1 (up1 (up1 (σ a) 3 0) 4 (-1)) 5 0)) t (up1 ((upS σ a (up1 (up1 (up1 (σ a) 3 0) 4 (-1)) 5 0)) t) 2 0)) a = up1 (up1 (up1 (σ a) 3 0) 4 (-1)) 5 0 := by rw [upS_ne (by omega), upS_same]
  have k2 : (upS (upS σ a (up1 (up1 (up1 (σ a) 3 0) 4 (-1)) 5 0)) t (up1 ((upS σ a (up1 (up1 (up1 (σ a) 3 0) 4 (-1)) 5 0)) t) 2 0)) t 2 = 0 := by rw [upS_same, up1_same]
  have k3 : (upS (upS σ a (up1 (up1 (up1 (σ a) 3 0) 4 (-1)) 5 0)) t (up1 ((upS σ a (up1 (up1 (up1 (σ a) 3 0) 4 (-1)) 5 0)) t) 2 0)) (t + 1) = σ (t + 1) := by rw [upS_ne (by omega), upS_ne (by omega)]
  have q2 : up1 (up1 (up1 (σ a) 3 0) 4 (-1)) 5 0 2 = σ a 2 := by rw [up1_ne (by decide), up1_ne (by decide), up1_ne (by decide)]
  have q3 : up1 (up1 (up1 (σ a) 3 0) 4 (-1)) 5 0 3 = 0 := by rw [up1_ne (by decide), up1_ne (by decide), up1_same]
  refine parse_loop (R := rdT (σ (a + 1)) (σ a 2) 17 0 0 (σ (t + 1))) hA hb hT hd (fun τ p1 p2 p3 p4 => ⟨rfl, rfl, p1, p2, p3, p4⟩) 18 0 _ (by omega) (by omega) (by omega) (fun b b0 b1 b2 b3 => ?_) (by rw [k1]; exact q2) (by rw [k1, q3]; omega) ⟨by rw [k1, up1_ne (by decide), up1_same], by rw [k1, up1_same]⟩ k2 ⟨by rw [k2]; omega, fun q q0 q1 => by rw [k2] at q1; omega⟩ (by rw [k1, k3, q3]; rfl)
  rw [upS_ne b2, upS_ne b0]

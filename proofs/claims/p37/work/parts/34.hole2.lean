/-- what the next hole is, as kept -/
def holV (τ : Sto) (a : Nat) (N : Int × Int × Int) : Prop := τ a 3 = N.1 ∧ τ a 4 = N.2.1 ∧ τ a 5 = N.2.2
def hoFr (σ τ : Sto) (a b : Nat) : Prop := ∀ q, (q < a ∨ a + 2 < q) → (q < b + 7 ∨ b + 141 ≤ q) → τ q = σ q
theorem hole_lp {G : GT} {S : Shp} {σ : Sto} {a b L M : Nat} {m F : Int} {κ : Int → Int → Int → Int} {Q : Option Value → Shp → Sto → Prop} (hA : IsHole S a) (hB : IsTel S b) (hL : IsCols S L 64) (hlc : colsOk σ L 64) (hM : IsTale S M) (hMt : taOk σ M) (hMm : σ M 2 = m) (hm : 0 ≤ m ∧ m ≤ 4) (ht : telTab σ b m) (hF : σ b 9 = F) (hF1 : 0 ≤ F ∧ F ≤ 65) (hfi : ∀ p, 0 ≤ p → p < F → 0 ≤ σ (b + 6) p ∧ σ (b + 6) p < nS m) (dab : a + 2 < b ∨ b + 275 ≤ a) (dL : L + 132 ≤ b ∨ b + 275 ≤ L) (dM : M + 3 ≤ b ∨ b + 275 ≤ M) (daL : a + 2 < L ∨ L + 132 ≤ a) (daM : a + 2 < M ∨ M + 3 ≤ a) (hr : inR (σ b 11)) (hκ : ∀ n p : Int, κ n p = lndS (σ (M + 1)) (ldF σ L) m (σ (b + 6) p) n) (hQ : ∀ τ : Sto, hoFr σ τ a b → colsOk τ (b + 7) 65 → holV τ a (nhF κ F (64 : Int).toNat) → τ a 6 = σ b 11 → Q none S τ) : ∀ (t : Nat) (i : Int) (τ : Sto), 0 ≤ i → i ≤ 64 → 64 - i < t → hoFr σ τ a b → colsOk τ (b + 7) 65 → holV τ a (nhF κ F i.toNat) → PW (fm G mX6_know 7 0 0 Q) G S (τ) 0 0 34 [(0, .ref a), (1, .ref b), (2, .ref L), (3, .ref M), (4, .int (iI (i)))] [] := by
  obtain ⟨hA0, hA1, hA2⟩ := id hA
  have hB0 := hB.1
  have nb := nS_b hm
  obtain ⟨hM0, hM1, hM2⟩ := id hM
  have hL0 := hL.1
  intro t
  induction t with
  | zero => intro i τ h1 h2 h3 g1 g2 g3; omega
  | succ t ih =>
    intro i τ h1 h2 h3 g1 g2 g3
    obtain ⟨v3, v4, v5⟩ := id g3
    have nbd := nhF_b κ hF1.1 i.toNat
    have ub := unK_b (κ i) hF1.1
    have gb := grK_b (κ i) hF1.1
    have eM0 : τ M = σ M := g1 _ (by omega) (by omega)
    have eM1 : τ (M + 1) = σ (M + 1) := g1 _ (by omega) (by omega)
    have eL : ∀ q, L ≤ q → q < L + 132 → τ q = σ q := fun q q0 q1 => g1 q (by omega) (by omega)
    have eb : τ b = σ b := g1 _ (by omega) (by omega)
    have eb6 : τ (b + 6) = σ (b + 6) := g1 _ (by omega) (by omega)
    refine PW.iload dX6_know_34 rfl ?_
    refine PW.bipush (by decide) dX6_know_36 ?_
    refine PW.icmp_ge 120 dX6_know_38 (by decide) (by first | assumption | (unfold inR; omega)) (by first | assumption | (unfold inR; omega)) (fun h38 => ?_) (fun h38 => ?_)
    · refine PW.aload_n dX6_know_120 rfl ?_
      refine PW.aload_n dX6_know_121 rfl ?_
      refine PW.callVr (c_X9_round (by assumption)) cv_X9_round lk_X6_34 (by first | assumption | exact And.left (by assumption)) dX6_know_122 rfl rfl rfl rfl ?_
      refine PW.top (σ b 11) (by rw [g1 b (by omega) (by omega)]) ?_
      refine PW.putI 6 fl_X6_31 rfl (fun h => absurd h (by decide)) (by assumption) rfl rfl rfl rfl dX6_know_125 ?_
      have hi : i = 64 := by omega
      subst hi
      refine PW.vret rfl dX6_know_128 (hQ _ (fun q q0 q1 => ?_) (colsOk_congr (fun q q0 q1 => ?_) g2) ?_ ?_)
      · rw [upS_ne (by omega)]; exact g1 q q0 q1
      · rw [upS_ne (by omega)]
      · obtain ⟨v3, v4, v5⟩ := g3
        refine ⟨?_, ?_, ?_⟩
        · rw [upS_same, up1_ne (by decide)]; exact v3
        · rw [upS_same, up1_ne (by decide)]; exact v4
        · rw [upS_same, up1_ne (by decide)]; exact v5
      · rw [upS_same, up1_same]
    · refine PW.aload_n dX6_know_41 rfl ?_
      refine PW.aload_n dX6_know_42 rfl ?_
      refine PW.aload_n dX6_know_43 rfl ?_
      refine PW.iload dX6_know_44 rfl ?_
      refine PW.callVg (c_X9_look (m := m) (n := i) hB hL (colsOk_congr eL hlc) hM (taOk_congr eM0 eM1 hMt) (by rw [eM0]; exact hMm) hm (telTab_congr ht (by rw [eb]) (fun q q0 q1 => g1 q (by omega) (by omega))) (by omega) (by omega) (by omega) g2) cv_X9_look lk_X6_40 (by first | assumption | exact And.left (by assumption)) dX6_know_46 rfl rfl rfl rfl (fun r S' τ46 hq => ?_)
      obtain ⟨rfl, rfl, t1, t2, t3⟩ := hq
      rw [eM1, eL (cA L i + 1) (by unfold cA; omega) (by unfold cA; omega)] at t3
      have eb62 : τ46 (b + 6) = σ (b + 6) := by rw [t1 _ (by omega), eb6]
      refine PW.aload_n dX6_know_49 rfl ?_
      refine PW.aload_n dX6_know_50 rfl ?_
      refine PW.callVg (c_X6_divide (F := F) hA hB t2 (by rw [t1 _ (by omega), eb]; exact hF) hF1 (fun p p0 p1 => by rw [eb62]; have := hfi p p0 p1; omega) dab) cv_X6_divide lk_X6_44 (by first | assumption | exact And.left (by assumption)) dX6_know_51 rfl rfl rfl rfl (fun r S' τ51 hq => ?_)
      obtain ⟨rfl, rfl, ⟨w1, w2⟩, ψ, dI⟩ := hq
      have cg : ∀ p, 0 ≤ p → p < F → eq8 ((fun p => τ46 (cA (b + 7) (τ46 (b + 6) p) + 1)) p) ((κ i) p) := fun p p0 p1 => by
        have := hfi p p0 p1
        show eq8 (τ46 (cA (b + 7) (τ46 (b + 6) p) + 1)) _
        rw [eb62, hκ]
        exact t3 _ this.1 this.2
      have hs : τ51 a 2 = unK (κ i) F := by rw [dI.1]; exact unK_congr cg
      have hmo := dI.most hF1.1
      rw [grK_congr cg] at hmo
      have hsz : ∀ q, 0 ≤ q → q < τ51 a 2 → 0 ≤ τ51 (a + 2) q ∧ τ51 (a + 2) q ≤ 1000 := fun q q0 q1 => by
        obtain ⟨-, -, x⟩ := dI.2.1 q q0 q1
        have := szK_b (fun p => τ46 (cA (b + 7) (τ46 (b + 6) p) + 1)) (ψ q) hF1.1
        omega
      have a4 : τ51 a 4 = (nhF κ F i.toNat).2.1 := by rw [w2 4 (by decide), t1 a (by omega)]; exact v4
      have a5 : τ51 a 5 = (nhF κ F i.toNat).2.2 := by rw [w2 5 (by decide), t1 a (by omega)]; exact v5
      have a3 : τ51 a 3 = (nhF κ F i.toNat).1 := by rw [w2 3 (by decide), t1 a (by omega)]; exact v3
      refine PW.aload_n dX6_know_54 rfl ?_
      refine PW.callVr (c_X6_mostOfSets (z := τ51 a 2) hA rfl (by rw [hs]; omega) hsz) cv_X6_mostOfSets lk_X6_48 (by first | assumption | exact And.left (by assumption)) dX6_know_55 rfl rfl rfl rfl ?_
      refine PW.top (grK (κ i) F) hmo ?_
      refine PW.istore [(0, _), (1, _), (2, _), (3, _), (4, _), (5, _)] dX6_know_58 rfl (Nat.le_of_ble_eq_true rfl) ?_
      refine PW.aload_n dX6_know_60 rfl ?_
      refine PW.getI 2 fl_X6_18 rfl (by assumption) rfl rfl dX6_know_61 ?_
      refine PW.top (unK (κ i) F) hs ?_
      refine PW.aload_n dX6_know_64 rfl ?_
      refine PW.getI 4 fl_X6_25 rfl (by assumption) rfl rfl dX6_know_65 ?_
      refine PW.top (nhF κ F i.toNat).2.1 a4 ?_
      refine PW.icmp_lt 114 dX6_know_68 (by decide) (by first | assumption | (unfold inR; omega)) (by first | assumption | (unfold inR; omega)) (fun h68 => ?_) (fun h68 => ?_)
      · refine PW.take 5 ?_
        refine PW.iinc [(0, _), (1, _), (2, _), (3, _), (4, _)] dX6_know_114 rfl rfl (Nat.le_of_ble_eq_true rfl) ?_
        refine PW.goto 34 dX6_know_117 (by decide) ?_
        have en := nhF_s κ F h1
        have fr : hoFr σ τ51 a b := fun q q0 q1 => by
          rw [w1 q q0, t1 q (by omega)]
          exact g1 q q0 q1
        have c7 : colsOk τ51 (b + 7) 65 := colsOk_congr (fun q q0 q1 => w1 q (by omega)) t2
        first
          | (rw [if_pos (by omega)] at en
             refine ih (i + 1) τ51 (by omega) (by omega) (by omega) fr c7 ?_
             rw [en]
             exact ⟨a3, a4, a5⟩)
          | (rw [if_neg (by omega)] at en
             refine ih (i + 1) _ (by omega) (by omega) (by omega) (fun q q0 q1 => ?_) (colsOk_congr (fun q q0 q1 => ?_) c7) ?_
             · rw [upS_ne (by omega), upS_ne (by omega), upS_ne (by omega)]; exact fr q q0 q1
             · rw [upS_ne (by omega), upS_ne (by omega), upS_ne (by omega)]
             · rw [en]
               simp [holV, upS, up1])
      · refine PW.aload_n dX6_know_71 rfl ?_
        refine PW.getI 2 fl_X6_18 rfl (by assumption) rfl rfl dX6_know_72 ?_
        refine PW.top (unK (κ i) F) hs ?_
        refine PW.aload_n dX6_know_75 rfl ?_
        refine PW.getI 4 fl_X6_25 rfl (by assumption) rfl rfl dX6_know_76 ?_
        refine PW.top (nhF κ F i.toNat).2.1 a4 ?_
        refine PW.icmp_ne 94 dX6_know_79 (by decide) (by first | assumption | (unfold inR; omega)) (by first | assumption | (unfold inR; omega)) (fun h79 => ?_) (fun h79 => ?_)
        · refine PW.aload_n dX6_know_94 rfl ?_
          refine PW.iload dX6_know_95 rfl ?_
          refine PW.putI 3 fl_X6_22 rfl (fun h => absurd h (by decide)) (by assumption) rfl rfl rfl rfl dX6_know_97 ?_
          refine PW.aload_n dX6_know_100 rfl ?_
          refine PW.aload_n dX6_know_101 rfl ?_
          refine PW.getI 2 fl_X6_18 rfl (by assumption) rfl rfl dX6_know_102 ?_
          refine PW.top (unK (κ i) F) (by rw [upS_same, up1_ne (by decide)]; exact hs) ?_
          refine PW.putI 4 fl_X6_25 rfl (fun h => absurd h (by decide)) (by assumption) rfl rfl rfl rfl dX6_know_105 ?_
          refine PW.aload_n dX6_know_108 rfl ?_
          refine PW.iload dX6_know_109 rfl ?_
          refine PW.putI 5 fl_X6_28 rfl (fun h => absurd h (by decide)) (by assumption) rfl rfl rfl rfl dX6_know_111 ?_
          refine PW.take 5 ?_
          refine PW.iinc [(0, _), (1, _), (2, _), (3, _), (4, _)] dX6_know_114 rfl rfl (Nat.le_of_ble_eq_true rfl) ?_
          refine PW.goto 34 dX6_know_117 (by decide) ?_
          have en := nhF_s κ F h1
          have fr : hoFr σ τ51 a b := fun q q0 q1 => by
            rw [w1 q q0, t1 q (by omega)]
            exact g1 q q0 q1
          have c7 : colsOk τ51 (b + 7) 65 := colsOk_congr (fun q q0 q1 => w1 q (by omega)) t2
          first
            | (rw [if_pos (by omega)] at en
               refine ih (i + 1) τ51 (by omega) (by omega) (by omega) fr c7 ?_
               rw [en]
               exact ⟨a3, a4, a5⟩)
            | (rw [if_neg (by omega)] at en
               refine ih (i + 1) _ (by omega) (by omega) (by omega) (fun q q0 q1 => ?_) (colsOk_congr (fun q q0 q1 => ?_) c7) ?_
               · rw [upS_ne (by omega), upS_ne (by omega), upS_ne (by omega)]; exact fr q q0 q1
               · rw [upS_ne (by omega), upS_ne (by omega), upS_ne (by omega)]
               · rw [en]
                 simp [holV, upS, up1])
        · refine PW.iload dX6_know_82 rfl ?_
          refine PW.aload_n dX6_know_84 rfl ?_
          refine PW.getI 5 fl_X6_28 rfl (by assumption) rfl rfl dX6_know_85 ?_
          refine PW.top (nhF κ F i.toNat).2.2 a5 ?_
          refine PW.icmp_lt 94 dX6_know_88 (by decide) (by first | assumption | (unfold inR; omega)) (by first | assumption | (unfold inR; omega)) (fun h88 => ?_) (fun h88 => ?_)
          · refine PW.aload_n dX6_know_94 rfl ?_
            refine PW.iload dX6_know_95 rfl ?_
            refine PW.putI 3 fl_X6_22 rfl (fun h => absurd h (by decide)) (by assumption) rfl rfl rfl rfl dX6_know_97 ?_
            refine PW.aload_n dX6_know_100 rfl ?_
            refine PW.aload_n dX6_know_101 rfl ?_
            refine PW.getI 2 fl_X6_18 rfl (by assumption) rfl rfl dX6_know_102 ?_
            refine PW.top (unK (κ i) F) (by rw [upS_same, up1_ne (by decide)]; exact hs) ?_
            refine PW.putI 4 fl_X6_25 rfl (fun h => absurd h (by decide)) (by assumption) rfl rfl rfl rfl dX6_know_105 ?_
            refine PW.aload_n dX6_know_108 rfl ?_
            refine PW.iload dX6_know_109 rfl ?_
            refine PW.putI 5 fl_X6_28 rfl (fun h => absurd h (by decide)) (by assumption) rfl rfl rfl rfl dX6_know_111 ?_
            refine PW.take 5 ?_
            refine PW.iinc [(0, _), (1, _), (2, _), (3, _), (4, _)] dX6_know_114 rfl rfl (Nat.le_of_ble_eq_true rfl) ?_
            refine PW.goto 34 dX6_know_117 (by decide) ?_
            have en := nhF_s κ F h1
            have fr : hoFr σ τ51 a b := fun q q0 q1 => by
              rw [w1 q q0, t1 q (by omega)]
              exact g1 q q0 q1
            have c7 : colsOk τ51 (b + 7) 65 := colsOk_congr (fun q q0 q1 => w1 q (by omega)) t2
            first
              | (rw [if_pos (by omega)] at en
                 refine ih (i + 1) τ51 (by omega) (by omega) (by omega) fr c7 ?_
                 rw [en]
                 exact ⟨a3, a4, a5⟩)
              | (rw [if_neg (by omega)] at en
                 refine ih (i + 1) _ (by omega) (by omega) (by omega) (fun q q0 q1 => ?_) (colsOk_congr (fun q q0 q1 => ?_) c7) ?_
                 · rw [upS_ne (by omega), upS_ne (by omega), upS_ne (by omega)]; exact fr q q0 q1
                 · rw [upS_ne (by omega), upS_ne (by omega), upS_ne (by omega)]
                 · rw [en]
                   simp [holV, upS, up1])
          · refine PW.goto 114 dX6_know_91 (by decide) ?_
            refine PW.take 5 ?_
            refine PW.iinc [(0, _), (1, _), (2, _), (3, _), (4, _)] dX6_know_114 rfl rfl (Nat.le_of_ble_eq_true rfl) ?_
            refine PW.goto 34 dX6_know_117 (by decide) ?_
            have en := nhF_s κ F h1
            have fr : hoFr σ τ51 a b := fun q q0 q1 => by
              rw [w1 q q0, t1 q (by omega)]
              exact g1 q q0 q1
            have c7 : colsOk τ51 (b + 7) 65 := colsOk_congr (fun q q0 q1 => w1 q (by omega)) t2
            first
              | (rw [if_pos (by omega)] at en
                 refine ih (i + 1) τ51 (by omega) (by omega) (by omega) fr c7 ?_
                 rw [en]
                 exact ⟨a3, a4, a5⟩)
              | (rw [if_neg (by omega)] at en
                 refine ih (i + 1) _ (by omega) (by omega) (by omega) (fun q q0 q1 => ?_) (colsOk_congr (fun q q0 q1 => ?_) c7) ?_
                 · rw [upS_ne (by omega), upS_ne (by omega), upS_ne (by omega)]; exact fr q q0 q1
                 · rw [upS_ne (by omega), upS_ne (by omega), upS_ne (by omega)]
                 · rw [en]
                   simp [holV, upS, up1])
theorem c_X6_know {G : GT} {S : Shp} {σ : Sto} {a b L M : Nat} {m F : Int} {κ : Int → Int → Int → Int} (hA : IsHole S a) (hB : IsTel S b) (hL : IsCols S L 64) (hlc : colsOk σ L 64) (hM : IsTale S M) (hMt : taOk σ M) (hMm : σ M 2 = m) (hm : 0 ≤ m ∧ m ≤ 4) (ht : telTab σ b m) (hF : σ b 9 = F) (hF1 : 0 ≤ F ∧ F ≤ 65) (hfi : ∀ p, 0 ≤ p → p < F → 0 ≤ σ (b + 6) p ∧ σ (b + 6) p < nS m) (dab : a + 2 < b ∨ b + 275 ≤ a) (dL : L + 132 ≤ b ∨ b + 275 ≤ L) (dM : M + 3 ≤ b ∨ b + 275 ≤ M) (daL : a + 2 < L ∨ L + 132 ≤ a) (daM : a + 2 < M ∨ M + 3 ≤ a) (hr : inR (σ b 11)) (hκ : ∀ n p : Int, κ n p = lndS (σ (M + 1)) (ldF σ L) m (σ (b + 6) p) n) (hc : colsOk σ (b + 7) 65) (hr6 : inR (σ a 6)) (hho : σ b 11 = σ a 6 → holV σ a (nhF κ F (64 : Int).toNat)) : PMet G mX6_know 7 0 0 [.ref a, .ref b, .ref L, .ref M] S σ (fun r S' σ' => r = none ∧ S' = S ∧ hoFr σ σ' a b ∧ colsOk σ' (b + 7) 65 ∧ holV σ' a (nhF κ F (64 : Int).toNat) ∧ σ' a 6 = σ b 11) := by
  obtain ⟨hA0, hA1, hA2⟩ := id hA
  have hB0 := hB.1
  refine PMet.of [(0, .ref a), (1, .ref b), (2, .ref L), (3, .ref M)] (by decide +kernel) rfl (Nat.le_of_ble_eq_true rfl) ?_
  refine PW.aload_n dX6_know_0 rfl ?_
  refine PW.ifnull dX6_know_1 ?_
  refine PW.aload_n dX6_know_4 rfl ?_
  refine PW.callVr (c_X9_round (by assumption)) cv_X9_round lk_X6_34 (by first | assumption | exact And.left (by assumption)) dX6_know_5 rfl rfl rfl rfl ?_
  refine PW.aload_n dX6_know_8 rfl ?_
  refine PW.getI 6 fl_X6_31 rfl (by assumption) rfl rfl dX6_know_9 ?_
  refine PW.icmp_ne 16 dX6_know_12 (by decide) (by first | assumption | (unfold inR; omega)) (by first | assumption | (unfold inR; omega)) (fun h12 => ?_) (fun h12 => ?_)
  · refine PW.aload_n dX6_know_16 rfl ?_
    refine PW.iconst dX6_know_17 ?_
    refine PW.putI 3 fl_X6_22 rfl (fun h => absurd h (by decide)) (by assumption) rfl rfl rfl rfl dX6_know_18 ?_
    refine PW.aload_n dX6_know_21 rfl ?_
    refine PW.iconst dX6_know_22 ?_
    refine PW.putI 4 fl_X6_25 rfl (fun h => absurd h (by decide)) (by assumption) rfl rfl rfl rfl dX6_know_23 ?_
    refine PW.aload_n dX6_know_26 rfl ?_
    refine PW.iconst dX6_know_27 ?_
    refine PW.putI 5 fl_X6_28 rfl (fun h => absurd h (by decide)) (by assumption) rfl rfl rfl rfl dX6_know_28 ?_
    refine PW.iconst dX6_know_31 ?_
    refine PW.istore [(0, _), (1, _), (2, _), (3, _), (4, _)] dX6_know_32 rfl (Nat.le_of_ble_eq_true rfl) ?_
    refine PW.st (upS σ a (up1 (up1 (up1 (σ a) 3 (-1)) 4 0) 5 0)) (by simp only [upS_upS, upS_same]) ?_
    refine hole_lp hA hB hL hlc hM hMt hMm hm ht hF hF1 hfi dab dL dM daL daM hr hκ (fun τ p1 p2 p3 p4 => ⟨rfl, rfl, p1, p2, p3, p4⟩) 65 0 _ (by omega) (by omega) (by omega) (fun q q0 q1 => upS_ne (by omega)) (colsOk_congr (fun q q0 q1 => upS_ne (by omega)) hc) ?_
    simp [holV, upS, up1, nhF]
  · first
      | exact PW.vret rfl dX6_know_15 ⟨rfl, rfl, fun _ _ _ => rfl, hc, hho (by assumption), by rw [h12]⟩

theorem telTab_congr {τ τ' : Sto} {a : Nat} {m : Int} (h : telTab τ a m) (h8 : τ' a 8 = τ a 8) (e : ∀ b, a + 1 ≤ b → b ≤ a + 4 → τ' b = τ b) : telTab τ' a m := by
  refine ⟨by rw [h8]; exact h.1, fun q q0 q1 => ?_⟩
  rw [e (a + 1) (by omega) (by omega), e (a + 2) (by omega) (by omega), e (a + 3) (by omega) (by omega), e (a + 4) (by omega) (by omega)]
  exact h.2 q q0 q1
/-- how many of the first k sights each story does not meet -/
def umS (sg f : Int → Int) (ld : Int → Int → Int) (m k : Int) : Int → Int := fun s => umC sg (lndS f ld m s) k
def telGood (τ : Sto) (a : Nat) (m : Int) (sg f : Int → Int) (ld : Int → Int → Int) (k : Int) : Prop := τ a 12 = 1 ∧ τ a 10 = k ∧ telTab τ a m ∧ τ a 9 = ftC (umS sg f ld m k) (nS m) ∧ ftG (umS sg f ld m k) (τ (a + 6)) (nS m)
def tkI (σ τ : Sto) (a : Nat) (m : Int) (sg f : Int → Int) (ld : Int → Int → Int) (i : Int) : Prop :=
  (∀ b, b < a ∨ a + 275 ≤ b → τ b = σ b) ∧ (∀ j, j ≠ 8 → τ a j = σ a j) ∧ telTab τ a m ∧ colsOk τ (a + 7) 65 ∧ colsOk τ (a + 141) 65 ∧ ∀ s, 0 ≤ s → s < nS m → τ (a + 5) s = umC sg (lndS f ld m s) i
theorem ldF_congr {σ τ : Sto} {L : Nat} (h : ∀ b, L ≤ b → b < L + 132 → τ b = σ b) {n : Int} (h0 : 0 ≤ n) (h1 : n < 64) : ldF τ L n = ldF σ L n := h _ (by unfold cA; omega) (by unfold cA; omega)
theorem colsOk_congr {σ τ : Sto} {L N : Nat} (h : ∀ b, L ≤ b → b < L + 4 + 2 * N → τ b = σ b) (hc : colsOk σ L N) : colsOk τ L N := by
  intro i h0 h1
  have := cA_b (a := L) h0 h1
  rw [h _ (by omega) (by omega)]
  exact hc i h0 h1
theorem know_it {G : GT} {S : Shp} {σ : Sto} {a L M g : Nat} {m k : Int} {i : Int} {τ : Sto} {Q : Option Value → Shp → Sto → Prop} (hA : IsTel S a) (hL : IsCols S L 64) (hlc : colsOk σ L 64) (hM : IsTale S M) (hMt : taOk σ M) (hMm : σ M 2 = m) (hm : 0 ≤ m ∧ m ≤ 4) (hG : IsSig S g) (hs : sgsOk σ g) (hk : 0 ≤ k ∧ k ≤ σ g 1) (dL : L + 132 ≤ a ∨ a + 275 ≤ L) (dM : M + 3 ≤ a ∨ a + 275 ≤ M) (dg : g + 1 < a ∨ a + 275 ≤ g) (hi : 0 ≤ i ∧ i < k) (hI : tkI σ τ a m (σ (g + 1)) (σ (M + 1)) (ldF σ L) i) (h1 : (∀ s, 0 ≤ s → s < nS m → eq8 (τ (cA (a + 7) s + 1)) (lndS (σ (M + 1)) (ldF σ L) m s (σ (g + 1) (5 * i + 1))))) (h2 : (σ (g + 1) (5 * i) = 3 → ∀ s, 0 ≤ s → s < nS m → eq8 (τ (cA (a + 141) s + 1)) (lndS (σ (M + 1)) (ldF σ L) m s (nxF (σ (g + 1)) i)))) (hK : ∀ τ : Sto, tkI σ τ a m (σ (g + 1)) (σ (M + 1)) (ldF σ L) (i + 1) → PW (fm G mX9_know 6 0 0 Q) G S τ 0 0 107 [(0, .ref a), (1, .ref L), (2, .ref M), (3, .ref g), (4, .int (iI (k))), (5, .int (iI (i)))] []) : PW (fm G mX9_know 6 0 0 Q) G S τ 0 0 100 [(0, .ref a), (1, .ref L), (2, .ref M), (3, .ref g), (4, .int (iI (k))), (5, .int (iI (i)))] [] := by
  obtain ⟨hA0, hA1, hA2, hA3, hA4, hA5, hA6, hA7, hA8⟩ := id hA
  obtain ⟨hG0, hG1⟩ := id hG
  obtain ⟨hM0, hM1, hM2⟩ := id hM
  have nb := nS_b hm
  have hs1 := hs.1
  obtain ⟨g1, g2, g3, g4, g5, g6⟩ := hI
  have eg : τ (g + 1) = σ (g + 1) := g1 _ (by omega)
  have hw := hs.2 i hi.1 (by omega)
  refine PW.aload_n dX9_know_100 rfl ?_
  refine PW.aload_n dX9_know_101 rfl ?_
  refine PW.iload dX9_know_102 rfl ?_
  refine PW.callVv (c_X9_hold (z := nS m) hA hG (by omega) (by rw [eg]; exact hw) g3.1 (by omega) g4 g5 (fun q q0 q1 => by rw [g6 q q0 q1]; have := umC_b (σ (g + 1)) (lndS (σ (M + 1)) (ldF σ L) m q) hi.1; omega) dg) cv_X9_hold lk_X9_99 (by first | assumption | exact And.left (by assumption)) dX9_know_104 rfl rfl rfl rfl ?_
  refine hK _ ⟨fun b hb => ?_, fun j hj => ?_, telTab_congr g3 ?_ (fun b b0 b1 => upS_ne (by omega)), colsOk_congr (fun b b0 b1 => upS_ne (by omega)) g4, colsOk_congr (fun b b0 b1 => upS_ne (by omega)) g5, fun s s0 s1 => ?_⟩
  · rw [upS_ne (by omega)]
    exact g1 b hb
  · rw [upS_ne (by omega)]
    exact g2 j hj
  · rw [upS_ne (by omega)]
  · rw [upS_same, if_pos ⟨s0, s1⟩, g6 s s0 s1, umC_s _ _ hi.1, eg]
    refine congrArg (fun z => umC (σ (g + 1)) (lndS (σ (M + 1)) (ldF σ L) m s) i + z) (b01_congr (not_congr ?_))
    exact metP_eq (h1 s s0 s1) (fun q => h2 q s s0 s1) hw.2.2.2.2.2.2.1
theorem know_lp {G : GT} {S : Shp} {σ : Sto} {a L M g : Nat} {m k : Int} {Q : Option Value → Shp → Sto → Prop} (hA : IsTel S a) (hL : IsCols S L 64) (hlc : colsOk σ L 64) (hM : IsTale S M) (hMt : taOk σ M) (hMm : σ M 2 = m) (hm : 0 ≤ m ∧ m ≤ 4) (hG : IsSig S g) (hs : sgsOk σ g) (hk : 0 ≤ k ∧ k ≤ σ g 1) (dL : L + 132 ≤ a ∨ a + 275 ≤ L) (dM : M + 3 ≤ a ∨ a + 275 ≤ M) (dg : g + 1 < a ∨ a + 275 ≤ g) (hQ : ∀ τ : Sto, tkI σ τ a m (σ (g + 1)) (σ (M + 1)) (ldF σ L) k → PW (fm G mX9_know 6 0 0 Q) G S τ 0 0 113 [(0, .ref a), (1, .ref L), (2, .ref M), (3, .ref g), (4, .int (iI (k))), (5, .int (iI (k)))] []) : ∀ (t : Nat) (i : Int) (τ : Sto), 0 ≤ i → i ≤ k → k - i < t → tkI σ τ a m (σ (g + 1)) (σ (M + 1)) (ldF σ L) i → PW (fm G mX9_know 6 0 0 Q) G S (τ) 0 0 52 [(0, .ref a), (1, .ref L), (2, .ref M), (3, .ref g), (4, .int (iI (k))), (5, .int (iI (i)))] [] := by
  obtain ⟨hA0, hA1, hA2, hA3, hA4, hA5, hA6, hA7, hA8⟩ := id hA
  obtain ⟨hG0, hG1⟩ := id hG
  obtain ⟨hM0, hM1, hM2⟩ := id hM
  have nb := nS_b hm
  have hs1 := hs.1
  intro t
  induction t with
  | zero => intro i τ h1 h2 h3 g1; omega
  | succ t ih =>
    intro i τ h1 h2 h3 g1
    obtain ⟨f1, f2, f3, f4, f5, f6⟩ := id g1
    have eg : τ (g + 1) = σ (g + 1) := f1 _ (by omega)
    have eM0 : τ M = σ M := f1 _ (by omega)
    have eM1 : τ (M + 1) = σ (M + 1) := f1 _ (by omega)
    have eL : ∀ b, L ≤ b → b < L + 132 → τ b = σ b := fun b b0 b1 => f1 _ (by omega)
    refine PW.iload dX9_know_52 rfl ?_
    refine PW.iload dX9_know_54 rfl ?_
    refine PW.icmp_ge 113 dX9_know_56 (by decide) (by first | assumption | (unfold inR; omega)) (by first | assumption | (unfold inR; omega)) (fun h56 => ?_) (fun h56 => ?_)
    · have hi : i = k := by omega
      subst hi
      exact hQ τ g1
    · have hw := hs.2 i h1 (by omega)
      have hcl := hw.1
      have hnx := nxF_b hw
      refine PW.aload_n dX9_know_59 rfl ?_
      refine PW.aload_n dX9_know_60 rfl ?_
      refine PW.getR fl_X9_35 rfl (by assumption) rfl dX9_know_61 ?_
      refine PW.aload_n dX9_know_64 rfl ?_
      refine PW.aload_n dX9_know_65 rfl ?_
      refine PW.aload_n dX9_know_66 rfl ?_
      refine PW.iload dX9_know_67 rfl ?_
      refine PW.callVr (c_X7_column (by assumption) (by omega)) cv_X7_column lk_X9_83 (by first | assumption | exact And.left (by assumption)) dX9_know_69 rfl rfl rfl rfl ?_
      refine PW.top (σ (g + 1) (5 * i + 1)) (by rw [eg]) ?_
      refine PW.callVg (c_X9_tellColumn (m := m) (n := σ (g + 1) (5 * i + 1)) hA hA7 hL (colsOk_congr eL hlc) hM (taOk_congr eM0 eM1 hMt) (by rw [eM0]; exact hMm) hm f3 hcl (by omega) (by omega) (by omega) f4) cv_X9_tellColumn lk_X9_88 (by first | assumption | exact And.left (by assumption)) dX9_know_72 rfl rfl rfl rfl (fun r S' τ72 hq => ?_)
      obtain ⟨rfl, rfl, t1, t2, t3⟩ := hq
      rw [eM1, eL (cA L (σ (g + 1) (5 * i + 1)) + 1) (by unfold cA; omega) (by unfold cA; omega)] at t3
      refine PW.aload_n dX9_know_75 rfl ?_
      refine PW.iload dX9_know_76 rfl ?_
      refine PW.callVr (c_X7_isDip hG (by omega) (by rw [t1 _ (by omega), eg]; exact hw)) cv_X7_isDip lk_X9_92 (by first | assumption | exact And.left (by assumption)) dX9_know_78 rfl rfl rfl rfl ?_
      skip
      refine PW.if_eqB 100 dX9_know_81 (by decide) (fun h81 => ?_) (fun h81 => ?_)
      · first
          | (refine know_it (τ := τ97) hA hL hlc hM hMt hMm hm hG hs hk dL dM dg ⟨h1, by omega⟩ ⟨fun b hb => ?_, fun j hj => ?_, telTab_congr f3 ?_ (fun b b0 b1 => ?_), colsOk_congr (fun b b0 b1 => v1 b (by omega)) t2, v2, fun s s0 s1 => ?_⟩ (fun s s0 s1 => ?_) (fun _ => v3) (fun τ' hI' => ?_)
             · rw [v1 b (by omega), t1 b (by omega)]; exact f1 b hb
             · rw [v1 a (by omega), t1 a (by omega)]; exact f2 j hj
             · rw [v1 a (by omega), t1 a (by omega)]
             · rw [v1 b (by omega), t1 b (by omega)]
             · rw [v1 (a + 5) (by omega), t1 (a + 5) (by omega)]; exact f6 s s0 s1
             · rw [v1 _ (by unfold cA; omega)]; exact t3 s s0 s1
             · refine PW.iinc [(0, _), (1, _), (2, _), (3, _), (4, _), (5, _)] dX9_know_107 rfl rfl (Nat.le_of_ble_eq_true rfl) ?_
               refine PW.goto 52 dX9_know_110 (by decide) ?_
               exact ih (i + 1) τ' (by omega) (by omega) (by omega) hI')
          | (refine know_it (τ := τ72) hA hL hlc hM hMt hMm hm hG hs hk dL dM dg ⟨h1, by omega⟩ ⟨fun b hb => ?_, fun j hj => ?_, telTab_congr f3 ?_ (fun b b0 b1 => ?_), t2, colsOk_congr (fun b b0 b1 => t1 b (by omega)) f5, fun s s0 s1 => ?_⟩ t3 (fun q => absurd q (by rw [t1 (g + 1) (by omega), eg] at h81; exact h81)) (fun τ' hI' => ?_)
             · rw [t1 b (by omega)]; exact f1 b hb
             · rw [t1 a (by omega)]; exact f2 j hj
             · rw [t1 a (by omega)]
             · rw [t1 b (by omega)]
             · rw [t1 (a + 5) (by omega)]; exact f6 s s0 s1
             · refine PW.iinc [(0, _), (1, _), (2, _), (3, _), (4, _), (5, _)] dX9_know_107 rfl rfl (Nat.le_of_ble_eq_true rfl) ?_
               refine PW.goto 52 dX9_know_110 (by decide) ?_
               exact ih (i + 1) τ' (by omega) (by omega) (by omega) hI')
      · refine PW.aload_n dX9_know_84 rfl ?_
        refine PW.aload_n dX9_know_85 rfl ?_
        refine PW.getR fl_X9_39 rfl (by assumption) rfl dX9_know_86 ?_
        refine PW.aload_n dX9_know_89 rfl ?_
        refine PW.aload_n dX9_know_90 rfl ?_
        refine PW.aload_n dX9_know_91 rfl ?_
        refine PW.iload dX9_know_92 rfl ?_
        refine PW.callVr (c_X7_nextColumn hG (by omega) (by rw [t1 _ (by omega), eg]; exact hw)) cv_X7_nextColumn lk_X9_96 (by first | assumption | exact And.left (by assumption)) dX9_know_94 rfl rfl rfl rfl ?_
        refine PW.top (nxF (σ (g + 1)) i) (by rw [t1 _ (by omega), eg]) ?_
        refine PW.callVg (c_X9_tellColumn (m := m) (n := nxF (σ (g + 1)) i) hA hA8 hL (colsOk_congr (fun b b0 b1 => by rw [t1 b (by omega)]; exact eL b b0 b1) hlc) hM (taOk_congr (by rw [t1 _ (by omega)]; exact eM0) (by rw [t1 _ (by omega)]; exact eM1) hMt) (by rw [t1 _ (by omega), eM0]; exact hMm) hm (telTab_congr f3 (by rw [t1 _ (by omega)]) (fun b b0 b1 => t1 b (by omega))) hnx (by omega) (by omega) (by omega) (colsOk_congr (fun b b0 b1 => t1 b (by omega)) f5)) cv_X9_tellColumn lk_X9_88 (by first | assumption | exact And.left (by assumption)) dX9_know_97 rfl rfl rfl rfl (fun r S' τ97 hq => ?_)
        obtain ⟨rfl, rfl, v1, v2, v3⟩ := hq
        rw [t1 (M + 1) (by omega), eM1, t1 (cA L (nxF (σ (g + 1)) i) + 1) (by unfold cA; omega), eL (cA L (nxF (σ (g + 1)) i) + 1) (by unfold cA; omega) (by unfold cA; omega)] at v3
        first
          | (refine know_it (τ := τ97) hA hL hlc hM hMt hMm hm hG hs hk dL dM dg ⟨h1, by omega⟩ ⟨fun b hb => ?_, fun j hj => ?_, telTab_congr f3 ?_ (fun b b0 b1 => ?_), colsOk_congr (fun b b0 b1 => v1 b (by omega)) t2, v2, fun s s0 s1 => ?_⟩ (fun s s0 s1 => ?_) (fun _ => v3) (fun τ' hI' => ?_)
             · rw [v1 b (by omega), t1 b (by omega)]; exact f1 b hb
             · rw [v1 a (by omega), t1 a (by omega)]; exact f2 j hj
             · rw [v1 a (by omega), t1 a (by omega)]
             · rw [v1 b (by omega), t1 b (by omega)]
             · rw [v1 (a + 5) (by omega), t1 (a + 5) (by omega)]; exact f6 s s0 s1
             · rw [v1 _ (by unfold cA; omega)]; exact t3 s s0 s1
             · refine PW.iinc [(0, _), (1, _), (2, _), (3, _), (4, _), (5, _)] dX9_know_107 rfl rfl (Nat.le_of_ble_eq_true rfl) ?_
               refine PW.goto 52 dX9_know_110 (by decide) ?_
               exact ih (i + 1) τ' (by omega) (by omega) (by omega) hI')
          | (refine know_it (τ := τ72) hA hL hlc hM hMt hMm hm hG hs hk dL dM dg ⟨h1, by omega⟩ ⟨fun b hb => ?_, fun j hj => ?_, telTab_congr f3 ?_ (fun b b0 b1 => ?_), t2, colsOk_congr (fun b b0 b1 => t1 b (by omega)) f5, fun s s0 s1 => ?_⟩ t3 (fun q => absurd q (by rw [t1 (g + 1) (by omega), eg] at h81; exact h81)) (fun τ' hI' => ?_)
             · rw [t1 b (by omega)]; exact f1 b hb
             · rw [t1 a (by omega)]; exact f2 j hj
             · rw [t1 a (by omega)]
             · rw [t1 b (by omega)]
             · rw [t1 (a + 5) (by omega)]; exact f6 s s0 s1
             · refine PW.iinc [(0, _), (1, _), (2, _), (3, _), (4, _), (5, _)] dX9_know_107 rfl rfl (Nat.le_of_ble_eq_true rfl) ?_
               refine PW.goto 52 dX9_know_110 (by decide) ?_
               exact ih (i + 1) τ' (by omega) (by omega) (by omega) hI')
theorem know_end {G : GT} {S : Shp} {σ : Sto} {a L M g : Nat} {m k : Int} {τ : Sto} (hA : IsTel S a) (hL : IsCols S L 64) (hlc : colsOk σ L 64) (hM : IsTale S M) (hMt : taOk σ M) (hMm : σ M 2 = m) (hm : 0 ≤ m ∧ m ≤ 4) (hG : IsSig S g) (hs : sgsOk σ g) (hk : 0 ≤ k ∧ k ≤ σ g 1) (dL : L + 132 ≤ a ∨ a + 275 ≤ L) (dM : M + 3 ≤ a ∨ a + 275 ≤ M) (dg : g + 1 < a ∨ a + 275 ≤ g) (hI : tkI σ τ a m (σ (g + 1)) (σ (M + 1)) (ldF σ L) k) : PW (fm G mX9_know 6 0 0 (fun r S' σ' => r = none ∧ S' = S ∧ (∀ b, b < a ∨ a + 275 ≤ b → σ' b = σ b) ∧ colsOk σ' (a + 7) 65 ∧ colsOk σ' (a + 141) 65 ∧ telGood σ' a m (σ (g + 1)) (σ (M + 1)) (ldF σ L) k ∧ ((σ a 12 = 1 ∧ σ' = σ) ∨ σ' a 11 = σ a 11 + 1))) G S τ 0 0 113 [(0, .ref a), (1, .ref L), (2, .ref M), (3, .ref g), (4, .int (iI (k))), (5, .int (iI (k)))] [] := by
  obtain ⟨hA0, hA1, hA2, hA3, hA4, hA5, hA6, hA7, hA8⟩ := id hA
  obtain ⟨hG0, hG1⟩ := id hG
  obtain ⟨hM0, hM1, hM2⟩ := id hM
  have nb := nS_b hm
  have hs1 := hs.1
  obtain ⟨g1, g2, g3, g4, g5, g6⟩ := hI
  refine PW.aload_n dX9_know_113 rfl ?_
  refine PW.callVg (c_X9_gather (z := nS m) hA g3.1 (by omega) (fun q q0 q1 => by rw [g6 q q0 q1]; have := umC_b (σ (g + 1)) (lndS (σ (M + 1)) (ldF σ L) m q) hk.1; unfold inR; omega)) cv_X9_gather lk_X9_103 (by first | assumption | exact And.left (by assumption)) dX9_know_114 rfl rfl rfl rfl (fun r S' τ114 hq => ?_)
  obtain ⟨rfl, rfl, ⟨t1, t2⟩, t3, t4⟩ := hq
  refine PW.aload_n dX9_know_117 rfl ?_
  refine PW.iconst dX9_know_118 ?_
  refine PW.putI 12 fl_X9_55 rfl (fun h => absurd h (by decide)) (by assumption) rfl rfl rfl rfl dX9_know_119 ?_
  refine PW.aload_n dX9_know_122 rfl ?_
  refine PW.iload dX9_know_123 rfl ?_
  refine PW.putI 10 fl_X9_49 rfl (fun h => absurd h (by decide)) (by assumption) rfl rfl rfl rfl dX9_know_125 ?_
  refine PW.aload_n dX9_know_128 rfl ?_
  refine PW.dup rfl dX9_know_129 ?_
  refine PW.getI 11 fl_X9_52 rfl (by assumption) rfl rfl dX9_know_130 ?_
  refine PW.top (σ a 11) (by rw [upS_same, up1_ne (by decide), upS_same, up1_ne (by decide), t2 11 (by decide), g2 11 (by decide)]) ?_
  refine PW.iconst dX9_know_133 ?_
  refine PW.iadd dX9_know_134 ?_
  refine PW.putI 11 fl_X9_52 rfl (fun h => absurd h (by decide)) (by assumption) rfl rfl rfl rfl dX9_know_135 ?_
  refine PW.st (upS τ114 a (up1 (up1 (up1 (τ114 a) 12 1) 10 k) 11 (σ a 11 + 1))) (by simp only [upS_upS, upS_same]) ?_
  have e9 : (upS τ114 a (up1 (up1 (up1 (τ114 a) 12 1) 10 k) 11 (σ a 11 + 1))) a 9 = τ114 a 9 := by simp [upS, up1]
  have e8 : (upS τ114 a (up1 (up1 (up1 (τ114 a) 12 1) 10 k) 11 (σ a 11 + 1))) a 8 = τ114 a 8 := by simp [upS, up1]
  refine PW.vret rfl dX9_know_138 ⟨rfl, rfl, fun b hb => ?_, colsOk_congr (fun b b0 b1 => ?_) g4, colsOk_congr (fun b b0 b1 => ?_) g5, ⟨by simp [upS, up1], by simp [upS, up1], telTab_congr g3 ?_ (fun b b0 b1 => ?_), ?_, fun s s0 s1 s2 => ?_⟩, Or.inr (by simp [upS, up1])⟩
  · rw [upS_ne (by omega), t1 b (by omega) (by omega)]; exact g1 b hb
  · rw [upS_ne (by omega), t1 b (by omega) (by omega)]
  · rw [upS_ne (by omega), t1 b (by omega) (by omega)]
  · rw [e8, t2 8 (by decide)]
  · rw [upS_ne (by omega), t1 b (by omega) (by omega)]
  · rw [e9, t3]
    exact ftC_congr g6
  · rw [upS_ne (by omega)]
    have e : ftC (umS (σ (g + 1)) (σ (M + 1)) (ldF σ L) m k) s = ftC (τ (a + 5)) s := ftC_congr fun q q0 q1 => (g6 q q0 (by omega)).symm
    rw [e]
    exact t4 s s0 s1 (by rw [g6 s s0 s1]; exact s2)
theorem c_X9_know {G : GT} {S : Shp} {σ : Sto} {a L M g : Nat} {m k : Int} (hA : IsTel S a) (hL : IsCols S L 64) (hlc : colsOk σ L 64) (hM : IsTale S M) (hMt : taOk σ M) (hMm : σ M 2 = m) (hm : 0 ≤ m ∧ m ≤ 4) (hG : IsSig S g) (hs : sgsOk σ g) (hk : 0 ≤ k ∧ k ≤ σ g 1) (dL : L + 132 ≤ a ∨ a + 275 ≤ L) (dM : M + 3 ≤ a ∨ a + 275 ≤ M) (dg : g + 1 < a ∨ a + 275 ≤ g) (hc1 : colsOk σ (a + 7) 65) (hc2 : colsOk σ (a + 141) 65) (r10 : inR (σ a 10)) (hok : σ a 12 = 0 ∨ (σ a 12 = 1 ∧ telGood σ a m (σ (g + 1)) (σ (M + 1)) (ldF σ L) (σ a 10))) : PMet G mX9_know 6 0 0 [.ref a, .ref L, .ref M, .ref g, .int (iI k)] S σ (fun r S' σ' => r = none ∧ S' = S ∧ (∀ b, b < a ∨ a + 275 ≤ b → σ' b = σ b) ∧ colsOk σ' (a + 7) 65 ∧ colsOk σ' (a + 141) 65 ∧ telGood σ' a m (σ (g + 1)) (σ (M + 1)) (ldF σ L) k ∧ ((σ a 12 = 1 ∧ σ' = σ) ∨ σ' a 11 = σ a 11 + 1)) := by
  obtain ⟨hA0, hA1, hA2, hA3, hA4, hA5, hA6, hA7, hA8⟩ := id hA
  obtain ⟨hG0, hG1⟩ := id hG
  obtain ⟨hM0, hM1, hM2⟩ := id hM
  have nb := nS_b hm
  have hs1 := hs.1
  have h12 : σ a 12 = 0 ∨ σ a 12 = 1 := by
    rcases hok with h | h
    · exact Or.inl h
    · exact Or.inr h.1
  refine PMet.of [(0, .ref a), (1, .ref L), (2, .ref M), (3, .ref g), (4, .int (iI (k)))] (by decide +kernel) rfl (Nat.le_of_ble_eq_true rfl) ?_
  refine PW.aload_n dX9_know_0 rfl ?_
  refine PW.ifnull dX9_know_1 ?_
  refine PW.aload_n dX9_know_4 rfl ?_
  refine PW.ifnull dX9_know_5 ?_
  refine PW.aload_n dX9_know_8 rfl ?_
  refine PW.ifnonnull 13 dX9_know_9 (by decide) ?_
  refine PW.aload_n dX9_know_13 rfl ?_
  refine PW.getI 12 fl_X9_55 rfl (by assumption) rfl rfl dX9_know_14 ?_
  refine PW.if_eq 30 dX9_know_17 (by decide) (by first | assumption | (unfold inR; omega)) (fun h17 => ?_) (fun h17 => ?_)
  · refine PW.aload_n dX9_know_30 rfl ?_
    refine PW.aload_n dX9_know_31 rfl ?_
    refine PW.callVr (c_X8_size hM) cv_X8_size lk_X9_71 hM0 dX9_know_32 rfl rfl rfl rfl ?_
    refine PW.top m hMm ?_
    refine PW.callVg (c_X9_order hA hm) cv_X9_order lk_X9_76 hA0 dX9_know_35 rfl rfl rfl rfl (fun r S' τ1 hq => ?_)
    obtain ⟨rfl, rfl, ⟨t1, t2⟩, t3⟩ := hq
    refine PW.aload_n dX9_know_38 rfl ?_
    refine PW.getR fl_X9_24 rfl (by assumption) rfl dX9_know_39 ?_
    refine PW.iconst dX9_know_42 ?_
    refine PW.bipush (by decide) dX9_know_43 ?_
    refine PW.iconst dX9_know_45 ?_
    refine PW.callSv (c_X11_fill (by assumption) (by decide) (by first | assumption | (unfold inR; omega)) (by first | assumption | (unfold inR; omega))) cs_X11_fill lk_X9_79 dX9_know_46 rfl rfl rfl ?_
    refine PW.iconst dX9_know_49 ?_
    refine PW.istore [(0, _), (1, _), (2, _), (3, _), (4, _), (5, _)] dX9_know_50 rfl (Nat.le_of_ble_eq_true rfl) ?_
    refine know_lp hA hL hlc hM hMt hMm hm hG hs hk dL dM dg (fun τ hI => know_end hA hL hlc hM hMt hMm hm hG hs hk dL dM dg hI) 31 0 _ (by omega) (by omega) (by omega) ⟨fun b hb => ?_, fun j hj => ?_, telTab_congr t3 ?_ (fun b b0 b1 => upS_ne (by omega)), colsOk_congr (fun b b0 b1 => ?_) hc1, colsOk_congr (fun b b0 b1 => ?_) hc2, fun s s0 s1 => ?_⟩
    · rw [upS_ne (by omega)]; exact t1 b (by omega)
    · rw [upS_ne (by omega)]; exact t2 j hj
    · rw [upS_ne (by omega)]
    · rw [upS_ne (by omega)]; exact t1 b (by omega)
    · rw [upS_ne (by omega)]; exact t1 b (by omega)
    · rw [upS_same]
      unfold flI
      rw [if_pos (by omega)]
      rfl
  · refine PW.aload_n dX9_know_20 rfl ?_
    refine PW.getI 10 fl_X9_49 rfl (by assumption) rfl rfl dX9_know_21 ?_
    refine PW.iload dX9_know_24 rfl ?_
    refine PW.icmp_ne 30 dX9_know_26 (by decide) (by first | assumption | (unfold inR; omega)) (by first | assumption | (unfold inR; omega)) (fun h26 => ?_) (fun h26 => ?_)
    · refine PW.aload_n dX9_know_30 rfl ?_
      refine PW.aload_n dX9_know_31 rfl ?_
      refine PW.callVr (c_X8_size hM) cv_X8_size lk_X9_71 hM0 dX9_know_32 rfl rfl rfl rfl ?_
      refine PW.top m hMm ?_
      refine PW.callVg (c_X9_order hA hm) cv_X9_order lk_X9_76 hA0 dX9_know_35 rfl rfl rfl rfl (fun r S' τ1 hq => ?_)
      obtain ⟨rfl, rfl, ⟨t1, t2⟩, t3⟩ := hq
      refine PW.aload_n dX9_know_38 rfl ?_
      refine PW.getR fl_X9_24 rfl (by assumption) rfl dX9_know_39 ?_
      refine PW.iconst dX9_know_42 ?_
      refine PW.bipush (by decide) dX9_know_43 ?_
      refine PW.iconst dX9_know_45 ?_
      refine PW.callSv (c_X11_fill (by assumption) (by decide) (by first | assumption | (unfold inR; omega)) (by first | assumption | (unfold inR; omega))) cs_X11_fill lk_X9_79 dX9_know_46 rfl rfl rfl ?_
      refine PW.iconst dX9_know_49 ?_
      refine PW.istore [(0, _), (1, _), (2, _), (3, _), (4, _), (5, _)] dX9_know_50 rfl (Nat.le_of_ble_eq_true rfl) ?_
      refine know_lp hA hL hlc hM hMt hMm hm hG hs hk dL dM dg (fun τ hI => know_end hA hL hlc hM hMt hMm hm hG hs hk dL dM dg hI) 31 0 _ (by omega) (by omega) (by omega) ⟨fun b hb => ?_, fun j hj => ?_, telTab_congr t3 ?_ (fun b b0 b1 => upS_ne (by omega)), colsOk_congr (fun b b0 b1 => ?_) hc1, colsOk_congr (fun b b0 b1 => ?_) hc2, fun s s0 s1 => ?_⟩
      · rw [upS_ne (by omega)]; exact t1 b (by omega)
      · rw [upS_ne (by omega)]; exact t2 j hj
      · rw [upS_ne (by omega)]
      · rw [upS_ne (by omega)]; exact t1 b (by omega)
      · rw [upS_ne (by omega)]; exact t1 b (by omega)
      · rw [upS_same]
        unfold flI
        rw [if_pos (by omega)]
        rfl
    · rcases hok with h | ⟨h, hg⟩
      · exact absurd h (by assumption)
      · refine PW.vret rfl dX9_know_29 ⟨rfl, rfl, fun _ _ => rfl, hc1, hc2, ?_, Or.inl ⟨h, rfl⟩⟩
        have e : σ a 10 = k := by assumption
        rw [e] at hg
        exact hg

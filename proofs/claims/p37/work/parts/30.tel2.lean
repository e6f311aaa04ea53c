/-- two columns with the same cells -/
def eq8 (c e : Int → Int) : Prop := ∀ i, 0 ≤ i → i < 80 → c i = e i
theorem eq8.rfl' (c : Int → Int) : eq8 c c := fun _ _ _ => rfl
theorem eq8.symm {c e : Int → Int} (h : eq8 c e) : eq8 e c := fun i h0 h1 => (h i h0 h1).symm
theorem eq8.trans {c e g : Int → Int} (h : eq8 c e) (h' : eq8 e g) : eq8 c g := fun i h0 h1 => (h i h0 h1).trans (h' i h0 h1)
theorem lasI_congr {P P' : Int → Bool} : ∀ {k : Nat}, (∀ j : Int, 0 ≤ j → j < k → P j = P' j) → lasI P k = lasI P' k
  | 0, _ => rfl
  | k + 1, h => by
    simp only [lasI]
    rw [lasI_congr (k := k) (fun j h0 h1 => h j h0 (by omega)), h (k : Int) (by omega) (by omega)]
theorem skF_eq {c e : Int → Int} (h : eq8 c e) : skF c = skF e := by
  unfold skF
  rw [lasI_congr (fun j j0 j1 => by rw [h j j0 j1])]
theorem toF_eq {c e : Int → Int} (h : eq8 c e) (b : Int) : toF c b = toF e b := by
  unfold toF
  rw [lasI_congr (fun j j0 j1 => by rw [h j j0 j1])]
theorem sbF_eq {c e : Int → Int} (h : eq8 c e) : sbF c = sbF e := by
  have hb := skF_b e
  unfold sbF
  rw [skF_eq h]
  split
  · rfl
  · exact h _ (by omega) (by omega)
theorem lieP_eq {c e : Int → Int} (h : eq8 c e) (b u : Int) : lieP c b u ↔ lieP e b u := by
  have : firI (lieB c b u) 80 = firI (lieB e b u) 80 := firI_congr fun j j0 j1 => by
    by_cases q : 1 ≤ j
    · show decide _ = decide _
      rw [h j j0 j1, h (j - 1) (by omega) (by omega)]
    · show decide _ = decide _
      simp [q]
  unfold lieP
  rw [this]
theorem clF_eq {c e : Int → Int} (h : eq8 c e) (b : Int) : clF c b = clF e b := smF_congr fun j j0 j1 => by rw [h j j0 j1]
theorem ulF_eq {c e c' e' : Int → Int} (h : eq8 c e) (h' : eq8 c' e') : ulF c c' = ulF e e' := smF_congr fun j j0 j1 => by rw [h j j0 j1, h' j j0 j1]
theorem likP_eq {c e c' e' : Int → Int} (h : eq8 c e) (h' : eq8 c' e') : likP c c' ↔ likP e e' := by
  have : firI (likB c c') 80 = firI (likB e e') 80 := firI_congr fun j j0 j1 => by
    show decide _ = decide _
    rw [h j j0 j1, h' j j0 j1]
  unfold likP
  rw [this]
theorem likP_iff (c e : Int → Int) : likP c e ↔ eq8 c e := by
  constructor
  · intro h i h0 h1
    have := of_decide_eq_false ((firI_spec (P := likB c e) (n := 80)).1 h i h0 h1)
    exact Decidable.not_not.mp this
  · intro h
    exact firI_none fun j j0 j1 => decide_eq_false (fun q => q (h j j0 j1))
theorem xcF_eq {c e : Int → Int} (h : eq8 c e) (B : Int → Int) : xcF c B = xcF e B := smF_congr fun j j0 j1 => by
  by_cases q : 1 ≤ j
  · refine b01_congr ?_
    unfold xcP
    rw [h j j0 j1, h (j - 1) (by omega) (by omega)]
  · rw [b01_f (fun x => q x.1), b01_f (fun x => q x.1)]
theorem fhF_eq {c e : Int → Int} (h : eq8 c e) (lo hi v : Int) : eq8 (fhF c lo hi v) (fhF e lo hi v) := by
  intro i h0 h1
  unfold fhF
  rw [h i h0 h1]
theorem mvF_eq {c e : Int → Int} (h : eq8 c e) (lo hi m : Int) : eq8 (mvF c lo hi m) (mvF e lo hi m) := by
  intro i h0 h1
  unfold mvF
  split
  · split
    · rfl
    · split
      · rfl
      · exact h _ (by omega) (by omega)
  · exact h i h0 h1
theorem inF_eq {c e : Int → Int} (h : eq8 c e) (v t : Int) : eq8 (inF c v t) (inF e v t) := by
  intro i h0 h1
  unfold inF
  rw [h i h0 h1]
theorem lyF_eq {c e : Int → Int} (h : eq8 c e) (b t : Int) : eq8 (lyF c b t) (lyF e b t) := by
  unfold lyF
  rw [skF_eq h]
  exact fhF_eq h _ _ _
theorem evC_eq {c e' : Int → Int} (h : eq8 c e') (k a b c0 d e n : Int) : eq8 (evC k a b c0 d e n c) (evC k a b c0 d e n e') := by
  unfold evC
  by_cases h0 : k = 0
  · rw [if_pos h0, if_pos h0]; exact lyF_eq h _ _
  · rw [if_neg h0, if_neg h0]
    by_cases h1 : k = 1
    · rw [if_pos h1, if_pos h1]; exact mvF_eq h _ _ _
    · rw [if_neg h1, if_neg h1]
      by_cases h2 : k = 2
      · rw [if_pos h2, if_pos h2]; exact mvF_eq h _ _ _
      · rw [if_neg h2, if_neg h2]
        by_cases h3 : k = 3
        · rw [if_pos h3, if_pos h3]; exact mvF_eq h _ _ _
        · rw [if_neg h3, if_neg h3]
          by_cases h4 : k = 4
          · rw [if_pos h4, if_pos h4]; exact fhF_eq h _ _ _
          · rw [if_neg h4, if_neg h4]
            split
            · exact inF_eq h _ _
            · exact h
theorem cp8_eq (c e : Int → Int) : eq8 (cp8 c e) e := by
  intro i h0 h1
  unfold cp8
  rw [if_pos ⟨h0, h1⟩]
theorem bgF_eq (c e : Int → Int) : eq8 (bgF c) (bgF e) := by
  intro i h0 h1
  unfold bgF
  rw [if_pos (show 0 ≤ i ∧ i < 80 from ⟨h0, h1⟩), if_pos (show 0 ≤ i ∧ i < 80 from ⟨h0, h1⟩)]
theorem tlF_eq (f : Int → Int) (n : Int) (c e : Int → Int) : ∀ k : Nat, eq8 (tlF f n c k) (tlF f n e k)
  | 0 => bgF_eq c e
  | k + 1 => evC_eq (tlF_eq f n c e k) _ _ _ _ _ _ _
theorem goF_eq {f : Int → Int} {n fr : Int} {c e : Int → Int} (h : eq8 c e) : ∀ k : Nat, eq8 (goF f n c fr k) (goF f n e fr k)
  | 0 => h
  | k + 1 => evC_eq (goF_eq h k) _ _ _ _ _ _ _
theorem metP_eq {k b p q : Int} {c e c' e' : Int → Int} (h : eq8 c e) (h' : k = 3 → eq8 c' e') (hp : k = 1 → -40 ≤ p ∧ p ≤ 39) : metP k b p q c c' ↔ metP k b p q e e' := by
  unfold metP
  rw [sbF_eq h, toF_eq h]
  have e1 : (k = 1 ∧ c (p + 40) = b) ↔ (k = 1 ∧ e (p + 40) = b) := by
    constructor
    · rintro ⟨x, y⟩
      have := hp x
      rw [h _ (by omega) (by omega)] at y
      exact ⟨x, y⟩
    · rintro ⟨x, y⟩
      have := hp x
      rw [← h _ (by omega) (by omega)] at y
      exact ⟨x, y⟩
  have e2 : (k = 3 ∧ ¬ toF e b = -41 ∧ ¬ toF c' b = -41 ∧ toF c' b - toF e b = q) ↔ (k = 3 ∧ ¬ toF e b = -41 ∧ ¬ toF e' b = -41 ∧ toF e' b - toF e b = q) := by
    constructor
    · rintro ⟨x, y⟩
      rw [toF_eq (h' x)] at y
      exact ⟨x, y⟩
    · rintro ⟨x, y⟩
      rw [← toF_eq (h' x)] at y
      exact ⟨x, y⟩
  rw [e1, e2, lieP_eq h]
/-- a column behind some events, one after the other -/
def colS (f : Int → Int) (n : Int) (c : Int → Int) (p : List Int) : Int → Int := p.foldl (fun c i => evR f i n c) c
theorem colS_app (f : Int → Int) (n : Int) (c : Int → Int) (p : List Int) (i : Int) : colS f n c (p ++ [i]) = evR f i n (colS f n c p) := by
  unfold colS
  rw [List.foldl_append]
  rfl
theorem colS_eq {f : Int → Int} {n : Int} : ∀ {p : List Int} {c e : Int → Int}, eq8 c e → eq8 (colS f n c p) (colS f n e p)
  | [], _, _, h => h
  | i :: p, _, _, h => colS_eq (p := p) (evC_eq h _ _ _ _ _ _ _)
theorem colS_ok {f : Int → Int} {n : Int} : ∀ {p : List Int} {c : Int → Int}, colOk c → (∀ i ∈ p, evOk f i) → colOk (colS f n c p)
  | [], _, h, _ => h
  | i :: p, _, h, hp => colS_ok (p := p) (evC_ok h (hp i List.mem_cons_self).1) (fun j hj => hp j (List.mem_cons_of_mem _ hj))
/-- the land of a story -/
def lndS (f : Int → Int) (ld : Int → Int → Int) (m s : Int) : Int → Int → Int := fun n => colS f n (ld n) (pth m s)
def colFr (σ τ : Sto) (R : Nat) : Prop := ∀ b, b < R + 5 ∨ R + 134 ≤ b → τ b = σ b
theorem colFr_up {σ τ : Sto} {R : Nat} {i : Int} {f : Int → Int} (h : colFr σ τ R) (h0 : 0 ≤ i) (h1 : i < 65) : colFr σ (upS τ (cA R i + 1) f) R := by
  intro b hb
  rw [upS_ne (by unfold cA; omega)]
  exact h b hb
theorem colsOk_up {τ : Sto} {R : Nat} {i : Int} {f : Int → Int} (h : colsOk τ R 65) (h0 : 0 ≤ i) (hf : colOk f) : colsOk (upS τ (cA R i + 1) f) R 65 := by
  intro j j0 j1
  by_cases e : j = i
  · subst e
    rw [upS_same]
    exact hf
  · rw [upS_ne (by unfold cA; omega)]
    exact h j j0 j1
theorem tc_loop {G : GT} {S : Shp} {σ : Sto} {a R L M : Nat} {m n : Int} {Q : Option Value → Shp → Sto → Prop} (hA : IsTel S a) (hR : IsCols S R 65) (hL : IsCols S L 64) (hlc : colsOk σ L 64) (hM : IsTale S M) (hMt : taOk σ M) (hMm : σ M 2 = m) (hm : 0 ≤ m ∧ m ≤ 4) (ht : telTab σ a m) (hn : 0 ≤ n ∧ n ≤ 63) (hRL : R + 134 ≤ L ∨ L + 132 ≤ R) (hRM : R + 134 ≤ M ∨ M + 3 ≤ R) (hRa : a + 7 ≤ R) (hQ : ∀ τ : Sto, colFr σ τ R → colsOk τ R 65 → (∀ s, 0 ≤ s → s < nS m → eq8 (τ (cA R s + 1)) (colS (σ (M + 1)) n (σ (cA L n + 1)) (pth m s))) → Q none S τ) : ∀ (t : Nat) (i : Int) (τ : Sto), 1 ≤ i → i ≤ nS m → nS m - i < t → colFr σ τ R → colsOk τ R 65 → (∀ s, 0 ≤ s → s < i → eq8 (τ (cA R s + 1)) (colS (σ (M + 1)) n (σ (cA L n + 1)) (pth m s))) → PW (fm G mX9_tellColumn 5 0 0 Q) G S (τ) 0 0 17 [(0, .ref a), (1, .ref R), (2, .ref L), (3, .ref M), (4, .int (iI (n))), (5, .int (iI (i)))] [] := by
  obtain ⟨hA0, hA1, hA2, hA3, hA4, hA5, hA6, hA7, hA8⟩ := id hA
  obtain ⟨hR0, hR1, hR2, hRc⟩ := id hR
  obtain ⟨hL0, hL1, hL2, hLc⟩ := id hL
  obtain ⟨hM0, hM1, hM2⟩ := id hM
  have nb := nS_b hm
  intro t
  induction t with
  | zero => intro i τ h1 h2 h3 g1 g2 g3; omega
  | succ t ih =>
    intro i τ h1 h2 h3 g1 g2 g3
    have e0 : τ a = σ a := g1 a (by omega)
    have e8 : τ a 8 = nS m := by rw [e0]; exact ht.1
    have e1 : τ (a + 1) = σ (a + 1) := g1 _ (by omega)
    have e2 : τ (a + 2) = σ (a + 2) := g1 _ (by omega)
    have eM : τ (M + 1) = σ (M + 1) := g1 _ (by omega)
    refine PW.iload dX9_tellColumn_17 rfl ?_
    refine PW.aload_n dX9_tellColumn_19 rfl ?_
    refine PW.getI 8 fl_X9_42 rfl (by assumption) rfl rfl dX9_tellColumn_20 ?_
    refine PW.icmp_ge 77 dX9_tellColumn_23 (by decide) (by first | assumption | (unfold inR; omega)) (by first | assumption | (unfold inR; omega)) (fun h23 => ?_) (fun h23 => ?_)
    · exact PW.vret rfl dX9_tellColumn_77 (hQ τ g1 g2 (fun s s0 s1 => g3 s s0 (by omega)))
    · have hlt : i < nS m := by omega
      have tr := ht.2 i (by omega) hlt
      obtain ⟨ta1, ta2, ta3⟩ := tb_A hm h1 hlt
      have ci := hRc i (by omega) (by omega)
      have cb := hRc (bef m i) (by omega) (by omega)
      have hEv : evOk (σ (M + 1)) (adE m i) := hMt.2 _ ta2.1 (by omega)
      have okb := g2 (bef m i) (by omega) (by omega)
      have na := cA_b (a := R) (N := 65) (i := i) (by omega) (by omega)
      refine PW.aload_n dX9_tellColumn_26 rfl ?_
      refine PW.iload dX9_tellColumn_27 rfl ?_
      refine PW.callVr (c_X2_of (by assumption) (by omega) (by omega) (by omega)) cv_X2_of lk_X9_114 (by first | assumption | exact And.left (by assumption)) dX9_tellColumn_29 rfl rfl rfl rfl ?_
      refine PW.aload_n dX9_tellColumn_32 rfl ?_
      refine PW.aload_n dX9_tellColumn_33 rfl ?_
      refine PW.getR fl_X9_9 rfl (by assumption) rfl dX9_tellColumn_34 ?_
      refine PW.iload dX9_tellColumn_37 rfl ?_
      refine PW.callSr (c_X11_get (by assumption) (by first | assumption | (unfold inR; omega)) (by decide)) cs_X11_get lk_X9_59 dX9_tellColumn_39 rfl rfl rfl ?_
      refine PW.top (bef m i) (by unfold gI; rw [if_pos (by omega), e1]; exact tr.1) ?_
      refine PW.callVr (c_X2_of (by assumption) (by omega) (by omega) (by omega)) cv_X2_of lk_X9_114 (by first | assumption | exact And.left (by assumption)) dX9_tellColumn_42 rfl rfl rfl rfl ?_
      refine PW.aload_n dX9_tellColumn_45 rfl ?_
      refine PW.aload_n dX9_tellColumn_46 rfl ?_
      refine PW.getR fl_X9_15 rfl (by assumption) rfl dX9_tellColumn_47 ?_
      refine PW.iload dX9_tellColumn_50 rfl ?_
      refine PW.callSr (c_X11_get (by assumption) (by first | assumption | (unfold inR; omega)) (by decide)) cs_X11_get lk_X9_59 dX9_tellColumn_52 rfl rfl rfl ?_
      refine PW.top (adE m i) (by unfold gI; rw [if_pos (by omega), e2]; exact tr.2.1) ?_
      refine PW.aload_n dX9_tellColumn_55 rfl ?_
      refine PW.getR fl_X9_15 rfl (by assumption) rfl dX9_tellColumn_56 ?_
      refine PW.iload dX9_tellColumn_59 rfl ?_
      refine PW.callSr (c_X11_get (by assumption) (by first | assumption | (unfold inR; omega)) (by decide)) cs_X11_get lk_X9_59 dX9_tellColumn_61 rfl rfl rfl ?_
      refine PW.top (adE m i) (by unfold gI; rw [if_pos (by omega), e2]; exact tr.2.1) ?_
      refine PW.iconst dX9_tellColumn_64 ?_
      refine PW.iadd dX9_tellColumn_65 ?_
      refine PW.iload dX9_tellColumn_66 rfl ?_
      refine PW.callVv (c_X1_goOnFrom ci hM (fun q q0 q1 => by rw [show q = adE m i by omega, eM]; exact hEv) (by omega) (by omega) hn cb okb) cv_X1_goOnFrom lk_X9_124 (by first | assumption | exact And.left (by assumption)) dX9_tellColumn_68 rfl rfl rfl rfl ?_
      refine PW.st (upS τ (cA R i + 1) (evR (σ (M + 1)) (adE m i) n (cp8 (τ (cA R i + 1)) (τ (cA R (bef m i) + 1))))) (by rw [go1, eM]) ?_
      refine PW.iinc [(0, _), (1, _), (2, _), (3, _), (4, _), (5, _)] dX9_tellColumn_71 rfl rfl (Nat.le_of_ble_eq_true rfl) ?_
      refine PW.goto 17 dX9_tellColumn_74 (by decide) ?_
      refine ih (i + 1) _ (by omega) (by omega) (by omega) (colFr_up g1 (by omega) (by omega)) (colsOk_up g2 (by omega) (evC_ok (cp8_ok okb) hEv.1)) (fun s s0 s1 => ?_)
      by_cases e : s = i
      · subst e
        rw [upS_same, ta3, colS_app]
        exact evC_eq ((cp8_eq _ _).trans (g3 _ ta1.1 ta1.2)) _ _ _ _ _ _ _
      · rw [upS_ne (by unfold cA; omega)]
        exact g3 s s0 (by omega)
theorem c_X9_tellColumn {G : GT} {S : Shp} {σ : Sto} {a R L M : Nat} {m n : Int} (hA : IsTel S a) (hR : IsCols S R 65) (hL : IsCols S L 64) (hlc : colsOk σ L 64) (hM : IsTale S M) (hMt : taOk σ M) (hMm : σ M 2 = m) (hm : 0 ≤ m ∧ m ≤ 4) (ht : telTab σ a m) (hn : 0 ≤ n ∧ n ≤ 63) (hRL : R + 134 ≤ L ∨ L + 132 ≤ R) (hRM : R + 134 ≤ M ∨ M + 3 ≤ R) (hRa : a + 7 ≤ R) (hRo : colsOk σ R 65) : PMet G mX9_tellColumn 5 0 0 [.ref a, .ref R, .ref L, .ref M, .int (iI n)] S σ (fun r S' σ' => r = none ∧ S' = S ∧ colFr σ σ' R ∧ colsOk σ' R 65 ∧ ∀ s, 0 ≤ s → s < nS m → eq8 (σ' (cA R s + 1)) (colS (σ (M + 1)) n (σ (cA L n + 1)) (pth m s))) := by
  obtain ⟨hA0, hA1, hA2, hA3, hA4, hA5, hA6, hA7, hA8⟩ := id hA
  obtain ⟨hR0, hR1, hR2, hRc⟩ := id hR
  obtain ⟨hL0, hL1, hL2, hLc⟩ := id hL
  obtain ⟨hM0, hM1, hM2⟩ := id hM
  have nb := nS_b hm
  have c0 := hRc 0 (by omega) (by omega)
  have cl := hLc n (by omega) (by omega)
  refine PMet.of [(0, .ref a), (1, .ref R), (2, .ref L), (3, .ref M), (4, .int (iI (n)))] (by decide +kernel) rfl (Nat.le_of_ble_eq_true rfl) ?_
  refine PW.aload_n dX9_tellColumn_0 rfl ?_
  refine PW.iconst dX9_tellColumn_1 ?_
  refine PW.callVr (c_X2_of (by assumption) (by omega) (by omega) (by omega)) cv_X2_of lk_X9_114 (by first | assumption | exact And.left (by assumption)) dX9_tellColumn_2 rfl rfl rfl rfl ?_
  refine PW.aload_n dX9_tellColumn_5 rfl ?_
  refine PW.iload dX9_tellColumn_6 rfl ?_
  refine PW.callVr (c_X2_of (by assumption) (by omega) (by omega) (by omega)) cv_X2_of lk_X9_114 (by first | assumption | exact And.left (by assumption)) dX9_tellColumn_8 rfl rfl rfl rfl ?_
  refine PW.callVv (c_X1_become c0 cl) cv_X1_become lk_X9_118 (by first | assumption | exact And.left (by assumption)) dX9_tellColumn_11 rfl rfl rfl rfl ?_
  refine PW.iconst dX9_tellColumn_14 ?_
  refine PW.istore [(0, _), (1, _), (2, _), (3, _), (4, _), (5, _)] dX9_tellColumn_15 rfl (Nat.le_of_ble_eq_true rfl) ?_
  refine tc_loop hA hR hL hlc hM hMt hMm hm ht hn hRL hRM hRa (fun τ p1 p2 p3 => ⟨rfl, rfl, p1, p2, p3⟩) 65 1 _ (by omega) (by omega) (by omega) (colFr_up (fun _ _ => rfl) (by omega) (by omega)) (colsOk_up hRo (by omega) (cp8_ok (hlc n (by omega) (by omega)))) (fun s s0 s1 => ?_)
  rw [show s = 0 by omega, upS_same, (tb_C hm).2.2.2.2.1]
  exact cp8_eq _ _
theorem hold_loop {G : GT} {S : Shp} {σ : Sto} {a g : Nat} {i z : Int} {Q : Option Value → Shp → Sto → Prop} (hA : IsTel S a) (hG : IsSig S g) (hi : 0 ≤ i ∧ i ≤ 29) (hw : sgWf (σ (g + 1)) i) (hz : σ a 8 = z) (hz1 : 0 ≤ z ∧ z ≤ 65) (hc1 : colsOk σ (a + 7) 65) (hc2 : colsOk σ (a + 141) 65) (hu : ∀ q, 0 ≤ q → q < z → 0 ≤ σ (a + 5) q ∧ σ (a + 5) q ≤ 1000) (hga : g + 1 < a ∨ a + 275 ≤ g) (hQ : Q none S (upS σ (a + 5) (fun q => if 0 ≤ q ∧ q < z then σ (a + 5) q + b01 (¬ metP (σ (g + 1) (5 * i)) (σ (g + 1) (5 * i + 2)) (σ (g + 1) (5 * i + 3)) (σ (g + 1) (5 * i + 4)) (σ (cA (a + 7) q + 1)) (σ (cA (a + 141) q + 1))) else σ (a + 5) q))) : ∀ (t : Nat) (j : Int), 0 ≤ j → j ≤ z → z - j < t → PW (fm G mX9_hold 4 0 0 Q) G S (upS σ (a + 5) (fun q => if 0 ≤ q ∧ q < j then σ (a + 5) q + b01 (¬ metP (σ (g + 1) (5 * i)) (σ (g + 1) (5 * i + 2)) (σ (g + 1) (5 * i + 3)) (σ (g + 1) (5 * i + 4)) (σ (cA (a + 7) q + 1)) (σ (cA (a + 141) q + 1))) else σ (a + 5) q)) 0 0 2 [(0, .ref a), (1, .ref g), (2, .int (iI i)), (3, .int (iI j))] [] := by
  obtain ⟨hA0, hA1, hA2, hA3, hA4, hA5, hA6, hA7, hA8⟩ := id hA
  obtain ⟨hR0, hR1, hR2, hRc⟩ := id hA7
  obtain ⟨hB0, hB1, hB2, hBc⟩ := id hA8
  obtain ⟨hG0, hG1⟩ := id hG
  intro t
  induction t with
  | zero => intro j h1 h2 h3; omega
  | succ t ih =>
    intro j h1 h2 h3
    have e0 : (upS σ (a + 5) (fun q => if 0 ≤ q ∧ q < j then σ (a + 5) q + b01 (¬ metP (σ (g + 1) (5 * i)) (σ (g + 1) (5 * i + 2)) (σ (g + 1) (5 * i + 3)) (σ (g + 1) (5 * i + 4)) (σ (cA (a + 7) q + 1)) (σ (cA (a + 141) q + 1))) else σ (a + 5) q)) a 8 = z := by rw [upS_ne (by omega)]; exact hz
    have eg : (upS σ (a + 5) (fun q => if 0 ≤ q ∧ q < j then σ (a + 5) q + b01 (¬ metP (σ (g + 1) (5 * i)) (σ (g + 1) (5 * i + 2)) (σ (g + 1) (5 * i + 3)) (σ (g + 1) (5 * i + 4)) (σ (cA (a + 7) q + 1)) (σ (cA (a + 141) q + 1))) else σ (a + 5) q)) (g + 1) = σ (g + 1) := upS_ne (by omega)
    have e7 : (upS σ (a + 5) (fun q => if 0 ≤ q ∧ q < j then σ (a + 5) q + b01 (¬ metP (σ (g + 1) (5 * i)) (σ (g + 1) (5 * i + 2)) (σ (g + 1) (5 * i + 3)) (σ (g + 1) (5 * i + 4)) (σ (cA (a + 7) q + 1)) (σ (cA (a + 141) q + 1))) else σ (a + 5) q)) (cA (a + 7) j + 1) = σ (cA (a + 7) j + 1) := upS_ne (by unfold cA; omega)
    have e14 : (upS σ (a + 5) (fun q => if 0 ≤ q ∧ q < j then σ (a + 5) q + b01 (¬ metP (σ (g + 1) (5 * i)) (σ (g + 1) (5 * i + 2)) (σ (g + 1) (5 * i + 3)) (σ (g + 1) (5 * i + 4)) (σ (cA (a + 7) q + 1)) (σ (cA (a + 141) q + 1))) else σ (a + 5) q)) (cA (a + 141) j + 1) = σ (cA (a + 141) j + 1) := upS_ne (by unfold cA; omega)
    refine PW.iload_n dX9_hold_2 rfl ?_
    refine PW.aload_n dX9_hold_3 rfl ?_
    refine PW.getI 8 fl_X9_42 rfl (by assumption) rfl rfl dX9_hold_4 ?_
    refine PW.top z e0 ?_
    refine PW.icmp_ge 58 dX9_hold_7 (by decide) (by first | assumption | (unfold inR; omega)) (by first | assumption | (unfold inR; omega)) (fun h7 => ?_) (fun h7 => ?_)
    · have hj : j = z := by omega
      subst hj
      exact PW.vret rfl dX9_hold_58 hQ
    · have d1 := hRc j h1 (by omega)
      have d2 := hBc j h1 (by omega)
      have uu := hu j h1 (by omega)
      refine PW.aload_n dX9_hold_10 rfl ?_
      refine PW.iload_n dX9_hold_11 rfl ?_
      refine PW.aload_n dX9_hold_12 rfl ?_
      refine PW.getR fl_X9_35 rfl (by assumption) rfl dX9_hold_13 ?_
      refine PW.iload_n dX9_hold_16 rfl ?_
      refine PW.callVr (c_X2_of hA7 (by decide) (by omega) (by omega)) cv_X2_of lk_X9_114 (by first | assumption | exact And.left (by assumption)) dX9_hold_17 rfl rfl rfl rfl ?_
      refine PW.aload_n dX9_hold_20 rfl ?_
      refine PW.getR fl_X9_39 rfl (by assumption) rfl dX9_hold_21 ?_
      refine PW.iload_n dX9_hold_24 rfl ?_
      refine PW.callVr (c_X2_of hA8 (by decide) (by omega) (by omega)) cv_X2_of lk_X9_114 (by first | assumption | exact And.left (by assumption)) dX9_hold_25 rfl rfl rfl rfl ?_
      refine PW.callVr (c_X7_isMet hG hi (by rw [eg]; exact hw) d1 d2 (by rw [e7]; exact hc1 j h1 (by omega)) (by rw [e14]; exact hc2 j h1 (by omega))) cv_X7_isMet lk_X9_128 (by first | assumption | exact And.left (by assumption)) dX9_hold_28 rfl rfl rfl rfl ?_
      rw [eg, e7, e14]
      refine PW.if_neB 52 dX9_hold_31 (by decide) (fun h31 => ?_) (fun h31 => ?_)
      · refine PW.iinc [(0, _), (1, _), (2, _), (3, _)] dX9_hold_52 rfl rfl (Nat.le_of_ble_eq_true rfl) ?_
        refine PW.goto 2 dX9_hold_55 (by decide) ?_
        refine PW.st (upS σ (a + 5) (fun q => if 0 ≤ q ∧ q < j + 1 then σ (a + 5) q + b01 (¬ metP (σ (g + 1) (5 * i)) (σ (g + 1) (5 * i + 2)) (σ (g + 1) (5 * i + 3)) (σ (g + 1) (5 * i + 4)) (σ (cA (a + 7) q + 1)) (σ (cA (a + 141) q + 1))) else σ (a + 5) q)) ?_ (ih (j + 1) (by omega) (by omega) (by omega))
        first
          | (rw [if_pos (by omega), upS_upS, upS_same]
             refine congrArg (upS σ (a + 5)) (funext fun q => ?_)
             unfold up1
             try dsimp only
             by_cases e : q = j
             · subst e
               rw [if_pos rfl, if_pos (by omega), b01_t (by assumption)]
             · rw [if_neg e]
               by_cases q1 : 0 ≤ q ∧ q < j
               · rw [if_pos q1, if_pos (by omega)]
               · rw [if_neg q1, if_neg (by omega)])
          | (refine congrArg (upS σ (a + 5)) (funext fun q => ?_)
             try dsimp only
             by_cases e : q = j
             · subst e
               rw [if_neg (by omega), if_pos (by omega), b01_f (fun x => x (by assumption)), Int.add_zero]
             · by_cases q1 : 0 ≤ q ∧ q < j
               · rw [if_pos q1, if_pos (by omega)]
               · rw [if_neg q1, if_neg (by omega)])
      · refine PW.aload_n dX9_hold_34 rfl ?_
        refine PW.getR fl_X9_24 rfl (by assumption) rfl dX9_hold_35 ?_
        refine PW.iload_n dX9_hold_38 rfl ?_
        refine PW.aload_n dX9_hold_39 rfl ?_
        refine PW.getR fl_X9_24 rfl (by assumption) rfl dX9_hold_40 ?_
        refine PW.iload_n dX9_hold_43 rfl ?_
        refine PW.callSr (c_X11_get (by assumption) (by first | assumption | (unfold inR; omega)) (by decide)) cs_X11_get lk_X9_59 dX9_hold_44 rfl rfl rfl ?_
        refine PW.top (σ (a + 5) j) (by unfold gI; rw [if_pos (by omega), upS_same, if_neg (by omega)]) ?_
        refine PW.iconst dX9_hold_47 ?_
        refine PW.iadd dX9_hold_48 ?_
        refine PW.callSv (c_X11_put (by assumption) (by first | assumption | (unfold inR; omega)) (by decide)) cs_X11_put lk_X9_110 dX9_hold_49 rfl rfl rfl ?_
        refine PW.iinc [(0, _), (1, _), (2, _), (3, _)] dX9_hold_52 rfl rfl (Nat.le_of_ble_eq_true rfl) ?_
        refine PW.goto 2 dX9_hold_55 (by decide) ?_
        refine PW.st (upS σ (a + 5) (fun q => if 0 ≤ q ∧ q < j + 1 then σ (a + 5) q + b01 (¬ metP (σ (g + 1) (5 * i)) (σ (g + 1) (5 * i + 2)) (σ (g + 1) (5 * i + 3)) (σ (g + 1) (5 * i + 4)) (σ (cA (a + 7) q + 1)) (σ (cA (a + 141) q + 1))) else σ (a + 5) q)) ?_ (ih (j + 1) (by omega) (by omega) (by omega))
        first
          | (rw [if_pos (by omega), upS_upS, upS_same]
             refine congrArg (upS σ (a + 5)) (funext fun q => ?_)
             unfold up1
             try dsimp only
             by_cases e : q = j
             · subst e
               rw [if_pos rfl, if_pos (by omega), b01_t (by assumption)]
             · rw [if_neg e]
               by_cases q1 : 0 ≤ q ∧ q < j
               · rw [if_pos q1, if_pos (by omega)]
               · rw [if_neg q1, if_neg (by omega)])
          | (refine congrArg (upS σ (a + 5)) (funext fun q => ?_)
             try dsimp only
             by_cases e : q = j
             · subst e
               rw [if_neg (by omega), if_pos (by omega), b01_f (fun x => x (by assumption)), Int.add_zero]
             · by_cases q1 : 0 ≤ q ∧ q < j
               · rw [if_pos q1, if_pos (by omega)]
               · rw [if_neg q1, if_neg (by omega)])
theorem c_X9_hold {G : GT} {S : Shp} {σ : Sto} {a g : Nat} {i z : Int} (hA : IsTel S a) (hG : IsSig S g) (hi : 0 ≤ i ∧ i ≤ 29) (hw : sgWf (σ (g + 1)) i) (hz : σ a 8 = z) (hz1 : 0 ≤ z ∧ z ≤ 65) (hc1 : colsOk σ (a + 7) 65) (hc2 : colsOk σ (a + 141) 65) (hu : ∀ q, 0 ≤ q → q < z → 0 ≤ σ (a + 5) q ∧ σ (a + 5) q ≤ 1000) (hga : g + 1 < a ∨ a + 275 ≤ g) : PMet G mX9_hold 4 0 0 [.ref a, .ref g, .int (iI i)] S σ (isP none S (upS σ (a + 5) (fun q => if 0 ≤ q ∧ q < z then σ (a + 5) q + b01 (¬ metP (σ (g + 1) (5 * i)) (σ (g + 1) (5 * i + 2)) (σ (g + 1) (5 * i + 3)) (σ (g + 1) (5 * i + 4)) (σ (cA (a + 7) q + 1)) (σ (cA (a + 141) q + 1))) else σ (a + 5) q))) := by
  refine PMet.of [(0, .ref a), (1, .ref g), (2, .int (iI (i)))] (by decide +kernel) rfl (Nat.le_of_ble_eq_true rfl) ?_
  refine PW.iconst dX9_hold_0 ?_
  refine PW.istore_n [(0, _), (1, _), (2, _), (3, _)] dX9_hold_1 rfl (Nat.le_of_ble_eq_true rfl) ?_
  refine PW.st (upS σ (a + 5) (fun q => if 0 ≤ q ∧ q < 0 then σ (a + 5) q + b01 (¬ metP (σ (g + 1) (5 * i)) (σ (g + 1) (5 * i + 2)) (σ (g + 1) (5 * i + 3)) (σ (g + 1) (5 * i + 4)) (σ (cA (a + 7) q + 1)) (σ (cA (a + 141) q + 1))) else σ (a + 5) q)) (by
    rw [show (fun q => if 0 ≤ q ∧ q < 0 then σ (a + 5) q + b01 (¬ metP (σ (g + 1) (5 * i)) (σ (g + 1) (5 * i + 2)) (σ (g + 1) (5 * i + 3)) (σ (g + 1) (5 * i + 4)) (σ (cA (a + 7) q + 1)) (σ (cA (a + 141) q + 1))) else σ (a + 5) q) = σ (a + 5) from funext fun q => by rw [if_neg (by omega)], upS_self]) ?_
  exact hold_loop hA hG hi hw hz hz1 hc1 hc2 hu hga ⟨rfl, rfl, rfl⟩ 66 0 (by omega) (by omega) (by omega)

def drFr (σ τ : Sto) (a : Nat) : Prop := ∀ q, q ≠ a → (q < a + 3 ∨ a + 6 < q) → τ q = σ q
theorem drFr_up {σ τ : Sto} {a b : Nat} {f : Int → Int} (h : drFr σ τ a) (hb : b = a ∨ (a + 3 ≤ b ∧ b ≤ a + 6)) : drFr σ (upS τ b f) a := by
  intro q q1 q2
  rw [upS_ne (by omega)]
  exact h q q1 q2
/-- a drawing as far as step s -/
def drPre (lo hi : Int → Int) (bd : Int) (ht : Int → Int) (s : Int) : Prop :=
  (lo 0 ≤ ht 0 ∧ ht 0 ≤ hi 0) ∧ (lo 1 ≤ ht 1 ∧ ht 1 ≤ hi 1) ∧ bd = drW lo hi 1 (ht 0) (ht 1) ∧
  (∀ a b, lo 0 ≤ a → a ≤ hi 0 → lo 1 ≤ b → b ≤ hi 1 → bd ≤ drW lo hi 1 a b ∧ (bd = drW lo hi 1 a b → ht 0 < a ∨ (ht 0 = a ∧ ht 1 ≤ b))) ∧
  ∀ q, 1 ≤ q → q < s → (lo (q + 1) ≤ ht (q + 1) ∧ ht (q + 1) ≤ hi (q + 1)) ∧ drG lo hi q (ht (q - 1)) (ht q) (ht (q + 1)) = drW lo hi q (ht (q - 1)) (ht q) ∧ ∀ h, lo (q + 1) ≤ h → h < ht (q + 1) → drG lo hi q (ht (q - 1)) (ht q) h ≠ drW lo hi q (ht (q - 1)) (ht q)
theorem drPre.rng {lo hi : Int → Int} {bd : Int} {ht : Int → Int} {s : Int} (h : drPre lo hi bd ht s) {q : Int} (h0 : 0 ≤ q) (h1 : q ≤ 1 ∨ q ≤ s) : lo q ≤ ht q ∧ ht q ≤ hi q := by
  by_cases q0 : q = 0
  · rw [q0]; exact h.1
  · by_cases q1 : q = 1
    · rw [q1]; exact h.2.1
    · have := (h.2.2.2.2 (q - 1) (by omega) (by omega)).1
      rw [show q - 1 + 1 = q by omega] at this
      exact this
theorem drPre.step {lo hi : Int → Int} {bd : Int} {ht : Int → Int} {s v : Int} (hs : 1 ≤ s) (h : drPre lo hi bd ht s) (hv : (lo (s + 1) ≤ v ∧ v ≤ hi (s + 1)) ∧ drG lo hi s (ht (s - 1)) (ht s) v = drW lo hi s (ht (s - 1)) (ht s) ∧ ∀ h, lo (s + 1) ≤ h → h < v → drG lo hi s (ht (s - 1)) (ht s) h ≠ drW lo hi s (ht (s - 1)) (ht s)) : drPre lo hi bd (up1 ht (s + 1) v) (s + 1) := by
  obtain ⟨a0, a1, a2, a3, a4⟩ := h
  have e : ∀ q, q ≠ s + 1 → up1 ht (s + 1) v q = ht q := fun q hq => up1_ne hq
  unfold drPre
  rw [e 0 (by omega), e 1 (by omega)]
  refine ⟨a0, a1, a2, a3, fun q q0 q1 => ?_⟩
  rw [e q (by omega), e (q - 1) (by omega)]
  by_cases hq : q = s
  · subst hq
    rw [up1_same]
    exact hv
  · rw [e (q + 1) (by omega)]
    exact a4 q q0 (by omega)
theorem know_l2 {G : GT} {S : Shp} {σ : Sto} {a : Nat} {Q : Option Value → Shp → Sto → Prop} (hA : IsDr S a) (hk : bndOk (σ (a + 1)) (σ (a + 2))) (hQ : ∀ τ : Sto, drFr σ τ a → Drawn (σ (a + 1)) (σ (a + 2)) (τ a 6) (τ (a + 6)) → drOk τ a → Q none S τ) : ∀ (t : Nat) (i : Int) (τ : Sto), 1 ≤ i → i ≤ 7 → 7 - i < t → drFr σ τ a → restOk (τ (a + 5)) (σ (a + 1)) (σ (a + 2)) 1 → drPre (σ (a + 1)) (σ (a + 2)) (τ a 6) (τ (a + 6)) i → PW (fm G mX3_know 5 0 0 Q) G S (τ) 0 0 40 [(0, .ref a), (1, .int (iI (i)))] [] := by
  obtain ⟨hA0, hA1, hA2, hA3, hA4, hA5, hA6⟩ := id hA
  intro t
  induction t with
  | zero => intro i τ h1 h2 h3 g1 g2 g3; omega
  | succ t ih =>
    intro i τ h1 h2 h3 g1 g2 g3
    have e1 : τ (a + 1) = σ (a + 1) := g1 (a + 1) (by omega) (by omega)
    have e2 : τ (a + 2) = σ (a + 2) := g1 (a + 2) (by omega) (by omega)
    have hkt : bndOk (τ (a + 1)) (τ (a + 2)) := by rw [e1, e2]; exact hk
    refine PW.iload_n dX3_know_40 rfl ?_
    refine PW.bipush (by decide) dX3_know_41 ?_
    refine PW.icmp_ge 57 dX3_know_43 (by decide) (by first | assumption | (unfold inR; omega)) (by first | assumption | (unfold inR; omega)) (fun h43 => ?_) (fun h43 => ?_)
    · refine PW.aload_n dX3_know_57 rfl ?_
      refine PW.getR fl_X3_9 rfl (by assumption) rfl dX3_know_58 ?_
      refine PW.iconst dX3_know_61 ?_
      refine PW.aload_n dX3_know_62 rfl ?_
      refine PW.getR fl_X3_18 rfl (by assumption) rfl dX3_know_63 ?_
      refine PW.iconst dX3_know_66 ?_
      refine PW.bipush (by decide) dX3_know_67 ?_
      refine PW.callSv (c_X11_copy (by assumption) (by assumption) (by decide) (by decide) (by first | assumption | (unfold inR; omega)) (by first | assumption | (unfold inR; omega)) (by omega)) cs_X11_copy lk_X3_73 dX3_know_69 rfl rfl rfl ?_
      refine PW.st (upS τ (a + 3) (cpF (τ (a + 1)) (τ (a + 3)) 0 0 8)) (by rw [if_pos (by decide)]) ?_
      refine PW.aload_n dX3_know_72 rfl ?_
      refine PW.getR fl_X3_15 rfl (by assumption) rfl dX3_know_73 ?_
      refine PW.iconst dX3_know_76 ?_
      refine PW.aload_n dX3_know_77 rfl ?_
      refine PW.getR fl_X3_21 rfl (by assumption) rfl dX3_know_78 ?_
      refine PW.iconst dX3_know_81 ?_
      refine PW.bipush (by decide) dX3_know_82 ?_
      refine PW.callSv (c_X11_copy (by assumption) (by assumption) (by decide) (by decide) (by first | assumption | (unfold inR; omega)) (by first | assumption | (unfold inR; omega)) (by omega)) cs_X11_copy lk_X3_73 dX3_know_84 rfl rfl rfl ?_
      refine PW.st (upS (upS τ (a + 3) (cpF (τ (a + 1)) (τ (a + 3)) 0 0 8)) (a + 4) (cpF (τ (a + 2)) (τ (a + 4)) 0 0 8)) (by rw [if_pos (by decide)]; simp [upS]) ?_
      refine PW.aload_n dX3_know_87 rfl ?_
      refine PW.iconst dX3_know_88 ?_
      refine PW.putI 7 fl_X3_34 rfl (fun h => absurd h (by decide)) (by assumption) rfl rfl rfl rfl dX3_know_89 ?_
      have hi : i = 7 := by omega
      subst hi
      have c3 : ∀ s, 0 ≤ s → s < 8 → cpF (τ (a + 1)) (τ (a + 3)) 0 0 8 s = σ (a + 1) s := fun s s0 s1 => by
        unfold cpF
        rw [if_pos (by omega), e1]
        congr 1
        omega
      have c4 : ∀ s, 0 ≤ s → s < 8 → cpF (τ (a + 2)) (τ (a + 4)) 0 0 8 s = σ (a + 2) s := fun s s0 s1 => by
        unfold cpF
        rw [if_pos (by omega), e2]
        congr 1
        omega
      have hD : Drawn (σ (a + 1)) (σ (a + 2)) (τ a 6) (τ (a + 6)) := ⟨g3.1, g3.2.1, g3.2.2.1, g3.2.2.2.1, fun s s0 s1 => g3.2.2.2.2 s s0 (by omega)⟩
      refine PW.vret rfl dX3_know_92 (hQ _ (drFr_up (drFr_up (drFr_up g1 (by omega)) (by omega)) (by omega)) ?_ ?_)
      · simp [upS, up1]
        exact hD
      · unfold drOk
        simp [upS, up1]
        refine ⟨fun s s0 s1 => ?_, hD.congr (fun s s0 s1 => ⟨(c3 s s0 s1).symm, (c4 s s0 s1).symm⟩) (fun s _ _ => rfl)⟩
        rw [c3 s s0 s1, c4 s s0 s1]
        exact hk s s0 s1
    · refine PW.aload_n dX3_know_46 rfl ?_
      refine PW.iload_n dX3_know_47 rfl ?_
      refine PW.callVg (c_X3_goOn hA hkt (by rw [e1, e2]; exact g2) (by omega) (by rw [e1, e2]; exact g3.rng (by omega) (by omega)) (by rw [e1, e2]; exact g3.rng (by omega) (by omega))) cv_X3_goOn lk_X3_70 (by first | assumption | exact And.left (by assumption)) dX3_know_48 rfl rfl rfl rfl (fun r S' σ' hq => ?_)
      obtain ⟨rfl, rfl, v, rfl, hv⟩ := hq
      rw [e1, e2] at hv
      refine PW.iinc [(0, _), (1, _)] dX3_know_51 rfl rfl (Nat.le_of_ble_eq_true rfl) ?_
      refine PW.goto 40 dX3_know_54 (by decide) ?_
      refine ih (i + 1) (upS τ (a + 6) (up1 (τ (a + 6)) (i + 1) v)) (by omega) (by omega) (by omega) (drFr_up g1 (by omega)) ?_ ?_
      · rw [upS_ne (by omega)]
        exact g2
      · rw [upS_ne (by omega), upS_same]
        exact g3.step (by omega) hv
theorem know_l1 {G : GT} {S : Shp} {σ : Sto} {a : Nat} {Q : Option Value → Shp → Sto → Prop} (hA : IsDr S a) (hk : bndOk (σ (a + 1)) (σ (a + 2))) (hQ : ∀ τ : Sto, drFr σ τ a → Drawn (σ (a + 1)) (σ (a + 2)) (τ a 6) (τ (a + 6)) → drOk τ a → Q none S τ) : ∀ (t : Nat) (i : Int) (τ : Sto), 0 ≤ i → i ≤ 6 → i < t → drFr σ τ a → restOk (τ (a + 5)) (σ (a + 1)) (σ (a + 2)) (i + 1) → PW (fm G mX3_know 5 0 0 Q) G S (τ) 0 0 18 [(0, .ref a), (1, .int (iI (i)))] [] := by
  obtain ⟨hA0, hA1, hA2, hA3, hA4, hA5, hA6⟩ := id hA
  intro t
  induction t with
  | zero => intro i τ h1 h2 h3 g1 g2; omega
  | succ t ih =>
    intro i τ h1 h2 h3 g1 g2
    have e1 : τ (a + 1) = σ (a + 1) := g1 (a + 1) (by omega) (by omega)
    have e2 : τ (a + 2) = σ (a + 2) := g1 (a + 2) (by omega) (by omega)
    have hkt : bndOk (τ (a + 1)) (τ (a + 2)) := by rw [e1, e2]; exact hk
    refine PW.iload_n dX3_know_18 rfl ?_
    refine PW.iconst dX3_know_19 ?_
    refine PW.icmp_lt 34 dX3_know_20 (by decide) (by first | assumption | (unfold inR; omega)) (by first | assumption | (unfold inR; omega)) (fun h20 => ?_) (fun h20 => ?_)
    · refine PW.aload_n dX3_know_34 rfl ?_
      refine PW.callVg (c_X3_begin hA hkt (by rw [e1, e2, show (1 : Int) = i + 1 by omega]; exact g2)) cv_X3_begin lk_X3_67 (by first | assumption | exact And.left (by assumption)) dX3_know_35 rfl rfl rfl rfl (fun r S' σ' hq => ?_)
      obtain ⟨rfl, rfl, m, h, rfl, p1, p2, p3, p4⟩ := hq
      rw [e1, e2] at p1 p2 p3 p4
      refine PW.iconst dX3_know_38 ?_
      refine PW.istore_n [(0, _), (1, _)] dX3_know_39 rfl (Nat.le_of_ble_eq_true rfl) ?_
      refine know_l2 hA hk hQ 7 1 _ (by omega) (by omega) (by omega) (drFr_up (drFr_up g1 (by omega)) (by omega)) ?_ ?_
      · rw [upS_ne (by omega), upS_ne (by omega), show (1 : Int) = i + 1 by omega]
        exact g2
      · rw [upS_same, upS_ne (by omega), upS_same, up1_same]
        exact ⟨p1, p2, p3, p4, fun q q0 q1 => by omega⟩
    · refine PW.aload_n dX3_know_23 rfl ?_
      refine PW.iload_n dX3_know_24 rfl ?_
      refine PW.callVg (c_X3_weigh hA hkt (by omega) (by rw [e1, e2]; exact g2)) cv_X3_weigh lk_X3_63 (by first | assumption | exact And.left (by assumption)) dX3_know_25 rfl rfl rfl rfl (fun r S' σ' hq => ?_)
      obtain ⟨rfl, rfl, f, rfl, hf⟩ := hq
      rw [e1, e2] at hf
      refine PW.iinc [(0, _), (1, _)] dX3_know_28 rfl rfl (Nat.le_of_ble_eq_true rfl) ?_
      refine PW.goto 18 dX3_know_31 (by decide) ?_
      refine ih (i + -1) (upS τ (a + 5) f) (by omega) (by omega) (by omega) (drFr_up g1 (by omega)) ?_
      rw [upS_same, show i + -1 + 1 = i by omega]
      exact hf
theorem c_X3_know {G : GT} {S : Shp} {σ : Sto} {a : Nat} (hA : IsDr S a) (hk : bndOk (σ (a + 1)) (σ (a + 2))) (hd : drOk σ a) : PMet G mX3_know 5 0 0 [.ref a] S σ (fun r S' σ' => r = none ∧ S' = S ∧ drFr σ σ' a ∧ Drawn (σ (a + 1)) (σ (a + 2)) (σ' a 6) (σ' (a + 6)) ∧ drOk σ' a) := by
  obtain ⟨hA0, hA1, hA2, hA3, hA4, hA5, hA6⟩ := id hA
  have hd1 := hd.1
  refine PMet.of [(0, .ref a)] (by decide +kernel) rfl (Nat.le_of_ble_eq_true rfl) ?_
  refine PW.aload_n dX3_know_0 rfl ?_
  refine PW.getI 7 fl_X3_34 rfl (by assumption) rfl rfl dX3_know_1 ?_
  refine PW.if_eq 15 dX3_know_4 (by decide) (by first | assumption | (unfold inR; omega)) (fun h4 => ?_) (fun h4 => ?_)
  · refine PW.bipush (by decide) dX3_know_15 ?_
    refine PW.istore_n [(0, _), (1, _)] dX3_know_17 rfl (Nat.le_of_ble_eq_true rfl) ?_
    exact know_l1 hA hk (fun τ p1 p2 p3 => ⟨rfl, rfl, p1, p2, p3⟩) 7 6 σ (by omega) (by omega) (by omega) (fun _ _ _ => rfl) (fun q b c q1 q2 => by omega)
  · obtain ⟨hd2, hd3⟩ := hd.2 (by omega)
    refine PW.aload_n dX3_know_7 rfl ?_
    refine PW.callVr (c_X3_isAsDrawn (by assumption) (by assumption) (by assumption)) cv_X3_isAsDrawn lk_X3_59 (by first | assumption | exact And.left (by assumption)) dX3_know_8 rfl rfl rfl rfl ?_
    refine PW.if_eqB 15 dX3_know_11 (by decide) (fun h11 => ?_) (fun h11 => ?_)
    · refine PW.bipush (by decide) dX3_know_15 ?_
      refine PW.istore_n [(0, _), (1, _)] dX3_know_17 rfl (Nat.le_of_ble_eq_true rfl) ?_
      exact know_l1 hA hk (fun τ p1 p2 p3 => ⟨rfl, rfl, p1, p2, p3⟩) 7 6 σ (by omega) (by omega) (by omega) (fun _ _ _ => rfl) (fun q b c q1 q2 => by omega)
    · have hs := (firI_spec (P := asdB (σ (a + 1)) (σ (a + 2)) (σ (a + 3)) (σ (a + 4))) (n := 8)).1 (by assumption)
      have hs2 : ∀ s, 0 ≤ s → s < 8 → σ (a + 3) s = σ (a + 1) s ∧ σ (a + 4) s = σ (a + 2) s := fun s s0 s1 => by
        have := of_decide_eq_false (hs s s0 s1)
        omega
      exact PW.vret rfl dX3_know_14 ⟨rfl, rfl, fun _ _ _ => rfl, hd3.congr hs2 (fun _ _ _ => rfl), hd⟩
/-- a sight that bounds the top of a bed at a step of a line -/
abbrev mtB (f : Int → Int) (bed ax line s i : Int) : Prop := f (5 * i) = 2 ∧ f (5 * i + 2) = bed ∧ f (5 * i + 1) = (if ax = 0 then 8 * line + s else 8 * s + line)
def bdL (f : Int → Int) (bed ax line s : Int) : Nat → Int
  | 0 => -20
  | k + 1 => if mtB f bed ax line s (k : Int) then max (f (5 * (k : Int) + 3)) (bdL f bed ax line s k) else bdL f bed ax line s k
def bdH (f : Int → Int) (bed ax line s : Int) : Nat → Int
  | 0 => 20
  | k + 1 => if mtB f bed ax line s (k : Int) then min (f (5 * (k : Int) + 4)) (bdH f bed ax line s k) else bdH f bed ax line s k
theorem bdL_s (f : Int → Int) (bed ax line s : Int) {i : Int} (h : 0 ≤ i) : bdL f bed ax line s (i + 1).toNat = if mtB f bed ax line s i then max (f (5 * i + 3)) (bdL f bed ax line s i.toNat) else bdL f bed ax line s i.toNat := by
  rw [show (i + 1).toNat = i.toNat + 1 by omega]
  simp only [bdL]
  rw [show ((i.toNat : Nat) : Int) = i by omega]
theorem bdH_s (f : Int → Int) (bed ax line s : Int) {i : Int} (h : 0 ≤ i) : bdH f bed ax line s (i + 1).toNat = if mtB f bed ax line s i then min (f (5 * i + 4)) (bdH f bed ax line s i.toNat) else bdH f bed ax line s i.toNat := by
  rw [show (i + 1).toNat = i.toNat + 1 by omega]
  simp only [bdH]
  rw [show ((i.toNat : Nat) : Int) = i by omega]
theorem bd_b {f : Int → Int} {bed ax line s : Int} : ∀ {k : Nat}, (∀ i : Int, 0 ≤ i → i < k → sgWf f i) → (-20 ≤ bdL f bed ax line s k ∧ bdL f bed ax line s k ≤ 39) ∧ (-40 ≤ bdH f bed ax line s k ∧ bdH f bed ax line s k ≤ 20)
  | 0, _ => by simp [bdL, bdH]
  | k + 1, h => by
    have ih := bd_b (bed := bed) (ax := ax) (line := line) (s := s) (k := k) (fun i h0 h1 => h i h0 (by omega))
    have hw := h k (by omega) (by omega)
    simp only [bdL, bdH]
    by_cases hm : mtB f bed ax line s (k : Int)
    · rw [if_pos hm, if_pos hm]
      have := hw.2.2.2.2.2.2.2.1 hm.1
      omega
    · rw [if_neg hm, if_neg hm]
      exact ih
theorem nar_st (σ : Sto) (b : Nat) (lo hi f g : Int → Int) : upS (upS (upS (upS σ (b + 1) lo) (b + 2) hi) (b + 1) f) (b + 2) g = upS (upS σ (b + 1) f) (b + 2) g := by
  funext q
  unfold upS
  try dsimp only
  by_cases q1 : q = b + 2
  · rw [if_pos q1, if_pos q1]
  · rw [if_neg q1, if_neg q1]
    by_cases q2 : q = b + 1
    · rw [if_pos q2]
      first | rw [if_neg q1, if_pos q2] | rw [if_pos q2]
    · simp [q1, q2]
theorem nar_loop {G : GT} {S : Shp} {σ : Sto} {a b : Nat} {bed ax line n : Int} {Q : Option Value → Shp → Sto → Prop} (hA : IsSig S a) (hD : IsDr S b) (hs : sgsOk σ a) (hn : 0 ≤ n ∧ n ≤ σ a 1) (hbd : 0 ≤ bed ∧ bed ≤ 15) (hax : ax = 0 ∨ ax = 1) (hli : 0 ≤ line ∧ line ≤ 7) (hab : a + 1 < b ∨ b + 6 < a) (hQ : ∀ lo hi : Int → Int, (∀ s, 0 ≤ s → s < 8 → lo s = bdL (σ (a + 1)) bed ax line s n.toNat ∧ hi s = bdH (σ (a + 1)) bed ax line s n.toNat) → Q none S (upS (upS σ (b + 1) lo) (b + 2) hi)) : ∀ (t : Nat) (i : Int) (lo : Int → Int) (hi : Int → Int), 0 ≤ i → i ≤ n → n - i < t → (∀ s, 0 ≤ s → s < 8 → lo s = bdL (σ (a + 1)) bed ax line s i.toNat ∧ hi s = bdH (σ (a + 1)) bed ax line s i.toNat) → PW (fm G mX7_narrow 3 0 0 Q) G S (upS (upS σ (b + 1) lo) (b + 2) hi) 0 0 8 [(0, .ref a), (1, .ref b), (2, .int (iI (bed))), (3, .int (iI (ax))), (4, .int (iI (line))), (5, .int (iI (n))), (6, .int (iI (i)))] [] := by
  obtain ⟨hA0, hA1⟩ := id hA
  obtain ⟨hD0, hD1, hD2, hD3, hD4, hD5, hD6⟩ := id hD
  have hs1 := hs.1
  intro t
  induction t with
  | zero => intro i lo hi h1 h2 h3 g1; omega
  | succ t ih =>
    intro i lo hi h1 h2 h3 g1
    have e1 : (upS (upS σ (b + 1) lo) (b + 2) hi) (a + 1) = σ (a + 1) := by rw [upS_ne (by omega), upS_ne (by omega)]
    have d1 : (upS (upS σ (b + 1) lo) (b + 2) hi) (b + 1) = lo := by rw [upS_ne (by omega), upS_same]
    have d2 : (upS (upS σ (b + 1) lo) (b + 2) hi) (b + 2) = hi := upS_same _ _ _
    refine PW.iload dX7_narrow_8 rfl ?_
    refine PW.iload dX7_narrow_10 rfl ?_
    refine PW.icmp_ge 105 dX7_narrow_12 (by decide) (by first | assumption | (unfold inR; omega)) (by first | assumption | (unfold inR; omega)) (fun h12 => ?_) (fun h12 => ?_)
    · have hi2 : i = n := by omega
      subst hi2
      exact PW.vret rfl dX7_narrow_105 (hQ lo hi g1)
    · have hw := hs.2 i h1 (by omega)
      have hcl := hw.1
      have hk := hw.2.2.1
      have hb := hw.2.2.2.2.2.1
      refine PW.aload_n dX7_narrow_15 rfl ?_
      refine PW.iload dX7_narrow_16 rfl ?_
      refine PW.callVr (c_X7_kind (by assumption) (by omega)) cv_X7_kind lk_X7_54 (by first | assumption | exact And.left (by assumption)) dX7_narrow_18 rfl rfl rfl rfl ?_
      refine PW.top (σ (a + 1) (5 * i)) (by rw [e1]) ?_
      refine PW.iconst dX7_narrow_21 ?_
      refine PW.icmp_ne 99 dX7_narrow_22 (by decide) (by first | assumption | (unfold inR; omega)) (by first | assumption | (unfold inR; omega)) (fun h22 => ?_) (fun h22 => ?_)
      · first
          | (refine PW.take 7 ?_
             refine PW.iinc [(0, _), (1, _), (2, _), (3, _), (4, _), (5, _), (6, _)] dX7_narrow_99 rfl rfl (Nat.le_of_ble_eq_true rfl) ?_
             refine PW.goto 8 dX7_narrow_102 (by decide) ?_
             rw [d1, d2]
             refine PW.st (upS (upS σ (b + 1) (up1 lo (soF ax (σ (a + 1) (5 * i + 1) % 8) (σ (a + 1) (5 * i + 1) / 8)) (max (σ (a + 1) (5 * i + 3)) (lo (soF ax (σ (a + 1) (5 * i + 1) % 8) (σ (a + 1) (5 * i + 1) / 8)))))) (b + 2) (up1 hi (soF ax (σ (a + 1) (5 * i + 1) % 8) (σ (a + 1) (5 * i + 1) / 8)) (min (σ (a + 1) (5 * i + 4)) (hi (soF ax (σ (a + 1) (5 * i + 1) % 8) (σ (a + 1) (5 * i + 1) / 8)))))) (nar_st _ _ _ _ _ _) ?_
             refine ih (i + 1) _ _ (by omega) (by omega) (by omega) ?_
             intro s s0 s1
             rw [bdL_s _ _ _ _ _ h1, bdH_s _ _ _ _ _ h1]
             have gs := g1 s s0 s1
             by_cases hq : s = soF ax (σ (a + 1) (5 * i + 1) % 8) (σ (a + 1) (5 * i + 1) / 8)
             · have hm : mtB (σ (a + 1)) bed ax line s i := ⟨by omega, by omega, by rw [hq]; unfold soF at *; rcases hax with rfl | rfl <;> simp at * <;> omega⟩
               rw [if_pos hm, if_pos hm, hq, up1_same, up1_same, ← hq]
               omega
             · have hm : ¬ mtB (σ (a + 1)) bed ax line s i := fun hm => hq (by have hm2 := hm.2.2; unfold soF at *; rcases hax with rfl | rfl <;> simp at * <;> omega)
               rw [if_neg hm, if_neg hm, up1_ne hq, up1_ne hq]
               exact gs)
          | (refine PW.take 7 ?_
             refine PW.iinc [(0, _), (1, _), (2, _), (3, _), (4, _), (5, _), (6, _)] dX7_narrow_99 rfl rfl (Nat.le_of_ble_eq_true rfl) ?_
             refine PW.goto 8 dX7_narrow_102 (by decide) ?_
             refine ih (i + 1) lo hi (by omega) (by omega) (by omega) ?_
             intro s s0 s1
             rw [bdL_s _ _ _ _ _ h1, bdH_s _ _ _ _ _ h1]
             have gs := g1 s s0 s1
             rw [if_neg (fun hm => by have hm2 := hm.2.2; unfold soF at *; rcases hax with rfl | rfl <;> simp at * <;> omega), if_neg (fun hm => by have hm2 := hm.2.2; unfold soF at *; rcases hax with rfl | rfl <;> simp at * <;> omega)]
             exact gs)
          | (refine PW.take 7 ?_
             refine PW.iinc [(0, _), (1, _), (2, _), (3, _), (4, _), (5, _), (6, _)] dX7_narrow_99 rfl rfl (Nat.le_of_ble_eq_true rfl) ?_
             refine PW.goto 8 dX7_narrow_102 (by decide) ?_
             refine ih (i + 1) lo hi (by omega) (by omega) (by omega) ?_
             intro s s0 s1
             rw [bdL_s _ _ _ _ _ h1, bdH_s _ _ _ _ _ h1]
             have gs := g1 s s0 s1
             rw [if_neg (fun hm => by have hm2 := hm.1; have hm3 := hm.2.1; omega), if_neg (fun hm => by have hm2 := hm.1; have hm3 := hm.2.1; omega)]
             exact gs)
      · refine PW.aload_n dX7_narrow_25 rfl ?_
        refine PW.iload dX7_narrow_26 rfl ?_
        refine PW.callVr (c_X7_bed (by assumption) (by omega)) cv_X7_bed lk_X7_67 (by first | assumption | exact And.left (by assumption)) dX7_narrow_28 rfl rfl rfl rfl ?_
        refine PW.top (σ (a + 1) (5 * i + 2)) (by rw [e1]) ?_
        refine PW.iload_n dX7_narrow_31 rfl ?_
        refine PW.icmp_eq 38 dX7_narrow_32 (by decide) (by first | assumption | (unfold inR; omega)) (by first | assumption | (unfold inR; omega)) (fun h32 => ?_) (fun h32 => ?_)
        · refine PW.aload_n dX7_narrow_38 rfl ?_
          refine PW.iload dX7_narrow_39 rfl ?_
          refine PW.callVr (c_X7_column (by assumption) (by omega)) cv_X7_column lk_X7_61 (by first | assumption | exact And.left (by assumption)) dX7_narrow_41 rfl rfl rfl rfl ?_
          refine PW.top (σ (a + 1) (5 * i + 1)) (by rw [e1]) ?_
          refine PW.callSr (c_X11_columnX (by first | assumption | (unfold inR; omega)) (by omega)) cs_X11_columnX lk_X7_107 dX7_narrow_44 rfl rfl rfl ?_
          refine PW.istore [(0, _), (1, _), (2, _), (3, _), (4, _), (5, _), (6, _), (7, _)] dX7_narrow_47 rfl (Nat.le_of_ble_eq_true rfl) ?_
          refine PW.aload_n dX7_narrow_49 rfl ?_
          refine PW.iload dX7_narrow_50 rfl ?_
          refine PW.callVr (c_X7_column (by assumption) (by omega)) cv_X7_column lk_X7_61 (by first | assumption | exact And.left (by assumption)) dX7_narrow_52 rfl rfl rfl rfl ?_
          refine PW.top (σ (a + 1) (5 * i + 1)) (by rw [e1]) ?_
          refine PW.callSr (c_X11_columnY (by first | assumption | (unfold inR; omega)) (by omega)) cs_X11_columnY lk_X7_110 dX7_narrow_55 rfl rfl rfl ?_
          refine PW.istore [(0, _), (1, _), (2, _), (3, _), (4, _), (5, _), (6, _), (7, _), (8, _)] dX7_narrow_58 rfl (Nat.le_of_ble_eq_true rfl) ?_
          refine PW.iconst dX7_narrow_60 ?_
          refine PW.iload_n dX7_narrow_61 rfl ?_
          refine PW.isub dX7_narrow_62 ?_
          refine PW.iload dX7_narrow_63 rfl ?_
          refine PW.iload dX7_narrow_65 rfl ?_
          refine PW.callSr (c_X1_stepOf (by unfold inR; omega)) cs_X1_stepOf lk_X7_32 dX7_narrow_67 rfl rfl rfl ?_
          have sb := soF_b (ax := 1 - ax) (n := σ (a + 1) (5 * i + 1)) hcl
          have sb2 := soF_b (ax := ax) (n := σ (a + 1) (5 * i + 1)) hcl
          refine PW.iload dX7_narrow_70 rfl ?_
          refine PW.icmp_ne 99 dX7_narrow_72 (by decide) (by first | assumption | (unfold inR; omega)) (by first | assumption | (unfold inR; omega)) (fun h72 => ?_) (fun h72 => ?_)
          · first
              | (refine PW.take 7 ?_
                 refine PW.iinc [(0, _), (1, _), (2, _), (3, _), (4, _), (5, _), (6, _)] dX7_narrow_99 rfl rfl (Nat.le_of_ble_eq_true rfl) ?_
                 refine PW.goto 8 dX7_narrow_102 (by decide) ?_
                 rw [d1, d2]
                 refine PW.st (upS (upS σ (b + 1) (up1 lo (soF ax (σ (a + 1) (5 * i + 1) % 8) (σ (a + 1) (5 * i + 1) / 8)) (max (σ (a + 1) (5 * i + 3)) (lo (soF ax (σ (a + 1) (5 * i + 1) % 8) (σ (a + 1) (5 * i + 1) / 8)))))) (b + 2) (up1 hi (soF ax (σ (a + 1) (5 * i + 1) % 8) (σ (a + 1) (5 * i + 1) / 8)) (min (σ (a + 1) (5 * i + 4)) (hi (soF ax (σ (a + 1) (5 * i + 1) % 8) (σ (a + 1) (5 * i + 1) / 8)))))) (nar_st _ _ _ _ _ _) ?_
                 refine ih (i + 1) _ _ (by omega) (by omega) (by omega) ?_
                 intro s s0 s1
                 rw [bdL_s _ _ _ _ _ h1, bdH_s _ _ _ _ _ h1]
                 have gs := g1 s s0 s1
                 by_cases hq : s = soF ax (σ (a + 1) (5 * i + 1) % 8) (σ (a + 1) (5 * i + 1) / 8)
                 · have hm : mtB (σ (a + 1)) bed ax line s i := ⟨by omega, by omega, by rw [hq]; unfold soF at *; rcases hax with rfl | rfl <;> simp at * <;> omega⟩
                   rw [if_pos hm, if_pos hm, hq, up1_same, up1_same, ← hq]
                   omega
                 · have hm : ¬ mtB (σ (a + 1)) bed ax line s i := fun hm => hq (by have hm2 := hm.2.2; unfold soF at *; rcases hax with rfl | rfl <;> simp at * <;> omega)
                   rw [if_neg hm, if_neg hm, up1_ne hq, up1_ne hq]
                   exact gs)
              | (refine PW.take 7 ?_
                 refine PW.iinc [(0, _), (1, _), (2, _), (3, _), (4, _), (5, _), (6, _)] dX7_narrow_99 rfl rfl (Nat.le_of_ble_eq_true rfl) ?_
                 refine PW.goto 8 dX7_narrow_102 (by decide) ?_
                 refine ih (i + 1) lo hi (by omega) (by omega) (by omega) ?_
                 intro s s0 s1
                 rw [bdL_s _ _ _ _ _ h1, bdH_s _ _ _ _ _ h1]
                 have gs := g1 s s0 s1
                 rw [if_neg (fun hm => by have hm2 := hm.2.2; unfold soF at *; rcases hax with rfl | rfl <;> simp at * <;> omega), if_neg (fun hm => by have hm2 := hm.2.2; unfold soF at *; rcases hax with rfl | rfl <;> simp at * <;> omega)]
                 exact gs)
              | (refine PW.take 7 ?_
                 refine PW.iinc [(0, _), (1, _), (2, _), (3, _), (4, _), (5, _), (6, _)] dX7_narrow_99 rfl rfl (Nat.le_of_ble_eq_true rfl) ?_
                 refine PW.goto 8 dX7_narrow_102 (by decide) ?_
                 refine ih (i + 1) lo hi (by omega) (by omega) (by omega) ?_
                 intro s s0 s1
                 rw [bdL_s _ _ _ _ _ h1, bdH_s _ _ _ _ _ h1]
                 have gs := g1 s s0 s1
                 rw [if_neg (fun hm => by have hm2 := hm.1; have hm3 := hm.2.1; omega), if_neg (fun hm => by have hm2 := hm.1; have hm3 := hm.2.1; omega)]
                 exact gs)
          · refine PW.aload_n dX7_narrow_75 rfl ?_
            refine PW.iload_n dX7_narrow_76 rfl ?_
            refine PW.iload dX7_narrow_77 rfl ?_
            refine PW.iload dX7_narrow_79 rfl ?_
            refine PW.callSr (c_X1_stepOf (by first | assumption | (unfold inR; omega))) cs_X1_stepOf lk_X7_32 dX7_narrow_81 rfl rfl rfl ?_
            refine PW.aload_n dX7_narrow_84 rfl ?_
            refine PW.iload dX7_narrow_85 rfl ?_
            refine PW.callVr (c_X7_p (by assumption) (by omega)) cv_X7_p lk_X7_64 (by first | assumption | exact And.left (by assumption)) dX7_narrow_87 rfl rfl rfl rfl ?_
            refine PW.top (σ (a + 1) (5 * i + 3)) (by rw [e1]) ?_
            refine PW.aload_n dX7_narrow_90 rfl ?_
            refine PW.iload dX7_narrow_91 rfl ?_
            refine PW.callVr (c_X7_q (by assumption) (by omega)) cv_X7_q lk_X7_70 (by first | assumption | exact And.left (by assumption)) dX7_narrow_93 rfl rfl rfl rfl ?_
            refine PW.top (σ (a + 1) (5 * i + 4)) (by rw [e1]) ?_
            have hrow := hw.2.2.2.2.2.2.2.1 (by assumption)
            have gx := g1 (soF ax (σ (a + 1) (5 * i + 1) % 8) (σ (a + 1) (5 * i + 1) / 8)) (by omega) (by omega)
            have bb := bd_b (f := σ (a + 1)) (bed := bed) (ax := ax) (line := line) (s := soF ax (σ (a + 1) (5 * i + 1) % 8) (σ (a + 1) (5 * i + 1) / 8)) (k := i.toNat) (fun j q1 q2 => hs.2 j q1 (by omega))
            refine PW.callVv (c_X3_narrow hD (by omega) (by rw [d1]; omega) (by rw [d2]; omega) (by unfold inR; omega) (by unfold inR; omega)) cv_X3_narrow lk_X7_113 (by first | assumption | exact And.left (by assumption)) dX7_narrow_96 rfl rfl rfl rfl ?_
            first
              | (refine PW.take 7 ?_
                 refine PW.iinc [(0, _), (1, _), (2, _), (3, _), (4, _), (5, _), (6, _)] dX7_narrow_99 rfl rfl (Nat.le_of_ble_eq_true rfl) ?_
                 refine PW.goto 8 dX7_narrow_102 (by decide) ?_
                 rw [d1, d2]
                 refine PW.st (upS (upS σ (b + 1) (up1 lo (soF ax (σ (a + 1) (5 * i + 1) % 8) (σ (a + 1) (5 * i + 1) / 8)) (max (σ (a + 1) (5 * i + 3)) (lo (soF ax (σ (a + 1) (5 * i + 1) % 8) (σ (a + 1) (5 * i + 1) / 8)))))) (b + 2) (up1 hi (soF ax (σ (a + 1) (5 * i + 1) % 8) (σ (a + 1) (5 * i + 1) / 8)) (min (σ (a + 1) (5 * i + 4)) (hi (soF ax (σ (a + 1) (5 * i + 1) % 8) (σ (a + 1) (5 * i + 1) / 8)))))) (nar_st _ _ _ _ _ _) ?_
                 refine ih (i + 1) _ _ (by omega) (by omega) (by omega) ?_
                 intro s s0 s1
                 rw [bdL_s _ _ _ _ _ h1, bdH_s _ _ _ _ _ h1]
                 have gs := g1 s s0 s1
                 by_cases hq : s = soF ax (σ (a + 1) (5 * i + 1) % 8) (σ (a + 1) (5 * i + 1) / 8)
                 · have hm : mtB (σ (a + 1)) bed ax line s i := ⟨by omega, by omega, by rw [hq]; unfold soF at *; rcases hax with rfl | rfl <;> simp at * <;> omega⟩
                   rw [if_pos hm, if_pos hm, hq, up1_same, up1_same, ← hq]
                   omega
                 · have hm : ¬ mtB (σ (a + 1)) bed ax line s i := fun hm => hq (by have hm2 := hm.2.2; unfold soF at *; rcases hax with rfl | rfl <;> simp at * <;> omega)
                   rw [if_neg hm, if_neg hm, up1_ne hq, up1_ne hq]
                   exact gs)
              | (refine PW.take 7 ?_
                 refine PW.iinc [(0, _), (1, _), (2, _), (3, _), (4, _), (5, _), (6, _)] dX7_narrow_99 rfl rfl (Nat.le_of_ble_eq_true rfl) ?_
                 refine PW.goto 8 dX7_narrow_102 (by decide) ?_
                 refine ih (i + 1) lo hi (by omega) (by omega) (by omega) ?_
                 intro s s0 s1
                 rw [bdL_s _ _ _ _ _ h1, bdH_s _ _ _ _ _ h1]
                 have gs := g1 s s0 s1
                 rw [if_neg (fun hm => by have hm2 := hm.2.2; unfold soF at *; rcases hax with rfl | rfl <;> simp at * <;> omega), if_neg (fun hm => by have hm2 := hm.2.2; unfold soF at *; rcases hax with rfl | rfl <;> simp at * <;> omega)]
                 exact gs)
              | (refine PW.take 7 ?_
                 refine PW.iinc [(0, _), (1, _), (2, _), (3, _), (4, _), (5, _), (6, _)] dX7_narrow_99 rfl rfl (Nat.le_of_ble_eq_true rfl) ?_
                 refine PW.goto 8 dX7_narrow_102 (by decide) ?_
                 refine ih (i + 1) lo hi (by omega) (by omega) (by omega) ?_
                 intro s s0 s1
                 rw [bdL_s _ _ _ _ _ h1, bdH_s _ _ _ _ _ h1]
                 have gs := g1 s s0 s1
                 rw [if_neg (fun hm => by have hm2 := hm.1; have hm3 := hm.2.1; omega), if_neg (fun hm => by have hm2 := hm.1; have hm3 := hm.2.1; omega)]
                 exact gs)
        · refine PW.goto 99 dX7_narrow_35 (by decide) ?_
          first
            | (refine PW.take 7 ?_
               refine PW.iinc [(0, _), (1, _), (2, _), (3, _), (4, _), (5, _), (6, _)] dX7_narrow_99 rfl rfl (Nat.le_of_ble_eq_true rfl) ?_
               refine PW.goto 8 dX7_narrow_102 (by decide) ?_
               rw [d1, d2]
               refine PW.st (upS (upS σ (b + 1) (up1 lo (soF ax (σ (a + 1) (5 * i + 1) % 8) (σ (a + 1) (5 * i + 1) / 8)) (max (σ (a + 1) (5 * i + 3)) (lo (soF ax (σ (a + 1) (5 * i + 1) % 8) (σ (a + 1) (5 * i + 1) / 8)))))) (b + 2) (up1 hi (soF ax (σ (a + 1) (5 * i + 1) % 8) (σ (a + 1) (5 * i + 1) / 8)) (min (σ (a + 1) (5 * i + 4)) (hi (soF ax (σ (a + 1) (5 * i + 1) % 8) (σ (a + 1) (5 * i + 1) / 8)))))) (nar_st _ _ _ _ _ _) ?_
               refine ih (i + 1) _ _ (by omega) (by omega) (by omega) ?_
               intro s s0 s1
               rw [bdL_s _ _ _ _ _ h1, bdH_s _ _ _ _ _ h1]
               have gs := g1 s s0 s1
               by_cases hq : s = soF ax (σ (a + 1) (5 * i + 1) % 8) (σ (a + 1) (5 * i + 1) / 8)
               · have hm : mtB (σ (a + 1)) bed ax line s i := ⟨by omega, by omega, by rw [hq]; unfold soF at *; rcases hax with rfl | rfl <;> simp at * <;> omega⟩
                 rw [if_pos hm, if_pos hm, hq, up1_same, up1_same, ← hq]
                 omega
               · have hm : ¬ mtB (σ (a + 1)) bed ax line s i := fun hm => hq (by have hm2 := hm.2.2; unfold soF at *; rcases hax with rfl | rfl <;> simp at * <;> omega)
                 rw [if_neg hm, if_neg hm, up1_ne hq, up1_ne hq]
                 exact gs)
            | (refine PW.take 7 ?_
               refine PW.iinc [(0, _), (1, _), (2, _), (3, _), (4, _), (5, _), (6, _)] dX7_narrow_99 rfl rfl (Nat.le_of_ble_eq_true rfl) ?_
               refine PW.goto 8 dX7_narrow_102 (by decide) ?_
               refine ih (i + 1) lo hi (by omega) (by omega) (by omega) ?_
               intro s s0 s1
               rw [bdL_s _ _ _ _ _ h1, bdH_s _ _ _ _ _ h1]
               have gs := g1 s s0 s1
               rw [if_neg (fun hm => by have hm2 := hm.2.2; unfold soF at *; rcases hax with rfl | rfl <;> simp at * <;> omega), if_neg (fun hm => by have hm2 := hm.2.2; unfold soF at *; rcases hax with rfl | rfl <;> simp at * <;> omega)]
               exact gs)
            | (refine PW.take 7 ?_
               refine PW.iinc [(0, _), (1, _), (2, _), (3, _), (4, _), (5, _), (6, _)] dX7_narrow_99 rfl rfl (Nat.le_of_ble_eq_true rfl) ?_
               refine PW.goto 8 dX7_narrow_102 (by decide) ?_
               refine ih (i + 1) lo hi (by omega) (by omega) (by omega) ?_
               intro s s0 s1
               rw [bdL_s _ _ _ _ _ h1, bdH_s _ _ _ _ _ h1]
               have gs := g1 s s0 s1
               rw [if_neg (fun hm => by have hm2 := hm.1; have hm3 := hm.2.1; omega), if_neg (fun hm => by have hm2 := hm.1; have hm3 := hm.2.1; omega)]
               exact gs)
theorem c_X7_narrow {G : GT} {S : Shp} {σ : Sto} {a b : Nat} {bed ax line n : Int} (hA : IsSig S a) (hD : IsDr S b) (hs : sgsOk σ a) (hn : 0 ≤ n ∧ n ≤ σ a 1) (hbd : 0 ≤ bed ∧ bed ≤ 15) (hax : ax = 0 ∨ ax = 1) (hli : 0 ≤ line ∧ line ≤ 7) (hab : a + 1 < b ∨ b + 6 < a) (hz : ∀ s, 0 ≤ s → s < 8 → σ (b + 1) s = -20 ∧ σ (b + 2) s = 20) : PMet G mX7_narrow 3 0 0 [.ref a, .ref b, .int (iI bed), .int (iI ax), .int (iI line), .int (iI n)] S σ (fun r S' σ' => r = none ∧ S' = S ∧ ∃ lo hi : Int → Int, σ' = upS (upS σ (b + 1) lo) (b + 2) hi ∧ ∀ s, 0 ≤ s → s < 8 → lo s = bdL (σ (a + 1)) bed ax line s n.toNat ∧ hi s = bdH (σ (a + 1)) bed ax line s n.toNat) := by
  refine PMet.of [(0, .ref a), (1, .ref b), (2, .int (iI (bed))), (3, .int (iI (ax))), (4, .int (iI (line))), (5, .int (iI (n)))] (by decide +kernel) rfl (Nat.le_of_ble_eq_true rfl) ?_
  refine PW.aload_n dX7_narrow_0 rfl ?_
  refine PW.ifnonnull 5 dX7_narrow_1 (by decide) ?_
  refine PW.iconst dX7_narrow_5 ?_
  refine PW.istore [(0, _), (1, _), (2, _), (3, _), (4, _), (5, _), (6, _)] dX7_narrow_6 rfl (Nat.le_of_ble_eq_true rfl) ?_
  refine PW.st (upS (upS σ (b + 1) (σ (b + 1))) (b + 2) (σ (b + 2))) (by rw [upS_self, upS_self]) ?_
  exact nar_loop hA hD hs hn hbd hax hli hab (fun lo hi h => ⟨rfl, rfl, lo, hi, rfl, h⟩) 31 0 _ _ (by omega) (by omega) (by have := hs.1; omega) hz

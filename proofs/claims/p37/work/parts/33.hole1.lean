def IsHole (S : Shp) (a : Nat) : Prop := At S a (sO 5 [fR (a + 1), fR (a + 2), fI, fI, fI, fI, fI]) ∧ At S (a + 1) (sA 0 65) ∧ At S (a + 2) (sA 0 65)
def mxI (g : Int → Int) : Nat → Int
  | 0 => 0
  | k + 1 => max (mxI g k) (g (k : Int))
theorem mxI_s (g : Int → Int) {i : Int} (h : 0 ≤ i) : mxI g (i + 1).toNat = max (mxI g i.toNat) (g i) := by
  rw [show (i + 1).toNat = i.toNat + 1 by omega]
  simp only [mxI]
  rw [show ((i.toNat : Nat) : Int) = i by omega]
theorem mxI_spec (g : Int → Int) : ∀ k : Nat, 0 ≤ mxI g k ∧ (∀ i : Int, 0 ≤ i → i < k → g i ≤ mxI g k) ∧ (mxI g k = 0 ∨ ∃ i : Int, 0 ≤ i ∧ i < k ∧ mxI g k = g i)
  | 0 => ⟨Int.le_refl _, fun i h0 h1 => by omega, Or.inl rfl⟩
  | k + 1 => by
    obtain ⟨h1, h2, h3⟩ := mxI_spec g k
    simp only [mxI]
    refine ⟨by omega, fun i i0 i1 => ?_, ?_⟩
    · by_cases e : i = k
      · rw [e]; omega
      · have := h2 i i0 (by omega)
        omega
    · by_cases e : g k ≤ mxI g k
      · rw [Int.max_eq_left e]
        rcases h3 with h3 | ⟨i, i0, i1, i2⟩
        · exact Or.inl h3
        · exact Or.inr ⟨i, i0, by omega, i2⟩
      · rw [Int.max_eq_right (by omega)]
        exact Or.inr ⟨k, by omega, by omega, rfl⟩
theorem mxI_congr {g g' : Int → Int} : ∀ {k : Nat}, (∀ i : Int, 0 ≤ i → i < k → g i = g' i) → mxI g k = mxI g' k
  | 0, _ => rfl
  | k + 1, h => by
    simp only [mxI]
    rw [mxI_congr (k := k) (fun i h0 h1 => h i h0 (by omega)), h k (by omega) (by omega)]
/-- whether two of the stories that fit have like contents -/
abbrev lkK (κ : Int → Int → Int) (p q : Int) : Prop := likP (κ p) (κ q)
abbrev fstP (κ : Int → Int → Int) (p : Int) : Prop := firI (fun j => decide (lkK κ p j)) p.toNat = -1
/-- how many unlike contents the first i have, how many are like one -/
def unK (κ : Int → Int → Int) (i : Int) : Int := smF (fun p => b01 (fstP κ p)) i
def szK (κ : Int → Int → Int) (p i : Int) : Int := smF (fun j => b01 (lkK κ p j)) i
def grK (κ : Int → Int → Int) (i : Int) : Int := mxI (fun p => szK κ p i) i.toNat
theorem lkK_refl (κ : Int → Int → Int) (p : Int) : lkK κ p p := (likP_iff _ _).mpr (fun _ _ _ => rfl)
theorem lkK_symm {κ : Int → Int → Int} {p q : Int} (h : lkK κ p q) : lkK κ q p := (likP_iff _ _).mpr ((likP_iff _ _).mp h).symm
theorem lkK_trans {κ : Int → Int → Int} {p q r : Int} (h : lkK κ p q) (h' : lkK κ q r) : lkK κ p r := (likP_iff _ _).mpr (((likP_iff _ _).mp h).trans ((likP_iff _ _).mp h'))
theorem lkK_congr {κ κ' : Int → Int → Int} {n : Int} (h : ∀ p, 0 ≤ p → p < n → eq8 (κ p) (κ' p)) {p q : Int} (hp : 0 ≤ p ∧ p < n) (hq : 0 ≤ q ∧ q < n) : lkK κ p q ↔ lkK κ' p q := likP_eq (h p hp.1 hp.2) (h q hq.1 hq.2)
theorem fstP_congr {κ κ' : Int → Int → Int} {n : Int} (h : ∀ p, 0 ≤ p → p < n → eq8 (κ p) (κ' p)) {p : Int} (hp : 0 ≤ p ∧ p < n) : fstP κ p ↔ fstP κ' p := by
  unfold fstP
  rw [firI_congr (P := fun j => decide (lkK κ p j)) (P' := fun j => decide (lkK κ' p j)) (fun j j0 j1 => decide_eq_decide.mpr (lkK_congr h hp ⟨j0, by omega⟩))]
theorem unK_congr {κ κ' : Int → Int → Int} {n : Int} (h : ∀ p, 0 ≤ p → p < n → eq8 (κ p) (κ' p)) : unK κ n = unK κ' n := smF_congr fun p p0 p1 => b01_congr (fstP_congr h ⟨p0, p1⟩)
theorem grK_congr {κ κ' : Int → Int → Int} {n : Int} (h : ∀ p, 0 ≤ p → p < n → eq8 (κ p) (κ' p)) : grK κ n = grK κ' n := mxI_congr fun p p0 p1 => smF_congr fun q q0 q1 => b01_congr (lkK_congr h ⟨p0, by omega⟩ ⟨q0, q1⟩)
theorem fstP_iff (κ : Int → Int → Int) {p : Int} (hp : 0 ≤ p) : fstP κ p ↔ ∀ j, 0 ≤ j → j < p → ¬ lkK κ p j := by
  constructor
  · intro h j j0 j1
    exact of_decide_eq_false ((firI_spec (P := fun j => decide (lkK κ p j)) (n := p.toNat)).1 h j j0 (by omega))
  · intro h
    exact firI_none fun j j0 j1 => decide_eq_false (h j j0 (by omega))
theorem unK_s (κ : Int → Int → Int) {i : Int} (h : 0 ≤ i) : unK κ (i + 1) = unK κ i + b01 (fstP κ i) := smF_s _ h
theorem szK_s (κ : Int → Int → Int) (p : Int) {i : Int} (h : 0 ≤ i) : szK κ p (i + 1) = szK κ p i + b01 (lkK κ p i) := smF_s _ h
theorem unK_b (κ : Int → Int → Int) {i : Int} (h : 0 ≤ i) : 0 ≤ unK κ i ∧ unK κ i ≤ i := smF_01 h
theorem szK_b (κ : Int → Int → Int) (p : Int) {i : Int} (h : 0 ≤ i) : 0 ≤ szK κ p i ∧ szK κ p i ≤ i := smF_01 h
theorem szK_0 {κ : Int → Int → Int} {p : Int} : ∀ {i : Nat}, (∀ j, 0 ≤ j → j < (i : Int) → ¬ lkK κ p j) → szK κ p i = 0
  | 0, _ => rfl
  | i + 1, h => by
    have e := szK_s κ p (i := (i : Int)) (by omega)
    rw [b01_f (h i (by omega) (by omega)), szK_0 (i := i) (fun j j0 j1 => h j j0 (by omega))] at e
    rw [show ((i + 1 : Nat) : Int) = (i : Int) + 1 by omega, e]
    rfl
/-- the sets that the first i stories make: s sets, their faces by places -/
def divI (κ : Int → Int → Int) (ψ φ fa sz : Int → Int) (s i : Int) : Prop := s = unK κ i ∧ (∀ t, 0 ≤ t → t < s → (0 ≤ ψ t ∧ ψ t < i) ∧ fa t = φ (ψ t) ∧ sz t = szK κ (ψ t) i) ∧ (∀ p, 0 ≤ p → p < i → ∃ t, 0 ≤ t ∧ t < s ∧ lkK κ (ψ t) p) ∧ ∀ t t', 0 ≤ t → t < t' → t' < s → ¬ lkK κ (ψ t) (ψ t')
theorem divI.old {κ : Int → Int → Int} {ψ φ fa sz : Int → Int} {s i v : Int} (hi : 0 ≤ i) (h : divI κ ψ φ fa sz s i) (hv : 0 ≤ v ∧ v < s) (hl : lkK κ (ψ v) i) : divI κ ψ φ fa (up1 sz v (sz v + 1)) s (i + 1) := by
  obtain ⟨h1, h2, h3, h4⟩ := h
  refine ⟨?_, fun t t0 t1 => ?_, fun p p0 p1 => ?_, h4⟩
  · rw [unK_s _ hi, b01_f (fun q => (fstP_iff κ hi).mp q (ψ v) (h2 v hv.1 hv.2).1.1 (h2 v hv.1 hv.2).1.2 (lkK_symm hl)), h1, Int.add_zero]
  · obtain ⟨a1, a2, a3⟩ := h2 t t0 t1
    refine ⟨by omega, a2, ?_⟩
    rw [szK_s _ _ hi]
    by_cases e : t = v
    · subst e
      rw [up1_same, b01_t hl, a3]
    · rw [up1_ne e, a3, b01_f (fun q => ?_), Int.add_zero]
      by_cases e2 : t < v
      · exact h4 t v t0 e2 hv.2 (lkK_trans q (lkK_symm hl))
      · exact h4 v t hv.1 (by omega) t1 (lkK_trans hl (lkK_symm q))
  · by_cases e : p = i
    · subst e
      exact ⟨v, hv.1, hv.2, hl⟩
    · exact h3 p p0 (by omega)
theorem divI.new {κ : Int → Int → Int} {ψ φ fa sz : Int → Int} {s i z : Int} (hi : 0 ≤ i) (h : divI κ ψ φ fa sz s i) (hn : ∀ t, 0 ≤ t → t < s → ¬ lkK κ (ψ t) i) (hz : z = φ i) : divI κ (up1 ψ s i) φ (up1 fa s z) (up1 sz s 1) (s + 1) (i + 1) := by
  obtain ⟨h1, h2, h3, h4⟩ := h
  have hb := unK_b κ hi
  have hf : ∀ j, 0 ≤ j → j < i → ¬ lkK κ i j := fun j j0 j1 q => by
    obtain ⟨t, t0, t1, t2⟩ := h3 j j0 j1
    exact hn t t0 t1 (lkK_trans t2 (lkK_symm q))
  refine ⟨?_, fun t t0 t1 => ?_, fun p p0 p1 => ?_, fun t t' t0 t1 t2 => ?_⟩
  · rw [unK_s _ hi, b01_t ((fstP_iff κ hi).mpr hf), h1]
  · rw [szK_s _ _ hi]
    by_cases e : t = s
    · subst e
      rw [up1_same, up1_same, up1_same, b01_t (lkK_refl κ i)]
      refine ⟨by omega, hz, ?_⟩
      have := szK_0 (κ := κ) (p := i) (i := i.toNat) (fun j j0 j1 => hf j j0 (by omega))
      rw [show ((i.toNat : Nat) : Int) = i by omega] at this
      rw [this]
      rfl
    · rw [up1_ne e, up1_ne e, up1_ne e]
      obtain ⟨a1, a2, a3⟩ := h2 t t0 (by omega)
      rw [b01_f (hn t t0 (by omega)), Int.add_zero]
      exact ⟨by omega, a2, a3⟩
  · by_cases e : p = i
    · subst e
      exact ⟨s, by omega, by omega, by rw [up1_same]; exact lkK_refl κ p⟩
    · obtain ⟨t, t3, t4, t5⟩ := h3 p p0 (by omega)
      exact ⟨t, t3, by omega, by rw [up1_ne (by omega)]; exact t5⟩
  · rw [up1_ne (show t ≠ s by omega)]
    by_cases e : t' = s
    · subst e
      rw [up1_same]
      exact hn t t0 t1
    · rw [up1_ne e]
      exact h4 t t' t0 t1 (by omega)
theorem szK_like {κ : Int → Int → Int} {p q : Int} (h : lkK κ p q) (n : Int) : szK κ p n = szK κ q n := smF_congr fun j _ _ => b01_congr ⟨fun x => lkK_trans (lkK_symm h) x, fun x => lkK_trans h x⟩
theorem divI.most {κ : Int → Int → Int} {ψ φ fa sz : Int → Int} {s n : Int} (hn : 0 ≤ n) (h : divI κ ψ φ fa sz s n) : mxI sz s.toNat = grK κ n := by
  obtain ⟨h1, h2, h3, h4⟩ := h
  have hb := unK_b κ hn
  obtain ⟨a1, a2, a3⟩ := mxI_spec sz s.toNat
  obtain ⟨b1, b2, b3⟩ := mxI_spec (fun p => szK κ p n) n.toNat
  unfold grK
  have le1 : mxI sz s.toNat ≤ mxI (fun p => szK κ p n) n.toNat := by
    rcases a3 with a3 | ⟨t, t0, t1, t2⟩
    · omega
    · obtain ⟨c1, c2, c3⟩ := h2 t t0 (by omega)
      have := b2 (ψ t) c1.1 (by omega)
      try dsimp only at this
      omega
  have le2 : mxI (fun p => szK κ p n) n.toNat ≤ mxI sz s.toNat := by
    rcases b3 with b3 | ⟨p, p0, p1, p2⟩
    · omega
    · obtain ⟨t, t0, t1, t2⟩ := h3 p p0 (by omega)
      obtain ⟨c1, c2, c3⟩ := h2 t t0 t1
      have := a2 t t0 (by omega)
      try dsimp only at p2
      rw [p2, ← szK_like t2 n, ← c3]
      exact this
  omega
/-- the next hole, as far as column k -/
def nhF (κ : Int → Int → Int → Int) (n : Int) : Nat → Int × Int × Int
  | 0 => (-1, 0, 0)
  | k + 1 => if unK (κ k) n < (nhF κ n k).2.1 ∨ (unK (κ k) n = (nhF κ n k).2.1 ∧ (nhF κ n k).2.2 ≤ grK (κ k) n) then nhF κ n k else ((k : Int), unK (κ k) n, grK (κ k) n)
theorem nhF_s (κ : Int → Int → Int → Int) (n : Int) {i : Int} (h : 0 ≤ i) : nhF κ n (i + 1).toNat = if unK (κ i) n < (nhF κ n i.toNat).2.1 ∨ (unK (κ i) n = (nhF κ n i.toNat).2.1 ∧ (nhF κ n i.toNat).2.2 ≤ grK (κ i) n) then nhF κ n i.toNat else (i, unK (κ i) n, grK (κ i) n) := by
  rw [show (i + 1).toNat = i.toNat + 1 by omega]
  simp only [nhF]
  rw [show ((i.toNat : Nat) : Int) = i by omega]
theorem grK_b (κ : Int → Int → Int) {n : Int} (h : 0 ≤ n) : 0 ≤ grK κ n ∧ grK κ n ≤ n := by
  obtain ⟨a1, a2, a3⟩ := mxI_spec (fun p => szK κ p n) n.toNat
  unfold grK
  refine ⟨a1, ?_⟩
  rcases a3 with a3 | ⟨p, p0, p1, p2⟩
  · omega
  · have := szK_b κ p h
    try dsimp only at p2
    omega
theorem nhF_b (κ : Int → Int → Int → Int) {n : Int} (h : 0 ≤ n) : ∀ k : Nat, (-1 ≤ (nhF κ n k).1 ∧ (nhF κ n k).1 ≤ k) ∧ (0 ≤ (nhF κ n k).2.1 ∧ (nhF κ n k).2.1 ≤ n) ∧ (0 ≤ (nhF κ n k).2.2 ∧ (nhF κ n k).2.2 ≤ n)
  | 0 => ⟨⟨Int.le_refl _, by show (-1 : Int) ≤ 0; decide⟩, ⟨Int.le_refl _, h⟩, ⟨Int.le_refl _, h⟩⟩
  | k + 1 => by
    have ih := nhF_b κ h k
    have b1 := unK_b (κ k) h
    have b2 := grK_b (κ k) h
    simp only [nhF]
    split
    · omega
    · exact ⟨by dsimp only; omega, b1, b2⟩
theorem nhF_congr {κ κ' : Int → Int → Int → Int} {n : Int} : ∀ {k : Nat}, (∀ c : Int, 0 ≤ c → c < k → ∀ p, 0 ≤ p → p < n → eq8 (κ c p) (κ' c p)) → nhF κ n k = nhF κ' n k
  | 0, _ => rfl
  | k + 1, h => by
    simp only [nhF]
    rw [nhF_congr (k := k) (fun c c0 c1 => h c c0 (by omega)), unK_congr (h k (by omega) (by omega)), grK_congr (h k (by omega) (by omega))]
theorem c_X6_column {G : GT} {S : Shp} {σ : Sto} {a : Nat} (hA : IsHole S a) : PMet G mX6_column 0 0 0 [.ref a] S σ (isP (some (.int (iI (σ a 3)))) S (σ)) := by
  obtain ⟨hA0, hA1, hA2⟩ := id hA
  refine PMet.of [(0, .ref a)] (by decide +kernel) rfl (Nat.le_of_ble_eq_true rfl) ?_
  refine PW.aload_n dX6_column_0 rfl ?_
  refine PW.getI 3 fl_X6_22 rfl (by assumption) rfl rfl dX6_column_1 ?_
  exact PW.iret rfl rfl dX6_column_4 ⟨rfl, rfl, rfl⟩
theorem c_X6_unlike {G : GT} {S : Shp} {σ : Sto} {a : Nat} (hA : IsHole S a) : PMet G mX6_unlike 0 0 0 [.ref a] S σ (isP (some (.int (iI (σ a 4)))) S (σ)) := by
  obtain ⟨hA0, hA1, hA2⟩ := id hA
  refine PMet.of [(0, .ref a)] (by decide +kernel) rfl (Nat.le_of_ble_eq_true rfl) ?_
  refine PW.aload_n dX6_unlike_0 rfl ?_
  refine PW.getI 4 fl_X6_25 rfl (by assumption) rfl rfl dX6_unlike_1 ?_
  exact PW.iret rfl rfl dX6_unlike_4 ⟨rfl, rfl, rfl⟩
theorem c_X6_greatest {G : GT} {S : Shp} {σ : Sto} {a : Nat} (hA : IsHole S a) : PMet G mX6_greatest 0 0 0 [.ref a] S σ (isP (some (.int (iI (σ a 5)))) S (σ)) := by
  obtain ⟨hA0, hA1, hA2⟩ := id hA
  refine PMet.of [(0, .ref a)] (by decide +kernel) rfl (Nat.le_of_ble_eq_true rfl) ?_
  refine PW.aload_n dX6_greatest_0 rfl ?_
  refine PW.getI 5 fl_X6_28 rfl (by assumption) rfl rfl dX6_greatest_1 ?_
  exact PW.iret rfl rfl dX6_greatest_4 ⟨rfl, rfl, rfl⟩
theorem most_loop {G : GT} {S : Shp} {σ : Sto} {a : Nat} {z : Int} {Q : Option Value → Shp → Sto → Prop} (hA : IsHole S a) (hz : σ a 2 = z) (hz1 : 0 ≤ z ∧ z ≤ 65) (hu : ∀ q, 0 ≤ q → q < z → 0 ≤ σ (a + 2) q ∧ σ (a + 2) q ≤ 1000) (hQ : Q (some (.int (iI (mxI (σ (a + 2)) z.toNat)))) S σ) : ∀ (t : Nat) (i : Int) (m : Int), 0 ≤ i → i ≤ z → z - i < t → m = mxI (σ (a + 2)) i.toNat → 0 ≤ m ∧ m ≤ 1000 → PW (fm G mX6_mostOfSets 1 0 0 Q) G S (σ) 0 0 4 [(0, .ref a), (1, .int (iI (m))), (2, .int (iI (i)))] [] := by
  obtain ⟨hA0, hA1, hA2⟩ := id hA
  intro t
  induction t with
  | zero => intro i m h1 h2 h3 g1 g2; omega
  | succ t ih =>
    intro i m h1 h2 h3 g1 g2
    refine PW.iload_n dX6_mostOfSets_4 rfl ?_
    refine PW.aload_n dX6_mostOfSets_5 rfl ?_
    refine PW.getI 2 fl_X6_18 rfl (by assumption) rfl rfl dX6_mostOfSets_6 ?_
    refine PW.top z hz ?_
    refine PW.icmp_ge 31 dX6_mostOfSets_9 (by decide) (by first | assumption | (unfold inR; omega)) (by first | assumption | (unfold inR; omega)) (fun h9 => ?_) (fun h9 => ?_)
    · refine PW.iload_n dX6_mostOfSets_31 rfl ?_
      have hi : i = z := by omega
      subst hi
      subst g1
      exact PW.iret rfl rfl dX6_mostOfSets_32 hQ
    · refine PW.iload_n dX6_mostOfSets_12 rfl ?_
      refine PW.aload_n dX6_mostOfSets_13 rfl ?_
      refine PW.getR fl_X6_15 rfl (by assumption) rfl dX6_mostOfSets_14 ?_
      refine PW.iload_n dX6_mostOfSets_17 rfl ?_
      refine PW.callSr (c_X11_get (by assumption) (by first | assumption | (unfold inR; omega)) (by decide)) cs_X11_get lk_X6_66 dX6_mostOfSets_18 rfl rfl rfl ?_
      refine PW.top (σ (a + 2) i) (by unfold gI; rw [if_pos (by omega)]) ?_
      have hui := hu i h1 (by omega)
      refine PW.callSr (c_J9_max_7cf53 (by first | assumption | (unfold inR; omega)) (by first | assumption | (unfold inR; omega))) cs_J9_max_7cf53 lk_X6_80 dX6_mostOfSets_21 rfl rfl rfl ?_
      refine PW.istore_n [(0, _), (1, _), (2, _)] dX6_mostOfSets_24 rfl (Nat.le_of_ble_eq_true rfl) ?_
      refine PW.iinc [(0, _), (1, _), (2, _)] dX6_mostOfSets_25 rfl rfl (Nat.le_of_ble_eq_true rfl) ?_
      refine PW.goto 4 dX6_mostOfSets_28 (by decide) ?_
      exact ih (i + 1) _ (by omega) (by omega) (by omega) (by rw [mxI_s _ h1, g1]) (by omega)
theorem c_X6_mostOfSets {G : GT} {S : Shp} {σ : Sto} {a : Nat} {z : Int} (hA : IsHole S a) (hz : σ a 2 = z) (hz1 : 0 ≤ z ∧ z ≤ 65) (hu : ∀ q, 0 ≤ q → q < z → 0 ≤ σ (a + 2) q ∧ σ (a + 2) q ≤ 1000) : PMet G mX6_mostOfSets 1 0 0 [.ref a] S σ (isP (some (.int (iI (mxI (σ (a + 2)) z.toNat)))) S σ) := by
  refine PMet.of [(0, .ref a)] (by decide +kernel) rfl (Nat.le_of_ble_eq_true rfl) ?_
  refine PW.iconst dX6_mostOfSets_0 ?_
  refine PW.istore_n [(0, _), (1, _)] dX6_mostOfSets_1 rfl (Nat.le_of_ble_eq_true rfl) ?_
  refine PW.iconst dX6_mostOfSets_2 ?_
  refine PW.istore_n [(0, _), (1, _), (2, _)] dX6_mostOfSets_3 rfl (Nat.le_of_ble_eq_true rfl) ?_
  exact most_loop hA hz hz1 hu ⟨rfl, rfl, rfl⟩ 66 0 0 (by omega) (by omega) (by omega) rfl (by omega)
theorem set_loop {G : GT} {S : Shp} {σ : Sto} {a b : Nat} {z v : Int} {Q : Option Value → Shp → Sto → Prop} (hA : IsHole S a) (hB : IsTel S b) (hc : colsOk σ (b + 7) 65) (hz : σ a 2 = z) (hz1 : 0 ≤ z ∧ z ≤ 65) (hf : ∀ t, 0 ≤ t → t < z → 0 ≤ σ (a + 1) t ∧ σ (a + 1) t ≤ 64) (hv : 0 ≤ v ∧ v ≤ 64) (hQ : Q (some (.int (iI (if firI (fun t => decide (likP (σ (cA (b + 7) (σ (a + 1) t) + 1)) (σ (cA (b + 7) v + 1)))) z.toNat = -1 then z else firI (fun t => decide (likP (σ (cA (b + 7) (σ (a + 1) t) + 1)) (σ (cA (b + 7) v + 1)))) z.toNat)))) S σ) : ∀ (t : Nat) (i : Int), 0 ≤ i → i ≤ z → z - i < t → (∀ t, 0 ≤ t → t < i → (fun t => decide (likP (σ (cA (b + 7) (σ (a + 1) t) + 1)) (σ (cA (b + 7) v + 1)))) t = false) → PW (fm G mX6_setOf 2 0 0 Q) G S (σ) 0 0 2 [(0, .ref a), (1, .ref b), (2, .int (iI (v))), (3, .int (iI (i)))] [] := by
  obtain ⟨hA0, hA1, hA2⟩ := id hA
  have hB0 := hB.1
  obtain ⟨hR0, hR1, hR2, hRc⟩ := id hB.2.2.2.2.2.2.2.1
  have d2 := hRc v (by omega) (by omega)
  intro t
  induction t with
  | zero => intro i h1 h2 h3 g1; omega
  | succ t ih =>
    intro i h1 h2 h3 g1
    refine PW.iload_n dX6_setOf_2 rfl ?_
    refine PW.aload_n dX6_setOf_3 rfl ?_
    refine PW.getI 2 fl_X6_18 rfl (by assumption) rfl rfl dX6_setOf_4 ?_
    refine PW.top z hz ?_
    refine PW.icmp_ge 39 dX6_setOf_7 (by decide) (by first | assumption | (unfold inR; omega)) (by first | assumption | (unfold inR; omega)) (fun h7 => ?_) (fun h7 => ?_)
    · refine PW.iload_n dX6_setOf_39 rfl ?_
      refine PW.iret rfl rfl dX6_setOf_40 ?_
      first
        | (have hi : i = z := by omega
           rw [if_pos (firI_none (P := (fun t => decide (likP (σ (cA (b + 7) (σ (a + 1) t) + 1)) (σ (cA (b + 7) v + 1))))) (fun t t0 t1 => g1 t t0 (by omega)))] at hQ
           rw [hi]
           exact hQ)
        | (have e : firI (fun t => decide (likP (σ (cA (b + 7) (σ (a + 1) t) + 1)) (σ (cA (b + 7) v + 1)))) z.toNat = i := firI_hit h1 (decide_eq_true (by assumption)) g1 (by omega)
           rw [e, if_neg (by omega)] at hQ
           exact hQ)
    · have fi := hf i h1 (by omega)
      have d1 := hRc (σ (a + 1) i) (by omega) (by omega)
      refine PW.aload_n dX6_setOf_10 rfl ?_
      refine PW.aload_n dX6_setOf_11 rfl ?_
      refine PW.getR fl_X6_9 rfl (by assumption) rfl dX6_setOf_12 ?_
      refine PW.iload_n dX6_setOf_15 rfl ?_
      refine PW.callSr (c_X11_get (by assumption) (by first | assumption | (unfold inR; omega)) (by decide)) cs_X11_get lk_X6_66 dX6_setOf_16 rfl rfl rfl ?_
      refine PW.top (σ (a + 1) i) (by unfold gI; rw [if_pos (by omega)]) ?_
      refine PW.callVr (c_X9_looked (by assumption) (by omega)) cv_X9_looked lk_X6_70 (by first | assumption | exact And.left (by assumption)) dX6_setOf_19 rfl rfl rfl rfl ?_
      refine PW.aload_n dX6_setOf_22 rfl ?_
      refine PW.iload_n dX6_setOf_23 rfl ?_
      refine PW.callVr (c_X9_looked (by assumption) (by omega)) cv_X9_looked lk_X6_70 (by first | assumption | exact And.left (by assumption)) dX6_setOf_24 rfl rfl rfl rfl ?_
      refine PW.callVr (c_X1_isLike d1 d2 (hc _ (by omega) (by omega)) (hc _ (by omega) (by omega))) cv_X1_isLike lk_X6_74 (by first | assumption | exact And.left (by assumption)) dX6_setOf_27 rfl rfl rfl rfl ?_
      refine PW.if_neB 39 dX6_setOf_30 (by decide) (fun h30 => ?_) (fun h30 => ?_)
      · refine PW.iload_n dX6_setOf_39 rfl ?_
        refine PW.iret rfl rfl dX6_setOf_40 ?_
        first
          | (have hi : i = z := by omega
             rw [if_pos (firI_none (P := (fun t => decide (likP (σ (cA (b + 7) (σ (a + 1) t) + 1)) (σ (cA (b + 7) v + 1))))) (fun t t0 t1 => g1 t t0 (by omega)))] at hQ
             rw [hi]
             exact hQ)
          | (have e : firI (fun t => decide (likP (σ (cA (b + 7) (σ (a + 1) t) + 1)) (σ (cA (b + 7) v + 1)))) z.toNat = i := firI_hit h1 (decide_eq_true (by assumption)) g1 (by omega)
             rw [e, if_neg (by omega)] at hQ
             exact hQ)
      · refine PW.iinc [(0, _), (1, _), (2, _), (3, _)] dX6_setOf_33 rfl rfl (Nat.le_of_ble_eq_true rfl) ?_
        refine PW.goto 2 dX6_setOf_36 (by decide) ?_
        refine ih (i + 1) (by omega) (by omega) (by omega) (fun t q1 q2 => ?_)
        by_cases e : t = i
        · subst e
          exact decide_eq_false (by assumption)
        · exact g1 t q1 (by omega)
theorem c_X6_setOf {G : GT} {S : Shp} {σ : Sto} {a b : Nat} {z v : Int} (hA : IsHole S a) (hB : IsTel S b) (hc : colsOk σ (b + 7) 65) (hz : σ a 2 = z) (hz1 : 0 ≤ z ∧ z ≤ 65) (hf : ∀ t, 0 ≤ t → t < z → 0 ≤ σ (a + 1) t ∧ σ (a + 1) t ≤ 64) (hv : 0 ≤ v ∧ v ≤ 64) : PMet G mX6_setOf 2 0 0 [.ref a, .ref b, .int (iI v)] S σ (isP (some (.int (iI (if firI (fun t => decide (likP (σ (cA (b + 7) (σ (a + 1) t) + 1)) (σ (cA (b + 7) v + 1)))) z.toNat = -1 then z else firI (fun t => decide (likP (σ (cA (b + 7) (σ (a + 1) t) + 1)) (σ (cA (b + 7) v + 1)))) z.toNat)))) S σ) := by
  refine PMet.of [(0, .ref a), (1, .ref b), (2, .int (iI (v)))] (by decide +kernel) rfl (Nat.le_of_ble_eq_true rfl) ?_
  refine PW.iconst dX6_setOf_0 ?_
  refine PW.istore_n [(0, _), (1, _), (2, _), (3, _)] dX6_setOf_1 rfl (Nat.le_of_ble_eq_true rfl) ?_
  exact set_loop hA hB hc hz hz1 hf hv ⟨rfl, rfl, rfl⟩ 66 0 (by omega) (by omega) (by omega) (fun t q1 q2 => by omega)
def dvFr (σ τ : Sto) (a : Nat) : Prop := (∀ q, q < a ∨ a + 2 < q → τ q = σ q) ∧ ∀ j, j ≠ 2 → τ a j = σ a j
theorem div_loop {G : GT} {S : Shp} {σ : Sto} {a b : Nat} {F : Int} {Q : Option Value → Shp → Sto → Prop} (hA : IsHole S a) (hB : IsTel S b) (hc : colsOk σ (b + 7) 65) (hF : σ b 9 = F) (hF1 : 0 ≤ F ∧ F ≤ 65) (hfi : ∀ p, 0 ≤ p → p < F → 0 ≤ σ (b + 6) p ∧ σ (b + 6) p ≤ 64) (hab : a + 2 < b ∨ b + 275 ≤ a) (hQ : ∀ τ : Sto, dvFr σ τ a → (∃ ψ : Int → Int, divI (fun p => σ (cA (b + 7) (σ (b + 6) p) + 1)) ψ (σ (b + 6)) (τ (a + 1)) (τ (a + 2)) (τ a 2) F) → Q none S τ) : ∀ (t : Nat) (i : Int) (τ : Sto), 0 ≤ i → i ≤ F → F - i < t → dvFr σ τ a → (∃ ψ : Int → Int, divI (fun p => σ (cA (b + 7) (σ (b + 6) p) + 1)) ψ (σ (b + 6)) (τ (a + 1)) (τ (a + 2)) (τ a 2) i) → PW (fm G mX6_divide 3 0 0 Q) G S (τ) 0 0 7 [(0, .ref a), (1, .ref b), (2, .int (iI (i)))] [] := by
  obtain ⟨hA0, hA1, hA2⟩ := id hA
  have hB0 := hB.1
  intro t
  induction t with
  | zero => intro i τ h1 h2 h3 g1 g2; omega
  | succ t ih =>
    intro i τ h1 h2 h3 g1 g2
    obtain ⟨ψ, d1, d2, d3, d4⟩ := id g2
    have ub := unK_b (fun p => σ (cA (b + 7) (σ (b + 6) p) + 1)) h1
    have eb : τ b = σ b := g1.1 _ (by omega)
    have eb6 : τ (b + 6) = σ (b + 6) := g1.1 _ (by omega)
    have ec : ∀ q : Int, 0 ≤ q → τ (cA (b + 7) q + 1) = σ (cA (b + 7) q + 1) ∨ 65 ≤ q := fun q q0 => by
      by_cases h : q < 65
      · exact Or.inl (g1.1 _ (by unfold cA; omega))
      · exact Or.inr (by omega)
    refine PW.iload_n dX6_divide_7 rfl ?_
    refine PW.aload_n dX6_divide_8 rfl ?_
    refine PW.callVr (c_X9_fits (by assumption)) cv_X9_fits lk_X6_51 (by first | assumption | exact And.left (by assumption)) dX6_divide_9 rfl rfl rfl rfl ?_
    refine PW.top F (by rw [eb]; exact hF) ?_
    refine PW.icmp_ge 94 dX6_divide_12 (by decide) (by first | assumption | (unfold inR; omega)) (by first | assumption | (unfold inR; omega)) (fun h12 => ?_) (fun h12 => ?_)
    · have hi : i = F := by omega
      subst hi
      exact PW.vret rfl dX6_divide_94 (hQ τ g1 g2)
    · have fi := hfi i h1 (by omega)
      refine PW.aload_n dX6_divide_15 rfl ?_
      refine PW.iload_n dX6_divide_16 rfl ?_
      refine PW.callVr (c_X9_fitting (by assumption) (by omega)) cv_X9_fitting lk_X6_54 (by first | assumption | exact And.left (by assumption)) dX6_divide_17 rfl rfl rfl rfl ?_
      refine PW.top (σ (b + 6) i) (by rw [eb6]) ?_
      refine PW.istore_n [(0, _), (1, _), (2, _), (3, _)] dX6_divide_20 rfl (Nat.le_of_ble_eq_true rfl) ?_
      refine PW.aload_n dX6_divide_21 rfl ?_
      refine PW.aload_n dX6_divide_22 rfl ?_
      refine PW.iload_n dX6_divide_23 rfl ?_
      refine PW.callVr (c_X6_setOf (z := τ a 2) hA hB (colsOk_congr (fun q q0 q1 => g1.1 q (by omega)) hc) rfl (by omega) (fun t t0 t1 => by obtain ⟨x1, x2, x3⟩ := d2 t t0 t1; rw [x2]; exact hfi _ x1.1 (by omega)) fi) cv_X6_setOf lk_X6_58 (by first | assumption | exact And.left (by assumption)) dX6_divide_24 rfl rfl rfl rfl ?_
      have hsv : ∃ v, v = (if firI (fun t => decide (likP (τ (cA (b + 7) (τ (a + 1) t) + 1)) (τ (cA (b + 7) (σ (b + 6) i) + 1)))) (τ a 2).toNat = -1 then (τ a 2) else firI (fun t => decide (likP (τ (cA (b + 7) (τ (a + 1) t) + 1)) (τ (cA (b + 7) (σ (b + 6) i) + 1)))) (τ a 2).toNat) ∧ 0 ≤ v ∧ v ≤ τ a 2 ∧ (v < τ a 2 → lkK (fun p => σ (cA (b + 7) (σ (b + 6) p) + 1)) (ψ v) i) ∧ (v = τ a 2 → ∀ t, 0 ≤ t → t < τ a 2 → ¬ lkK (fun p => σ (cA (b + 7) (σ (b + 6) p) + 1)) (ψ t) i) := by
        have el : ∀ t, 0 ≤ t → t < τ a 2 → (likP (τ (cA (b + 7) (τ (a + 1) t) + 1)) (τ (cA (b + 7) (σ (b + 6) i) + 1)) ↔ lkK (fun p => σ (cA (b + 7) (σ (b + 6) p) + 1)) (ψ t) i) := fun t t0 t1 => by
          obtain ⟨x1, x2, x3⟩ := d2 t t0 t1
          have y := hfi (ψ t) x1.1 (by omega)
          rcases ec (σ (b + 6) (ψ t)) y.1 with z1 | z1
          · rcases ec (σ (b + 6) i) fi.1 with z2 | z2
            · rw [x2, z1, z2]
            · omega
          · omega
        have fb := firI_b (P := (fun t => decide (likP (τ (cA (b + 7) (τ (a + 1) t) + 1)) (τ (cA (b + 7) (σ (b + 6) i) + 1))))) (n := (τ a 2).toNat)
        have fs := firI_spec (P := (fun t => decide (likP (τ (cA (b + 7) (τ (a + 1) t) + 1)) (τ (cA (b + 7) (σ (b + 6) i) + 1))))) (n := (τ a 2).toNat)
        refine ⟨_, rfl, ?_⟩
        by_cases e : firI (fun t => decide (likP (τ (cA (b + 7) (τ (a + 1) t) + 1)) (τ (cA (b + 7) (σ (b + 6) i) + 1)))) (τ a 2).toNat = -1
        · rw [if_pos e]
          exact ⟨by omega, by omega, fun q => by omega, fun _ t t0 t1 q => of_decide_eq_false (fs.1 e t t0 (by omega)) ((el t t0 t1).mpr q)⟩
        · rw [if_neg e]
          exact ⟨by omega, by omega, fun q => (el _ (by omega) q).mp (of_decide_eq_true (fs.2 e).1), fun q => by omega⟩
      obtain ⟨v, hv, v0, v1, v2, v3⟩ := hsv
      refine PW.top v hv.symm ?_
      refine PW.istore [(0, _), (1, _), (2, _), (3, _), (4, _)] dX6_divide_27 rfl (Nat.le_of_ble_eq_true rfl) ?_
      refine PW.iload dX6_divide_29 rfl ?_
      refine PW.aload_n dX6_divide_31 rfl ?_
      refine PW.getI 2 fl_X6_18 rfl (by assumption) rfl rfl dX6_divide_32 ?_
      refine PW.icmp_ne 68 dX6_divide_35 (by decide) (by first | assumption | (unfold inR; omega)) (by first | assumption | (unfold inR; omega)) (fun h35 => ?_) (fun h35 => ?_)
      · refine PW.aload_n dX6_divide_68 rfl ?_
        refine PW.getR fl_X6_15 rfl (by assumption) rfl dX6_divide_69 ?_
        refine PW.iload dX6_divide_72 rfl ?_
        refine PW.aload_n dX6_divide_74 rfl ?_
        refine PW.getR fl_X6_15 rfl (by assumption) rfl dX6_divide_75 ?_
        refine PW.iload dX6_divide_78 rfl ?_
        refine PW.callSr (c_X11_get (by assumption) (by first | assumption | (unfold inR; omega)) (by decide)) cs_X11_get lk_X6_66 dX6_divide_80 rfl rfl rfl ?_
        refine PW.top (if v = τ a 2 then 0 else τ (a + 2) v) (by
          unfold gI
          rw [if_pos (by omega)]
          first
            | rw [if_neg (by assumption)]
            | (rw [if_pos (by assumption)]; simp [upS, up1])) ?_
        refine PW.iconst dX6_divide_83 ?_
        refine PW.iadd dX6_divide_84 ?_
        refine PW.callSv (c_X11_put (by assumption) (by first | assumption | (unfold inR; omega)) (by decide)) cs_X11_put lk_X6_62 dX6_divide_85 rfl rfl rfl ?_
        refine PW.take 3 ?_
        refine PW.iinc [(0, _), (1, _), (2, _)] dX6_divide_88 rfl rfl (Nat.le_of_ble_eq_true rfl) ?_
        refine PW.goto 7 dX6_divide_91 (by decide) ?_
        first
          | (have hne : ¬ v = τ a 2 := by assumption
             have hv4 : v < τ a 2 := by omega
             rw [if_neg hne]
             refine PW.st (upS τ (a + 2) (up1 (τ (a + 2)) v (τ (a + 2) v + 1))) (by rw [if_pos (by omega)]) ?_
             refine ih (i + 1) _ (by omega) (by omega) (by omega) ⟨fun q hq => ?_, fun j hj => ?_⟩ ⟨ψ, ?_⟩
             · rw [upS_ne (by omega)]; exact g1.1 q hq
             · rw [upS_ne (by omega)]; exact g1.2 j hj
             · rw [upS_same, upS_ne (by omega), upS_ne (by omega)]
               exact divI.old h1 ⟨d1, d2, d3, d4⟩ ⟨v0, hv4⟩ (v2 hv4))
          | (have hv4 : v = τ a 2 := by assumption
             have hn := v3 hv4
             rw [if_pos hv4]
             subst hv4
             refine ih (i + 1) _ (by omega) (by omega) (by omega) ⟨fun q hq => ?_, fun j hj => ?_⟩ ⟨up1 ψ (τ a 2) i, ?_⟩
             · rw [if_pos (by omega), upS_ne (by omega), upS_ne (by omega), upS_ne (by omega), upS_ne (by omega)]; exact g1.1 q hq
             · rw [if_pos (by omega), upS_ne (by omega), upS_same, up1_ne hj, upS_ne (by omega), upS_ne (by omega)]; exact g1.2 j hj
             · have h := divI.new (z := σ (b + 6) i) h1 ⟨d1, d2, d3, d4⟩ hn rfl
               rw [if_pos (by omega)]
               simp [upS, up1_up1, up1_same]
               exact h)
      · refine PW.aload_n dX6_divide_38 rfl ?_
        refine PW.getR fl_X6_9 rfl (by assumption) rfl dX6_divide_39 ?_
        refine PW.iload dX6_divide_42 rfl ?_
        refine PW.iload_n dX6_divide_44 rfl ?_
        refine PW.callSv (c_X11_put (by assumption) (by first | assumption | (unfold inR; omega)) (by decide)) cs_X11_put lk_X6_62 dX6_divide_45 rfl rfl rfl ?_
        refine PW.st (upS τ (a + 1) (up1 (τ (a + 1)) v (σ (b + 6) i))) (by rw [if_pos (by omega)]) ?_
        refine PW.aload_n dX6_divide_48 rfl ?_
        refine PW.getR fl_X6_15 rfl (by assumption) rfl dX6_divide_49 ?_
        refine PW.iload dX6_divide_52 rfl ?_
        refine PW.iconst dX6_divide_54 ?_
        refine PW.callSv (c_X11_put (by assumption) (by first | assumption | (unfold inR; omega)) (by decide)) cs_X11_put lk_X6_62 dX6_divide_55 rfl rfl rfl ?_
        refine PW.st (upS (upS τ (a + 1) (up1 (τ (a + 1)) v (σ (b + 6) i))) (a + 2) (up1 (τ (a + 2)) v 0)) (by rw [if_pos (by omega), upS_ne (by omega)]) ?_
        refine PW.aload_n dX6_divide_58 rfl ?_
        refine PW.dup rfl dX6_divide_59 ?_
        refine PW.getI 2 fl_X6_18 rfl (by assumption) rfl rfl dX6_divide_60 ?_
        refine PW.top (τ a 2) (by simp [upS]) ?_
        refine PW.iconst dX6_divide_63 ?_
        refine PW.iadd dX6_divide_64 ?_
        refine PW.putI 2 fl_X6_18 rfl (fun h => absurd h (by decide)) (by assumption) rfl rfl rfl rfl dX6_divide_65 ?_
        refine PW.aload_n dX6_divide_68 rfl ?_
        refine PW.getR fl_X6_15 rfl (by assumption) rfl dX6_divide_69 ?_
        refine PW.iload dX6_divide_72 rfl ?_
        refine PW.aload_n dX6_divide_74 rfl ?_
        refine PW.getR fl_X6_15 rfl (by assumption) rfl dX6_divide_75 ?_
        refine PW.iload dX6_divide_78 rfl ?_
        refine PW.callSr (c_X11_get (by assumption) (by first | assumption | (unfold inR; omega)) (by decide)) cs_X11_get lk_X6_66 dX6_divide_80 rfl rfl rfl ?_
        refine PW.top (if v = τ a 2 then 0 else τ (a + 2) v) (by
          unfold gI
          rw [if_pos (by omega)]
          first
            | rw [if_neg (by assumption)]
            | (rw [if_pos (by assumption)]; simp [upS, up1])) ?_
        refine PW.iconst dX6_divide_83 ?_
        refine PW.iadd dX6_divide_84 ?_
        refine PW.callSv (c_X11_put (by assumption) (by first | assumption | (unfold inR; omega)) (by decide)) cs_X11_put lk_X6_62 dX6_divide_85 rfl rfl rfl ?_
        refine PW.take 3 ?_
        refine PW.iinc [(0, _), (1, _), (2, _)] dX6_divide_88 rfl rfl (Nat.le_of_ble_eq_true rfl) ?_
        refine PW.goto 7 dX6_divide_91 (by decide) ?_
        first
          | (have hne : ¬ v = τ a 2 := by assumption
             have hv4 : v < τ a 2 := by omega
             rw [if_neg hne]
             refine PW.st (upS τ (a + 2) (up1 (τ (a + 2)) v (τ (a + 2) v + 1))) (by rw [if_pos (by omega)]) ?_
             refine ih (i + 1) _ (by omega) (by omega) (by omega) ⟨fun q hq => ?_, fun j hj => ?_⟩ ⟨ψ, ?_⟩
             · rw [upS_ne (by omega)]; exact g1.1 q hq
             · rw [upS_ne (by omega)]; exact g1.2 j hj
             · rw [upS_same, upS_ne (by omega), upS_ne (by omega)]
               exact divI.old h1 ⟨d1, d2, d3, d4⟩ ⟨v0, hv4⟩ (v2 hv4))
          | (have hv4 : v = τ a 2 := by assumption
             have hn := v3 hv4
             rw [if_pos hv4]
             subst hv4
             refine ih (i + 1) _ (by omega) (by omega) (by omega) ⟨fun q hq => ?_, fun j hj => ?_⟩ ⟨up1 ψ (τ a 2) i, ?_⟩
             · rw [if_pos (by omega), upS_ne (by omega), upS_ne (by omega), upS_ne (by omega), upS_ne (by omega)]; exact g1.1 q hq
             · rw [if_pos (by omega), upS_ne (by omega), upS_same, up1_ne hj, upS_ne (by omega), upS_ne (by omega)]; exact g1.2 j hj
             · have h := divI.new (z := σ (b + 6) i) h1 ⟨d1, d2, d3, d4⟩ hn rfl
               rw [if_pos (by omega)]
               simp [upS, up1_up1, up1_same]
               exact h)
theorem c_X6_divide {G : GT} {S : Shp} {σ : Sto} {a b : Nat} {F : Int} (hA : IsHole S a) (hB : IsTel S b) (hc : colsOk σ (b + 7) 65) (hF : σ b 9 = F) (hF1 : 0 ≤ F ∧ F ≤ 65) (hfi : ∀ p, 0 ≤ p → p < F → 0 ≤ σ (b + 6) p ∧ σ (b + 6) p ≤ 64) (hab : a + 2 < b ∨ b + 275 ≤ a) : PMet G mX6_divide 3 0 0 [.ref a, .ref b] S σ (fun r S' σ' => r = none ∧ S' = S ∧ dvFr σ σ' a ∧ ∃ ψ : Int → Int, divI (fun p => σ (cA (b + 7) (σ (b + 6) p) + 1)) ψ (σ (b + 6)) (σ' (a + 1)) (σ' (a + 2)) (σ' a 2) F) := by
  obtain ⟨hA0, hA1, hA2⟩ := id hA
  refine PMet.of [(0, .ref a), (1, .ref b)] (by decide +kernel) rfl (Nat.le_of_ble_eq_true rfl) ?_
  refine PW.aload_n dX6_divide_0 rfl ?_
  refine PW.iconst dX6_divide_1 ?_
  refine PW.putI 2 fl_X6_18 rfl (fun h => absurd h (by decide)) (by assumption) rfl rfl rfl rfl dX6_divide_2 ?_
  refine PW.iconst dX6_divide_5 ?_
  refine PW.istore_n [(0, _), (1, _), (2, _)] dX6_divide_6 rfl (Nat.le_of_ble_eq_true rfl) ?_
  refine div_loop hA hB hc hF hF1 hfi hab (fun τ p1 p2 => ⟨rfl, rfl, p1, p2⟩) 66 0 _ (by omega) (by omega) (by omega) ⟨fun q hq => upS_ne (by omega), fun j hj => by rw [upS_same, up1_ne hj]⟩ ⟨fun _ => 0, ?_⟩
  rw [upS_same, up1_same]
  exact ⟨rfl, fun t t0 t1 => by omega, fun p p0 p1 => by omega, fun t t' t0 t1 t2 => by omega⟩

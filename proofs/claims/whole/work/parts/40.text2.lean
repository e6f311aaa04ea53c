theorem upS_comm {σ : Sto} {a b : Nat} {f g : Int → Int} (h : a ≠ b) : upS (upS σ a f) b g = upS (upS σ b g) a f := by
  funext x
  unfold upS
  by_cases x1 : x = a
  · by_cases x2 : x = b
    · omega
    · simp [x1, h]
  · simp [x1]
theorem tb_lim : ∀ k : Fin 6, ∀ p : Fin 5, -40 ≤ xT 2 (5 * (k.val : Int) + (p.val : Int)) ∧ xT 3 (5 * (k.val : Int) + (p.val : Int)) ≤ 39 := by decide +kernel
/-- the numbers of a clause from the i-th on, c of them: fault, where, the place behind, the numbers -/
def rdL (B : Int → Int) (z k : Int) : Nat → Int → Int → (Int → Int) → Int × Int × Int × (Int → Int)
  | 0, _, p, g => (0, 0, p, g)
  | c + 1, i, p, g => if rdFt B z k i (skE B z p) g = 0 then rdL B z k c (i + 1) (rdPl B z k i (skE B z p)) (up1 g i (rdVl B z k i (skE B z p))) else (rdFt B z k i (skE B z p) g, rdAt B z k i (skE B z p), 0, g)
/-- a clause at a place, n events being there: fault, where, the place behind, its kind, its numbers -/
def rdC (B : Int → Int) (z n p : Int) : Int × Int × Int × Int × (Int → Int) :=
  if kdF B z p = -1 then (1, p, 0, -1, fun _ => 0) else if 16 ≤ n then (3, p, 0, -1, fun _ => 0)
  else if ¬ (rdL B z (kdF B z p) (xT 0 (kdF B z p)).toNat 0 (p + lenF (kdF B z p).toNat) (fun _ => 0)).1 = 0 then ((rdL B z (kdF B z p) (xT 0 (kdF B z p)).toNat 0 (p + lenF (kdF B z p).toNat) (fun _ => 0)).1, (rdL B z (kdF B z p) (xT 0 (kdF B z p)).toNat 0 (p + lenF (kdF B z p).toNat) (fun _ => 0)).2.1, 0, -1, fun _ => 0)
  else if btF B z (skE B z (rdL B z (kdF B z p) (xT 0 (kdF B z p)).toNat 0 (p + lenF (kdF B z p).toNat) (fun _ => 0)).2.2.1) = 59 then (0, 0, skE B z (rdL B z (kdF B z p) (xT 0 (kdF B z p)).toNat 0 (p + lenF (kdF B z p).toNat) (fun _ => 0)).2.2.1 + 1, kdF B z p, (rdL B z (kdF B z p) (xT 0 (kdF B z p)).toNat 0 (p + lenF (kdF B z p).toNat) (fun _ => 0)).2.2.2)
  else (1, skE B z (rdL B z (kdF B z p) (xT 0 (kdF B z p)).toNat 0 (p + lenF (kdF B z p).toNat) (fun _ => 0)).2.2.1, 0, -1, fun _ => 0)
/-- the whole text from a place on: fault, where, how many events, their rows -/
def rdT (B : Int → Int) (z : Int) : Nat → Int → Int → (Int → Int) → Int × Int × Int × (Int → Int)
  | 0, n, _, f => (0, -1, n, f)
  | c + 1, n, p, f => if z ≤ skE B z p then (0, -1, n, f) else if (rdC B z n (skE B z p)).1 = 0 then rdT B z c (n + 1) (rdC B z n (skE B z p)).2.2.1 (adF f n (rdC B z n (skE B z p)).2.2.2.1 ((rdC B z n (skE B z p)).2.2.2.2 0) ((rdC B z n (skE B z p)).2.2.2.2 1) ((rdC B z n (skE B z p)).2.2.2.2 2) ((rdC B z n (skE B z p)).2.2.2.2 3) ((rdC B z n (skE B z p)).2.2.2.2 4)) else ((rdC B z n (skE B z p)).1, (rdC B z n (skE B z p)).2.1, n, f)
theorem rdFt_b (B : Int → Int) (z k i p : Int) (g : Int → Int) : 0 ≤ rdFt B z k i p g ∧ rdFt B z k i p g ≤ 3 := by
  unfold rdFt
  repeat' split
  all_goals omega
theorem rdFt_congr {B : Int → Int} {z k i p : Int} {g g' : Int → Int} (h : g 2 = g' 2) : rdFt B z k i p g = rdFt B z k i p g' := by
  unfold rdFt dyBad
  rw [h]
theorem rdPl_b {B : Int → Int} {z k i p : Int} {g : Int → Int} (hp : 0 ≤ p ∧ p ≤ z) (h : rdFt B z k i p g = 0) : p ≤ rdPl B z k i p ∧ rdPl B z k i p ≤ z := by
  unfold rdFt at h
  unfold rdPl
  by_cases a : axPl k i
  · rw [if_pos a] at h ⊢
    by_cases e : axF B z p = -1
    · rw [if_pos e] at h
      omega
    · have hz : p < z := by
        unfold axF at e
        have key : ∀ k0, k0 < 8 → whP B z k0 p → p < z := fun k0 hk hw => by
          have f := (firI_spec (P := whB B z k0 p) (n := (lenF k0).toNat)).1 hw.1 0 (Int.le_refl 0) (by have := lenF_b hk; omega)
          have f2 := Decidable.not_not.mp (of_decide_eq_false f)
          have f3 := chrF_b hk (Int.le_refl 0) (by have := lenF_b hk; omega)
          rw [Int.add_zero] at f2
          have := btF_lt (B := B) (z := z) (p := p) (by omega)
          omega
        by_cases q6 : whP B z 6 p
        · exact key 6 (by decide) q6
        · rw [if_neg q6] at e
          by_cases q7 : whP B z 7 p
          · exact key 7 (by decide) q7
          · rw [if_neg q7] at e
            exact absurd rfl e
      omega
  · rw [if_neg a]
    have h1 := nuQ_b (B := B) hp
    have h2 := nuP_b (B := B) hp
    omega
theorem axF_b (B : Int → Int) (z p : Int) : -1 ≤ axF B z p ∧ axF B z p ≤ 1 := by
  unfold axF
  repeat' split
  all_goals omega
theorem axsu : ∀ k : Fin 6, ∀ i : Fin 5, axPl (k.val : Int) (i.val : Int) → suF (k.val : Int) (i.val : Int) 0 ∧ suF (k.val : Int) (i.val : Int) 1 := by decide +kernel
theorem rd_su {B : Int → Int} {z k i p : Int} {g : Int → Int} (hk : 0 ≤ k ∧ k ≤ 5) (hi : 0 ≤ i ∧ i ≤ 4) (h : rdFt B z k i p g = 0) : suF k i (rdVl B z k i p) ∧ (k = 5 → i = 3 → g 2 ≤ rdVl B z k i p) := by
  unfold rdFt at h
  unfold rdVl
  by_cases a : axPl k i
  · rw [if_pos a] at h ⊢
    have hs := axsu ⟨k.toNat, by omega⟩ ⟨i.toNat, by omega⟩
    dsimp only at hs
    rw [show ((k.toNat : Nat) : Int) = k by omega, show ((i.toNat : Nat) : Int) = i by omega] at hs
    have hs := hs a
    have b := axF_b B z p
    by_cases e : axF B z p = -1
    · rw [if_pos e] at h
      omega
    · refine ⟨?_, fun x y => by omega⟩
      rcases (show axF B z p = 0 ∨ axF B z p = 1 by omega) with q | q <;> rw [q]
      · exact hs.1
      · exact hs.2
  · rw [if_neg a] at h ⊢
    by_cases e : nuQ B z p = nuP B z p
    · rw [if_pos e] at h
      omega
    · rw [if_neg e] at h
      by_cases e2 : nuBad B z k i p
      · rw [if_pos e2] at h
        omega
      · rw [if_neg e2] at h
        by_cases e3 : dyBad B z k i p g
        · rw [if_pos e3] at h
          omega
        · exact ⟨Decidable.not_not.mp (fun q => e2 (Or.inr q)), fun x y => by
            by_cases q : nuV B z p < g 2
            · exact absurd ⟨x, y, q⟩ e3
            · omega⟩
/-- what the numbers of a clause without a fault are -/
theorem rdL_ok {B : Int → Int} {z k : Int} (hk : 0 ≤ k ∧ k ≤ 5) : ∀ (c : Nat) (i p : Int) (g : Int → Int), 0 ≤ i → i + c ≤ 5 → 0 ≤ p → p ≤ z → (∀ j, 0 ≤ j → j < i → suF k j (g j)) → (∀ j, i ≤ j → j < 5 → g j = 0) → (k = 5 → 3 < i → g 2 ≤ g 3) → (rdL B z k c i p g).1 = 0 → (∀ j, 0 ≤ j → j < i + c → suF k j ((rdL B z k c i p g).2.2.2 j)) ∧ (∀ j, i + c ≤ j → j < 5 → (rdL B z k c i p g).2.2.2 j = 0) ∧ (k = 5 → 3 < i + c → (rdL B z k c i p g).2.2.2 2 ≤ (rdL B z k c i p g).2.2.2 3) ∧ 0 ≤ (rdL B z k c i p g).2.2.1 ∧ (rdL B z k c i p g).2.2.1 ≤ z
  | 0, i, p, g, h0, h1, p0, p1, hs, hz, hd, hr => by
    simp only [rdL]
    exact ⟨fun j j0 j1 => hs j j0 (by simpa using j1), fun j j0 j1 => hz j (by simpa using j0) j1, fun x y => hd x (by simpa using y), p0, p1⟩
  | c + 1, i, p, g, h0, h1, p0, p1, hs, hz, hd, hr => by
    simp only [rdL] at hr ⊢
    have sk := skE_b B z ⟨p0, p1⟩
    by_cases e : rdFt B z k i (skE B z p) g = 0
    · rw [if_pos e] at hr ⊢
      have pb := rdPl_b (B := B) (z := z) (k := k) (i := i) (p := skE B z p) (g := g) ⟨by omega, sk.2⟩ e
      have su := rd_su hk ⟨h0, by omega⟩ e
      have ih := rdL_ok hk c (i + 1) _ (up1 g i (rdVl B z k i (skE B z p))) (by omega) (by omega) (show 0 ≤ rdPl B z k i (skE B z p) by omega) pb.2 (fun j j0 j1 => by
          by_cases q : j = i
          · rw [q, up1_same]; exact su.1
          · rw [up1_ne q]; exact hs j j0 (by omega)) (fun j j0 j1 => by rw [up1_ne (by omega)]; exact hz j (by omega) j1) (fun x y => by
          by_cases q : i = 3
          · subst q
            rw [up1_same, up1_ne (by decide)]
            exact su.2 x rfl
          · by_cases q2 : i = 2
            · omega
            · rw [up1_ne (by omega), up1_ne (by omega)]
              exact hd x (by omega)) hr
      rw [show i + ((c + 1 : Nat) : Int) = i + 1 + (c : Int) by omega]
      exact ih
    · rw [if_neg e] at hr
      exact absurd hr e
theorem rdC_k {B : Int → Int} {z n p : Int} (hb : bsOk B z) (hp : 0 ≤ p ∧ p < z) (h : (rdC B z n p).1 = 0) : (0 ≤ (rdC B z n p).2.2.2.1 ∧ (rdC B z n p).2.2.2.1 ≤ 5) ∧ n < 16 ∧ okEv (rdC B z n p).2.2.2.1 ((rdC B z n p).2.2.2.2 0) ((rdC B z n p).2.2.2.2 1) ((rdC B z n p).2.2.2.2 2) ((rdC B z n p).2.2.2.2 3) ((rdC B z n p).2.2.2.2 4) ∧ (∀ j, xT 0 (rdC B z n p).2.2.2.1 ≤ j → j < 5 → (rdC B z n p).2.2.2.2 j = 0) ∧ 0 ≤ (rdC B z n p).2.2.1 ∧ (rdC B z n p).2.2.1 ≤ z := by
  have kb := kdF_b B z p
  unfold rdC at h ⊢
  by_cases e1 : kdF B z p = -1
  · rw [if_pos e1] at h
    simp at h
  · rw [if_neg e1] at h ⊢
    by_cases e2 : 16 ≤ n
    · rw [if_pos e2] at h
      simp at h
    · rw [if_neg e2] at h ⊢
      have hk : 0 ≤ kdF B z p ∧ kdF B z p ≤ 5 := by omega
      have xb := xT_0 hk
      have lb := lenF_b (k0 := (kdF B z p).toNat) (by omega)
      have hpz : p + lenF (kdF B z p).toNat ≤ z := by
        have hw : whP B z (kdF B z p).toNat p := of_decide_eq_true ((firI_spec (P := fun k => decide (whP B z k.toNat p)) (n := 6)).2 e1).1
        have f := (firI_spec (P := whB B z (kdF B z p).toNat p) (n := (lenF (kdF B z p).toNat).toNat)).1 hw.1 (lenF (kdF B z p).toNat - 1) (by omega) (by omega)
        have f2 := Decidable.not_not.mp (of_decide_eq_false f)
        have f3 := chrF_b (k0 := (kdF B z p).toNat) (by omega) (i := lenF (kdF B z p).toNat - 1) (by omega) (by omega)
        have := btF_lt (B := B) (z := z) (p := p + (lenF (kdF B z p).toNat - 1)) (by omega)
        omega
      generalize hR : rdL B z (kdF B z p) (xT 0 (kdF B z p)).toNat 0 (p + lenF (kdF B z p).toNat) (fun _ => 0) = R at h ⊢
      by_cases e3 : ¬ R.1 = 0
      · rw [if_pos e3] at h
        exact absurd h e3
      · rw [if_neg e3] at h ⊢
        have e3' : R.1 = 0 := Decidable.not_not.mp e3
        by_cases e4 : btF B z (skE B z R.2.2.1) = 59
        · rw [if_pos e4] at h ⊢
          have ok := rdL_ok (B := B) (z := z) hk (xT 0 (kdF B z p)).toNat 0 (p + lenF (kdF B z p).toNat) (fun _ => 0) (Int.le_refl 0) (by omega) (by omega) hpz (fun j j0 j1 => by omega) (fun _ _ _ => rfl) (fun _ y => by omega) (by rw [hR]; exact e3')
          rw [hR] at ok
          obtain ⟨o1, o2, o3, o4, o5⟩ := ok
          have lt := btF_lt (B := B) (z := z) (p := skE B z R.2.2.1) (by omega)
          dsimp only
          have su : ∀ j, 0 ≤ j → j < 5 → suF (kdF B z p) j (R.2.2.2 j) := fun j j0 j1 => by
            by_cases q : j < xT 0 (kdF B z p)
            · exact o1 j j0 (by omega)
            · exact Or.inl q
          refine ⟨hk, by omega, ⟨hk, fun q => ?_, su 0 (by omega) (by omega), su 1 (by omega) (by omega), su 2 (by omega) (by omega), su 3 (by omega) (by omega), su 4 (by omega) (by omega)⟩, fun j j0 j1 => o2 j (by omega) j1, by omega, by omega⟩
          have := o3 q.1 (by rw [q.1]; decide)
          omega
        · rw [if_neg e4] at h
          simp at h
theorem adF_new {f : Int → Int} {n k a b c d e : Int} (h : okEv k a b c d e) : evOk (adF f n k a b c d e) n := by
  have hk := h.1
  have x0 := xT_0 hk
  have sv : ∀ p v, 0 ≤ p → p ≤ 4 → suF k p v → -40 ≤ (if p < xT 0 k then v else 0) ∧ (if p < xT 0 k then v else 0) ≤ 39 := fun p v p0 p1 hs => by
    split
    · next q =>
      have t := tb_lim ⟨k.toNat, by omega⟩ ⟨p.toNat, by omega⟩
      dsimp only at t
      rw [show ((k.toNat : Nat) : Int) = k by omega, show ((p.toNat : Nat) : Int) = p by omega] at t
      rcases hs with hs | hs
      · exact absurd q hs
      · omega
    · omega
  have r : ∀ p, 0 ≤ p → p ≤ 6 → adF f n k a b c d e (7 * n + p) = rowF k a b c d e p := fun p p0 p1 => by
    unfold adF
    rw [if_pos (by omega), show 7 * n + p - 7 * n = p by omega]
  obtain ⟨-, hd, s0, s1, s2, s3, s4⟩ := h
  have v0 := sv 0 a (by omega) (by omega) s0
  have v1 := sv 1 b (by omega) (by omega) s1
  have v2 := sv 2 c (by omega) (by omega) s2
  have v3 := sv 3 d (by omega) (by omega) s3
  have v4 := sv 4 e (by omega) (by omega) s4
  rw [if_pos (by omega)] at v0 v1
  have r0 := r 0 (by omega) (by omega)
  have r1 := r 1 (by omega) (by omega)
  have r2 := r 2 (by omega) (by omega)
  have r3 := r 3 (by omega) (by omega)
  have r4 := r 4 (by omega) (by omega)
  have r5 := r 5 (by omega) (by omega)
  have r6 := r 6 (by omega) (by omega)
  rw [Int.add_zero] at r0
  simp only [rowF] at r0 r1 r2 r3 r4 r5 r6
  simp at r0 r1 r2 r3 r4 r5 r6
  have su0 : ∀ p v, suF k p v → suF k p (if p < xT 0 k then v else 0) := fun p v hs => by
    split
    · exact hs
    · next q => exact Or.inl q
  unfold evOk
  rw [show 7 * n + 1 + 0 = 7 * n + 1 by omega, show 7 * n + 1 + 1 = 7 * n + 2 by omega, show 7 * n + 1 + 2 = 7 * n + 3 by omega, show 7 * n + 1 + 3 = 7 * n + 4 by omega, show 7 * n + 1 + 4 = 7 * n + 5 by omega, r0, r1, r2, r3, r4, r5, r6]
  refine ⟨⟨hk, fun q => ?_, s0, s1, su0 2 c s2, su0 3 d s3, su0 4 e s4⟩, fun p p0 p1 => ?_, by omega⟩
  · obtain ⟨q1, q2⟩ := q
    rw [q1, show xT 0 5 = 5 by decide] at q2
    simp at q2
    exact hd ⟨q1, q2⟩
  · rcases (show p = 0 ∨ p = 1 ∨ p = 2 ∨ p = 3 ∨ p = 4 by omega) with rfl | rfl | rfl | rfl | rfl
    · rw [show 7 * n + 1 + 0 = 7 * n + 1 by omega, r1]; exact v0
    · rw [show 7 * n + 1 + 1 = 7 * n + 2 by omega, r2]; exact v1
    · rw [show 7 * n + 1 + 2 = 7 * n + 3 by omega, r3]; exact v2
    · rw [show 7 * n + 1 + 3 = 7 * n + 4 by omega, r4]; exact v3
    · rw [show 7 * n + 1 + 4 = 7 * n + 5 by omega, r5]; exact v4
theorem adF_old {f : Int → Int} {n k a b c d e i : Int} (hi : i < n) (h : evOk f i) : evOk (adF f n k a b c d e) i := by
  have r : ∀ j, j < 7 * n → adF f n k a b c d e j = f j := fun j j0 => by
    unfold adF
    rw [if_neg (by omega)]
  unfold evOk
  rw [r _ (by omega), r _ (by omega), r _ (by omega), r _ (by omega), r _ (by omega), r _ (by omega), r _ (by omega)]
  refine ⟨h.1, fun p p0 p1 => ?_, h.2.2⟩
  rw [r _ (by omega)]
  exact h.2.1 p p0 p1
theorem c_X10_readAxis {G : GT} {S : Shp} {σ : Sto} {a : Nat} {k i : Int} (hA : IsTxt S a) (hb : bsOk (σ (a + 1)) (σ a 2)) (hp : 0 ≤ σ a 3 ∧ σ a 3 ≤ σ a 2) (hk : 0 ≤ k ∧ k ≤ 5) (hi : 0 ≤ i ∧ i ≤ 4) (hx : axPl k i) : PMet G mX10_readAxis 6 0 0 [.ref a, .int (iI i)] S σ (fun r S' τ => S' = S ∧ r = some (.int (iI (b01 (rdFt (σ (a + 1)) (σ a 2) k i (σ a 3) (σ (a + 2)) = 0)))) ∧ (rdFt (σ (a + 1)) (σ a 2) k i (σ a 3) (σ (a + 2)) = 0 → τ = upS (upS σ (a + 2) (up1 (σ (a + 2)) i (rdVl (σ (a + 1)) (σ a 2) k i (σ a 3)))) a (up1 (σ a) 3 (rdPl (σ (a + 1)) (σ a 2) k i (σ a 3)))) ∧ (¬ rdFt (σ (a + 1)) (σ a 2) k i (σ a 3) (σ (a + 2)) = 0 → ∃ pl, τ = upS σ a (up1 (up1 (up1 (σ a) 3 pl) 5 (rdFt (σ (a + 1)) (σ a 2) k i (σ a 3) (σ (a + 2)))) 4 (rdAt (σ (a + 1)) (σ a 2) k i (σ a 3))))) := by
  obtain ⟨hA0, hA1, hA2⟩ := id hA
  have hz := hb.1
  have ab := axF_b (σ (a + 1)) (σ a 2) (σ a 3)
  have hft : rdFt (σ (a + 1)) (σ a 2) k i (σ a 3) (σ (a + 2)) = if axF (σ (a + 1)) (σ a 2) (σ a 3) = -1 then 1 else 0 := by unfold rdFt; rw [if_pos hx]
  have hat : rdAt (σ (a + 1)) (σ a 2) k i (σ a 3) = σ a 3 := by unfold rdAt; rw [if_pos hx]
  have hpl : rdPl (σ (a + 1)) (σ a 2) k i (σ a 3) = σ a 3 + 1 := by unfold rdPl; rw [if_pos hx]
  have hvl : rdVl (σ (a + 1)) (σ a 2) k i (σ a 3) = axF (σ (a + 1)) (σ a 2) (σ a 3) := by unfold rdVl; rw [if_pos hx]
  refine PMet.of [(0, .ref a), (1, .int (iI (i)))] (by decide +kernel) rfl (Nat.le_of_ble_eq_true rfl) ?_
  refine PW.aload_n dX10_readAxis_0 rfl ?_
  refine PW.ldcX 6 (by decide) rfl rfl dX10_readAxis_1 ?_
  refine PW.callVr (c_X10_isWordHere (k0 := 6) (by decide) hA hb (by omega)) cv_X10_isWordHere lk_X10_98 hA0 dX10_readAxis_3 rfl rfl rfl rfl ?_
  refine PW.if_eqB 13 dX10_readAxis_6 (by decide) (fun h6 => ?_) (fun h6 => ?_)
  · refine PW.aload_n dX10_readAxis_13 rfl ?_
    refine PW.ldcX 7 (by decide) rfl rfl dX10_readAxis_14 ?_
    refine PW.callVr (c_X10_isWordHere (k0 := 7) (by decide) hA hb (by omega)) cv_X10_isWordHere lk_X10_98 hA0 dX10_readAxis_16 rfl rfl rfl rfl ?_
    refine PW.if_eqB 26 dX10_readAxis_19 (by decide) (fun h19 => ?_) (fun h19 => ?_)
    · refine PW.iconst dX10_readAxis_26 ?_
      refine PW.top (axF (σ (a + 1)) (σ a 2) (σ a 3)) (by unfold axF; rw [if_neg (by assumption)]; first | rw [if_pos (by assumption)] | rw [if_neg (by assumption)]) ?_
      refine PW.istore_n [(0, _), (1, _), (2, _)] dX10_readAxis_27 rfl (Nat.le_of_ble_eq_true rfl) ?_
      refine PW.iload_n dX10_readAxis_28 rfl ?_
      refine PW.iconst dX10_readAxis_29 ?_
      refine PW.icmp_ne 43 dX10_readAxis_30 (by decide) (by first | assumption | (unfold inR; omega)) (by first | assumption | (unfold inR; omega)) (fun h30 => ?_) (fun h30 => ?_)
      · refine PW.aload_n dX10_readAxis_43 rfl ?_
        refine PW.getR fl_X10_17 rfl (by assumption) rfl dX10_readAxis_44 ?_
        refine PW.iload_n dX10_readAxis_47 rfl ?_
        refine PW.iload_n dX10_readAxis_48 rfl ?_
        refine PW.callSv (c_X11_put (by assumption) (by first | assumption | (unfold inR; omega)) (by decide)) cs_X11_put lk_X10_33 dX10_readAxis_49 rfl rfl rfl ?_
        refine PW.st (upS σ (a + 2) (up1 (σ (a + 2)) i (axF (σ (a + 1)) (σ a 2) (σ a 3)))) (by rw [if_pos (by omega)]) ?_
        refine PW.aload_n dX10_readAxis_52 rfl ?_
        refine PW.dup rfl dX10_readAxis_53 ?_
        refine PW.getI 3 fl_X10_24 rfl (by assumption) rfl rfl dX10_readAxis_54 ?_
        refine PW.top (σ a 3) (by rw [upS_ne (by omega)]) ?_
        refine PW.iconst dX10_readAxis_57 ?_
        refine PW.iadd dX10_readAxis_58 ?_
        refine PW.putI 3 fl_X10_24 rfl (fun h => absurd h (by decide)) (by assumption) rfl rfl rfl rfl dX10_readAxis_59 ?_
        refine PW.iconst dX10_readAxis_62 ?_
        rw [if_neg (by assumption)] at hft
        refine PW.iret rfl rfl dX10_readAxis_63 ⟨rfl, ret_eq ?_, fun _ => ?_, fun q => absurd hft q⟩
        · rw [b01_t hft]
        · rw [hpl, hvl, upS_ne (show a ≠ a + 2 by omega)]
      · refine PW.aload_n dX10_readAxis_33 rfl ?_
        refine PW.iconst dX10_readAxis_34 ?_
        refine PW.aload_n dX10_readAxis_35 rfl ?_
        refine PW.getI 3 fl_X10_24 rfl (by assumption) rfl rfl dX10_readAxis_36 ?_
        refine PW.callVr (c_X10_refuse (by assumption)) cv_X10_refuse lk_X10_53 (by first | assumption | exact And.left (by assumption)) dX10_readAxis_39 rfl rfl rfl rfl ?_
        rw [if_pos (by assumption)] at hft
        refine PW.iret rfl rfl dX10_readAxis_42 ⟨rfl, ret_eq ?_, fun q => by omega, fun _ => ⟨σ a 3, ?_⟩⟩
        · rw [b01_f (by decide), b01_f (by omega)]
        · rw [hft, hat, up1_self]
    · refine PW.iconst dX10_readAxis_22 ?_
      refine PW.goto 27 dX10_readAxis_23 (by decide) ?_
      refine PW.top (axF (σ (a + 1)) (σ a 2) (σ a 3)) (by unfold axF; rw [if_neg (by assumption)]; first | rw [if_pos (by assumption)] | rw [if_neg (by assumption)]) ?_
      refine PW.istore_n [(0, _), (1, _), (2, _)] dX10_readAxis_27 rfl (Nat.le_of_ble_eq_true rfl) ?_
      refine PW.iload_n dX10_readAxis_28 rfl ?_
      refine PW.iconst dX10_readAxis_29 ?_
      refine PW.icmp_ne 43 dX10_readAxis_30 (by decide) (by first | assumption | (unfold inR; omega)) (by first | assumption | (unfold inR; omega)) (fun h30 => ?_) (fun h30 => ?_)
      · refine PW.aload_n dX10_readAxis_43 rfl ?_
        refine PW.getR fl_X10_17 rfl (by assumption) rfl dX10_readAxis_44 ?_
        refine PW.iload_n dX10_readAxis_47 rfl ?_
        refine PW.iload_n dX10_readAxis_48 rfl ?_
        refine PW.callSv (c_X11_put (by assumption) (by first | assumption | (unfold inR; omega)) (by decide)) cs_X11_put lk_X10_33 dX10_readAxis_49 rfl rfl rfl ?_
        refine PW.st (upS σ (a + 2) (up1 (σ (a + 2)) i (axF (σ (a + 1)) (σ a 2) (σ a 3)))) (by rw [if_pos (by omega)]) ?_
        refine PW.aload_n dX10_readAxis_52 rfl ?_
        refine PW.dup rfl dX10_readAxis_53 ?_
        refine PW.getI 3 fl_X10_24 rfl (by assumption) rfl rfl dX10_readAxis_54 ?_
        refine PW.top (σ a 3) (by rw [upS_ne (by omega)]) ?_
        refine PW.iconst dX10_readAxis_57 ?_
        refine PW.iadd dX10_readAxis_58 ?_
        refine PW.putI 3 fl_X10_24 rfl (fun h => absurd h (by decide)) (by assumption) rfl rfl rfl rfl dX10_readAxis_59 ?_
        refine PW.iconst dX10_readAxis_62 ?_
        rw [if_neg (by assumption)] at hft
        refine PW.iret rfl rfl dX10_readAxis_63 ⟨rfl, ret_eq ?_, fun _ => ?_, fun q => absurd hft q⟩
        · rw [b01_t hft]
        · rw [hpl, hvl, upS_ne (show a ≠ a + 2 by omega)]
      · refine PW.aload_n dX10_readAxis_33 rfl ?_
        refine PW.iconst dX10_readAxis_34 ?_
        refine PW.aload_n dX10_readAxis_35 rfl ?_
        refine PW.getI 3 fl_X10_24 rfl (by assumption) rfl rfl dX10_readAxis_36 ?_
        refine PW.callVr (c_X10_refuse (by assumption)) cv_X10_refuse lk_X10_53 (by first | assumption | exact And.left (by assumption)) dX10_readAxis_39 rfl rfl rfl rfl ?_
        rw [if_pos (by assumption)] at hft
        refine PW.iret rfl rfl dX10_readAxis_42 ⟨rfl, ret_eq ?_, fun q => by omega, fun _ => ⟨σ a 3, ?_⟩⟩
        · rw [b01_f (by decide), b01_f (by omega)]
        · rw [hft, hat, up1_self]
  · refine PW.iconst dX10_readAxis_9 ?_
    refine PW.goto 27 dX10_readAxis_10 (by decide) ?_
    refine PW.top (axF (σ (a + 1)) (σ a 2) (σ a 3)) (by unfold axF; rw [if_pos (by assumption)]) ?_
    refine PW.istore_n [(0, _), (1, _), (2, _)] dX10_readAxis_27 rfl (Nat.le_of_ble_eq_true rfl) ?_
    refine PW.iload_n dX10_readAxis_28 rfl ?_
    refine PW.iconst dX10_readAxis_29 ?_
    refine PW.icmp_ne 43 dX10_readAxis_30 (by decide) (by first | assumption | (unfold inR; omega)) (by first | assumption | (unfold inR; omega)) (fun h30 => ?_) (fun h30 => ?_)
    · refine PW.aload_n dX10_readAxis_43 rfl ?_
      refine PW.getR fl_X10_17 rfl (by assumption) rfl dX10_readAxis_44 ?_
      refine PW.iload_n dX10_readAxis_47 rfl ?_
      refine PW.iload_n dX10_readAxis_48 rfl ?_
      refine PW.callSv (c_X11_put (by assumption) (by first | assumption | (unfold inR; omega)) (by decide)) cs_X11_put lk_X10_33 dX10_readAxis_49 rfl rfl rfl ?_
      refine PW.st (upS σ (a + 2) (up1 (σ (a + 2)) i (axF (σ (a + 1)) (σ a 2) (σ a 3)))) (by rw [if_pos (by omega)]) ?_
      refine PW.aload_n dX10_readAxis_52 rfl ?_
      refine PW.dup rfl dX10_readAxis_53 ?_
      refine PW.getI 3 fl_X10_24 rfl (by assumption) rfl rfl dX10_readAxis_54 ?_
      refine PW.top (σ a 3) (by rw [upS_ne (by omega)]) ?_
      refine PW.iconst dX10_readAxis_57 ?_
      refine PW.iadd dX10_readAxis_58 ?_
      refine PW.putI 3 fl_X10_24 rfl (fun h => absurd h (by decide)) (by assumption) rfl rfl rfl rfl dX10_readAxis_59 ?_
      refine PW.iconst dX10_readAxis_62 ?_
      rw [if_neg (by assumption)] at hft
      refine PW.iret rfl rfl dX10_readAxis_63 ⟨rfl, ret_eq ?_, fun _ => ?_, fun q => absurd hft q⟩
      · rw [b01_t hft]
      · rw [hpl, hvl, upS_ne (show a ≠ a + 2 by omega)]
    · refine PW.aload_n dX10_readAxis_33 rfl ?_
      refine PW.iconst dX10_readAxis_34 ?_
      refine PW.aload_n dX10_readAxis_35 rfl ?_
      refine PW.getI 3 fl_X10_24 rfl (by assumption) rfl rfl dX10_readAxis_36 ?_
      refine PW.callVr (c_X10_refuse (by assumption)) cv_X10_refuse lk_X10_53 (by first | assumption | exact And.left (by assumption)) dX10_readAxis_39 rfl rfl rfl rfl ?_
      rw [if_pos (by assumption)] at hft
      refine PW.iret rfl rfl dX10_readAxis_42 ⟨rfl, ret_eq ?_, fun q => by omega, fun _ => ⟨σ a 3, ?_⟩⟩
      · rw [b01_f (by decide), b01_f (by omega)]
      · rw [hft, hat, up1_self]
theorem num_rest {G : GT} {S : Shp} {σ : Sto} {a : Nat} {k i : Int} (hA : IsTxt S a) (hb : bsOk (σ (a + 1)) (σ a 2)) (hp : 0 ≤ σ a 3 ∧ σ a 3 ≤ σ a 2) (hk : 0 ≤ k ∧ k ≤ 5) (hi : 0 ≤ i ∧ i ≤ 4) (hx : ¬ axPl k i) (rg : -40 ≤ σ (a + 2) 2 ∧ σ (a + 2) 2 ≤ 39) : PW (fm G mX10_readNumber 3 0 0 (fun r S' τ => S' = S ∧ r = some (.int (iI (b01 (rdFt (σ (a + 1)) (σ a 2) k i (σ a 3) (σ (a + 2)) = 0)))) ∧ (rdFt (σ (a + 1)) (σ a 2) k i (σ a 3) (σ (a + 2)) = 0 → τ = upS (upS σ (a + 2) (up1 (σ (a + 2)) i (rdVl (σ (a + 1)) (σ a 2) k i (σ a 3)))) a (up1 (σ a) 3 (rdPl (σ (a + 1)) (σ a 2) k i (σ a 3)))) ∧ (¬ rdFt (σ (a + 1)) (σ a 2) k i (σ a 3) (σ (a + 2)) = 0 → ∃ pl, τ = upS σ a (up1 (up1 (up1 (σ a) 3 pl) 5 (rdFt (σ (a + 1)) (σ a 2) k i (σ a 3) (σ (a + 2)))) 4 (rdAt (σ (a + 1)) (σ a 2) k i (σ a 3)))))) G S (upS σ a (up1 (σ a) 3 ((nuQ (σ (a + 1)) (σ a 2) (σ a 3))))) 0 0 112 [(0, .ref a), (1, .int (iI (k))), (2, .int (iI (i))), (3, .int (iI (σ a 3))), (4, .int (iI (b01 (btF (σ (a + 1)) (σ a 2) (σ a 3) = 45)))), (5, .int (iI ((nuQ (σ (a + 1)) (σ a 2) (σ a 3)) - (nuP (σ (a + 1)) (σ a 2) (σ a 3))))), (6, .int (iI (dgF (σ (a + 1)) (nuP (σ (a + 1)) (σ a 2) (σ a 3)) (nuQ (σ (a + 1)) (σ a 2) (σ a 3)))))] [] := by
  obtain ⟨hA0, hA1, hA2⟩ := id hA
  have hz := hb.1
  have pb := nuP_b (B := σ (a + 1)) hp
  have qb := nuQ_b (B := σ (a + 1)) hp
  have vb := nuV_b (σ (a + 1)) (σ a 2) (σ a 3)
  have db := dgF_b (B := σ (a + 1)) (z := σ a 2) (p := (nuP (σ (a + 1)) (σ a 2) (σ a 3)))
  have hft : rdFt (σ (a + 1)) (σ a 2) k i (σ a 3) (σ (a + 2)) = if (nuQ (σ (a + 1)) (σ a 2) (σ a 3)) = (nuP (σ (a + 1)) (σ a 2) (σ a 3)) then 1 else if nuBad (σ (a + 1)) (σ a 2) k i (σ a 3) then 2 else if dyBad (σ (a + 1)) (σ a 2) k i (σ a 3) (σ (a + 2)) then 2 else 0 := by unfold rdFt; rw [if_neg hx]
  have hat : rdAt (σ (a + 1)) (σ a 2) k i (σ a 3) = if (nuQ (σ (a + 1)) (σ a 2) (σ a 3)) = (nuP (σ (a + 1)) (σ a 2) (σ a 3)) then (nuP (σ (a + 1)) (σ a 2) (σ a 3)) else σ a 3 := by unfold rdAt; rw [if_neg hx]
  have hpl : rdPl (σ (a + 1)) (σ a 2) k i (σ a 3) = (nuQ (σ (a + 1)) (σ a 2) (σ a 3)) := by unfold rdPl; rw [if_neg hx]
  have hvl : rdVl (σ (a + 1)) (σ a 2) k i (σ a 3) = nuV (σ (a + 1)) (σ a 2) (σ a 3) := by unfold rdVl; rw [if_neg hx]
  refine PW.iload dX10_readNumber_112 rfl ?_
  refine PW.if_ne 127 dX10_readNumber_114 (by decide) (by first | assumption | (unfold inR; unfold nuQ at *; omega)) (fun h114 => ?_) (fun h114 => ?_)
  · refine PW.iload dX10_readNumber_127 rfl ?_
    refine PW.if_eqB 137 dX10_readNumber_129 (by decide) (fun h129 => ?_) (fun h129 => ?_)
    · have hv : dgF (σ (a + 1)) (nuP (σ (a + 1)) (σ a 2) (σ a 3)) (nuQ (σ (a + 1)) (σ a 2) (σ a 3)) = nuV (σ (a + 1)) (σ a 2) (σ a 3) := by
        unfold nuV
        first
          | rw [if_neg (by assumption)]
          | rw [if_pos (by assumption)]
      rw [hv]
      refine PW.iload dX10_readNumber_137 rfl ?_
      refine PW.iconst dX10_readNumber_139 ?_
      refine PW.icmp_gt 153 dX10_readNumber_140 (by decide) (by first | assumption | (unfold inR; omega)) (by first | assumption | (unfold inR; omega)) (fun h140 => ?_) (fun h140 => ?_)
      · refine PW.aload_n dX10_readNumber_153 rfl ?_
        refine PW.iconst dX10_readNumber_154 ?_
        refine PW.iload_n dX10_readNumber_155 rfl ?_
        refine PW.callVr (c_X10_refuse (by assumption)) cv_X10_refuse lk_X10_53 (by first | assumption | exact And.left (by assumption)) dX10_readNumber_156 rfl rfl rfl rfl ?_
        first
          | (have q : (nuQ (σ (a + 1)) (σ a 2) (σ a 3)) = (nuP (σ (a + 1)) (σ a 2) (σ a 3)) := by omega
             rw [if_pos q] at hft hat
             refine PW.iret rfl rfl dX10_readNumber_159 ⟨rfl, ret_eq ?_, fun q => by omega, fun _ => ⟨(nuQ (σ (a + 1)) (σ a 2) (σ a 3)), ?_⟩⟩
             · rw [b01_f (by decide), b01_f (by omega)]
             · rw [hft, hat, upS_upS, upS_same, q])
          | (have q : ¬ (nuQ (σ (a + 1)) (σ a 2) (σ a 3)) = (nuP (σ (a + 1)) (σ a 2) (σ a 3)) := by omega
             rw [if_neg q] at hft hat
             have q2 : nuBad (σ (a + 1)) (σ a 2) k i (σ a 3) := by first | exact Or.inl (by omega) | exact Or.inr (by assumption)
             rw [if_pos q2] at hft
             refine PW.iret rfl rfl dX10_readNumber_159 ⟨rfl, ret_eq ?_, fun q => by omega, fun _ => ⟨(nuQ (σ (a + 1)) (σ a 2) (σ a 3)), ?_⟩⟩
             · rw [b01_f (by decide), b01_f (by omega)]
             · rw [hft, hat, upS_upS, upS_same])
          | (have q : ¬ (nuQ (σ (a + 1)) (σ a 2) (σ a 3)) = (nuP (σ (a + 1)) (σ a 2) (σ a 3)) := by omega
             rw [if_neg q] at hft hat
             have q2 : ¬ nuBad (σ (a + 1)) (σ a 2) k i (σ a 3) := fun x => by rcases x with x | x <;> first | omega | exact x (by assumption)
             have q3 : dyBad (σ (a + 1)) (σ a 2) k i (σ a 3) (σ (a + 2)) := ⟨by omega, by omega, by omega⟩
             rw [if_neg q2, if_pos q3] at hft
             refine PW.iret rfl rfl dX10_readNumber_159 ⟨rfl, ret_eq ?_, fun q => by omega, fun _ => ⟨(nuQ (σ (a + 1)) (σ a 2) (σ a 3)), ?_⟩⟩
             · rw [b01_f (by decide), b01_f (by omega)]
             · rw [hft, hat, upS_upS, upS_same])
      · refine PW.iload_n dX10_readNumber_143 rfl ?_
        refine PW.iload_n dX10_readNumber_144 rfl ?_
        refine PW.iload dX10_readNumber_145 rfl ?_
        refine PW.callSr (c_X5_suits hk hi (by unfold inR; omega)) cs_X5_suits lk_X10_107 dX10_readNumber_147 rfl rfl rfl ?_
        refine PW.if_neB 160 dX10_readNumber_150 (by decide) (fun h150 => ?_) (fun h150 => ?_)
        · refine PW.iload_n dX10_readNumber_160 rfl ?_
          refine PW.iconst dX10_readNumber_161 ?_
          refine PW.icmp_ne 190 dX10_readNumber_162 (by decide) (by first | assumption | (unfold inR; omega)) (by first | assumption | (unfold inR; omega)) (fun h162 => ?_) (fun h162 => ?_)
          · refine PW.aload_n dX10_readNumber_190 rfl ?_
            refine PW.getR fl_X10_17 rfl (by assumption) rfl dX10_readNumber_191 ?_
            refine PW.iload_n dX10_readNumber_194 rfl ?_
            refine PW.iload dX10_readNumber_195 rfl ?_
            refine PW.callSv (c_X11_put (by assumption) (by first | assumption | (unfold inR; omega)) (by decide)) cs_X11_put lk_X10_33 dX10_readNumber_197 rfl rfl rfl ?_
            refine PW.iconst dX10_readNumber_200 ?_
            have q : ¬ (nuQ (σ (a + 1)) (σ a 2) (σ a 3)) = (nuP (σ (a + 1)) (σ a 2) (σ a 3)) := by omega
            have q2 : ¬ nuBad (σ (a + 1)) (σ a 2) k i (σ a 3) := fun x => by rcases x with x | x <;> first | omega | exact x (by assumption)
            have q3 : ¬ dyBad (σ (a + 1)) (σ a 2) k i (σ a 3) (σ (a + 2)) := fun x => by have x1 := x.1; have x2 := x.2.1; have x3 := x.2.2; omega
            rw [if_neg q, if_neg q2, if_neg q3] at hft
            refine PW.iret rfl rfl dX10_readNumber_201 ⟨rfl, ret_eq ?_, fun _ => ?_, fun q => absurd hft q⟩
            · rw [b01_t hft]
            · rw [if_pos (by omega), hpl, hvl, upS_ne (show a + 2 ≠ a by omega)]
              rw [upS_comm (show a ≠ a + 2 by omega)]
          · refine PW.iload_n dX10_readNumber_165 rfl ?_
            refine PW.iconst dX10_readNumber_166 ?_
            refine PW.icmp_ne 190 dX10_readNumber_167 (by decide) (by first | assumption | (unfold inR; omega)) (by first | assumption | (unfold inR; omega)) (fun h167 => ?_) (fun h167 => ?_)
            · refine PW.aload_n dX10_readNumber_190 rfl ?_
              refine PW.getR fl_X10_17 rfl (by assumption) rfl dX10_readNumber_191 ?_
              refine PW.iload_n dX10_readNumber_194 rfl ?_
              refine PW.iload dX10_readNumber_195 rfl ?_
              refine PW.callSv (c_X11_put (by assumption) (by first | assumption | (unfold inR; omega)) (by decide)) cs_X11_put lk_X10_33 dX10_readNumber_197 rfl rfl rfl ?_
              refine PW.iconst dX10_readNumber_200 ?_
              have q : ¬ (nuQ (σ (a + 1)) (σ a 2) (σ a 3)) = (nuP (σ (a + 1)) (σ a 2) (σ a 3)) := by omega
              have q2 : ¬ nuBad (σ (a + 1)) (σ a 2) k i (σ a 3) := fun x => by rcases x with x | x <;> first | omega | exact x (by assumption)
              have q3 : ¬ dyBad (σ (a + 1)) (σ a 2) k i (σ a 3) (σ (a + 2)) := fun x => by have x1 := x.1; have x2 := x.2.1; have x3 := x.2.2; omega
              rw [if_neg q, if_neg q2, if_neg q3] at hft
              refine PW.iret rfl rfl dX10_readNumber_201 ⟨rfl, ret_eq ?_, fun _ => ?_, fun q => absurd hft q⟩
              · rw [b01_t hft]
              · rw [if_pos (by omega), hpl, hvl, upS_ne (show a + 2 ≠ a by omega)]
                rw [upS_comm (show a ≠ a + 2 by omega)]
            · refine PW.iload dX10_readNumber_170 rfl ?_
              refine PW.aload_n dX10_readNumber_172 rfl ?_
              refine PW.getR fl_X10_17 rfl (by assumption) rfl dX10_readNumber_173 ?_
              refine PW.iconst dX10_readNumber_176 ?_
              refine PW.callSr (c_X11_get (by assumption) (by first | assumption | (unfold inR; omega)) (by decide)) cs_X11_get lk_X10_88 dX10_readNumber_177 rfl rfl rfl ?_
              refine PW.top (σ (a + 2) 2) (by unfold gI; rw [if_pos (by decide), upS_ne (by omega)]) ?_
              refine PW.icmp_ge 190 dX10_readNumber_180 (by decide) (by first | assumption | (unfold inR; omega)) (by first | assumption | (unfold inR; omega)) (fun h180 => ?_) (fun h180 => ?_)
              · refine PW.aload_n dX10_readNumber_190 rfl ?_
                refine PW.getR fl_X10_17 rfl (by assumption) rfl dX10_readNumber_191 ?_
                refine PW.iload_n dX10_readNumber_194 rfl ?_
                refine PW.iload dX10_readNumber_195 rfl ?_
                refine PW.callSv (c_X11_put (by assumption) (by first | assumption | (unfold inR; omega)) (by decide)) cs_X11_put lk_X10_33 dX10_readNumber_197 rfl rfl rfl ?_
                refine PW.iconst dX10_readNumber_200 ?_
                have q : ¬ (nuQ (σ (a + 1)) (σ a 2) (σ a 3)) = (nuP (σ (a + 1)) (σ a 2) (σ a 3)) := by omega
                have q2 : ¬ nuBad (σ (a + 1)) (σ a 2) k i (σ a 3) := fun x => by rcases x with x | x <;> first | omega | exact x (by assumption)
                have q3 : ¬ dyBad (σ (a + 1)) (σ a 2) k i (σ a 3) (σ (a + 2)) := fun x => by have x1 := x.1; have x2 := x.2.1; have x3 := x.2.2; omega
                rw [if_neg q, if_neg q2, if_neg q3] at hft
                refine PW.iret rfl rfl dX10_readNumber_201 ⟨rfl, ret_eq ?_, fun _ => ?_, fun q => absurd hft q⟩
                · rw [b01_t hft]
                · rw [if_pos (by omega), hpl, hvl, upS_ne (show a + 2 ≠ a by omega)]
                  rw [upS_comm (show a ≠ a + 2 by omega)]
              · refine PW.aload_n dX10_readNumber_183 rfl ?_
                refine PW.iconst dX10_readNumber_184 ?_
                refine PW.iload_n dX10_readNumber_185 rfl ?_
                refine PW.callVr (c_X10_refuse (by assumption)) cv_X10_refuse lk_X10_53 (by first | assumption | exact And.left (by assumption)) dX10_readNumber_186 rfl rfl rfl rfl ?_
                first
                  | (have q : (nuQ (σ (a + 1)) (σ a 2) (σ a 3)) = (nuP (σ (a + 1)) (σ a 2) (σ a 3)) := by omega
                     rw [if_pos q] at hft hat
                     refine PW.iret rfl rfl dX10_readNumber_189 ⟨rfl, ret_eq ?_, fun q => by omega, fun _ => ⟨(nuQ (σ (a + 1)) (σ a 2) (σ a 3)), ?_⟩⟩
                     · rw [b01_f (by decide), b01_f (by omega)]
                     · rw [hft, hat, upS_upS, upS_same, q])
                  | (have q : ¬ (nuQ (σ (a + 1)) (σ a 2) (σ a 3)) = (nuP (σ (a + 1)) (σ a 2) (σ a 3)) := by omega
                     rw [if_neg q] at hft hat
                     have q2 : nuBad (σ (a + 1)) (σ a 2) k i (σ a 3) := by first | exact Or.inl (by omega) | exact Or.inr (by assumption)
                     rw [if_pos q2] at hft
                     refine PW.iret rfl rfl dX10_readNumber_189 ⟨rfl, ret_eq ?_, fun q => by omega, fun _ => ⟨(nuQ (σ (a + 1)) (σ a 2) (σ a 3)), ?_⟩⟩
                     · rw [b01_f (by decide), b01_f (by omega)]
                     · rw [hft, hat, upS_upS, upS_same])
                  | (have q : ¬ (nuQ (σ (a + 1)) (σ a 2) (σ a 3)) = (nuP (σ (a + 1)) (σ a 2) (σ a 3)) := by omega
                     rw [if_neg q] at hft hat
                     have q2 : ¬ nuBad (σ (a + 1)) (σ a 2) k i (σ a 3) := fun x => by rcases x with x | x <;> first | omega | exact x (by assumption)
                     have q3 : dyBad (σ (a + 1)) (σ a 2) k i (σ a 3) (σ (a + 2)) := ⟨by omega, by omega, by omega⟩
                     rw [if_neg q2, if_pos q3] at hft
                     refine PW.iret rfl rfl dX10_readNumber_189 ⟨rfl, ret_eq ?_, fun q => by omega, fun _ => ⟨(nuQ (σ (a + 1)) (σ a 2) (σ a 3)), ?_⟩⟩
                     · rw [b01_f (by decide), b01_f (by omega)]
                     · rw [hft, hat, upS_upS, upS_same])
        · refine PW.aload_n dX10_readNumber_153 rfl ?_
          refine PW.iconst dX10_readNumber_154 ?_
          refine PW.iload_n dX10_readNumber_155 rfl ?_
          refine PW.callVr (c_X10_refuse (by assumption)) cv_X10_refuse lk_X10_53 (by first | assumption | exact And.left (by assumption)) dX10_readNumber_156 rfl rfl rfl rfl ?_
          first
            | (have q : (nuQ (σ (a + 1)) (σ a 2) (σ a 3)) = (nuP (σ (a + 1)) (σ a 2) (σ a 3)) := by omega
               rw [if_pos q] at hft hat
               refine PW.iret rfl rfl dX10_readNumber_159 ⟨rfl, ret_eq ?_, fun q => by omega, fun _ => ⟨(nuQ (σ (a + 1)) (σ a 2) (σ a 3)), ?_⟩⟩
               · rw [b01_f (by decide), b01_f (by omega)]
               · rw [hft, hat, upS_upS, upS_same, q])
            | (have q : ¬ (nuQ (σ (a + 1)) (σ a 2) (σ a 3)) = (nuP (σ (a + 1)) (σ a 2) (σ a 3)) := by omega
               rw [if_neg q] at hft hat
               have q2 : nuBad (σ (a + 1)) (σ a 2) k i (σ a 3) := by first | exact Or.inl (by omega) | exact Or.inr (by assumption)
               rw [if_pos q2] at hft
               refine PW.iret rfl rfl dX10_readNumber_159 ⟨rfl, ret_eq ?_, fun q => by omega, fun _ => ⟨(nuQ (σ (a + 1)) (σ a 2) (σ a 3)), ?_⟩⟩
               · rw [b01_f (by decide), b01_f (by omega)]
               · rw [hft, hat, upS_upS, upS_same])
            | (have q : ¬ (nuQ (σ (a + 1)) (σ a 2) (σ a 3)) = (nuP (σ (a + 1)) (σ a 2) (σ a 3)) := by omega
               rw [if_neg q] at hft hat
               have q2 : ¬ nuBad (σ (a + 1)) (σ a 2) k i (σ a 3) := fun x => by rcases x with x | x <;> first | omega | exact x (by assumption)
               have q3 : dyBad (σ (a + 1)) (σ a 2) k i (σ a 3) (σ (a + 2)) := ⟨by omega, by omega, by omega⟩
               rw [if_neg q2, if_pos q3] at hft
               refine PW.iret rfl rfl dX10_readNumber_159 ⟨rfl, ret_eq ?_, fun q => by omega, fun _ => ⟨(nuQ (σ (a + 1)) (σ a 2) (σ a 3)), ?_⟩⟩
               · rw [b01_f (by decide), b01_f (by omega)]
               · rw [hft, hat, upS_upS, upS_same])
    · refine PW.iload dX10_readNumber_132 rfl ?_
      refine PW.ineg dX10_readNumber_134 ?_
      refine PW.istore [(0, _), (1, _), (2, _), (3, _), (4, _), (5, _), (6, _)] dX10_readNumber_135 rfl (Nat.le_of_ble_eq_true rfl) ?_
      have hv : -(dgF (σ (a + 1)) (nuP (σ (a + 1)) (σ a 2) (σ a 3)) (nuQ (σ (a + 1)) (σ a 2) (σ a 3))) = nuV (σ (a + 1)) (σ a 2) (σ a 3) := by
        unfold nuV
        first
          | rw [if_neg (by assumption)]
          | rw [if_pos (by assumption)]
      rw [hv]
      refine PW.iload dX10_readNumber_137 rfl ?_
      refine PW.iconst dX10_readNumber_139 ?_
      refine PW.icmp_gt 153 dX10_readNumber_140 (by decide) (by first | assumption | (unfold inR; omega)) (by first | assumption | (unfold inR; omega)) (fun h140 => ?_) (fun h140 => ?_)
      · refine PW.aload_n dX10_readNumber_153 rfl ?_
        refine PW.iconst dX10_readNumber_154 ?_
        refine PW.iload_n dX10_readNumber_155 rfl ?_
        refine PW.callVr (c_X10_refuse (by assumption)) cv_X10_refuse lk_X10_53 (by first | assumption | exact And.left (by assumption)) dX10_readNumber_156 rfl rfl rfl rfl ?_
        first
          | (have q : (nuQ (σ (a + 1)) (σ a 2) (σ a 3)) = (nuP (σ (a + 1)) (σ a 2) (σ a 3)) := by omega
             rw [if_pos q] at hft hat
             refine PW.iret rfl rfl dX10_readNumber_159 ⟨rfl, ret_eq ?_, fun q => by omega, fun _ => ⟨(nuQ (σ (a + 1)) (σ a 2) (σ a 3)), ?_⟩⟩
             · rw [b01_f (by decide), b01_f (by omega)]
             · rw [hft, hat, upS_upS, upS_same, q])
          | (have q : ¬ (nuQ (σ (a + 1)) (σ a 2) (σ a 3)) = (nuP (σ (a + 1)) (σ a 2) (σ a 3)) := by omega
             rw [if_neg q] at hft hat
             have q2 : nuBad (σ (a + 1)) (σ a 2) k i (σ a 3) := by first | exact Or.inl (by omega) | exact Or.inr (by assumption)
             rw [if_pos q2] at hft
             refine PW.iret rfl rfl dX10_readNumber_159 ⟨rfl, ret_eq ?_, fun q => by omega, fun _ => ⟨(nuQ (σ (a + 1)) (σ a 2) (σ a 3)), ?_⟩⟩
             · rw [b01_f (by decide), b01_f (by omega)]
             · rw [hft, hat, upS_upS, upS_same])
          | (have q : ¬ (nuQ (σ (a + 1)) (σ a 2) (σ a 3)) = (nuP (σ (a + 1)) (σ a 2) (σ a 3)) := by omega
             rw [if_neg q] at hft hat
             have q2 : ¬ nuBad (σ (a + 1)) (σ a 2) k i (σ a 3) := fun x => by rcases x with x | x <;> first | omega | exact x (by assumption)
             have q3 : dyBad (σ (a + 1)) (σ a 2) k i (σ a 3) (σ (a + 2)) := ⟨by omega, by omega, by omega⟩
             rw [if_neg q2, if_pos q3] at hft
             refine PW.iret rfl rfl dX10_readNumber_159 ⟨rfl, ret_eq ?_, fun q => by omega, fun _ => ⟨(nuQ (σ (a + 1)) (σ a 2) (σ a 3)), ?_⟩⟩
             · rw [b01_f (by decide), b01_f (by omega)]
             · rw [hft, hat, upS_upS, upS_same])
      · refine PW.iload_n dX10_readNumber_143 rfl ?_
        refine PW.iload_n dX10_readNumber_144 rfl ?_
        refine PW.iload dX10_readNumber_145 rfl ?_
        refine PW.callSr (c_X5_suits hk hi (by unfold inR; omega)) cs_X5_suits lk_X10_107 dX10_readNumber_147 rfl rfl rfl ?_
        refine PW.if_neB 160 dX10_readNumber_150 (by decide) (fun h150 => ?_) (fun h150 => ?_)
        · refine PW.iload_n dX10_readNumber_160 rfl ?_
          refine PW.iconst dX10_readNumber_161 ?_
          refine PW.icmp_ne 190 dX10_readNumber_162 (by decide) (by first | assumption | (unfold inR; omega)) (by first | assumption | (unfold inR; omega)) (fun h162 => ?_) (fun h162 => ?_)
          · refine PW.aload_n dX10_readNumber_190 rfl ?_
            refine PW.getR fl_X10_17 rfl (by assumption) rfl dX10_readNumber_191 ?_
            refine PW.iload_n dX10_readNumber_194 rfl ?_
            refine PW.iload dX10_readNumber_195 rfl ?_
            refine PW.callSv (c_X11_put (by assumption) (by first | assumption | (unfold inR; omega)) (by decide)) cs_X11_put lk_X10_33 dX10_readNumber_197 rfl rfl rfl ?_
            refine PW.iconst dX10_readNumber_200 ?_
            have q : ¬ (nuQ (σ (a + 1)) (σ a 2) (σ a 3)) = (nuP (σ (a + 1)) (σ a 2) (σ a 3)) := by omega
            have q2 : ¬ nuBad (σ (a + 1)) (σ a 2) k i (σ a 3) := fun x => by rcases x with x | x <;> first | omega | exact x (by assumption)
            have q3 : ¬ dyBad (σ (a + 1)) (σ a 2) k i (σ a 3) (σ (a + 2)) := fun x => by have x1 := x.1; have x2 := x.2.1; have x3 := x.2.2; omega
            rw [if_neg q, if_neg q2, if_neg q3] at hft
            refine PW.iret rfl rfl dX10_readNumber_201 ⟨rfl, ret_eq ?_, fun _ => ?_, fun q => absurd hft q⟩
            · rw [b01_t hft]
            · rw [if_pos (by omega), hpl, hvl, upS_ne (show a + 2 ≠ a by omega)]
              rw [upS_comm (show a ≠ a + 2 by omega)]
          · refine PW.iload_n dX10_readNumber_165 rfl ?_
            refine PW.iconst dX10_readNumber_166 ?_
            refine PW.icmp_ne 190 dX10_readNumber_167 (by decide) (by first | assumption | (unfold inR; omega)) (by first | assumption | (unfold inR; omega)) (fun h167 => ?_) (fun h167 => ?_)
            · refine PW.aload_n dX10_readNumber_190 rfl ?_
              refine PW.getR fl_X10_17 rfl (by assumption) rfl dX10_readNumber_191 ?_
              refine PW.iload_n dX10_readNumber_194 rfl ?_
              refine PW.iload dX10_readNumber_195 rfl ?_
              refine PW.callSv (c_X11_put (by assumption) (by first | assumption | (unfold inR; omega)) (by decide)) cs_X11_put lk_X10_33 dX10_readNumber_197 rfl rfl rfl ?_
              refine PW.iconst dX10_readNumber_200 ?_
              have q : ¬ (nuQ (σ (a + 1)) (σ a 2) (σ a 3)) = (nuP (σ (a + 1)) (σ a 2) (σ a 3)) := by omega
              have q2 : ¬ nuBad (σ (a + 1)) (σ a 2) k i (σ a 3) := fun x => by rcases x with x | x <;> first | omega | exact x (by assumption)
              have q3 : ¬ dyBad (σ (a + 1)) (σ a 2) k i (σ a 3) (σ (a + 2)) := fun x => by have x1 := x.1; have x2 := x.2.1; have x3 := x.2.2; omega
              rw [if_neg q, if_neg q2, if_neg q3] at hft
              refine PW.iret rfl rfl dX10_readNumber_201 ⟨rfl, ret_eq ?_, fun _ => ?_, fun q => absurd hft q⟩
              · rw [b01_t hft]
              · rw [if_pos (by omega), hpl, hvl, upS_ne (show a + 2 ≠ a by omega)]
                rw [upS_comm (show a ≠ a + 2 by omega)]
            · refine PW.iload dX10_readNumber_170 rfl ?_
              refine PW.aload_n dX10_readNumber_172 rfl ?_
              refine PW.getR fl_X10_17 rfl (by assumption) rfl dX10_readNumber_173 ?_
              refine PW.iconst dX10_readNumber_176 ?_
              refine PW.callSr (c_X11_get (by assumption) (by first | assumption | (unfold inR; omega)) (by decide)) cs_X11_get lk_X10_88 dX10_readNumber_177 rfl rfl rfl ?_
              refine PW.top (σ (a + 2) 2) (by unfold gI; rw [if_pos (by decide), upS_ne (by omega)]) ?_
              refine PW.icmp_ge 190 dX10_readNumber_180 (by decide) (by first | assumption | (unfold inR; omega)) (by first | assumption | (unfold inR; omega)) (fun h180 => ?_) (fun h180 => ?_)
              · refine PW.aload_n dX10_readNumber_190 rfl ?_
                refine PW.getR fl_X10_17 rfl (by assumption) rfl dX10_readNumber_191 ?_
                refine PW.iload_n dX10_readNumber_194 rfl ?_
                refine PW.iload dX10_readNumber_195 rfl ?_
                refine PW.callSv (c_X11_put (by assumption) (by first | assumption | (unfold inR; omega)) (by decide)) cs_X11_put lk_X10_33 dX10_readNumber_197 rfl rfl rfl ?_
                refine PW.iconst dX10_readNumber_200 ?_
                have q : ¬ (nuQ (σ (a + 1)) (σ a 2) (σ a 3)) = (nuP (σ (a + 1)) (σ a 2) (σ a 3)) := by omega
                have q2 : ¬ nuBad (σ (a + 1)) (σ a 2) k i (σ a 3) := fun x => by rcases x with x | x <;> first | omega | exact x (by assumption)
                have q3 : ¬ dyBad (σ (a + 1)) (σ a 2) k i (σ a 3) (σ (a + 2)) := fun x => by have x1 := x.1; have x2 := x.2.1; have x3 := x.2.2; omega
                rw [if_neg q, if_neg q2, if_neg q3] at hft
                refine PW.iret rfl rfl dX10_readNumber_201 ⟨rfl, ret_eq ?_, fun _ => ?_, fun q => absurd hft q⟩
                · rw [b01_t hft]
                · rw [if_pos (by omega), hpl, hvl, upS_ne (show a + 2 ≠ a by omega)]
                  rw [upS_comm (show a ≠ a + 2 by omega)]
              · refine PW.aload_n dX10_readNumber_183 rfl ?_
                refine PW.iconst dX10_readNumber_184 ?_
                refine PW.iload_n dX10_readNumber_185 rfl ?_
                refine PW.callVr (c_X10_refuse (by assumption)) cv_X10_refuse lk_X10_53 (by first | assumption | exact And.left (by assumption)) dX10_readNumber_186 rfl rfl rfl rfl ?_
                first
                  | (have q : (nuQ (σ (a + 1)) (σ a 2) (σ a 3)) = (nuP (σ (a + 1)) (σ a 2) (σ a 3)) := by omega
                     rw [if_pos q] at hft hat
                     refine PW.iret rfl rfl dX10_readNumber_189 ⟨rfl, ret_eq ?_, fun q => by omega, fun _ => ⟨(nuQ (σ (a + 1)) (σ a 2) (σ a 3)), ?_⟩⟩
                     · rw [b01_f (by decide), b01_f (by omega)]
                     · rw [hft, hat, upS_upS, upS_same, q])
                  | (have q : ¬ (nuQ (σ (a + 1)) (σ a 2) (σ a 3)) = (nuP (σ (a + 1)) (σ a 2) (σ a 3)) := by omega
                     rw [if_neg q] at hft hat
                     have q2 : nuBad (σ (a + 1)) (σ a 2) k i (σ a 3) := by first | exact Or.inl (by omega) | exact Or.inr (by assumption)
                     rw [if_pos q2] at hft
                     refine PW.iret rfl rfl dX10_readNumber_189 ⟨rfl, ret_eq ?_, fun q => by omega, fun _ => ⟨(nuQ (σ (a + 1)) (σ a 2) (σ a 3)), ?_⟩⟩
                     · rw [b01_f (by decide), b01_f (by omega)]
                     · rw [hft, hat, upS_upS, upS_same])
                  | (have q : ¬ (nuQ (σ (a + 1)) (σ a 2) (σ a 3)) = (nuP (σ (a + 1)) (σ a 2) (σ a 3)) := by omega
                     rw [if_neg q] at hft hat
                     have q2 : ¬ nuBad (σ (a + 1)) (σ a 2) k i (σ a 3) := fun x => by rcases x with x | x <;> first | omega | exact x (by assumption)
                     have q3 : dyBad (σ (a + 1)) (σ a 2) k i (σ a 3) (σ (a + 2)) := ⟨by omega, by omega, by omega⟩
                     rw [if_neg q2, if_pos q3] at hft
                     refine PW.iret rfl rfl dX10_readNumber_189 ⟨rfl, ret_eq ?_, fun q => by omega, fun _ => ⟨(nuQ (σ (a + 1)) (σ a 2) (σ a 3)), ?_⟩⟩
                     · rw [b01_f (by decide), b01_f (by omega)]
                     · rw [hft, hat, upS_upS, upS_same])
        · refine PW.aload_n dX10_readNumber_153 rfl ?_
          refine PW.iconst dX10_readNumber_154 ?_
          refine PW.iload_n dX10_readNumber_155 rfl ?_
          refine PW.callVr (c_X10_refuse (by assumption)) cv_X10_refuse lk_X10_53 (by first | assumption | exact And.left (by assumption)) dX10_readNumber_156 rfl rfl rfl rfl ?_
          first
            | (have q : (nuQ (σ (a + 1)) (σ a 2) (σ a 3)) = (nuP (σ (a + 1)) (σ a 2) (σ a 3)) := by omega
               rw [if_pos q] at hft hat
               refine PW.iret rfl rfl dX10_readNumber_159 ⟨rfl, ret_eq ?_, fun q => by omega, fun _ => ⟨(nuQ (σ (a + 1)) (σ a 2) (σ a 3)), ?_⟩⟩
               · rw [b01_f (by decide), b01_f (by omega)]
               · rw [hft, hat, upS_upS, upS_same, q])
            | (have q : ¬ (nuQ (σ (a + 1)) (σ a 2) (σ a 3)) = (nuP (σ (a + 1)) (σ a 2) (σ a 3)) := by omega
               rw [if_neg q] at hft hat
               have q2 : nuBad (σ (a + 1)) (σ a 2) k i (σ a 3) := by first | exact Or.inl (by omega) | exact Or.inr (by assumption)
               rw [if_pos q2] at hft
               refine PW.iret rfl rfl dX10_readNumber_159 ⟨rfl, ret_eq ?_, fun q => by omega, fun _ => ⟨(nuQ (σ (a + 1)) (σ a 2) (σ a 3)), ?_⟩⟩
               · rw [b01_f (by decide), b01_f (by omega)]
               · rw [hft, hat, upS_upS, upS_same])
            | (have q : ¬ (nuQ (σ (a + 1)) (σ a 2) (σ a 3)) = (nuP (σ (a + 1)) (σ a 2) (σ a 3)) := by omega
               rw [if_neg q] at hft hat
               have q2 : ¬ nuBad (σ (a + 1)) (σ a 2) k i (σ a 3) := fun x => by rcases x with x | x <;> first | omega | exact x (by assumption)
               have q3 : dyBad (σ (a + 1)) (σ a 2) k i (σ a 3) (σ (a + 2)) := ⟨by omega, by omega, by omega⟩
               rw [if_neg q2, if_pos q3] at hft
               refine PW.iret rfl rfl dX10_readNumber_159 ⟨rfl, ret_eq ?_, fun q => by omega, fun _ => ⟨(nuQ (σ (a + 1)) (σ a 2) (σ a 3)), ?_⟩⟩
               · rw [b01_f (by decide), b01_f (by omega)]
               · rw [hft, hat, upS_upS, upS_same])
  · refine PW.aload_n dX10_readNumber_117 rfl ?_
    refine PW.iconst dX10_readNumber_118 ?_
    refine PW.aload_n dX10_readNumber_119 rfl ?_
    refine PW.getI 3 fl_X10_24 rfl (by assumption) rfl rfl dX10_readNumber_120 ?_
    refine PW.top (nuQ (σ (a + 1)) (σ a 2) (σ a 3)) (by rw [upS_same, up1_same]) ?_
    refine PW.callVr (c_X10_refuse (by assumption)) cv_X10_refuse lk_X10_53 (by first | assumption | exact And.left (by assumption)) dX10_readNumber_123 rfl rfl rfl rfl ?_
    first
      | (have q : (nuQ (σ (a + 1)) (σ a 2) (σ a 3)) = (nuP (σ (a + 1)) (σ a 2) (σ a 3)) := by omega
         rw [if_pos q] at hft hat
         refine PW.iret rfl rfl dX10_readNumber_126 ⟨rfl, ret_eq ?_, fun q => by omega, fun _ => ⟨(nuQ (σ (a + 1)) (σ a 2) (σ a 3)), ?_⟩⟩
         · rw [b01_f (by decide), b01_f (by omega)]
         · rw [hft, hat, upS_upS, upS_same, q])
      | (have q : ¬ (nuQ (σ (a + 1)) (σ a 2) (σ a 3)) = (nuP (σ (a + 1)) (σ a 2) (σ a 3)) := by omega
         rw [if_neg q] at hft hat
         have q2 : nuBad (σ (a + 1)) (σ a 2) k i (σ a 3) := by first | exact Or.inl (by omega) | exact Or.inr (by assumption)
         rw [if_pos q2] at hft
         refine PW.iret rfl rfl dX10_readNumber_126 ⟨rfl, ret_eq ?_, fun q => by omega, fun _ => ⟨(nuQ (σ (a + 1)) (σ a 2) (σ a 3)), ?_⟩⟩
         · rw [b01_f (by decide), b01_f (by omega)]
         · rw [hft, hat, upS_upS, upS_same])
      | (have q : ¬ (nuQ (σ (a + 1)) (σ a 2) (σ a 3)) = (nuP (σ (a + 1)) (σ a 2) (σ a 3)) := by omega
         rw [if_neg q] at hft hat
         have q2 : ¬ nuBad (σ (a + 1)) (σ a 2) k i (σ a 3) := fun x => by rcases x with x | x <;> first | omega | exact x (by assumption)
         have q3 : dyBad (σ (a + 1)) (σ a 2) k i (σ a 3) (σ (a + 2)) := ⟨by omega, by omega, by omega⟩
         rw [if_neg q2, if_pos q3] at hft
         refine PW.iret rfl rfl dX10_readNumber_126 ⟨rfl, ret_eq ?_, fun q => by omega, fun _ => ⟨(nuQ (σ (a + 1)) (σ a 2) (σ a 3)), ?_⟩⟩
         · rw [b01_f (by decide), b01_f (by omega)]
         · rw [hft, hat, upS_upS, upS_same])
theorem num_loop {G : GT} {S : Shp} {σ : Sto} {a : Nat} {k i : Int} (hA : IsTxt S a) (hb : bsOk (σ (a + 1)) (σ a 2)) (hp : 0 ≤ σ a 3 ∧ σ a 3 ≤ σ a 2) (hk : 0 ≤ k ∧ k ≤ 5) (hi : 0 ≤ i ∧ i ≤ 4) (hx : ¬ axPl k i) (rg : -40 ≤ σ (a + 2) 2 ∧ σ (a + 2) 2 ≤ 39) : ∀ (t : Nat) (j : Int), (nuP (σ (a + 1)) (σ a 2) (σ a 3)) ≤ j → j ≤ σ a 2 → σ a 2 + 1 - j < t → runE isFg (σ (a + 1)) (σ a 2) j = (nuQ (σ (a + 1)) (σ a 2) (σ a 3)) → PW (fm G mX10_readNumber 3 0 0 (fun r S' τ => S' = S ∧ r = some (.int (iI (b01 (rdFt (σ (a + 1)) (σ a 2) k i (σ a 3) (σ (a + 2)) = 0)))) ∧ (rdFt (σ (a + 1)) (σ a 2) k i (σ a 3) (σ (a + 2)) = 0 → τ = upS (upS σ (a + 2) (up1 (σ (a + 2)) i (rdVl (σ (a + 1)) (σ a 2) k i (σ a 3)))) a (up1 (σ a) 3 (rdPl (σ (a + 1)) (σ a 2) k i (σ a 3)))) ∧ (¬ rdFt (σ (a + 1)) (σ a 2) k i (σ a 3) (σ (a + 2)) = 0 → ∃ pl, τ = upS σ a (up1 (up1 (up1 (σ a) 3 pl) 5 (rdFt (σ (a + 1)) (σ a 2) k i (σ a 3) (σ (a + 2)))) 4 (rdAt (σ (a + 1)) (σ a 2) k i (σ a 3)))))) G S (upS σ a (up1 (σ a) 3 (j))) 0 0 46 [(0, .ref a), (1, .int (iI (k))), (2, .int (iI (i))), (3, .int (iI (σ a 3))), (4, .int (iI (b01 (btF (σ (a + 1)) (σ a 2) (σ a 3) = 45)))), (5, .int (iI (j - (nuP (σ (a + 1)) (σ a 2) (σ a 3))))), (6, .int (iI (dgF (σ (a + 1)) (nuP (σ (a + 1)) (σ a 2) (σ a 3)) j)))] [] := by
  obtain ⟨hA0, hA1, hA2⟩ := id hA
  have hz := hb.1
  have pb := nuP_b (B := σ (a + 1)) hp
  have qb := nuQ_b (B := σ (a + 1)) hp
  have vb := nuV_b (σ (a + 1)) (σ a 2) (σ a 3)
  have db := dgF_b (B := σ (a + 1)) (z := σ a 2) (p := (nuP (σ (a + 1)) (σ a 2) (σ a 3)))
  have hft : rdFt (σ (a + 1)) (σ a 2) k i (σ a 3) (σ (a + 2)) = if (nuQ (σ (a + 1)) (σ a 2) (σ a 3)) = (nuP (σ (a + 1)) (σ a 2) (σ a 3)) then 1 else if nuBad (σ (a + 1)) (σ a 2) k i (σ a 3) then 2 else if dyBad (σ (a + 1)) (σ a 2) k i (σ a 3) (σ (a + 2)) then 2 else 0 := by unfold rdFt; rw [if_neg hx]
  have hat : rdAt (σ (a + 1)) (σ a 2) k i (σ a 3) = if (nuQ (σ (a + 1)) (σ a 2) (σ a 3)) = (nuP (σ (a + 1)) (σ a 2) (σ a 3)) then (nuP (σ (a + 1)) (σ a 2) (σ a 3)) else σ a 3 := by unfold rdAt; rw [if_neg hx]
  have hpl : rdPl (σ (a + 1)) (σ a 2) k i (σ a 3) = (nuQ (σ (a + 1)) (σ a 2) (σ a 3)) := by unfold rdPl; rw [if_neg hx]
  have hvl : rdVl (σ (a + 1)) (σ a 2) k i (σ a 3) = nuV (σ (a + 1)) (σ a 2) (σ a 3) := by unfold rdVl; rw [if_neg hx]
  intro t
  induction t with
  | zero => intro j h1 h2 h3; omega
  | succ t ih =>
    intro j h1 h2 h3 hr
    have e0 : (upS σ a (up1 (σ a) 3 (j))) a 2 = σ a 2 := by rw [upS_same, up1_ne (by decide)]
    have e1 : (upS σ a (up1 (σ a) 3 (j))) (a + 1) = σ (a + 1) := upS_ne (by omega)
    have e3 : (upS σ a (up1 (σ a) 3 (j))) a 3 = j := by rw [upS_same, up1_same]
    have bb := btF_b hb j
    have er := runE_s isFg (σ (a + 1)) (σ a 2) j
    have fin : ¬ (j < σ a 2 ∧ isFg (σ (a + 1) j) = true) → j = (nuQ (σ (a + 1)) (σ a 2) (σ a 3)) := fun q => by rw [if_neg q] at er; rw [← hr, er]
    have bj : j < σ a 2 → btF (σ (a + 1)) (σ a 2) j = σ (a + 1) j := fun q => by unfold btF; rw [if_pos (by omega)]
    refine PW.aload_n dX10_readNumber_46 rfl ?_
    refine PW.getI 3 fl_X10_24 rfl (by assumption) rfl rfl dX10_readNumber_47 ?_
    refine PW.top j e3 ?_
    refine PW.aload_n dX10_readNumber_50 rfl ?_
    refine PW.getI 2 fl_X10_20 rfl (by assumption) rfl rfl dX10_readNumber_51 ?_
    refine PW.top (σ a 2) e0 ?_
    refine PW.icmp_ge 112 dX10_readNumber_54 (by decide) (by first | assumption | (unfold inR; omega)) (by first | assumption | (unfold inR; omega)) (fun h54 => ?_) (fun h54 => ?_)
    · have hj : j = (nuQ (σ (a + 1)) (σ a 2) (σ a 3)) := fin (fun q => by first | omega | (have q2 := of_decide_eq_true q.2; have q3 := bj q.1; rw [q3] at h68; exact h68 q2))
      rw [hj]
      exact num_rest hA hb hp hk hi hx rg
    · refine PW.aload_n dX10_readNumber_57 rfl ?_
      refine PW.aload_n dX10_readNumber_58 rfl ?_
      refine PW.getI 3 fl_X10_24 rfl (by assumption) rfl rfl dX10_readNumber_59 ?_
      refine PW.top j e3 ?_
      refine PW.callVr (c_X10_byteAt hA (by rw [e1, e0]; exact hb) (by unfold inR; omega)) cv_X10_byteAt lk_X10_85 (by first | assumption | exact And.left (by assumption)) dX10_readNumber_62 rfl rfl rfl rfl ?_
      refine PW.top (btF (σ (a + 1)) (σ a 2) j) (by rw [e1, e0]) ?_
      refine PW.callSr (c_X10_isFigure (by unfold inR; omega)) cs_X10_isFigure lk_X10_104 dX10_readNumber_65 rfl rfl rfl ?_
      refine PW.if_eqB 112 dX10_readNumber_68 (by decide) (fun h68 => ?_) (fun h68 => ?_)
      · have hj : j = (nuQ (σ (a + 1)) (σ a 2) (σ a 3)) := fin (fun q => by first | omega | (have q2 := of_decide_eq_true q.2; have q3 := bj q.1; rw [q3] at h68; exact h68 q2))
        rw [hj]
        exact num_rest hA hb hp hk hi hx rg
      · refine PW.iload dX10_readNumber_71 rfl ?_
        refine PW.iconst dX10_readNumber_73 ?_
        refine PW.icmp_ge 96 dX10_readNumber_74 (by decide) (by first | assumption | (unfold inR; omega)) (by first | assumption | (unfold inR; omega)) (fun h74 => ?_) (fun h74 => ?_)
        · refine PW.iinc [(0, _), (1, _), (2, _), (3, _), (4, _), (5, _), (6, _)] dX10_readNumber_96 rfl rfl (Nat.le_of_ble_eq_true rfl) ?_
          refine PW.aload_n dX10_readNumber_99 rfl ?_
          refine PW.dup rfl dX10_readNumber_100 ?_
          refine PW.getI 3 fl_X10_24 rfl (by assumption) rfl rfl dX10_readNumber_101 ?_
          refine PW.top j e3 ?_
          refine PW.iconst dX10_readNumber_104 ?_
          refine PW.iadd dX10_readNumber_105 ?_
          refine PW.putI 3 fl_X10_24 rfl (fun h => absurd h (by decide)) (by assumption) rfl rfl rfl rfl dX10_readNumber_106 ?_
          refine PW.st (upS σ a (up1 (σ a) 3 (j + 1))) (by rw [upS_upS, upS_same, up1_up1]) ?_
          refine PW.goto 46 dX10_readNumber_109 (by decide) ?_
          have hB : σ (a + 1) j = btF (σ (a + 1)) (σ a 2) j := (bj (by omega)).symm
          have hF : isFg (σ (a + 1) j) = true := by rw [hB]; exact decide_eq_true (by assumption)
          rw [if_pos ⟨by omega, hF⟩] at er
          have e := ih (j + 1) (by omega) (by omega) (by omega) (by rw [← er]; exact hr)
          rw [show j + 1 - (nuP (σ (a + 1)) (σ a 2) (σ a 3)) = j - (nuP (σ (a + 1)) (σ a 2) (σ a 3)) + 1 by omega] at e
          have ed : dgF (σ (a + 1)) (nuP (σ (a + 1)) (σ a 2) (σ a 3)) (j + 1) = dgF (σ (a + 1)) (nuP (σ (a + 1)) (σ a 2) (σ a 3)) j := by
            unfold dgF
            rw [if_neg (by omega), if_neg (by omega), if_neg (by omega), if_neg (by omega)]
          rw [ed] at e
          exact e
        · refine PW.bipush (by decide) dX10_readNumber_77 ?_
          refine PW.iload dX10_readNumber_79 rfl ?_
          refine PW.imul dX10_readNumber_81 ?_
          refine PW.aload_n dX10_readNumber_82 rfl ?_
          refine PW.aload_n dX10_readNumber_83 rfl ?_
          refine PW.getI 3 fl_X10_24 rfl (by assumption) rfl rfl dX10_readNumber_84 ?_
          refine PW.top j e3 ?_
          refine PW.callVr (c_X10_byteAt hA (by rw [e1, e0]; exact hb) (by unfold inR; omega)) cv_X10_byteAt lk_X10_85 (by first | assumption | exact And.left (by assumption)) dX10_readNumber_87 rfl rfl rfl rfl ?_
          refine PW.top (btF (σ (a + 1)) (σ a 2) j) (by rw [e1, e0]) ?_
          refine PW.iadd dX10_readNumber_90 ?_
          refine PW.bipush (by decide) dX10_readNumber_91 ?_
          refine PW.isub dX10_readNumber_93 ?_
          refine PW.istore [(0, _), (1, _), (2, _), (3, _), (4, _), (5, _), (6, _)] dX10_readNumber_94 rfl (Nat.le_of_ble_eq_true rfl) ?_
          refine PW.iinc [(0, _), (1, _), (2, _), (3, _), (4, _), (5, _), (6, _)] dX10_readNumber_96 rfl rfl (Nat.le_of_ble_eq_true rfl) ?_
          refine PW.aload_n dX10_readNumber_99 rfl ?_
          refine PW.dup rfl dX10_readNumber_100 ?_
          refine PW.getI 3 fl_X10_24 rfl (by assumption) rfl rfl dX10_readNumber_101 ?_
          refine PW.top j e3 ?_
          refine PW.iconst dX10_readNumber_104 ?_
          refine PW.iadd dX10_readNumber_105 ?_
          refine PW.putI 3 fl_X10_24 rfl (fun h => absurd h (by decide)) (by assumption) rfl rfl rfl rfl dX10_readNumber_106 ?_
          refine PW.st (upS σ a (up1 (σ a) 3 (j + 1))) (by rw [upS_upS, upS_same, up1_up1]) ?_
          refine PW.goto 46 dX10_readNumber_109 (by decide) ?_
          have hB : σ (a + 1) j = btF (σ (a + 1)) (σ a 2) j := (bj (by omega)).symm
          have hF : isFg (σ (a + 1) j) = true := by rw [hB]; exact decide_eq_true (by assumption)
          rw [if_pos ⟨by omega, hF⟩] at er
          have e := ih (j + 1) (by omega) (by omega) (by omega) (by rw [← er]; exact hr)
          rw [show j + 1 - (nuP (σ (a + 1)) (σ a 2) (σ a 3)) = j - (nuP (σ (a + 1)) (σ a 2) (σ a 3)) + 1 by omega] at e
          have ed : dgF (σ (a + 1)) (nuP (σ (a + 1)) (σ a 2) (σ a 3)) (j + 1) = 10 * dgF (σ (a + 1)) (nuP (σ (a + 1)) (σ a 2) (σ a 3)) j + btF (σ (a + 1)) (σ a 2) j - 48 := by
            unfold dgF
            by_cases q : j = (nuP (σ (a + 1)) (σ a 2) (σ a 3))
            · rw [if_neg (by omega), if_pos (by omega), if_pos (by omega), ← hB, q]
              omega
            · rw [if_neg (by omega), if_neg (by omega), if_neg (by omega), if_pos (by omega), ← hB, show j = (nuP (σ (a + 1)) (σ a 2) (σ a 3)) + 1 by omega]
              omega
          rw [ed] at e
          exact e
theorem c_X10_readNumber {G : GT} {S : Shp} {σ : Sto} {a : Nat} {k i : Int} (hA : IsTxt S a) (hb : bsOk (σ (a + 1)) (σ a 2)) (hp : 0 ≤ σ a 3 ∧ σ a 3 ≤ σ a 2) (hk : 0 ≤ k ∧ k ≤ 5) (hi : 0 ≤ i ∧ i ≤ 4) (hx : ¬ axPl k i) (rg : -40 ≤ σ (a + 2) 2 ∧ σ (a + 2) 2 ≤ 39) : PMet G mX10_readNumber 3 0 0 [.ref a, .int (iI k), .int (iI i)] S σ (fun r S' τ => S' = S ∧ r = some (.int (iI (b01 (rdFt (σ (a + 1)) (σ a 2) k i (σ a 3) (σ (a + 2)) = 0)))) ∧ (rdFt (σ (a + 1)) (σ a 2) k i (σ a 3) (σ (a + 2)) = 0 → τ = upS (upS σ (a + 2) (up1 (σ (a + 2)) i (rdVl (σ (a + 1)) (σ a 2) k i (σ a 3)))) a (up1 (σ a) 3 (rdPl (σ (a + 1)) (σ a 2) k i (σ a 3)))) ∧ (¬ rdFt (σ (a + 1)) (σ a 2) k i (σ a 3) (σ (a + 2)) = 0 → ∃ pl, τ = upS σ a (up1 (up1 (up1 (σ a) 3 pl) 5 (rdFt (σ (a + 1)) (σ a 2) k i (σ a 3) (σ (a + 2)))) 4 (rdAt (σ (a + 1)) (σ a 2) k i (σ a 3))))) := by
  obtain ⟨hA0, hA1, hA2⟩ := id hA
  have hz := hb.1
  have pb := nuP_b (B := σ (a + 1)) hp
  have qb := nuQ_b (B := σ (a + 1)) hp
  have vb := nuV_b (σ (a + 1)) (σ a 2) (σ a 3)
  have db := dgF_b (B := σ (a + 1)) (z := σ a 2) (p := (nuP (σ (a + 1)) (σ a 2) (σ a 3)))
  have hft : rdFt (σ (a + 1)) (σ a 2) k i (σ a 3) (σ (a + 2)) = if (nuQ (σ (a + 1)) (σ a 2) (σ a 3)) = (nuP (σ (a + 1)) (σ a 2) (σ a 3)) then 1 else if nuBad (σ (a + 1)) (σ a 2) k i (σ a 3) then 2 else if dyBad (σ (a + 1)) (σ a 2) k i (σ a 3) (σ (a + 2)) then 2 else 0 := by unfold rdFt; rw [if_neg hx]
  have hat : rdAt (σ (a + 1)) (σ a 2) k i (σ a 3) = if (nuQ (σ (a + 1)) (σ a 2) (σ a 3)) = (nuP (σ (a + 1)) (σ a 2) (σ a 3)) then (nuP (σ (a + 1)) (σ a 2) (σ a 3)) else σ a 3 := by unfold rdAt; rw [if_neg hx]
  have hpl : rdPl (σ (a + 1)) (σ a 2) k i (σ a 3) = (nuQ (σ (a + 1)) (σ a 2) (σ a 3)) := by unfold rdPl; rw [if_neg hx]
  have hvl : rdVl (σ (a + 1)) (σ a 2) k i (σ a 3) = nuV (σ (a + 1)) (σ a 2) (σ a 3) := by unfold rdVl; rw [if_neg hx]
  have bb := btF_b hb (σ a 3)
  have d0 : dgF (σ (a + 1)) (nuP (σ (a + 1)) (σ a 2) (σ a 3)) (nuP (σ (a + 1)) (σ a 2) (σ a 3)) = 0 := by unfold dgF; rw [if_pos (Int.le_refl _)]
  refine PMet.of [(0, .ref a), (1, .int (iI (k))), (2, .int (iI (i)))] (by decide +kernel) rfl (Nat.le_of_ble_eq_true rfl) ?_
  refine PW.aload_n dX10_readNumber_0 rfl ?_
  refine PW.getI 3 fl_X10_24 rfl (by assumption) rfl rfl dX10_readNumber_1 ?_
  refine PW.istore_n [(0, _), (1, _), (2, _), (3, _)] dX10_readNumber_4 rfl (Nat.le_of_ble_eq_true rfl) ?_
  refine PW.aload_n dX10_readNumber_5 rfl ?_
  refine PW.aload_n dX10_readNumber_6 rfl ?_
  refine PW.getI 3 fl_X10_24 rfl (by assumption) rfl rfl dX10_readNumber_7 ?_
  refine PW.callVr (c_X10_byteAt hA hb (by unfold inR; omega)) cv_X10_byteAt lk_X10_85 (by first | assumption | exact And.left (by assumption)) dX10_readNumber_10 rfl rfl rfl rfl ?_
  refine PW.bipush (by decide) dX10_readNumber_13 ?_
  refine PW.icmp_ne 22 dX10_readNumber_15 (by decide) (by first | assumption | (unfold inR; omega)) (by first | assumption | (unfold inR; omega)) (fun h15 => ?_) (fun h15 => ?_)
  · refine PW.iconst dX10_readNumber_22 ?_
    refine PW.top (b01 (btF (σ (a + 1)) (σ a 2) (σ a 3) = 45)) (by first | rw [b01_t (by assumption)] | rw [b01_f (by assumption)]) ?_
    refine PW.istore [(0, _), (1, _), (2, _), (3, _), (4, _)] dX10_readNumber_23 rfl (Nat.le_of_ble_eq_true rfl) ?_
    refine PW.iload dX10_readNumber_25 rfl ?_
    refine PW.if_eqB 40 dX10_readNumber_27 (by decide) (fun h27 => ?_) (fun h27 => ?_)
    · refine PW.iconst dX10_readNumber_40 ?_
      refine PW.istore [(0, _), (1, _), (2, _), (3, _), (4, _), (5, _)] dX10_readNumber_41 rfl (Nat.le_of_ble_eq_true rfl) ?_
      refine PW.iconst dX10_readNumber_43 ?_
      refine PW.istore [(0, _), (1, _), (2, _), (3, _), (4, _), (5, _), (6, _)] dX10_readNumber_44 rfl (Nat.le_of_ble_eq_true rfl) ?_
      first
        | exact absurd h15 h27
        | exact absurd h27 h15
        | (have hP : (nuP (σ (a + 1)) (σ a 2) (σ a 3)) = σ a 3 := by unfold nuP; first | rw [b01_t (by assumption)] | rw [b01_f (by assumption), Int.add_zero]
           have e := num_loop (G := G) hA hb hp hk hi hx rg 302 (nuP (σ (a + 1)) (σ a 2) (σ a 3)) (Int.le_refl _) (by omega) (by omega) rfl
           rw [Int.sub_self, d0] at e
           refine PW.st (upS σ a (up1 (σ a) 3 ((nuP (σ (a + 1)) (σ a 2) (σ a 3))))) ?_ e
           first
             | (rw [hP]; done)
             | (rw [hP, up1_self, upS_self]))
    · refine PW.aload_n dX10_readNumber_30 rfl ?_
      refine PW.dup rfl dX10_readNumber_31 ?_
      refine PW.getI 3 fl_X10_24 rfl (by assumption) rfl rfl dX10_readNumber_32 ?_
      refine PW.iconst dX10_readNumber_35 ?_
      refine PW.iadd dX10_readNumber_36 ?_
      refine PW.putI 3 fl_X10_24 rfl (fun h => absurd h (by decide)) (by assumption) rfl rfl rfl rfl dX10_readNumber_37 ?_
      refine PW.iconst dX10_readNumber_40 ?_
      refine PW.istore [(0, _), (1, _), (2, _), (3, _), (4, _), (5, _)] dX10_readNumber_41 rfl (Nat.le_of_ble_eq_true rfl) ?_
      refine PW.iconst dX10_readNumber_43 ?_
      refine PW.istore [(0, _), (1, _), (2, _), (3, _), (4, _), (5, _), (6, _)] dX10_readNumber_44 rfl (Nat.le_of_ble_eq_true rfl) ?_
      first
        | exact absurd h15 h27
        | exact absurd h27 h15
        | (have hP : (nuP (σ (a + 1)) (σ a 2) (σ a 3)) = σ a 3 + 1 := by unfold nuP; first | rw [b01_t (by assumption)] | rw [b01_f (by assumption), Int.add_zero]
           have e := num_loop (G := G) hA hb hp hk hi hx rg 302 (nuP (σ (a + 1)) (σ a 2) (σ a 3)) (Int.le_refl _) (by omega) (by omega) rfl
           rw [Int.sub_self, d0] at e
           refine PW.st (upS σ a (up1 (σ a) 3 ((nuP (σ (a + 1)) (σ a 2) (σ a 3))))) ?_ e
           first
             | (rw [hP]; done)
             | (rw [hP, up1_self, upS_self]))
  · refine PW.iconst dX10_readNumber_18 ?_
    refine PW.goto 23 dX10_readNumber_19 (by decide) ?_
    refine PW.top (b01 (btF (σ (a + 1)) (σ a 2) (σ a 3) = 45)) (by first | rw [b01_t (by assumption)] | rw [b01_f (by assumption)]) ?_
    refine PW.istore [(0, _), (1, _), (2, _), (3, _), (4, _)] dX10_readNumber_23 rfl (Nat.le_of_ble_eq_true rfl) ?_
    refine PW.iload dX10_readNumber_25 rfl ?_
    refine PW.if_eqB 40 dX10_readNumber_27 (by decide) (fun h27 => ?_) (fun h27 => ?_)
    · refine PW.iconst dX10_readNumber_40 ?_
      refine PW.istore [(0, _), (1, _), (2, _), (3, _), (4, _), (5, _)] dX10_readNumber_41 rfl (Nat.le_of_ble_eq_true rfl) ?_
      refine PW.iconst dX10_readNumber_43 ?_
      refine PW.istore [(0, _), (1, _), (2, _), (3, _), (4, _), (5, _), (6, _)] dX10_readNumber_44 rfl (Nat.le_of_ble_eq_true rfl) ?_
      first
        | exact absurd h15 h27
        | exact absurd h27 h15
        | (have hP : (nuP (σ (a + 1)) (σ a 2) (σ a 3)) = σ a 3 := by unfold nuP; first | rw [b01_t (by assumption)] | rw [b01_f (by assumption), Int.add_zero]
           have e := num_loop (G := G) hA hb hp hk hi hx rg 302 (nuP (σ (a + 1)) (σ a 2) (σ a 3)) (Int.le_refl _) (by omega) (by omega) rfl
           rw [Int.sub_self, d0] at e
           refine PW.st (upS σ a (up1 (σ a) 3 ((nuP (σ (a + 1)) (σ a 2) (σ a 3))))) ?_ e
           first
             | (rw [hP]; done)
             | (rw [hP, up1_self, upS_self]))
    · refine PW.aload_n dX10_readNumber_30 rfl ?_
      refine PW.dup rfl dX10_readNumber_31 ?_
      refine PW.getI 3 fl_X10_24 rfl (by assumption) rfl rfl dX10_readNumber_32 ?_
      refine PW.iconst dX10_readNumber_35 ?_
      refine PW.iadd dX10_readNumber_36 ?_
      refine PW.putI 3 fl_X10_24 rfl (fun h => absurd h (by decide)) (by assumption) rfl rfl rfl rfl dX10_readNumber_37 ?_
      refine PW.iconst dX10_readNumber_40 ?_
      refine PW.istore [(0, _), (1, _), (2, _), (3, _), (4, _), (5, _)] dX10_readNumber_41 rfl (Nat.le_of_ble_eq_true rfl) ?_
      refine PW.iconst dX10_readNumber_43 ?_
      refine PW.istore [(0, _), (1, _), (2, _), (3, _), (4, _), (5, _), (6, _)] dX10_readNumber_44 rfl (Nat.le_of_ble_eq_true rfl) ?_
      first
        | exact absurd h15 h27
        | exact absurd h27 h15
        | (have hP : (nuP (σ (a + 1)) (σ a 2) (σ a 3)) = σ a 3 + 1 := by unfold nuP; first | rw [b01_t (by assumption)] | rw [b01_f (by assumption), Int.add_zero]
           have e := num_loop (G := G) hA hb hp hk hi hx rg 302 (nuP (σ (a + 1)) (σ a 2) (σ a 3)) (Int.le_refl _) (by omega) (by omega) rfl
           rw [Int.sub_self, d0] at e
           refine PW.st (upS σ a (up1 (σ a) 3 ((nuP (σ (a + 1)) (σ a 2) (σ a 3))))) ?_ e
           first
             | (rw [hP]; done)
             | (rw [hP, up1_self, upS_self]))

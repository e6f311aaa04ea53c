def IsTxt (S : Shp) (a : Nat) : Prop := At S a (sO 9 [fR (a + 1), fR (a + 2), fI, fI, fI, fI]) ∧ At S (a + 1) (sA 0 300) ∧ At S (a + 2) (sA 0 5)
def bsOk (B : Int → Int) (z : Int) : Prop := (0 ≤ z ∧ z ≤ 300) ∧ ∀ i, 0 ≤ i → i < z → 0 ≤ B i ∧ B i ≤ 255
theorem tb_lim : ∀ k : Fin 6, ∀ p : Fin 5, -40 ≤ xT 2 (5 * (k.val : Int) + (p.val : Int)) ∧ xT 3 (5 * (k.val : Int) + (p.val : Int)) ≤ 39 := by decide +kernel
theorem upS_comm {σ : Sto} {a b : Nat} {f g : Int → Int} (h : a ≠ b) : upS (upS σ a f) b g = upS (upS σ b g) a f := by
  funext x
  unfold upS
  by_cases x1 : x = a
  · by_cases x2 : x = b
    · omega
    · simp [x1, h]
  · simp [x1]
theorem adF_new {f : Int → Int} {n k a b c d e : Int} (h : okEv k a b c d e) : evOk (adF f n k a b c d e) n := by
  have hk := h.1
  have x0 := xT_0 hk
  have sv : ∀ p v, 0 ≤ p → p ≤ 4 → suF k p v → -40 ≤ (if p < xT 0 k then v else 0) ∧ (if p < xT 0 k then v else 0) ≤ 39 := fun p v p0 p1 hs => by
    split
    · next q =>
      have t := tb_lim ⟨k.toNat, by omega⟩ ⟨p.toNat, by omega⟩
      dsimp only at t
      rw [show ((k.toNat : Nat) : Int) = k by omega, show ((p.toNat : Nat) : Int) = p by omega] at t
      rcases hs with hs | hs
      · exact absurd q hs
      · omega
    · omega
  have r : ∀ p, 0 ≤ p → p ≤ 6 → adF f n k a b c d e (7 * n + p) = rowF k a b c d e p := fun p p0 p1 => by
    unfold adF
    rw [if_pos (by omega), show 7 * n + p - 7 * n = p by omega]
  obtain ⟨-, hd, s0, s1, s2, s3, s4⟩ := h
  have v0 := sv 0 a (by omega) (by omega) s0
  have v1 := sv 1 b (by omega) (by omega) s1
  have v2 := sv 2 c (by omega) (by omega) s2
  have v3 := sv 3 d (by omega) (by omega) s3
  have v4 := sv 4 e (by omega) (by omega) s4
  rw [if_pos (by omega)] at v0 v1
  have r0 := r 0 (by omega) (by omega)
  have r1 := r 1 (by omega) (by omega)
  have r2 := r 2 (by omega) (by omega)
  have r3 := r 3 (by omega) (by omega)
  have r4 := r 4 (by omega) (by omega)
  have r5 := r 5 (by omega) (by omega)
  have r6 := r 6 (by omega) (by omega)
  rw [Int.add_zero] at r0
  simp only [rowF] at r0 r1 r2 r3 r4 r5 r6
  simp at r0 r1 r2 r3 r4 r5 r6
  have su0 : ∀ p v, suF k p v → suF k p (if p < xT 0 k then v else 0) := fun p v hs => by
    split
    · exact hs
    · next q => exact Or.inl q
  unfold evOk
  rw [show 7 * n + 1 + 0 = 7 * n + 1 by omega, show 7 * n + 1 + 1 = 7 * n + 2 by omega, show 7 * n + 1 + 2 = 7 * n + 3 by omega, show 7 * n + 1 + 3 = 7 * n + 4 by omega, show 7 * n + 1 + 4 = 7 * n + 5 by omega, r0, r1, r2, r3, r4, r5, r6]
  refine ⟨⟨hk, fun q => ?_, s0, s1, su0 2 c s2, su0 3 d s3, su0 4 e s4⟩, fun p p0 p1 => ?_, by omega⟩
  · obtain ⟨q1, q2⟩ := q
    rw [q1, show xT 0 5 = 5 by decide] at q2
    simp at q2
    exact hd ⟨q1, q2⟩
  · rcases (show p = 0 ∨ p = 1 ∨ p = 2 ∨ p = 3 ∨ p = 4 by omega) with rfl | rfl | rfl | rfl | rfl
    · rw [show 7 * n + 1 + 0 = 7 * n + 1 by omega, r1]; exact v0
    · rw [show 7 * n + 1 + 1 = 7 * n + 2 by omega, r2]; exact v1
    · rw [show 7 * n + 1 + 2 = 7 * n + 3 by omega, r3]; exact v2
    · rw [show 7 * n + 1 + 3 = 7 * n + 4 by omega, r4]; exact v3
    · rw [show 7 * n + 1 + 4 = 7 * n + 5 by omega, r5]; exact v4
theorem adF_old {f : Int → Int} {n k a b c d e i : Int} (hi : i < n) (h : evOk f i) : evOk (adF f n k a b c d e) i := by
  have r : ∀ j, j < 7 * n → adF f n k a b c d e j = f j := fun j j0 => by
    unfold adF
    rw [if_neg (by omega)]
  unfold evOk
  rw [r _ (by omega), r _ (by omega), r _ (by omega), r _ (by omega), r _ (by omega), r _ (by omega), r _ (by omega)]
  refine ⟨h.1, fun p p0 p1 => ?_, h.2.2⟩
  rw [r _ (by omega)]
  exact h.2.1 p p0 p1
theorem c_X10_size {G : GT} {S : Shp} {σ : Sto} {a : Nat} (hA : IsTxt S a) : PMet G mX10_size 0 0 0 [.ref a] S σ (isP (some (.int (iI (σ a 2)))) S (σ)) := by
  obtain ⟨hA0, hA1, hA2⟩ := id hA
  refine PMet.of [(0, .ref a)] (by decide +kernel) rfl (Nat.le_of_ble_eq_true rfl) ?_
  refine PW.aload_n dX10_size_0 rfl ?_
  refine PW.getI 2 fl_X10_20 rfl (by assumption) rfl rfl dX10_size_1 ?_
  exact PW.iret rfl rfl dX10_size_4 ⟨rfl, rfl, rfl⟩

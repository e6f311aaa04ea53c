theorem c_X1_init {G : GT} {S : Shp} {σ : Sto} {a : Nat} (h1 : S.1 = a + 1) (hA : At S a (sO 1 [fN])) (hz : σ a = zF) (hb : a + 2 ≤ 1000000) : PMet G mX1_init 3 1 80 [.ref a] S σ (fun r S' τ => r = none ∧ S'.1 = a + 2 ∧ (∀ b, b < a → S'.2 b = S.2 b ∧ τ b = σ b) ∧ IsCol S' a ∧ (τ a = zF ∧ τ (a + 1) = bgF zF)) := by
  refine PMet.of [(0, .ref a)] (by decide +kernel) rfl (Nat.le_of_ble_eq_true rfl) ?_
  refine PW.aload_n dX1_init_0 rfl ?_
  refine PW.objI lo_X1 lo_in lo_co rfl (Nat.le_of_ble_eq_true rfl) ⟨(Nat.le_of_ble_eq_true rfl), (Nat.le_of_ble_eq_true rfl)⟩ dX1_init_1 ?_
  refine PW.aload_n dX1_init_4 rfl ?_
  refine PW.bipush (by decide) dX1_init_5 ?_
  refine PW.newA (a + 1) 80 0 (atype := .int) h1 (by decide) ka_int (fun _ => rfl) rfl (by decide) (by omega) (Nat.le_of_ble_eq_true rfl) (Nat.le_of_ble_eq_true rfl) dX1_init_7 (fun S1 p1 q1 r1 => ?_)
  have w1 : At S1 a (sO 1 [fN]) := ⟨by rw [q1 a (by omega)]; exact hA.1, by omega⟩
  refine PW.putRA fl_X1_9 rfl (fun _ => rfl) w1 rfl (fun _ => rfl) (fun _ => rfl) dX1_init_9 (fun S2 p2 q2 r2 => ?_)
  have w2 : At S2 a (sO 1 [fR (a + 1)]) := r2
  have hC : IsCol S2 a := ⟨w2, ⟨by rw [q2 (a + 1) (by omega)]; exact r1.1, by omega⟩⟩
  refine PW.aload_n dX1_init_12 rfl ?_
  refine PW.callVv (c_X1_begin hC) cv_X1_begin lk_X1_15 w2 dX1_init_13 rfl rfl rfl rfl ?_
  exact PW.vret rfl dX1_init_16 ⟨rfl, by omega, fun b hb => ⟨by rw [q2 b (by omega), q1 b (by omega)], by rw [upS_ne (by omega), upS_ne (by omega)]⟩, hC, by rw [upS_ne (by omega), upS_ne (by omega)]; exact hz, by rw [upS_same, upS_same]⟩

/-- columns so far that they are made -/
def c2I (S S' : Shp) (σ τ : Sto) (a N i : Nat) : Prop := S'.1 = a + 4 + 2 * i ∧ (∀ b, b < a → S'.2 b = S.2 b ∧ τ b = σ b) ∧ At S' a (sO 2 [fR (a + 3), fR (a + 1)]) ∧ IsCol S' (a + 1) ∧ At S' (a + 3) (sQ 5 N (fun j => if j < i then some (a + 4 + 2 * j) else none)) ∧ (∀ j : Nat, j < i → IsCol S' (a + 4 + 2 * j)) ∧ (τ a = zF ∧ τ (a + 1) = zF ∧ τ (a + 2) = bgF zF ∧ τ (a + 3) = zF ∧ ∀ j : Nat, j < i → τ (a + 4 + 2 * j) = zF ∧ τ (a + 4 + 2 * j + 1) = bgF zF)
theorem At.fr {S S' : Shp} {a : Nat} {e : SE} (h : At S a e) (h1 : S'.2 a = S.2 a) (h2 : a < S'.1) : At S' a e := ⟨h1.trans h.1, h2⟩
theorem IsCol.fr {S S' : Shp} {a : Nat} (h : IsCol S a) (h1 : S'.2 a = S.2 a) (h2 : S'.2 (a + 1) = S.2 (a + 1)) (h3 : a + 1 < S'.1) : IsCol S' a := ⟨h.1.fr h1 (by omega), h.2.fr h2 h3⟩
theorem X2_loop {G : GT} {S : Shp} {σ : Sto} {a N : Nat} {Q : Option Value → Shp → Sto → Prop} (hN : N ≤ 65) (hb : a + 4 + 2 * N ≤ 1000000) (hQ : ∀ S' τ, c2I S S' σ τ a N N → Q none S' τ) : ∀ (t i : Nat) (S' : Shp) (τ : Sto), i ≤ N → N - i < t → c2I S S' σ τ a N i → PW (fm G mX2_init 4 (3 + 2 * N) (81 + N + 81 * N) Q) G S' τ (3 + 2 * i) (81 + N + 81 * i) 29 [(0, .ref a), (1, .int (iI (N : Int))), (2, .int (iI (i : Int)))] [] := by
  intro t
  induction t with
  | zero => intro i S' τ h1 h2; omega
  | succ t ih =>
    intro i S' τ h1 h2 g
    obtain ⟨g1, g2, g3, g4, g5, g6, g7, g8, g9, g10, g11⟩ := id g
    refine PW.iload_n dX2_init_29 rfl ?_
    refine PW.aload_n dX2_init_30 rfl ?_
    refine PW.getR fl_X2_22 rfl g3 rfl dX2_init_31 ?_
    refine PW.alenQ g5 ⟨_, rfl⟩ dX2_init_34 ?_
    refine PW.icmp_ge 57 dX2_init_35 (by decide) (by unfold inR; omega) (by unfold inR; omega) (fun h35 => ?_) (fun h35 => ?_)
    · have hi : i = N := by omega
      subst hi
      exact PW.vret rfl dX2_init_57 (hQ _ _ g)
    · refine PW.aload_n dX2_init_38 rfl ?_
      refine PW.getR fl_X2_22 rfl g3 rfl dX2_init_39 ?_
      refine PW.iload_n dX2_init_42 rfl ?_
      refine PW.newOA (a + 4 + 2 * i) (ci := 1) (ty := tyX1) [fN] g1 rfl iw_X1 kl_X2_7 ki_X1 kn_X1 tyX1_ok (by decide) rfl (by omega) (by show 3 + 2 * i + 1 ≤ 3 + 2 * N; omega) (by show 81 + N + 81 * i + 1 ≤ 81 + N + 81 * N; omega) dX2_init_43 (fun S1 p1 q1 r1 => ?_)
      refine PW.dup rfl dX2_init_46 ?_
      refine PW.callI (c_X1_init p1 r1 (upS_same _ _ _) (by omega)) ci_X1_init lk_X2_9 rfl r1.2 rfl rfl (Nat.le_of_ble_eq_true rfl) ⟨(Nat.le_of_ble_eq_true rfl), (Nat.le_of_ble_eq_true rfl)⟩ ⟨by show 3 + 2 * i + 1 + 1 ≤ 3 + 2 * N; omega, by show 81 + N + 81 * i + 1 + 80 ≤ 81 + N + 81 * N; omega⟩ dX2_init_47 (fun r S2 τ2 hq => ?_)
      obtain ⟨rfl, p2, f2, c2, z1, z2⟩ := hq
      have w3 : At S2 (a + 3) (sQ 5 N (fun j => if j < i then some (a + 4 + 2 * j) else none)) := g5.fr (((f2 _ (by omega)).1).trans (q1 _ (by omega))) (by omega)
      refine PW.aast (C := RX1) (T := TX1) (Nc := 1) w3 c2.1 rfl (fun _ => rfl) (by unfold inR; omega) (by omega) (by omega) dX2_init_50 (fun S3 p3 q3 r3 => ?_)
      refine PW.iinc [(0, _), (1, _), (2, _)] dX2_init_51 rfl rfl (Nat.le_of_ble_eq_true rfl) ?_
      refine PW.goto 29 dX2_init_54 (by decide) ?_
      refine PW.room (k' := 3 + 2 * (i + 1)) (n' := 81 + N + 81 * (i + 1)) (by omega) (by omega) ?_
      have e : ∀ b, b ≠ a + 3 → b < a + 4 + 2 * i → S3.2 b = S'.2 b := fun b b1 b2 => by rw [q3 b b1, (f2 b b2).1, q1 b b2]
      have e2 : ∀ b, b < a + 4 + 2 * i → τ2 b = τ b := fun b b2 => by rw [(f2 b b2).2, upS_ne (by omega)]
      refine ih (i + 1) S3 τ2 (by omega) (by omega) ⟨by omega, fun b hb => ⟨(e b (by omega) (by omega)).trans (g2 b hb).1, (e2 b (by omega)).trans (g2 b hb).2⟩, g3.fr (e _ (by omega) (by omega)) (by omega), g4.fr (e _ (by omega) (by omega)) (e _ (by omega) (by omega)) (by omega), ?_, fun j hj => ?_, (e2 _ (by omega)).trans g7, (e2 _ (by omega)).trans g8, (e2 _ (by omega)).trans g9, (e2 _ (by omega)).trans g10, fun j hj => ?_⟩
      · refine ⟨r3.1.trans ?_, r3.2⟩
        congr 3
        congr 1
        funext j
        by_cases hj : j = i
        · rw [if_pos (by omega), if_pos (by omega), hj]
        · rw [if_neg (by omega)]
          by_cases hj2 : j < i
          · rw [if_pos hj2, if_pos (by omega)]
          · rw [if_neg hj2, if_neg (by omega)]
      · by_cases hj2 : j = i
        · subst hj2
          exact c2.fr (q3 _ (by omega)) (q3 _ (by omega)) (by omega)
        · exact (g6 j (by omega)).fr (e _ (by omega) (by omega)) (e _ (by omega) (by omega)) (by omega)
      · by_cases hj2 : j = i
        · subst hj2
          exact ⟨z1, z2⟩
        · have := g11 j (by omega)
          exact ⟨(e2 _ (by omega)).trans this.1, (e2 _ (by omega)).trans this.2⟩


theorem okC_mk {x : FX} {y : MY} {d k n mc ms : Nat} {st : List Value} {np : Nat} {as : List Value} (h1 : as.length = np) (h2 : (st.map fun v => v.category).sum ≤ 8) (h3 : d + 1 ≤ x.2.1.frames) (h4 : 8 + (y.2.2.1 + 11) + 40 * d ≤ x.2.1.locals) (h5 : k + mc ≤ x.2.1.cells) (h6 : n + ms ≤ x.2.1.slots) : okC x y d k n mc ms st np as = true := by
  subst h1
  unfold okC
  simp only [Bool.and_eq_true]
  exact ⟨Nat.beq_refl _, Nat.ble_eq.mpr h2, Nat.ble_eq.mpr h3, Nat.ble_eq.mpr h4, Nat.ble_eq.mpr h5, Nat.ble_eq.mpr h6⟩
theorem c_X2_init {G : GT} {S : Shp} {σ : Sto} {a N : Nat} (h1 : S.1 = a + 1) (hA : At S a (sO 2 [fN, fN])) (hz : σ a = zF) (hN : N ≤ 65) (hb : a + 4 + 2 * N ≤ 1000000) : PMet G mX2_init 4 (3 + 2 * N) (81 + N + 81 * N) [.ref a, .int (iI (N : Int))] S σ (fun r S' τ => r = none ∧ S'.1 = a + 4 + 2 * N ∧ (∀ b, b < a → S'.2 b = S.2 b ∧ τ b = σ b) ∧ IsCols S' a N ∧ (τ a = zF ∧ ∀ j : Nat, j < N → τ (a + 4 + 2 * j + 1) = bgF zF)) := by
  refine PMet.of [(0, .ref a), (1, .int (iI (N : Int)))] (by decide +kernel) rfl (Nat.le_of_ble_eq_true rfl) ?_
  refine PW.aload_n dX2_init_0 rfl ?_
  refine PW.objI lo_X2 lo_in lo_co rfl (Nat.le_of_ble_eq_true rfl) ⟨(Nat.le_of_ble_eq_true rfl), (Nat.le_of_ble_eq_true rfl)⟩ dX2_init_1 ?_
  refine PW.aload_n dX2_init_4 rfl ?_
  refine PW.newOA (a + 1) (ci := 1) (ty := tyX1) [fN] h1 rfl iw_X1 kl_X2_7 ki_X1 kn_X1 tyX1_ok (by decide) rfl (by omega) (by show 0 + 1 ≤ 3 + 2 * N; omega) (by show 0 + 1 ≤ 81 + N + 81 * N; omega) dX2_init_5 (fun S1 p1 q1 r1 => ?_)
  refine PW.dup rfl dX2_init_8 ?_
  refine PW.callI (c_X1_init p1 r1 (upS_same _ _ _) (by omega)) ci_X1_init lk_X2_9 rfl r1.2 rfl rfl (Nat.le_of_ble_eq_true rfl) ⟨(Nat.le_of_ble_eq_true rfl), (Nat.le_of_ble_eq_true rfl)⟩ ⟨by show 0 + 1 + 1 ≤ 3 + 2 * N; omega, by show 0 + 1 + 80 ≤ 81 + N + 81 * N; omega⟩ dX2_init_9 (fun r S2 τ2 hq => ?_)
  obtain ⟨rfl, p2, f2, c2, z1, z2⟩ := hq
  have w2 : At S2 a (sO 2 [fN, fN]) := hA.fr (((f2 _ (by omega)).1).trans (q1 _ (by omega))) (by omega)
  refine PW.putRA fl_X2_10 rfl (fun _ => rfl) w2 rfl (fun _ => rfl) (fun _ => rfl) dX2_init_12 (fun S3 p3 q3 r3 => ?_)
  have w3 : At S3 a (sO 2 [fN, fR (a + 1)]) := r3
  refine PW.aload_n dX2_init_15 rfl ?_
  refine PW.iconst dX2_init_16 ?_
  refine PW.iload_n dX2_init_17 rfl ?_
  refine PW.callSr (c_J9_max_7cf53 (by unfold inR; omega) (by unfold inR; omega)) cs_J9_max_7cf53 lk_X2_16 dX2_init_18 rfl rfl (okC_mk rfl (Nat.le_of_ble_eq_true rfl) (Nat.le_of_ble_eq_true rfl) (Nat.le_of_ble_eq_true rfl) (by show 0 + 1 + 1 + 0 ≤ 3 + 2 * N; omega) (by show 0 + 1 + 80 + 0 ≤ 81 + N + 81 * N; omega)) ?_
  refine PW.top (N : Int) (by omega) ?_
  refine PW.newQA (a + 3) N 5 (by omega) (by omega) kl_X2_7 (fun s h => h.2.2.2) (fun _ => rfl) rfl (by omega) (by show 0 + 1 + 1 + 1 ≤ 3 + 2 * N; omega) (by show 0 + 1 + 80 + N ≤ 81 + N + 81 * N; omega) dX2_init_21 (fun S4 p4 q4 r4 => ?_)
  have w4 : At S4 a (sO 2 [fN, fR (a + 1)]) := w3.fr (q4 _ (by omega)) (by omega)
  refine PW.putRA fl_X2_22 rfl (fun _ => rfl) w4 rfl (fun _ => rfl) (fun _ => rfl) dX2_init_24 (fun S5 p5 q5 r5 => ?_)
  have w5 : At S5 a (sO 2 [fR (a + 3), fR (a + 1)]) := r5
  refine PW.iconst dX2_init_27 ?_
  refine PW.istore_n [(0, _), (1, _), (2, _)] dX2_init_28 rfl (Nat.le_of_ble_eq_true rfl) ?_
  refine PW.room (k' := 3 + 2 * 0) (n' := 81 + N + 81 * 0) (by omega) (by omega) ?_
  have e : ∀ b, b ≠ a → b < a + 3 → S5.2 b = S2.2 b := fun b b1 b2 => by rw [q5 b b1, q4 b b2, q3 b b1]
  refine X2_loop (S := S) (σ := σ) hN hb (fun S' τ hI => ⟨rfl, hI.1, hI.2.1, ⟨hI.2.2.1, hI.2.2.2.1, hI.2.2.2.2.1, fun i i0 i1 => hI.2.2.2.2.2.1 i.toNat (by omega)⟩, hI.2.2.2.2.2.2.1, fun j hj => (hI.2.2.2.2.2.2.2.2.2.2 j hj).2⟩) (N + 1) 0 S5 _ (by omega) (by omega) ⟨by omega, fun b hb => ⟨by rw [e b (by omega) (by omega), (f2 b (by omega)).1, q1 b (by omega)], by rw [upS_ne (by omega), (f2 b (by omega)).2, upS_ne (by omega)]⟩, w5, c2.fr (e _ (by omega) (by omega)) (e _ (by omega) (by omega)) (by omega), r4.fr (q5 _ (by omega)) (by omega), fun j hj => by omega, ?_, ?_, ?_, ?_, fun j hj => by omega⟩
  · rw [upS_ne (by omega), (f2 a (by omega)).2, upS_ne (by omega)]
    exact hz
  · rw [upS_ne (by omega)]
    exact z1
  · rw [upS_ne (by omega)]
    exact z2
  · rw [upS_same]

theorem IsTale.fr {S S' : Shp} {a : Nat} (h : IsTale S a) (e : ∀ b, a ≤ b → b < a + 3 → S'.2 b = S.2 b) (h3 : a + 3 ≤ S'.1) : IsTale S' a := ⟨h.1.fr (e _ (by omega) (by omega)) (by omega), h.2.1.fr (e _ (by omega) (by omega)) (by omega), h.2.2.fr (e _ (by omega) (by omega)) (by omega)⟩
theorem IsSig.fr {S S' : Shp} {a : Nat} (h : IsSig S a) (e : ∀ b, a ≤ b → b < a + 2 → S'.2 b = S.2 b) (h3 : a + 2 ≤ S'.1) : IsSig S' a := ⟨h.1.fr (e _ (by omega) (by omega)) (by omega), h.2.fr (e _ (by omega) (by omega)) (by omega)⟩
theorem IsAge.fr {S S' : Shp} {a : Nat} (h : IsAge S a) (e : ∀ b, a ≤ b → b < a + 3 → S'.2 b = S.2 b) (h3 : a + 3 ≤ S'.1) : IsAge S' a := ⟨h.1.fr (e _ (by omega) (by omega)) (by omega), h.2.1.fr (e _ (by omega) (by omega)) (by omega), h.2.2.fr (e _ (by omega) (by omega)) (by omega)⟩
theorem IsHole.fr {S S' : Shp} {a : Nat} (h : IsHole S a) (e : ∀ b, a ≤ b → b < a + 3 → S'.2 b = S.2 b) (h3 : a + 3 ≤ S'.1) : IsHole S' a := ⟨h.1.fr (e _ (by omega) (by omega)) (by omega), h.2.1.fr (e _ (by omega) (by omega)) (by omega), h.2.2.fr (e _ (by omega) (by omega)) (by omega)⟩
theorem IsTxt.fr {S S' : Shp} {a : Nat} (h : IsTxt S a) (e : ∀ b, a ≤ b → b < a + 3 → S'.2 b = S.2 b) (h3 : a + 3 ≤ S'.1) : IsTxt S' a := ⟨h.1.fr (e _ (by omega) (by omega)) (by omega), h.2.1.fr (e _ (by omega) (by omega)) (by omega), h.2.2.fr (e _ (by omega) (by omega)) (by omega)⟩
theorem IsCols.fr {S S' : Shp} {a N : Nat} (h : IsCols S a N) (e : ∀ b, a ≤ b → b < a + 4 + 2 * N → S'.2 b = S.2 b) (h3 : a + 4 + 2 * N ≤ S'.1) : IsCols S' a N := ⟨h.1.fr (e _ (by omega) (by omega)) (by omega), h.2.1.fr (e _ (by omega) (by omega)) (e _ (by omega) (by omega)) (by omega), h.2.2.1.fr (e _ (by omega) (by omega)) (by omega), fun i i0 i1 => (h.2.2.2 i i0 i1).fr (e _ (by unfold cA; omega) (by unfold cA; omega)) (e _ (by unfold cA; omega) (by unfold cA; omega)) (by unfold cA; omega)⟩
theorem IsDr.fr {S S' : Shp} {a : Nat} (h : IsDr S a) (e : ∀ b, a ≤ b → b < a + 7 → S'.2 b = S.2 b) (h3 : a + 7 ≤ S'.1) : IsDr S' a := ⟨h.1.fr (e _ (by omega) (by omega)) (by omega), h.2.1.fr (e _ (by omega) (by omega)) (by omega), h.2.2.1.fr (e _ (by omega) (by omega)) (by omega), h.2.2.2.1.fr (e _ (by omega) (by omega)) (by omega), h.2.2.2.2.1.fr (e _ (by omega) (by omega)) (by omega), h.2.2.2.2.2.1.fr (e _ (by omega) (by omega)) (by omega), h.2.2.2.2.2.2.fr (e _ (by omega) (by omega)) (by omega)⟩
theorem IsTel.fr {S S' : Shp} {a : Nat} (h : IsTel S a) (e : ∀ b, a ≤ b → b < a + 275 → S'.2 b = S.2 b) (h3 : a + 275 ≤ S'.1) : IsTel S' a := ⟨h.1.fr (e _ (by omega) (by omega)) (by omega), h.2.1.fr (e _ (by omega) (by omega)) (by omega), h.2.2.1.fr (e _ (by omega) (by omega)) (by omega), h.2.2.2.1.fr (e _ (by omega) (by omega)) (by omega), h.2.2.2.2.1.fr (e _ (by omega) (by omega)) (by omega), h.2.2.2.2.2.1.fr (e _ (by omega) (by omega)) (by omega), h.2.2.2.2.2.2.1.fr (e _ (by omega) (by omega)) (by omega), h.2.2.2.2.2.2.2.1.fr (fun b b0 b1 => e b (by omega) (by omega)) (by omega), h.2.2.2.2.2.2.2.2.fr (fun b b0 b1 => e b (by omega) (by omega)) (by omega)⟩
theorem IsEnds.fr {S S' : Shp} {a : Nat} (h : IsEnds S a) (e : ∀ b, a ≤ b → b < a + 22 → S'.2 b = S.2 b) (h3 : a + 22 ≤ S'.1) : IsEnds S' a := ⟨h.1.fr (e _ (by omega) (by omega)) (by omega), h.2.1.fr (fun b b0 b1 => e b (by omega) (by omega)) (by omega), h.2.2.1.fr (fun b b0 b1 => e b (by omega) (by omega)) (by omega), h.2.2.2.1.fr (e _ (by omega) (by omega)) (by omega), h.2.2.2.2.1.fr (e _ (by omega) (by omega)) (by omega), h.2.2.2.2.2.1.fr (e _ (by omega) (by omega)) (by omega), h.2.2.2.2.2.2.fr (e _ (by omega) (by omega)) (by omega)⟩

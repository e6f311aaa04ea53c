theorem c_X4_init {G : GT} {S : Shp} {σ : Sto} {a : Nat} (h1 : S.1 = a + 1) (hA : At S a (sO 4 [fN, fN, fN, fN, fN, fN, fI, fI, fI])) (hz : σ a = zF) (hb : a + 22 ≤ 1000000) : PMet G mX4_init 5 21 1947 [.ref a] S σ (fun r S' τ => r = none ∧ S'.1 = a + 22 ∧ (∀ b, b < a → S'.2 b = S.2 b ∧ τ b = σ b) ∧ IsEnds S' a ∧ (τ a = zF ∧ ∀ j : Nat, j < 5 → τ (a + 4 + 4 + 2 * j + 1) = bgF zF)) := by
  refine PMet.of [(0, .ref a)] (by decide +kernel) rfl (Nat.le_of_ble_eq_true rfl) ?_
  refine PW.aload_n dX4_init_0 rfl ?_
  refine PW.objI lo_X4 lo_in lo_co rfl (Nat.le_of_ble_eq_true rfl) ⟨(Nat.le_of_ble_eq_true rfl), (Nat.le_of_ble_eq_true rfl)⟩ dX4_init_1 ?_
  refine PW.aload_n dX4_init_4 rfl ?_
  refine PW.newOA (a + 1) (ci := 7) (ty := tyX8) [fN, fN, fI] h1 rfl iw_X8 kl_X4_9 ki_X8 kn_X8 tyX8_ok (by decide) rfl (by omega) (Nat.le_of_ble_eq_true rfl) (Nat.le_of_ble_eq_true rfl) dX4_init_5 (fun S1 p1 q1 r1 => ?_)
  refine PW.gst (fun τ1 e1 => ?_)
  have u1 : S1.1 = (a + 2) := by omega
  have w1 : At S1 a (sO 4 [fN, fN, fN, fN, fN, fN, fI, fI, fI]) := hA.fr (q1 _ (by omega)) (by omega)
  refine PW.dup rfl dX4_init_8 ?_
  refine PW.callI (c_X8_init p1 r1 (by rw [e1]; exact upS_same _ _ _) (by omega)) ci_X8_init lk_X4_11 rfl r1.2 rfl rfl (Nat.le_of_ble_eq_true rfl) ⟨(Nat.le_of_ble_eq_true rfl), (Nat.le_of_ble_eq_true rfl)⟩ ⟨(Nat.le_of_ble_eq_true rfl), (Nat.le_of_ble_eq_true rfl)⟩ dX4_init_9 (fun r S2 τ2 hq => ?_)
  obtain ⟨rfl, p2, f2, c2, z2⟩ := hq
  refine PW.room (k' := 3) (n' := 122) (by omega) (by omega) ?_
  have u2 : S2.1 = (a + 4) := by omega
  clear u1 p2 p1
  have w2 : At S2 a (sO 4 [fN, fN, fN, fN, fN, fN, fI, fI, fI]) := w1.fr (by rw [(f2 _ (by omega)).1]) (by omega)
  refine PW.putRA fl_X4_12 rfl (fun _ => rfl) w2 rfl (fun _ => rfl) (fun _ => rfl) dX4_init_12 (fun S3 p3 q3 r3 => ?_)
  have u3 : S3.1 = (a + 4) := by omega
  have w3 : At S3 a (sO 4 [fR (a + 1), fN, fN, fN, fN, fN, fI, fI, fI]) := r3
  clear u2 p3
  refine PW.aload_n dX4_init_15 rfl ?_
  refine PW.newOA (a + 4) (ci := 2) (ty := tyX2) [fN, fN] u3 rfl iw_X2 kl_X4_18 ki_X2 kn_X2 tyX2_ok (by decide) rfl (by omega) (Nat.le_of_ble_eq_true rfl) (Nat.le_of_ble_eq_true rfl) dX4_init_16 (fun S4 p4 q4 r4 => ?_)
  refine PW.gst (fun τ4 e4 => ?_)
  have u4 : S4.1 = (a + 5) := by omega
  clear u3
  have w4 : At S4 a (sO 4 [fR (a + 1), fN, fN, fN, fN, fN, fI, fI, fI]) := w3.fr (q4 _ (by omega)) (by omega)
  refine PW.dup rfl dX4_init_19 ?_
  refine PW.iconst dX4_init_20 ?_
  refine PW.callI (c_X2_init (N := 5) p4 r4 (by rw [e4]; exact upS_same _ _ _) (by omega) (by omega)) ci_X2_init lk_X4_20 rfl r4.2 rfl rfl (Nat.le_of_ble_eq_true rfl) ⟨(Nat.le_of_ble_eq_true rfl), (Nat.le_of_ble_eq_true rfl)⟩ ⟨(Nat.le_of_ble_eq_true rfl), (Nat.le_of_ble_eq_true rfl)⟩ dX4_init_21 (fun r S5 τ5 hq => ?_)
  obtain ⟨rfl, p5, f5, c5, z5⟩ := hq
  refine PW.room (k' := 17) (n' := 615) (by omega) (by omega) ?_
  have u5 : S5.1 = (a + 18) := by omega
  clear u4 p5 p4
  have w5 : At S5 a (sO 4 [fR (a + 1), fN, fN, fN, fN, fN, fI, fI, fI]) := w4.fr (by rw [(f5 _ (by omega)).1]) (by omega)
  refine PW.putRA fl_X4_23 rfl (fun _ => rfl) w5 rfl (fun _ => rfl) (fun _ => rfl) dX4_init_24 (fun S6 p6 q6 r6 => ?_)
  have u6 : S6.1 = (a + 18) := by omega
  have w6 : At S6 a (sO 4 [fR (a + 1), fR (a + 4), fN, fN, fN, fN, fI, fI, fI]) := r6
  clear u5 p6
  refine PW.aload_n dX4_init_27 rfl ?_
  refine PW.iconst dX4_init_28 ?_
  refine PW.newA (a + 18) 4 0 (atype := .int) u6 (by decide) ka_int (fun _ => rfl) rfl (by decide) (by omega) (Nat.le_of_ble_eq_true rfl) (Nat.le_of_ble_eq_true rfl) dX4_init_29 (fun S7 p7 q7 r7 => ?_)
  refine PW.gst (fun τ7 e7 => ?_)
  have u7 : S7.1 = (a + 19) := by omega
  clear u6 p7
  have w7 : At S7 a (sO 4 [fR (a + 1), fR (a + 4), fN, fN, fN, fN, fI, fI, fI]) := w6.fr (q7 _ (by omega)) (by omega)
  refine PW.putRA fl_X4_27 rfl (fun _ => rfl) w7 rfl (fun _ => rfl) (fun _ => rfl) dX4_init_31 (fun S8 p8 q8 r8 => ?_)
  have u8 : S8.1 = (a + 19) := by omega
  have w8 : At S8 a (sO 4 [fR (a + 1), fR (a + 4), fR (a + 18), fN, fN, fN, fI, fI, fI]) := r8
  clear u7 p8
  refine PW.aload_n dX4_init_34 rfl ?_
  refine PW.sipush (by decide) dX4_init_35 ?_
  refine PW.newA (a + 19) 1296 0 (atype := .int) u8 (by decide) ka_int (fun _ => rfl) rfl (by decide) (by omega) (Nat.le_of_ble_eq_true rfl) (Nat.le_of_ble_eq_true rfl) dX4_init_38 (fun S9 p9 q9 r9 => ?_)
  refine PW.gst (fun τ9 e9 => ?_)
  have u9 : S9.1 = (a + 20) := by omega
  clear u8 p9
  have w9 : At S9 a (sO 4 [fR (a + 1), fR (a + 4), fR (a + 18), fN, fN, fN, fI, fI, fI]) := w8.fr (q9 _ (by omega)) (by omega)
  refine PW.putRA fl_X4_31 rfl (fun _ => rfl) w9 rfl (fun _ => rfl) (fun _ => rfl) dX4_init_40 (fun S10 p10 q10 r10 => ?_)
  have u10 : S10.1 = (a + 20) := by omega
  have w10 : At S10 a (sO 4 [fR (a + 1), fR (a + 4), fR (a + 18), fR (a + 19), fN, fN, fI, fI, fI]) := r10
  clear u9 p10
  refine PW.aload_n dX4_init_43 rfl ?_
  refine PW.bipush (by decide) dX4_init_44 ?_
  refine PW.newA (a + 20) 16 0 (atype := .int) u10 (by decide) ka_int (fun _ => rfl) rfl (by decide) (by omega) (Nat.le_of_ble_eq_true rfl) (Nat.le_of_ble_eq_true rfl) dX4_init_46 (fun S11 p11 q11 r11 => ?_)
  refine PW.gst (fun τ11 e11 => ?_)
  have u11 : S11.1 = (a + 21) := by omega
  clear u10 p11
  have w11 : At S11 a (sO 4 [fR (a + 1), fR (a + 4), fR (a + 18), fR (a + 19), fN, fN, fI, fI, fI]) := w10.fr (q11 _ (by omega)) (by omega)
  refine PW.putRA fl_X4_34 rfl (fun _ => rfl) w11 rfl (fun _ => rfl) (fun _ => rfl) dX4_init_48 (fun S12 p12 q12 r12 => ?_)
  have u12 : S12.1 = (a + 21) := by omega
  have w12 : At S12 a (sO 4 [fR (a + 1), fR (a + 4), fR (a + 18), fR (a + 19), fR (a + 20), fN, fI, fI, fI]) := r12
  clear u11 p12
  refine PW.aload_n dX4_init_51 rfl ?_
  refine PW.bipush (by decide) dX4_init_52 ?_
  refine PW.newA (a + 21) 16 0 (atype := .int) u12 (by decide) ka_int (fun _ => rfl) rfl (by decide) (by omega) (Nat.le_of_ble_eq_true rfl) (Nat.le_of_ble_eq_true rfl) dX4_init_54 (fun S13 p13 q13 r13 => ?_)
  refine PW.gst (fun τ13 e13 => ?_)
  have u13 : S13.1 = (a + 22) := by omega
  clear u12 p13
  have w13 : At S13 a (sO 4 [fR (a + 1), fR (a + 4), fR (a + 18), fR (a + 19), fR (a + 20), fN, fI, fI, fI]) := w12.fr (q13 _ (by omega)) (by omega)
  refine PW.putRA fl_X4_37 rfl (fun _ => rfl) w13 rfl (fun _ => rfl) (fun _ => rfl) dX4_init_56 (fun S14 p14 q14 r14 => ?_)
  have u14 : S14.1 = (a + 22) := by omega
  have w14 : At S14 a (sO 4 [fR (a + 1), fR (a + 4), fR (a + 18), fR (a + 19), fR (a + 20), fR (a + 21), fI, fI, fI]) := r14
  clear u13 p14
  refine PW.aload_n dX4_init_59 rfl ?_
  refine PW.iconst dX4_init_60 ?_
  have ha : τ13 a = zF := by rw [e13, upS_ne (show a ≠ (a + 21) by omega), e11, upS_ne (show a ≠ (a + 20) by omega), e9, upS_ne (show a ≠ (a + 19) by omega), e7, upS_ne (show a ≠ (a + 18) by omega), (f5 a (by omega)).2, e4, upS_ne (show a ≠ (a + 4) by omega), (f2 a (by omega)).2, e1, upS_ne (show a ≠ (a + 1) by omega)]; exact hz
  refine PW.putI 6 fl_X4_40 rfl (fun h => absurd h (by decide)) w14 rfl rfl rfl rfl dX4_init_61 ?_
  refine PW.gst (fun τ15 e15 => ?_)
  refine PW.aload_n dX4_init_64 rfl ?_
  refine PW.iconst dX4_init_65 ?_
  refine PW.putI 7 fl_X4_44 rfl (fun h => absurd h (by decide)) w14 rfl rfl rfl rfl dX4_init_66 ?_
  refine PW.gst (fun τ16 e16 => ?_)
  refine PW.aload_n dX4_init_69 rfl ?_
  refine PW.iconst dX4_init_70 ?_
  refine PW.putI 8 fl_X4_47 rfl (fun h => absurd h (by decide)) w14 rfl rfl rfl rfl dX4_init_71 ?_
  refine PW.gst (fun τ17 e17 => ?_)
  have i18 := r7.fr (S' := S14) (by rw [q14 _ (by omega), q13 _ (by omega), q12 _ (by omega), q11 _ (by omega), q10 _ (by omega), q9 _ (by omega), q8 _ (by omega)]) (by omega)
  have i19 := r9.fr (S' := S14) (by rw [q14 _ (by omega), q13 _ (by omega), q12 _ (by omega), q11 _ (by omega), q10 _ (by omega)]) (by omega)
  have i20 := r11.fr (S' := S14) (by rw [q14 _ (by omega), q13 _ (by omega), q12 _ (by omega)]) (by omega)
  have i21 := r13.fr (S' := S14) (by rw [q14 _ (by omega)]) (by omega)
  have i1 := c2.fr (S' := S14) (fun b b0 b1 => by rw [q14 b (by omega), q13 b (by omega), q12 b (by omega), q11 b (by omega), q10 b (by omega), q9 b (by omega), q8 b (by omega), q7 b (by omega), q6 b (by omega), (f5 b (by omega)).1, q4 b (by omega), q3 b (by omega)]) (by omega)
  have i4 := c5.fr (S' := S14) (fun b b0 b1 => by rw [q14 b (by omega), q13 b (by omega), q12 b (by omega), q11 b (by omega), q10 b (by omega), q9 b (by omega), q8 b (by omega), q7 b (by omega), q6 b (by omega)]) (by omega)
  have ifr : ∀ b, b < a → S14.2 b = S.2 b := fun b hb => by rw [q14 b (by omega), q13 b (by omega), q12 b (by omega), q11 b (by omega), q10 b (by omega), q9 b (by omega), q8 b (by omega), q7 b (by omega), q6 b (by omega), (f5 b (by omega)).1, q4 b (by omega), q3 b (by omega), (f2 b (by omega)).1, q1 b (by omega)]
  refine PW.vret rfl dX4_init_74 ?_
  have hQ2 : ∀ b, b < a → τ17 b = σ b := fun b hb => by rw [e17, upS_ne (show b ≠ a by omega), e16, upS_ne (show b ≠ a by omega), e15, upS_ne (show b ≠ a by omega), e13, upS_ne (show b ≠ (a + 21) by omega), e11, upS_ne (show b ≠ (a + 20) by omega), e9, upS_ne (show b ≠ (a + 19) by omega), e7, upS_ne (show b ≠ (a + 18) by omega), (f5 b (by omega)).2, e4, upS_ne (show b ≠ (a + 4) by omega), (f2 b (by omega)).2, e1, upS_ne (show b ≠ (a + 1) by omega)]
  refine ⟨rfl, u14, fun b hb => ⟨ifr b hb, hQ2 b hb⟩, ⟨w14, i1, i4, i18, i19, i20, i21⟩, ?_, fun j hj => ?_⟩
  · rw [e17, upS_same, e16, upS_same, e15, upS_same, ha]
    funext q
    simp [up1]
  · rw [e17, upS_ne (show (a + 4 + 4 + 2 * j + 1) ≠ a by omega), e16, upS_ne (show (a + 4 + 4 + 2 * j + 1) ≠ a by omega), e15, upS_ne (show (a + 4 + 4 + 2 * j + 1) ≠ a by omega), e13, upS_ne (show (a + 4 + 4 + 2 * j + 1) ≠ (a + 21) by omega), e11, upS_ne (show (a + 4 + 4 + 2 * j + 1) ≠ (a + 20) by omega), e9, upS_ne (show (a + 4 + 4 + 2 * j + 1) ≠ (a + 19) by omega), e7, upS_ne (show (a + 4 + 4 + 2 * j + 1) ≠ (a + 18) by omega)]
    exact z5.2 j hj


theorem c_X9_init {G : GT} {S : Shp} {σ : Sto} {a : Nat} (h1 : S.1 = a + 1) (hA : At S a (sO 8 [fN, fN, fN, fN, fN, fN, fN, fN, fI, fI, fI, fI, fI])) (hz : σ a = zF) (hb : a + 275 ≤ 1000000) : PMet G mX9_init 5 274 11216 [.ref a] S σ (fun r S' τ => r = none ∧ S'.1 = a + 275 ∧ (∀ b, b < a → S'.2 b = S.2 b ∧ τ b = σ b) ∧ IsTel S' a ∧ (τ a = up1 zF 10 (-1) ∧ (∀ j : Nat, j < 65 → τ (a + 7 + 4 + 2 * j + 1) = bgF zF) ∧ ∀ j : Nat, j < 65 → τ (a + 141 + 4 + 2 * j + 1) = bgF zF)) := by
  refine PMet.of [(0, .ref a)] (by decide +kernel) rfl (Nat.le_of_ble_eq_true rfl) ?_
  refine PW.aload_n dX9_init_0 rfl ?_
  refine PW.objI lo_X9 lo_in lo_co rfl (Nat.le_of_ble_eq_true rfl) ⟨(Nat.le_of_ble_eq_true rfl), (Nat.le_of_ble_eq_true rfl)⟩ dX9_init_1 ?_
  refine PW.aload_n dX9_init_4 rfl ?_
  refine PW.bipush (by decide) dX9_init_5 ?_
  refine PW.newA (a + 1) 65 0 (atype := .int) h1 (by decide) ka_int (fun _ => rfl) rfl (by decide) (by omega) (Nat.le_of_ble_eq_true rfl) (Nat.le_of_ble_eq_true rfl) dX9_init_7 (fun S1 p1 q1 r1 => ?_)
  refine PW.gst (fun τ1 e1 => ?_)
  have u1 : S1.1 = (a + 2) := by omega
  clear p1
  have w1 : At S1 a (sO 8 [fN, fN, fN, fN, fN, fN, fN, fN, fI, fI, fI, fI, fI]) := hA.fr (q1 _ (by omega)) (by omega)
  refine PW.putRA fl_X9_9 rfl (fun _ => rfl) w1 rfl (fun _ => rfl) (fun _ => rfl) dX9_init_9 (fun S2 p2 q2 r2 => ?_)
  have u2 : S2.1 = (a + 2) := by omega
  have w2 : At S2 a (sO 8 [fR (a + 1), fN, fN, fN, fN, fN, fN, fN, fI, fI, fI, fI, fI]) := r2
  clear u1 p2
  refine PW.aload_n dX9_init_12 rfl ?_
  refine PW.bipush (by decide) dX9_init_13 ?_
  refine PW.newA (a + 2) 65 0 (atype := .int) u2 (by decide) ka_int (fun _ => rfl) rfl (by decide) (by omega) (Nat.le_of_ble_eq_true rfl) (Nat.le_of_ble_eq_true rfl) dX9_init_15 (fun S3 p3 q3 r3 => ?_)
  refine PW.gst (fun τ3 e3 => ?_)
  have u3 : S3.1 = (a + 3) := by omega
  clear u2 p3
  have w3 : At S3 a (sO 8 [fR (a + 1), fN, fN, fN, fN, fN, fN, fN, fI, fI, fI, fI, fI]) := w2.fr (q3 _ (by omega)) (by omega)
  refine PW.putRA fl_X9_15 rfl (fun _ => rfl) w3 rfl (fun _ => rfl) (fun _ => rfl) dX9_init_17 (fun S4 p4 q4 r4 => ?_)
  have u4 : S4.1 = (a + 3) := by omega
  have w4 : At S4 a (sO 8 [fR (a + 1), fR (a + 2), fN, fN, fN, fN, fN, fN, fI, fI, fI, fI, fI]) := r4
  clear u3 p4
  refine PW.aload_n dX9_init_20 rfl ?_
  refine PW.bipush (by decide) dX9_init_21 ?_
  refine PW.newA (a + 3) 65 0 (atype := .int) u4 (by decide) ka_int (fun _ => rfl) rfl (by decide) (by omega) (Nat.le_of_ble_eq_true rfl) (Nat.le_of_ble_eq_true rfl) dX9_init_23 (fun S5 p5 q5 r5 => ?_)
  refine PW.gst (fun τ5 e5 => ?_)
  have u5 : S5.1 = (a + 4) := by omega
  clear u4 p5
  have w5 : At S5 a (sO 8 [fR (a + 1), fR (a + 2), fN, fN, fN, fN, fN, fN, fI, fI, fI, fI, fI]) := w4.fr (q5 _ (by omega)) (by omega)
  refine PW.putRA fl_X9_18 rfl (fun _ => rfl) w5 rfl (fun _ => rfl) (fun _ => rfl) dX9_init_25 (fun S6 p6 q6 r6 => ?_)
  have u6 : S6.1 = (a + 4) := by omega
  have w6 : At S6 a (sO 8 [fR (a + 1), fR (a + 2), fR (a + 3), fN, fN, fN, fN, fN, fI, fI, fI, fI, fI]) := r6
  clear u5 p6
  refine PW.aload_n dX9_init_28 rfl ?_
  refine PW.bipush (by decide) dX9_init_29 ?_
  refine PW.newA (a + 4) 65 0 (atype := .int) u6 (by decide) ka_int (fun _ => rfl) rfl (by decide) (by omega) (Nat.le_of_ble_eq_true rfl) (Nat.le_of_ble_eq_true rfl) dX9_init_31 (fun S7 p7 q7 r7 => ?_)
  refine PW.gst (fun τ7 e7 => ?_)
  have u7 : S7.1 = (a + 5) := by omega
  clear u6 p7
  have w7 : At S7 a (sO 8 [fR (a + 1), fR (a + 2), fR (a + 3), fN, fN, fN, fN, fN, fI, fI, fI, fI, fI]) := w6.fr (q7 _ (by omega)) (by omega)
  refine PW.putRA fl_X9_21 rfl (fun _ => rfl) w7 rfl (fun _ => rfl) (fun _ => rfl) dX9_init_33 (fun S8 p8 q8 r8 => ?_)
  have u8 : S8.1 = (a + 5) := by omega
  have w8 : At S8 a (sO 8 [fR (a + 1), fR (a + 2), fR (a + 3), fR (a + 4), fN, fN, fN, fN, fI, fI, fI, fI, fI]) := r8
  clear u7 p8
  refine PW.aload_n dX9_init_36 rfl ?_
  refine PW.bipush (by decide) dX9_init_37 ?_
  refine PW.newA (a + 5) 65 0 (atype := .int) u8 (by decide) ka_int (fun _ => rfl) rfl (by decide) (by omega) (Nat.le_of_ble_eq_true rfl) (Nat.le_of_ble_eq_true rfl) dX9_init_39 (fun S9 p9 q9 r9 => ?_)
  refine PW.gst (fun τ9 e9 => ?_)
  have u9 : S9.1 = (a + 6) := by omega
  clear u8 p9
  have w9 : At S9 a (sO 8 [fR (a + 1), fR (a + 2), fR (a + 3), fR (a + 4), fN, fN, fN, fN, fI, fI, fI, fI, fI]) := w8.fr (q9 _ (by omega)) (by omega)
  refine PW.putRA fl_X9_24 rfl (fun _ => rfl) w9 rfl (fun _ => rfl) (fun _ => rfl) dX9_init_41 (fun S10 p10 q10 r10 => ?_)
  have u10 : S10.1 = (a + 6) := by omega
  have w10 : At S10 a (sO 8 [fR (a + 1), fR (a + 2), fR (a + 3), fR (a + 4), fR (a + 5), fN, fN, fN, fI, fI, fI, fI, fI]) := r10
  clear u9 p10
  refine PW.aload_n dX9_init_44 rfl ?_
  refine PW.bipush (by decide) dX9_init_45 ?_
  refine PW.newA (a + 6) 65 0 (atype := .int) u10 (by decide) ka_int (fun _ => rfl) rfl (by decide) (by omega) (Nat.le_of_ble_eq_true rfl) (Nat.le_of_ble_eq_true rfl) dX9_init_47 (fun S11 p11 q11 r11 => ?_)
  refine PW.gst (fun τ11 e11 => ?_)
  have u11 : S11.1 = (a + 7) := by omega
  clear u10 p11
  have w11 : At S11 a (sO 8 [fR (a + 1), fR (a + 2), fR (a + 3), fR (a + 4), fR (a + 5), fN, fN, fN, fI, fI, fI, fI, fI]) := w10.fr (q11 _ (by omega)) (by omega)
  refine PW.putRA fl_X9_27 rfl (fun _ => rfl) w11 rfl (fun _ => rfl) (fun _ => rfl) dX9_init_49 (fun S12 p12 q12 r12 => ?_)
  have u12 : S12.1 = (a + 7) := by omega
  have w12 : At S12 a (sO 8 [fR (a + 1), fR (a + 2), fR (a + 3), fR (a + 4), fR (a + 5), fR (a + 6), fN, fN, fI, fI, fI, fI, fI]) := r12
  clear u11 p12
  refine PW.aload_n dX9_init_52 rfl ?_
  refine PW.newOA (a + 7) (ci := 2) (ty := tyX2) [fN, fN] u12 rfl iw_X2 kl_X9_30 ki_X2 kn_X2 tyX2_ok (by decide) rfl (by omega) (Nat.le_of_ble_eq_true rfl) (Nat.le_of_ble_eq_true rfl) dX9_init_53 (fun S13 p13 q13 r13 => ?_)
  refine PW.gst (fun τ13 e13 => ?_)
  have u13 : S13.1 = (a + 8) := by omega
  clear u12
  have w13 : At S13 a (sO 8 [fR (a + 1), fR (a + 2), fR (a + 3), fR (a + 4), fR (a + 5), fR (a + 6), fN, fN, fI, fI, fI, fI, fI]) := w12.fr (q13 _ (by omega)) (by omega)
  refine PW.dup rfl dX9_init_56 ?_
  refine PW.bipush (by decide) dX9_init_57 ?_
  refine PW.callI (c_X2_init (N := 65) p13 r13 (by rw [e13]; exact upS_same _ _ _) (by omega) (by omega)) ci_X2_init lk_X9_32 rfl r13.2 rfl rfl (Nat.le_of_ble_eq_true rfl) ⟨(Nat.le_of_ble_eq_true rfl), (Nat.le_of_ble_eq_true rfl)⟩ ⟨(Nat.le_of_ble_eq_true rfl), (Nat.le_of_ble_eq_true rfl)⟩ dX9_init_59 (fun r S14 τ14 hq => ?_)
  obtain ⟨rfl, p14, f14, c14, z14⟩ := hq
  refine PW.room (k' := 140) (n' := 5803) (by omega) (by omega) ?_
  have u14 : S14.1 = (a + 141) := by omega
  clear u13 p14 p13
  have w14 : At S14 a (sO 8 [fR (a + 1), fR (a + 2), fR (a + 3), fR (a + 4), fR (a + 5), fR (a + 6), fN, fN, fI, fI, fI, fI, fI]) := w13.fr (by rw [(f14 _ (by omega)).1]) (by omega)
  refine PW.putRA fl_X9_35 rfl (fun _ => rfl) w14 rfl (fun _ => rfl) (fun _ => rfl) dX9_init_62 (fun S15 p15 q15 r15 => ?_)
  have u15 : S15.1 = (a + 141) := by omega
  have w15 : At S15 a (sO 8 [fR (a + 1), fR (a + 2), fR (a + 3), fR (a + 4), fR (a + 5), fR (a + 6), fR (a + 7), fN, fI, fI, fI, fI, fI]) := r15
  clear u14 p15
  refine PW.aload_n dX9_init_65 rfl ?_
  refine PW.newOA (a + 141) (ci := 2) (ty := tyX2) [fN, fN] u15 rfl iw_X2 kl_X9_30 ki_X2 kn_X2 tyX2_ok (by decide) rfl (by omega) (Nat.le_of_ble_eq_true rfl) (Nat.le_of_ble_eq_true rfl) dX9_init_66 (fun S16 p16 q16 r16 => ?_)
  refine PW.gst (fun τ16 e16 => ?_)
  have u16 : S16.1 = (a + 142) := by omega
  clear u15
  have w16 : At S16 a (sO 8 [fR (a + 1), fR (a + 2), fR (a + 3), fR (a + 4), fR (a + 5), fR (a + 6), fR (a + 7), fN, fI, fI, fI, fI, fI]) := w15.fr (q16 _ (by omega)) (by omega)
  refine PW.dup rfl dX9_init_69 ?_
  refine PW.bipush (by decide) dX9_init_70 ?_
  refine PW.callI (c_X2_init (N := 65) p16 r16 (by rw [e16]; exact upS_same _ _ _) (by omega) (by omega)) ci_X2_init lk_X9_32 rfl r16.2 rfl rfl (Nat.le_of_ble_eq_true rfl) ⟨(Nat.le_of_ble_eq_true rfl), (Nat.le_of_ble_eq_true rfl)⟩ ⟨(Nat.le_of_ble_eq_true rfl), (Nat.le_of_ble_eq_true rfl)⟩ dX9_init_72 (fun r S17 τ17 hq => ?_)
  obtain ⟨rfl, p17, f17, c17, z17⟩ := hq
  refine PW.room (k' := 274) (n' := 11216) (by omega) (by omega) ?_
  have u17 : S17.1 = (a + 275) := by omega
  clear u16 p17 p16
  have w17 : At S17 a (sO 8 [fR (a + 1), fR (a + 2), fR (a + 3), fR (a + 4), fR (a + 5), fR (a + 6), fR (a + 7), fN, fI, fI, fI, fI, fI]) := w16.fr (by rw [(f17 _ (by omega)).1]) (by omega)
  refine PW.putRA fl_X9_39 rfl (fun _ => rfl) w17 rfl (fun _ => rfl) (fun _ => rfl) dX9_init_75 (fun S18 p18 q18 r18 => ?_)
  have u18 : S18.1 = (a + 275) := by omega
  have w18 : At S18 a (sO 8 [fR (a + 1), fR (a + 2), fR (a + 3), fR (a + 4), fR (a + 5), fR (a + 6), fR (a + 7), fR (a + 141), fI, fI, fI, fI, fI]) := r18
  clear u17 p18
  refine PW.aload_n dX9_init_78 rfl ?_
  refine PW.iconst dX9_init_79 ?_
  have ha : τ17 a = zF := by rw [(f17 a (by omega)).2, e16, upS_ne (show a ≠ (a + 141) by omega), (f14 a (by omega)).2, e13, upS_ne (show a ≠ (a + 7) by omega), e11, upS_ne (show a ≠ (a + 6) by omega), e9, upS_ne (show a ≠ (a + 5) by omega), e7, upS_ne (show a ≠ (a + 4) by omega), e5, upS_ne (show a ≠ (a + 3) by omega), e3, upS_ne (show a ≠ (a + 2) by omega), e1, upS_ne (show a ≠ (a + 1) by omega)]; exact hz
  refine PW.putI 8 fl_X9_42 rfl (fun h => absurd h (by decide)) w18 rfl rfl rfl rfl dX9_init_80 ?_
  refine PW.gst (fun τ19 e19 => ?_)
  refine PW.aload_n dX9_init_83 rfl ?_
  refine PW.iconst dX9_init_84 ?_
  refine PW.putI 9 fl_X9_46 rfl (fun h => absurd h (by decide)) w18 rfl rfl rfl rfl dX9_init_85 ?_
  refine PW.gst (fun τ20 e20 => ?_)
  refine PW.aload_n dX9_init_88 rfl ?_
  refine PW.iconst dX9_init_89 ?_
  refine PW.putI 10 fl_X9_49 rfl (fun h => absurd h (by decide)) w18 rfl rfl rfl rfl dX9_init_90 ?_
  refine PW.gst (fun τ21 e21 => ?_)
  refine PW.aload_n dX9_init_93 rfl ?_
  refine PW.iconst dX9_init_94 ?_
  refine PW.putI 11 fl_X9_52 rfl (fun h => absurd h (by decide)) w18 rfl rfl rfl rfl dX9_init_95 ?_
  refine PW.gst (fun τ22 e22 => ?_)
  refine PW.aload_n dX9_init_98 rfl ?_
  refine PW.iconst dX9_init_99 ?_
  refine PW.putI 12 fl_X9_55 rfl (fun h => absurd h (by decide)) w18 rfl rfl rfl rfl dX9_init_100 ?_
  refine PW.gst (fun τ23 e23 => ?_)
  have i1 := r1.fr (S' := S18) (by rw [q18 _ (by omega), (f17 _ (by omega)).1, q16 _ (by omega), q15 _ (by omega), (f14 _ (by omega)).1, q13 _ (by omega), q12 _ (by omega), q11 _ (by omega), q10 _ (by omega), q9 _ (by omega), q8 _ (by omega), q7 _ (by omega), q6 _ (by omega), q5 _ (by omega), q4 _ (by omega), q3 _ (by omega), q2 _ (by omega)]) (by omega)
  have i2 := r3.fr (S' := S18) (by rw [q18 _ (by omega), (f17 _ (by omega)).1, q16 _ (by omega), q15 _ (by omega), (f14 _ (by omega)).1, q13 _ (by omega), q12 _ (by omega), q11 _ (by omega), q10 _ (by omega), q9 _ (by omega), q8 _ (by omega), q7 _ (by omega), q6 _ (by omega), q5 _ (by omega), q4 _ (by omega)]) (by omega)
  have i3 := r5.fr (S' := S18) (by rw [q18 _ (by omega), (f17 _ (by omega)).1, q16 _ (by omega), q15 _ (by omega), (f14 _ (by omega)).1, q13 _ (by omega), q12 _ (by omega), q11 _ (by omega), q10 _ (by omega), q9 _ (by omega), q8 _ (by omega), q7 _ (by omega), q6 _ (by omega)]) (by omega)
  have i4 := r7.fr (S' := S18) (by rw [q18 _ (by omega), (f17 _ (by omega)).1, q16 _ (by omega), q15 _ (by omega), (f14 _ (by omega)).1, q13 _ (by omega), q12 _ (by omega), q11 _ (by omega), q10 _ (by omega), q9 _ (by omega), q8 _ (by omega)]) (by omega)
  have i5 := r9.fr (S' := S18) (by rw [q18 _ (by omega), (f17 _ (by omega)).1, q16 _ (by omega), q15 _ (by omega), (f14 _ (by omega)).1, q13 _ (by omega), q12 _ (by omega), q11 _ (by omega), q10 _ (by omega)]) (by omega)
  have i6 := r11.fr (S' := S18) (by rw [q18 _ (by omega), (f17 _ (by omega)).1, q16 _ (by omega), q15 _ (by omega), (f14 _ (by omega)).1, q13 _ (by omega), q12 _ (by omega)]) (by omega)
  have i7 := c14.fr (S' := S18) (fun b b0 b1 => by rw [q18 b (by omega), (f17 b (by omega)).1, q16 b (by omega), q15 b (by omega)]) (by omega)
  have i141 := c17.fr (S' := S18) (fun b b0 b1 => by rw [q18 b (by omega)]) (by omega)
  have ifr : ∀ b, b < a → S18.2 b = S.2 b := fun b hb => by rw [q18 b (by omega), (f17 b (by omega)).1, q16 b (by omega), q15 b (by omega), (f14 b (by omega)).1, q13 b (by omega), q12 b (by omega), q11 b (by omega), q10 b (by omega), q9 b (by omega), q8 b (by omega), q7 b (by omega), q6 b (by omega), q5 b (by omega), q4 b (by omega), q3 b (by omega), q2 b (by omega), q1 b (by omega)]
  refine PW.vret rfl dX9_init_103 ?_
  have hQ1 := u18
  have hQ2 : ∀ b, b < a → τ23 b = σ b := fun b hb => by rw [e23, upS_ne (show b ≠ a by omega), e22, upS_ne (show b ≠ a by omega), e21, upS_ne (show b ≠ a by omega), e20, upS_ne (show b ≠ a by omega), e19, upS_ne (show b ≠ a by omega), (f17 b (by omega)).2, e16, upS_ne (show b ≠ (a + 141) by omega), (f14 b (by omega)).2, e13, upS_ne (show b ≠ (a + 7) by omega), e11, upS_ne (show b ≠ (a + 6) by omega), e9, upS_ne (show b ≠ (a + 5) by omega), e7, upS_ne (show b ≠ (a + 4) by omega), e5, upS_ne (show b ≠ (a + 3) by omega), e3, upS_ne (show b ≠ (a + 2) by omega), e1, upS_ne (show b ≠ (a + 1) by omega)]
  have hQ3 : IsTel S18 a := by
    unfold IsTel
    exact ⟨w18, i1, i2, i3, i4, i5, i6, i7, i141⟩
  refine ⟨rfl, hQ1, fun b hb => ⟨ifr b hb, hQ2 b hb⟩, hQ3, ?_, fun j hj => ?_, fun j hj => ?_⟩
  · rw [e23, upS_same, e22, upS_same, e21, upS_same, e20, upS_same, e19, upS_same, ha]
    funext q
    simp [up1]
    try (repeat' split) <;> first | rfl | omega
  · rw [e23, upS_ne (show (a + 7 + 4 + 2 * j + 1) ≠ a by omega), e22, upS_ne (show (a + 7 + 4 + 2 * j + 1) ≠ a by omega), e21, upS_ne (show (a + 7 + 4 + 2 * j + 1) ≠ a by omega), e20, upS_ne (show (a + 7 + 4 + 2 * j + 1) ≠ a by omega), e19, upS_ne (show (a + 7 + 4 + 2 * j + 1) ≠ a by omega), (f17 (a + 7 + 4 + 2 * j + 1) (by omega)).2, e16, upS_ne (show (a + 7 + 4 + 2 * j + 1) ≠ (a + 141) by omega)]
    exact z14.2 j hj
  · rw [e23, upS_ne (show (a + 141 + 4 + 2 * j + 1) ≠ a by omega), e22, upS_ne (show (a + 141 + 4 + 2 * j + 1) ≠ a by omega), e21, upS_ne (show (a + 141 + 4 + 2 * j + 1) ≠ a by omega), e20, upS_ne (show (a + 141 + 4 + 2 * j + 1) ≠ a by omega), e19, upS_ne (show (a + 141 + 4 + 2 * j + 1) ≠ a by omega)]
    exact z17.2 j hj


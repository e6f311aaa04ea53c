theorem c_X4_init {G : GT} {S : Shp} {σ : Sto} {a : Nat} (h1 : S.1 = a + 1) (hA : At S a (sO 4 [fN, fN, fN, fN, fN, fN, fN, fI, fI])) (hz : σ a = zF) (hb : a + 673 ≤ 1000000) : PMet G mX4_init 5 672 26917 [.ref a] S σ (fun r S' τ => r = none ∧ S'.1 = a + 673 ∧ (∀ b, b < a → S'.2 b = S.2 b ∧ τ b = σ b) ∧ IsEnds S' a ∧ (τ a = zF ∧ ∀ l j : Nat, l < 5 → j < 64 → τ (a + 13 + 132 * l + 4 + 2 * j + 1) = bgF zF)) := by
  refine PMet.of [(0, .ref a)] (by decide +kernel) rfl (Nat.le_of_ble_eq_true rfl) ?_
  refine PW.aload_n dX4_init_0 rfl ?_
  refine PW.objI lo_X4 lo_in lo_co rfl (Nat.le_of_ble_eq_true rfl) ⟨(Nat.le_of_ble_eq_true rfl), (Nat.le_of_ble_eq_true rfl)⟩ dX4_init_1 ?_
  refine PW.aload_n dX4_init_4 rfl ?_
  refine PW.newOA (a + 1) (ci := 7) (ty := tyX8) [fN, fN, fI] h1 rfl iw_X8 kl_X4_9 ki_X8 kn_X8 tyX8_ok (by decide) rfl (by omega) (Nat.le_of_ble_eq_true rfl) (Nat.le_of_ble_eq_true rfl) dX4_init_5 (fun S1 p1 q1 r1 => ?_)
  refine PW.gst (fun τ1 e1 => ?_)
  have u1 : S1.1 = (a + 2) := by omega
  have w1 : At S1 a (sO 4 [fN, fN, fN, fN, fN, fN, fN, fI, fI]) := hA.fr (q1 _ (by omega)) (by omega)
  refine PW.dup rfl dX4_init_8 ?_
  refine PW.callI (c_X8_init p1 r1 (by rw [e1]; exact upS_same _ _ _) (by omega)) ci_X8_init lk_X4_11 rfl r1.2 rfl rfl (Nat.le_of_ble_eq_true rfl) ⟨(Nat.le_of_ble_eq_true rfl), (Nat.le_of_ble_eq_true rfl)⟩ ⟨(Nat.le_of_ble_eq_true rfl), (Nat.le_of_ble_eq_true rfl)⟩ dX4_init_9 (fun r S2 τ2 hq => ?_)
  obtain ⟨rfl, p2, f2, c2, z2⟩ := hq
  refine PW.room (k' := 3) (n' := 122) (by omega) (by omega) ?_
  have u2 : S2.1 = (a + 4) := by omega
  clear u1 p2 p1
  have w2 : At S2 a (sO 4 [fN, fN, fN, fN, fN, fN, fN, fI, fI]) := w1.fr (by rw [(f2 _ (by omega)).1]) (by omega)
  refine PW.putRA fl_X4_12 rfl (fun _ => rfl) w2 rfl (fun _ => rfl) (fun _ => rfl) dX4_init_12 (fun S3 p3 q3 r3 => ?_)
  have u3 : S3.1 = (a + 4) := by omega
  have w3 : At S3 a (sO 4 [fR (a + 1), fN, fN, fN, fN, fN, fN, fI, fI]) := r3
  clear u2 p3
  refine PW.aload_n dX4_init_15 rfl ?_
  refine PW.iconst dX4_init_16 ?_
  refine PW.newQA (a + 4) 5 4 u3 (by decide) kl_X4_18 (fun s h => h.2.2.1) (fun _ => rfl) rfl (by omega) (Nat.le_of_ble_eq_true rfl) (Nat.le_of_ble_eq_true rfl) dX4_init_17 (fun S4 p4 q4 r4 => ?_)
  refine PW.gst (fun τ4 e4 => ?_)
  have u4 : S4.1 = (a + 5) := by omega
  clear u3 p4
  have w4 : At S4 a (sO 4 [fR (a + 1), fN, fN, fN, fN, fN, fN, fI, fI]) := w3.fr (q4 _ (by omega)) (by omega)
  refine PW.putRA fl_X4_20 rfl (fun _ => rfl) w4 rfl (fun _ => rfl) (fun _ => rfl) dX4_init_20 (fun S5 p5 q5 r5 => ?_)
  have u5 : S5.1 = (a + 5) := by omega
  have w5 : At S5 a (sO 4 [fR (a + 1), fR (a + 4), fN, fN, fN, fN, fN, fI, fI]) := r5
  clear u4 p5
  have y5_4 : At S5 (a + 4) (sQ 4 5 (fun _ => none)) := r4.fr (by rw [q5 _ (by omega)]) (by omega)
  refine PW.aload_n dX4_init_23 rfl ?_
  refine PW.newOA (a + 5) (ci := 2) (ty := tyX2) [fN, fN] u5 rfl iw_X2 kl_X4_18 ki_X2 kn_X2 tyX2_ok (by decide) rfl (by omega) (Nat.le_of_ble_eq_true rfl) (Nat.le_of_ble_eq_true rfl) dX4_init_24 (fun S6 p6 q6 r6 => ?_)
  refine PW.gst (fun τ6 e6 => ?_)
  have u6 : S6.1 = (a + 6) := by omega
  clear u5
  have w6 : At S6 a (sO 4 [fR (a + 1), fR (a + 4), fN, fN, fN, fN, fN, fI, fI]) := w5.fr (q6 _ (by omega)) (by omega)
  have y6_4 : At S6 (a + 4) (sQ 4 5 (fun _ => none)) := y5_4.fr (by rw [q6 _ (by omega)]) (by omega)
  refine PW.dup rfl dX4_init_27 ?_
  refine PW.iconst dX4_init_28 ?_
  refine PW.callI (c_X2_init (N := 0) p6 r6 (by rw [e6]; exact upS_same _ _ _) (by omega) (by omega)) ci_X2_init lk_X4_24 rfl r6.2 rfl rfl (Nat.le_of_ble_eq_true rfl) ⟨(Nat.le_of_ble_eq_true rfl), (Nat.le_of_ble_eq_true rfl)⟩ ⟨(Nat.le_of_ble_eq_true rfl), (Nat.le_of_ble_eq_true rfl)⟩ dX4_init_29 (fun r S7 τ7 hq => ?_)
  obtain ⟨rfl, p7, f7, c7, z7⟩ := hq
  refine PW.room (k' := 8) (n' := 210) (by omega) (by omega) ?_
  have u7 : S7.1 = (a + 9) := by omega
  clear u6 p7 p6
  have w7 : At S7 a (sO 4 [fR (a + 1), fR (a + 4), fN, fN, fN, fN, fN, fI, fI]) := w6.fr (by rw [(f7 _ (by omega)).1]) (by omega)
  have y7_4 : At S7 (a + 4) (sQ 4 5 (fun _ => none)) := y6_4.fr (by rw [(f7 _ (by omega)).1]) (by omega)
  refine PW.putRA fl_X4_27 rfl (fun _ => rfl) w7 rfl (fun _ => rfl) (fun _ => rfl) dX4_init_32 (fun S8 p8 q8 r8 => ?_)
  have u8 : S8.1 = (a + 9) := by omega
  have w8 : At S8 a (sO 4 [fR (a + 1), fR (a + 4), fR (a + 5), fN, fN, fN, fN, fI, fI]) := r8
  clear u7 p8
  have y8_4 : At S8 (a + 4) (sQ 4 5 (fun _ => none)) := y7_4.fr (by rw [q8 _ (by omega)]) (by omega)
  refine PW.aload_n dX4_init_35 rfl ?_
  refine PW.iconst dX4_init_36 ?_
  refine PW.newA (a + 9) 4 0 (atype := .int) u8 (by decide) ka_int (fun _ => rfl) rfl (by decide) (by omega) (Nat.le_of_ble_eq_true rfl) (Nat.le_of_ble_eq_true rfl) dX4_init_37 (fun S9 p9 q9 r9 => ?_)
  refine PW.gst (fun τ9 e9 => ?_)
  have u9 : S9.1 = (a + 10) := by omega
  clear u8 p9
  have w9 : At S9 a (sO 4 [fR (a + 1), fR (a + 4), fR (a + 5), fN, fN, fN, fN, fI, fI]) := w8.fr (q9 _ (by omega)) (by omega)
  have y9_4 : At S9 (a + 4) (sQ 4 5 (fun _ => none)) := y8_4.fr (by rw [q9 _ (by omega)]) (by omega)
  refine PW.putRA fl_X4_31 rfl (fun _ => rfl) w9 rfl (fun _ => rfl) (fun _ => rfl) dX4_init_39 (fun S10 p10 q10 r10 => ?_)
  have u10 : S10.1 = (a + 10) := by omega
  have w10 : At S10 a (sO 4 [fR (a + 1), fR (a + 4), fR (a + 5), fR (a + 9), fN, fN, fN, fI, fI]) := r10
  clear u9 p10
  have y10_4 : At S10 (a + 4) (sQ 4 5 (fun _ => none)) := y9_4.fr (by rw [q10 _ (by omega)]) (by omega)
  refine PW.aload_n dX4_init_42 rfl ?_
  refine PW.bipush (by decide) dX4_init_43 ?_
  refine PW.newA (a + 10) 16 0 (atype := .int) u10 (by decide) ka_int (fun _ => rfl) rfl (by decide) (by omega) (Nat.le_of_ble_eq_true rfl) (Nat.le_of_ble_eq_true rfl) dX4_init_45 (fun S11 p11 q11 r11 => ?_)
  refine PW.gst (fun τ11 e11 => ?_)
  have u11 : S11.1 = (a + 11) := by omega
  clear u10 p11
  have w11 : At S11 a (sO 4 [fR (a + 1), fR (a + 4), fR (a + 5), fR (a + 9), fN, fN, fN, fI, fI]) := w10.fr (q11 _ (by omega)) (by omega)
  have y11_4 : At S11 (a + 4) (sQ 4 5 (fun _ => none)) := y10_4.fr (by rw [q11 _ (by omega)]) (by omega)
  refine PW.putRA fl_X4_35 rfl (fun _ => rfl) w11 rfl (fun _ => rfl) (fun _ => rfl) dX4_init_47 (fun S12 p12 q12 r12 => ?_)
  have u12 : S12.1 = (a + 11) := by omega
  have w12 : At S12 a (sO 4 [fR (a + 1), fR (a + 4), fR (a + 5), fR (a + 9), fR (a + 10), fN, fN, fI, fI]) := r12
  clear u11 p12
  have y12_4 : At S12 (a + 4) (sQ 4 5 (fun _ => none)) := y11_4.fr (by rw [q12 _ (by omega)]) (by omega)
  refine PW.aload_n dX4_init_50 rfl ?_
  refine PW.bipush (by decide) dX4_init_51 ?_
  refine PW.newA (a + 11) 16 0 (atype := .int) u12 (by decide) ka_int (fun _ => rfl) rfl (by decide) (by omega) (Nat.le_of_ble_eq_true rfl) (Nat.le_of_ble_eq_true rfl) dX4_init_53 (fun S13 p13 q13 r13 => ?_)
  refine PW.gst (fun τ13 e13 => ?_)
  have u13 : S13.1 = (a + 12) := by omega
  clear u12 p13
  have w13 : At S13 a (sO 4 [fR (a + 1), fR (a + 4), fR (a + 5), fR (a + 9), fR (a + 10), fN, fN, fI, fI]) := w12.fr (q13 _ (by omega)) (by omega)
  have y13_4 : At S13 (a + 4) (sQ 4 5 (fun _ => none)) := y12_4.fr (by rw [q13 _ (by omega)]) (by omega)
  refine PW.putRA fl_X4_38 rfl (fun _ => rfl) w13 rfl (fun _ => rfl) (fun _ => rfl) dX4_init_55 (fun S14 p14 q14 r14 => ?_)
  have u14 : S14.1 = (a + 12) := by omega
  have w14 : At S14 a (sO 4 [fR (a + 1), fR (a + 4), fR (a + 5), fR (a + 9), fR (a + 10), fR (a + 11), fN, fI, fI]) := r14
  clear u13 p14
  have y14_4 : At S14 (a + 4) (sQ 4 5 (fun _ => none)) := y13_4.fr (by rw [q14 _ (by omega)]) (by omega)
  refine PW.aload_n dX4_init_58 rfl ?_
  refine PW.bipush (by decide) dX4_init_59 ?_
  refine PW.newA (a + 12) 16 0 (atype := .int) u14 (by decide) ka_int (fun _ => rfl) rfl (by decide) (by omega) (Nat.le_of_ble_eq_true rfl) (Nat.le_of_ble_eq_true rfl) dX4_init_61 (fun S15 p15 q15 r15 => ?_)
  refine PW.gst (fun τ15 e15 => ?_)
  have u15 : S15.1 = (a + 13) := by omega
  clear u14 p15
  have w15 : At S15 a (sO 4 [fR (a + 1), fR (a + 4), fR (a + 5), fR (a + 9), fR (a + 10), fR (a + 11), fN, fI, fI]) := w14.fr (q15 _ (by omega)) (by omega)
  have y15_4 : At S15 (a + 4) (sQ 4 5 (fun _ => none)) := y14_4.fr (by rw [q15 _ (by omega)]) (by omega)
  refine PW.putRA fl_X4_41 rfl (fun _ => rfl) w15 rfl (fun _ => rfl) (fun _ => rfl) dX4_init_63 (fun S16 p16 q16 r16 => ?_)
  have u16 : S16.1 = (a + 13) := by omega
  have w16 : At S16 a (sO 4 [fR (a + 1), fR (a + 4), fR (a + 5), fR (a + 9), fR (a + 10), fR (a + 11), fR (a + 12), fI, fI]) := r16
  clear u15 p16
  have y16_4 : At S16 (a + 4) (sQ 4 5 (fun _ => none)) := y15_4.fr (by rw [q16 _ (by omega)]) (by omega)
  refine PW.aload_n dX4_init_66 rfl ?_
  refine PW.iconst dX4_init_67 ?_
  have ha : τ15 a = zF := by rw [e15, upS_ne (show a ≠ (a + 12) by omega), e13, upS_ne (show a ≠ (a + 11) by omega), e11, upS_ne (show a ≠ (a + 10) by omega), e9, upS_ne (show a ≠ (a + 9) by omega), (f7 a (by omega)).2, e6, upS_ne (show a ≠ (a + 5) by omega), e4, upS_ne (show a ≠ (a + 4) by omega), (f2 a (by omega)).2, e1, upS_ne (show a ≠ (a + 1) by omega)]; exact hz
  refine PW.putI 7 fl_X4_44 rfl (fun h => absurd h (by decide)) w16 rfl rfl rfl rfl dX4_init_68 ?_
  refine PW.gst (fun τ17 e17 => ?_)
  refine PW.aload_n dX4_init_71 rfl ?_
  refine PW.iconst dX4_init_72 ?_
  refine PW.putI 8 fl_X4_48 rfl (fun h => absurd h (by decide)) w16 rfl rfl rfl rfl dX4_init_73 ?_
  refine PW.gst (fun τ18 e18 => ?_)
  refine PW.iconst dX4_init_76 ?_
  refine PW.istore_n [(0, _), (1, _)] dX4_init_77 rfl (Nat.le_of_ble_eq_true rfl) ?_
  refine PW.iload_n dX4_init_78 rfl ?_
  refine PW.aload_n dX4_init_79 rfl ?_
  refine PW.getR fl_X4_20 rfl w16 rfl dX4_init_80 ?_
  refine PW.alenQ y16_4 ⟨_, rfl⟩ dX4_init_83 ?_
  refine PW.icmp_ge 108 dX4_init_84 (by decide) (by unfold inR; omega) (by unfold inR; omega) (fun hcm => ?_) (fun hcm => ?_)
  · omega
  refine PW.aload_n dX4_init_87 rfl ?_
  refine PW.getR fl_X4_20 rfl w16 rfl dX4_init_88 ?_
  refine PW.iload_n dX4_init_91 rfl ?_
  refine PW.newOA (a + 13) (ci := 2) (ty := tyX2) [fN, fN] u16 rfl iw_X2 kl_X4_18 ki_X2 kn_X2 tyX2_ok (by decide) rfl (by omega) (Nat.le_of_ble_eq_true rfl) (Nat.le_of_ble_eq_true rfl) dX4_init_92 (fun S19 p19 q19 r19 => ?_)
  refine PW.gst (fun τ19 e19 => ?_)
  have u19 : S19.1 = (a + 14) := by omega
  clear u16
  have w19 : At S19 a (sO 4 [fR (a + 1), fR (a + 4), fR (a + 5), fR (a + 9), fR (a + 10), fR (a + 11), fR (a + 12), fI, fI]) := w16.fr (q19 _ (by omega)) (by omega)
  have y19_4 : At S19 (a + 4) (sQ 4 5 (fun _ => none)) := y16_4.fr (by rw [q19 _ (by omega)]) (by omega)
  refine PW.dup rfl dX4_init_95 ?_
  refine PW.bipush (by decide) dX4_init_96 ?_
  refine PW.callI (c_X2_init (N := 64) p19 r19 (by rw [e19]; exact upS_same _ _ _) (by omega) (by omega)) ci_X2_init lk_X4_24 rfl r19.2 rfl rfl (Nat.le_of_ble_eq_true rfl) ⟨(Nat.le_of_ble_eq_true rfl), (Nat.le_of_ble_eq_true rfl)⟩ ⟨(Nat.le_of_ble_eq_true rfl), (Nat.le_of_ble_eq_true rfl)⟩ dX4_init_98 (fun r S20 τ20 hq => ?_)
  obtain ⟨rfl, p20, f20, c20, z20⟩ := hq
  refine PW.room (k' := 144) (n' := 5593) (by omega) (by omega) ?_
  have u20 : S20.1 = (a + 145) := by omega
  clear u19 p20 p19
  have w20 : At S20 a (sO 4 [fR (a + 1), fR (a + 4), fR (a + 5), fR (a + 9), fR (a + 10), fR (a + 11), fR (a + 12), fI, fI]) := w19.fr (by rw [(f20 _ (by omega)).1]) (by omega)
  have y20_4 : At S20 (a + 4) (sQ 4 5 (fun _ => none)) := y19_4.fr (by rw [(f20 _ (by omega)).1]) (by omega)
  refine PW.aast (C := RX2) (T := TX2) (Nc := 2) y20_4 c20.1 rfl (fun _ => rfl) (by unfold inR; omega) (by omega) (by omega) dX4_init_101 (fun S21 p21 q21 r21 => ?_)
  have u21 : S21.1 = (a + 145) := by omega
  clear u20 p21
  have w21 : At S21 a (sO 4 [fR (a + 1), fR (a + 4), fR (a + 5), fR (a + 9), fR (a + 10), fR (a + 11), fR (a + 12), fI, fI]) := w20.fr (q21 _ (by omega)) (by omega)
  have y21 : At S21 (a + 4) (sQ 4 5 (fun j => if j = 0 then some (a + 13) else (fun _ => none) j)) := r21
  refine PW.iinc [(0, _), (1, _)] dX4_init_102 rfl rfl (Nat.le_of_ble_eq_true rfl) ?_
  refine PW.goto 78 dX4_init_105 (by decide) ?_
  refine PW.iload_n dX4_init_78 rfl ?_
  refine PW.aload_n dX4_init_79 rfl ?_
  refine PW.getR fl_X4_20 rfl w21 rfl dX4_init_80 ?_
  refine PW.alenQ y21 ⟨_, rfl⟩ dX4_init_83 ?_
  refine PW.icmp_ge 108 dX4_init_84 (by decide) (by unfold inR; omega) (by unfold inR; omega) (fun hcm => ?_) (fun hcm => ?_)
  · omega
  refine PW.aload_n dX4_init_87 rfl ?_
  refine PW.getR fl_X4_20 rfl w21 rfl dX4_init_88 ?_
  refine PW.iload_n dX4_init_91 rfl ?_
  refine PW.newOA (a + 145) (ci := 2) (ty := tyX2) [fN, fN] u21 rfl iw_X2 kl_X4_18 ki_X2 kn_X2 tyX2_ok (by decide) rfl (by omega) (Nat.le_of_ble_eq_true rfl) (Nat.le_of_ble_eq_true rfl) dX4_init_92 (fun S22 p22 q22 r22 => ?_)
  refine PW.gst (fun τ22 e22 => ?_)
  have u22 : S22.1 = (a + 146) := by omega
  clear u21
  have w22 : At S22 a (sO 4 [fR (a + 1), fR (a + 4), fR (a + 5), fR (a + 9), fR (a + 10), fR (a + 11), fR (a + 12), fI, fI]) := w21.fr (q22 _ (by omega)) (by omega)
  have y22_4 : At S22 (a + 4) (sQ 4 5 (fun j => if j = 0 then some (a + 13) else (fun _ => none) j)) := y21.fr (by rw [q22 _ (by omega)]) (by omega)
  refine PW.dup rfl dX4_init_95 ?_
  refine PW.bipush (by decide) dX4_init_96 ?_
  refine PW.callI (c_X2_init (N := 64) p22 r22 (by rw [e22]; exact upS_same _ _ _) (by omega) (by omega)) ci_X2_init lk_X4_24 rfl r22.2 rfl rfl (Nat.le_of_ble_eq_true rfl) ⟨(Nat.le_of_ble_eq_true rfl), (Nat.le_of_ble_eq_true rfl)⟩ ⟨(Nat.le_of_ble_eq_true rfl), (Nat.le_of_ble_eq_true rfl)⟩ dX4_init_98 (fun r S23 τ23 hq => ?_)
  obtain ⟨rfl, p23, f23, c23, z23⟩ := hq
  refine PW.room (k' := 276) (n' := 10924) (by omega) (by omega) ?_
  have u23 : S23.1 = (a + 277) := by omega
  clear u22 p23 p22
  have w23 : At S23 a (sO 4 [fR (a + 1), fR (a + 4), fR (a + 5), fR (a + 9), fR (a + 10), fR (a + 11), fR (a + 12), fI, fI]) := w22.fr (by rw [(f23 _ (by omega)).1]) (by omega)
  have y23_4 : At S23 (a + 4) (sQ 4 5 (fun j => if j = 0 then some (a + 13) else (fun _ => none) j)) := y22_4.fr (by rw [(f23 _ (by omega)).1]) (by omega)
  refine PW.aast (C := RX2) (T := TX2) (Nc := 2) y23_4 c23.1 rfl (fun _ => rfl) (by unfold inR; omega) (by omega) (by omega) dX4_init_101 (fun S24 p24 q24 r24 => ?_)
  have u24 : S24.1 = (a + 277) := by omega
  clear u23 p24
  have w24 : At S24 a (sO 4 [fR (a + 1), fR (a + 4), fR (a + 5), fR (a + 9), fR (a + 10), fR (a + 11), fR (a + 12), fI, fI]) := w23.fr (q24 _ (by omega)) (by omega)
  have y24 : At S24 (a + 4) (sQ 4 5 (fun j => if j = 1 then some (a + 145) else (fun j => if j = 0 then some (a + 13) else (fun _ => none) j) j)) := r24
  refine PW.iinc [(0, _), (1, _)] dX4_init_102 rfl rfl (Nat.le_of_ble_eq_true rfl) ?_
  refine PW.goto 78 dX4_init_105 (by decide) ?_
  refine PW.iload_n dX4_init_78 rfl ?_
  refine PW.aload_n dX4_init_79 rfl ?_
  refine PW.getR fl_X4_20 rfl w24 rfl dX4_init_80 ?_
  refine PW.alenQ y24 ⟨_, rfl⟩ dX4_init_83 ?_
  refine PW.icmp_ge 108 dX4_init_84 (by decide) (by unfold inR; omega) (by unfold inR; omega) (fun hcm => ?_) (fun hcm => ?_)
  · omega
  refine PW.aload_n dX4_init_87 rfl ?_
  refine PW.getR fl_X4_20 rfl w24 rfl dX4_init_88 ?_
  refine PW.iload_n dX4_init_91 rfl ?_
  refine PW.newOA (a + 277) (ci := 2) (ty := tyX2) [fN, fN] u24 rfl iw_X2 kl_X4_18 ki_X2 kn_X2 tyX2_ok (by decide) rfl (by omega) (Nat.le_of_ble_eq_true rfl) (Nat.le_of_ble_eq_true rfl) dX4_init_92 (fun S25 p25 q25 r25 => ?_)
  refine PW.gst (fun τ25 e25 => ?_)
  have u25 : S25.1 = (a + 278) := by omega
  clear u24
  have w25 : At S25 a (sO 4 [fR (a + 1), fR (a + 4), fR (a + 5), fR (a + 9), fR (a + 10), fR (a + 11), fR (a + 12), fI, fI]) := w24.fr (q25 _ (by omega)) (by omega)
  have y25_4 : At S25 (a + 4) (sQ 4 5 (fun j => if j = 1 then some (a + 145) else (fun j => if j = 0 then some (a + 13) else (fun _ => none) j) j)) := y24.fr (by rw [q25 _ (by omega)]) (by omega)
  refine PW.dup rfl dX4_init_95 ?_
  refine PW.bipush (by decide) dX4_init_96 ?_
  refine PW.callI (c_X2_init (N := 64) p25 r25 (by rw [e25]; exact upS_same _ _ _) (by omega) (by omega)) ci_X2_init lk_X4_24 rfl r25.2 rfl rfl (Nat.le_of_ble_eq_true rfl) ⟨(Nat.le_of_ble_eq_true rfl), (Nat.le_of_ble_eq_true rfl)⟩ ⟨(Nat.le_of_ble_eq_true rfl), (Nat.le_of_ble_eq_true rfl)⟩ dX4_init_98 (fun r S26 τ26 hq => ?_)
  obtain ⟨rfl, p26, f26, c26, z26⟩ := hq
  refine PW.room (k' := 408) (n' := 16255) (by omega) (by omega) ?_
  have u26 : S26.1 = (a + 409) := by omega
  clear u25 p26 p25
  have w26 : At S26 a (sO 4 [fR (a + 1), fR (a + 4), fR (a + 5), fR (a + 9), fR (a + 10), fR (a + 11), fR (a + 12), fI, fI]) := w25.fr (by rw [(f26 _ (by omega)).1]) (by omega)
  have y26_4 : At S26 (a + 4) (sQ 4 5 (fun j => if j = 1 then some (a + 145) else (fun j => if j = 0 then some (a + 13) else (fun _ => none) j) j)) := y25_4.fr (by rw [(f26 _ (by omega)).1]) (by omega)
  refine PW.aast (C := RX2) (T := TX2) (Nc := 2) y26_4 c26.1 rfl (fun _ => rfl) (by unfold inR; omega) (by omega) (by omega) dX4_init_101 (fun S27 p27 q27 r27 => ?_)
  have u27 : S27.1 = (a + 409) := by omega
  clear u26 p27
  have w27 : At S27 a (sO 4 [fR (a + 1), fR (a + 4), fR (a + 5), fR (a + 9), fR (a + 10), fR (a + 11), fR (a + 12), fI, fI]) := w26.fr (q27 _ (by omega)) (by omega)
  have y27 : At S27 (a + 4) (sQ 4 5 (fun j => if j = 2 then some (a + 277) else (fun j => if j = 1 then some (a + 145) else (fun j => if j = 0 then some (a + 13) else (fun _ => none) j) j) j)) := r27
  refine PW.iinc [(0, _), (1, _)] dX4_init_102 rfl rfl (Nat.le_of_ble_eq_true rfl) ?_
  refine PW.goto 78 dX4_init_105 (by decide) ?_
  refine PW.iload_n dX4_init_78 rfl ?_
  refine PW.aload_n dX4_init_79 rfl ?_
  refine PW.getR fl_X4_20 rfl w27 rfl dX4_init_80 ?_
  refine PW.alenQ y27 ⟨_, rfl⟩ dX4_init_83 ?_
  refine PW.icmp_ge 108 dX4_init_84 (by decide) (by unfold inR; omega) (by unfold inR; omega) (fun hcm => ?_) (fun hcm => ?_)
  · omega
  refine PW.aload_n dX4_init_87 rfl ?_
  refine PW.getR fl_X4_20 rfl w27 rfl dX4_init_88 ?_
  refine PW.iload_n dX4_init_91 rfl ?_
  refine PW.newOA (a + 409) (ci := 2) (ty := tyX2) [fN, fN] u27 rfl iw_X2 kl_X4_18 ki_X2 kn_X2 tyX2_ok (by decide) rfl (by omega) (Nat.le_of_ble_eq_true rfl) (Nat.le_of_ble_eq_true rfl) dX4_init_92 (fun S28 p28 q28 r28 => ?_)
  refine PW.gst (fun τ28 e28 => ?_)
  have u28 : S28.1 = (a + 410) := by omega
  clear u27
  have w28 : At S28 a (sO 4 [fR (a + 1), fR (a + 4), fR (a + 5), fR (a + 9), fR (a + 10), fR (a + 11), fR (a + 12), fI, fI]) := w27.fr (q28 _ (by omega)) (by omega)
  have y28_4 : At S28 (a + 4) (sQ 4 5 (fun j => if j = 2 then some (a + 277) else (fun j => if j = 1 then some (a + 145) else (fun j => if j = 0 then some (a + 13) else (fun _ => none) j) j) j)) := y27.fr (by rw [q28 _ (by omega)]) (by omega)
  refine PW.dup rfl dX4_init_95 ?_
  refine PW.bipush (by decide) dX4_init_96 ?_
  refine PW.callI (c_X2_init (N := 64) p28 r28 (by rw [e28]; exact upS_same _ _ _) (by omega) (by omega)) ci_X2_init lk_X4_24 rfl r28.2 rfl rfl (Nat.le_of_ble_eq_true rfl) ⟨(Nat.le_of_ble_eq_true rfl), (Nat.le_of_ble_eq_true rfl)⟩ ⟨(Nat.le_of_ble_eq_true rfl), (Nat.le_of_ble_eq_true rfl)⟩ dX4_init_98 (fun r S29 τ29 hq => ?_)
  obtain ⟨rfl, p29, f29, c29, z29⟩ := hq
  refine PW.room (k' := 540) (n' := 21586) (by omega) (by omega) ?_
  have u29 : S29.1 = (a + 541) := by omega
  clear u28 p29 p28
  have w29 : At S29 a (sO 4 [fR (a + 1), fR (a + 4), fR (a + 5), fR (a + 9), fR (a + 10), fR (a + 11), fR (a + 12), fI, fI]) := w28.fr (by rw [(f29 _ (by omega)).1]) (by omega)
  have y29_4 : At S29 (a + 4) (sQ 4 5 (fun j => if j = 2 then some (a + 277) else (fun j => if j = 1 then some (a + 145) else (fun j => if j = 0 then some (a + 13) else (fun _ => none) j) j) j)) := y28_4.fr (by rw [(f29 _ (by omega)).1]) (by omega)
  refine PW.aast (C := RX2) (T := TX2) (Nc := 2) y29_4 c29.1 rfl (fun _ => rfl) (by unfold inR; omega) (by omega) (by omega) dX4_init_101 (fun S30 p30 q30 r30 => ?_)
  have u30 : S30.1 = (a + 541) := by omega
  clear u29 p30
  have w30 : At S30 a (sO 4 [fR (a + 1), fR (a + 4), fR (a + 5), fR (a + 9), fR (a + 10), fR (a + 11), fR (a + 12), fI, fI]) := w29.fr (q30 _ (by omega)) (by omega)
  have y30 : At S30 (a + 4) (sQ 4 5 (fun j => if j = 3 then some (a + 409) else (fun j => if j = 2 then some (a + 277) else (fun j => if j = 1 then some (a + 145) else (fun j => if j = 0 then some (a + 13) else (fun _ => none) j) j) j) j)) := r30
  refine PW.iinc [(0, _), (1, _)] dX4_init_102 rfl rfl (Nat.le_of_ble_eq_true rfl) ?_
  refine PW.goto 78 dX4_init_105 (by decide) ?_
  refine PW.iload_n dX4_init_78 rfl ?_
  refine PW.aload_n dX4_init_79 rfl ?_
  refine PW.getR fl_X4_20 rfl w30 rfl dX4_init_80 ?_
  refine PW.alenQ y30 ⟨_, rfl⟩ dX4_init_83 ?_
  refine PW.icmp_ge 108 dX4_init_84 (by decide) (by unfold inR; omega) (by unfold inR; omega) (fun hcm => ?_) (fun hcm => ?_)
  · omega
  refine PW.aload_n dX4_init_87 rfl ?_
  refine PW.getR fl_X4_20 rfl w30 rfl dX4_init_88 ?_
  refine PW.iload_n dX4_init_91 rfl ?_
  refine PW.newOA (a + 541) (ci := 2) (ty := tyX2) [fN, fN] u30 rfl iw_X2 kl_X4_18 ki_X2 kn_X2 tyX2_ok (by decide) rfl (by omega) (Nat.le_of_ble_eq_true rfl) (Nat.le_of_ble_eq_true rfl) dX4_init_92 (fun S31 p31 q31 r31 => ?_)
  refine PW.gst (fun τ31 e31 => ?_)
  have u31 : S31.1 = (a + 542) := by omega
  clear u30
  have w31 : At S31 a (sO 4 [fR (a + 1), fR (a + 4), fR (a + 5), fR (a + 9), fR (a + 10), fR (a + 11), fR (a + 12), fI, fI]) := w30.fr (q31 _ (by omega)) (by omega)
  have y31_4 : At S31 (a + 4) (sQ 4 5 (fun j => if j = 3 then some (a + 409) else (fun j => if j = 2 then some (a + 277) else (fun j => if j = 1 then some (a + 145) else (fun j => if j = 0 then some (a + 13) else (fun _ => none) j) j) j) j)) := y30.fr (by rw [q31 _ (by omega)]) (by omega)
  refine PW.dup rfl dX4_init_95 ?_
  refine PW.bipush (by decide) dX4_init_96 ?_
  refine PW.callI (c_X2_init (N := 64) p31 r31 (by rw [e31]; exact upS_same _ _ _) (by omega) (by omega)) ci_X2_init lk_X4_24 rfl r31.2 rfl rfl (Nat.le_of_ble_eq_true rfl) ⟨(Nat.le_of_ble_eq_true rfl), (Nat.le_of_ble_eq_true rfl)⟩ ⟨(Nat.le_of_ble_eq_true rfl), (Nat.le_of_ble_eq_true rfl)⟩ dX4_init_98 (fun r S32 τ32 hq => ?_)
  obtain ⟨rfl, p32, f32, c32, z32⟩ := hq
  refine PW.room (k' := 672) (n' := 26917) (by omega) (by omega) ?_
  have u32 : S32.1 = (a + 673) := by omega
  clear u31 p32 p31
  have w32 : At S32 a (sO 4 [fR (a + 1), fR (a + 4), fR (a + 5), fR (a + 9), fR (a + 10), fR (a + 11), fR (a + 12), fI, fI]) := w31.fr (by rw [(f32 _ (by omega)).1]) (by omega)
  have y32_4 : At S32 (a + 4) (sQ 4 5 (fun j => if j = 3 then some (a + 409) else (fun j => if j = 2 then some (a + 277) else (fun j => if j = 1 then some (a + 145) else (fun j => if j = 0 then some (a + 13) else (fun _ => none) j) j) j) j)) := y31_4.fr (by rw [(f32 _ (by omega)).1]) (by omega)
  refine PW.aast (C := RX2) (T := TX2) (Nc := 2) y32_4 c32.1 rfl (fun _ => rfl) (by unfold inR; omega) (by omega) (by omega) dX4_init_101 (fun S33 p33 q33 r33 => ?_)
  have u33 : S33.1 = (a + 673) := by omega
  clear u32 p33
  have w33 : At S33 a (sO 4 [fR (a + 1), fR (a + 4), fR (a + 5), fR (a + 9), fR (a + 10), fR (a + 11), fR (a + 12), fI, fI]) := w32.fr (q33 _ (by omega)) (by omega)
  have y33 : At S33 (a + 4) (sQ 4 5 (fun j => if j = 4 then some (a + 541) else (fun j => if j = 3 then some (a + 409) else (fun j => if j = 2 then some (a + 277) else (fun j => if j = 1 then some (a + 145) else (fun j => if j = 0 then some (a + 13) else (fun _ => none) j) j) j) j) j)) := r33
  refine PW.iinc [(0, _), (1, _)] dX4_init_102 rfl rfl (Nat.le_of_ble_eq_true rfl) ?_
  refine PW.goto 78 dX4_init_105 (by decide) ?_
  refine PW.iload_n dX4_init_78 rfl ?_
  refine PW.aload_n dX4_init_79 rfl ?_
  refine PW.getR fl_X4_20 rfl w33 rfl dX4_init_80 ?_
  refine PW.alenQ y33 ⟨_, rfl⟩ dX4_init_83 ?_
  refine PW.icmp_ge 108 dX4_init_84 (by decide) (by unfold inR; omega) (by unfold inR; omega) (fun hcm => ?_) (fun hcm => ?_)
  rotate_left
  · omega
  have i9 := r9.fr (S' := S33) (by rw [q33 _ (by omega), (f32 _ (by omega)).1, q31 _ (by omega), q30 _ (by omega), (f29 _ (by omega)).1, q28 _ (by omega), q27 _ (by omega), (f26 _ (by omega)).1, q25 _ (by omega), q24 _ (by omega), (f23 _ (by omega)).1, q22 _ (by omega), q21 _ (by omega), (f20 _ (by omega)).1, q19 _ (by omega), q16 _ (by omega), q15 _ (by omega), q14 _ (by omega), q13 _ (by omega), q12 _ (by omega), q11 _ (by omega), q10 _ (by omega)]) (by omega)
  have i10 := r11.fr (S' := S33) (by rw [q33 _ (by omega), (f32 _ (by omega)).1, q31 _ (by omega), q30 _ (by omega), (f29 _ (by omega)).1, q28 _ (by omega), q27 _ (by omega), (f26 _ (by omega)).1, q25 _ (by omega), q24 _ (by omega), (f23 _ (by omega)).1, q22 _ (by omega), q21 _ (by omega), (f20 _ (by omega)).1, q19 _ (by omega), q16 _ (by omega), q15 _ (by omega), q14 _ (by omega), q13 _ (by omega), q12 _ (by omega)]) (by omega)
  have i11 := r13.fr (S' := S33) (by rw [q33 _ (by omega), (f32 _ (by omega)).1, q31 _ (by omega), q30 _ (by omega), (f29 _ (by omega)).1, q28 _ (by omega), q27 _ (by omega), (f26 _ (by omega)).1, q25 _ (by omega), q24 _ (by omega), (f23 _ (by omega)).1, q22 _ (by omega), q21 _ (by omega), (f20 _ (by omega)).1, q19 _ (by omega), q16 _ (by omega), q15 _ (by omega), q14 _ (by omega)]) (by omega)
  have i12 := r15.fr (S' := S33) (by rw [q33 _ (by omega), (f32 _ (by omega)).1, q31 _ (by omega), q30 _ (by omega), (f29 _ (by omega)).1, q28 _ (by omega), q27 _ (by omega), (f26 _ (by omega)).1, q25 _ (by omega), q24 _ (by omega), (f23 _ (by omega)).1, q22 _ (by omega), q21 _ (by omega), (f20 _ (by omega)).1, q19 _ (by omega), q16 _ (by omega)]) (by omega)
  have i1 := c2.fr (S' := S33) (fun b b0 b1 => by rw [q33 b (by omega), (f32 b (by omega)).1, q31 b (by omega), q30 b (by omega), (f29 b (by omega)).1, q28 b (by omega), q27 b (by omega), (f26 b (by omega)).1, q25 b (by omega), q24 b (by omega), (f23 b (by omega)).1, q22 b (by omega), q21 b (by omega), (f20 b (by omega)).1, q19 b (by omega), q16 b (by omega), q15 b (by omega), q14 b (by omega), q13 b (by omega), q12 b (by omega), q11 b (by omega), q10 b (by omega), q9 b (by omega), q8 b (by omega), (f7 b (by omega)).1, q6 b (by omega), q5 b (by omega), q4 b (by omega), q3 b (by omega)]) (by omega)
  have i5 := c7.fr (S' := S33) (fun b b0 b1 => by rw [q33 b (by omega), (f32 b (by omega)).1, q31 b (by omega), q30 b (by omega), (f29 b (by omega)).1, q28 b (by omega), q27 b (by omega), (f26 b (by omega)).1, q25 b (by omega), q24 b (by omega), (f23 b (by omega)).1, q22 b (by omega), q21 b (by omega), (f20 b (by omega)).1, q19 b (by omega), q16 b (by omega), q15 b (by omega), q14 b (by omega), q13 b (by omega), q12 b (by omega), q11 b (by omega), q10 b (by omega), q9 b (by omega), q8 b (by omega)]) (by omega)
  have i13 := c20.fr (S' := S33) (fun b b0 b1 => by rw [q33 b (by omega), (f32 b (by omega)).1, q31 b (by omega), q30 b (by omega), (f29 b (by omega)).1, q28 b (by omega), q27 b (by omega), (f26 b (by omega)).1, q25 b (by omega), q24 b (by omega), (f23 b (by omega)).1, q22 b (by omega), q21 b (by omega)]) (by omega)
  have i145 := c23.fr (S' := S33) (fun b b0 b1 => by rw [q33 b (by omega), (f32 b (by omega)).1, q31 b (by omega), q30 b (by omega), (f29 b (by omega)).1, q28 b (by omega), q27 b (by omega), (f26 b (by omega)).1, q25 b (by omega), q24 b (by omega)]) (by omega)
  have i277 := c26.fr (S' := S33) (fun b b0 b1 => by rw [q33 b (by omega), (f32 b (by omega)).1, q31 b (by omega), q30 b (by omega), (f29 b (by omega)).1, q28 b (by omega), q27 b (by omega)]) (by omega)
  have i409 := c29.fr (S' := S33) (fun b b0 b1 => by rw [q33 b (by omega), (f32 b (by omega)).1, q31 b (by omega), q30 b (by omega)]) (by omega)
  have i541 := c32.fr (S' := S33) (fun b b0 b1 => by rw [q33 b (by omega)]) (by omega)
  have ifr : ∀ b, b < a → S33.2 b = S.2 b := fun b hb => by rw [q33 b (by omega), (f32 b (by omega)).1, q31 b (by omega), q30 b (by omega), (f29 b (by omega)).1, q28 b (by omega), q27 b (by omega), (f26 b (by omega)).1, q25 b (by omega), q24 b (by omega), (f23 b (by omega)).1, q22 b (by omega), q21 b (by omega), (f20 b (by omega)).1, q19 b (by omega), q16 b (by omega), q15 b (by omega), q14 b (by omega), q13 b (by omega), q12 b (by omega), q11 b (by omega), q10 b (by omega), q9 b (by omega), q8 b (by omega), (f7 b (by omega)).1, q6 b (by omega), q5 b (by omega), q4 b (by omega), q3 b (by omega), (f2 b (by omega)).1, q1 b (by omega)]
  refine PW.vret rfl dX4_init_108 ?_
  have hQ2 : ∀ b, b < a → τ32 b = σ b := fun b hb => by rw [(f32 b (by omega)).2, e31, upS_ne (show b ≠ (a + 541) by omega), (f29 b (by omega)).2, e28, upS_ne (show b ≠ (a + 409) by omega), (f26 b (by omega)).2, e25, upS_ne (show b ≠ (a + 277) by omega), (f23 b (by omega)).2, e22, upS_ne (show b ≠ (a + 145) by omega), (f20 b (by omega)).2, e19, upS_ne (show b ≠ (a + 13) by omega), e18, upS_ne (show b ≠ a by omega), e17, upS_ne (show b ≠ a by omega), e15, upS_ne (show b ≠ (a + 12) by omega), e13, upS_ne (show b ≠ (a + 11) by omega), e11, upS_ne (show b ≠ (a + 10) by omega), e9, upS_ne (show b ≠ (a + 9) by omega), (f7 b (by omega)).2, e6, upS_ne (show b ≠ (a + 5) by omega), e4, upS_ne (show b ≠ (a + 4) by omega), (f2 b (by omega)).2, e1, upS_ne (show b ≠ (a + 1) by omega)]
  have hG : At S33 (a + 4) (sQ 4 5 (sgG a)) := by
    have e : (fun j => if j = 4 then some (a + 541) else (fun j => if j = 3 then some (a + 409) else (fun j => if j = 2 then some (a + 277) else (fun j => if j = 1 then some (a + 145) else (fun j => if j = 0 then some (a + 13) else (fun _ => none) j) j) j) j) j) = sgG a := by
      funext j
      unfold sgG
      rcases (show j = 0 ∨ j = 1 ∨ j = 2 ∨ j = 3 ∨ j = 4 ∨ 5 ≤ j by omega) with rfl | rfl | rfl | rfl | rfl | hj
      · rfl
      · rfl
      · rfl
      · rfl
      · rfl
      · rw [if_neg (by omega), if_neg (by omega)]
        try dsimp only
        rw [if_neg (by omega), if_neg (by omega), if_neg (by omega), if_neg (by omega)]
    have y := y33
    rw [e] at y
    exact y
  have hI : ∀ l : Int, 0 ≤ l → l < 5 → IsCols S33 (sgA a l) 64 := fun l l0 l1 => by
    rcases (show l = 0 ∨ l = 1 ∨ l = 2 ∨ l = 3 ∨ l = 4 by omega) with rfl | rfl | rfl | rfl | rfl
    · exact i13
    · exact i145
    · exact i277
    · exact i409
    · exact i541
  refine ⟨rfl, u33, fun b hb => ⟨ifr b hb, hQ2 b hb⟩, ⟨w33, i1, hG, i9, i10, i11, i12, hI⟩, ?_, fun l j hl hj => ?_⟩
  · rw [(f32 a (by omega)).2, e31, upS_ne (show a ≠ (a + 541) by omega), (f29 a (by omega)).2, e28, upS_ne (show a ≠ (a + 409) by omega), (f26 a (by omega)).2, e25, upS_ne (show a ≠ (a + 277) by omega), (f23 a (by omega)).2, e22, upS_ne (show a ≠ (a + 145) by omega), (f20 a (by omega)).2, e19, upS_ne (show a ≠ (a + 13) by omega), e18, upS_same, e17, upS_same, ha]
    funext q
    simp [up1]
  · rcases (show l = 0 ∨ l = 1 ∨ l = 2 ∨ l = 3 ∨ l = 4 by omega) with rfl | rfl | rfl | rfl | rfl
    · show τ32 (a + 13 + 4 + 2 * j + 1) = _
      rw [(f32 (a + 13 + 4 + 2 * j + 1) (by omega)).2, e31, upS_ne (show (a + 13 + 4 + 2 * j + 1) ≠ (a + 541) by omega), (f29 (a + 13 + 4 + 2 * j + 1) (by omega)).2, e28, upS_ne (show (a + 13 + 4 + 2 * j + 1) ≠ (a + 409) by omega), (f26 (a + 13 + 4 + 2 * j + 1) (by omega)).2, e25, upS_ne (show (a + 13 + 4 + 2 * j + 1) ≠ (a + 277) by omega), (f23 (a + 13 + 4 + 2 * j + 1) (by omega)).2, e22, upS_ne (show (a + 13 + 4 + 2 * j + 1) ≠ (a + 145) by omega)]
      exact z20.2 j hj
    · show τ32 (a + 145 + 4 + 2 * j + 1) = _
      rw [(f32 (a + 145 + 4 + 2 * j + 1) (by omega)).2, e31, upS_ne (show (a + 145 + 4 + 2 * j + 1) ≠ (a + 541) by omega), (f29 (a + 145 + 4 + 2 * j + 1) (by omega)).2, e28, upS_ne (show (a + 145 + 4 + 2 * j + 1) ≠ (a + 409) by omega), (f26 (a + 145 + 4 + 2 * j + 1) (by omega)).2, e25, upS_ne (show (a + 145 + 4 + 2 * j + 1) ≠ (a + 277) by omega)]
      exact z23.2 j hj
    · show τ32 (a + 277 + 4 + 2 * j + 1) = _
      rw [(f32 (a + 277 + 4 + 2 * j + 1) (by omega)).2, e31, upS_ne (show (a + 277 + 4 + 2 * j + 1) ≠ (a + 541) by omega), (f29 (a + 277 + 4 + 2 * j + 1) (by omega)).2, e28, upS_ne (show (a + 277 + 4 + 2 * j + 1) ≠ (a + 409) by omega)]
      exact z26.2 j hj
    · show τ32 (a + 409 + 4 + 2 * j + 1) = _
      rw [(f32 (a + 409 + 4 + 2 * j + 1) (by omega)).2, e31, upS_ne (show (a + 409 + 4 + 2 * j + 1) ≠ (a + 541) by omega)]
      exact z29.2 j hj
    · show τ32 (a + 541 + 4 + 2 * j + 1) = _
      rw []
      exact z32.2 j hj


/-- the store of a new HillLand -/
def hill0 (τ : Sto) (h : Nat) : Prop := τ (h + 1) = zF ∧ τ (h + 4) = zF ∧ τ (h + 7) = zF ∧ τ (h + 11) = zF ∧ τ (h + 12) = up1 zF 4 (-1) ∧ τ (h + 12 + 1) = zF ∧ τ (h + 147 + 1) = bgF zF ∧ τ (h + 149) = zF ∧ τ (h + 171) = zF ∧ τ (h + 173) = zF ∧ τ (h + 173 + 1) = zF ∧ τ (h + 176) = zF ∧ τ (h + 183) = up1 zF 10 (-1) ∧ τ (h + 458) = up1 (up1 zF 3 (-1)) 6 (-1) ∧ τ (h + 461) = zF ∧ τ (h + 464) = zF ∧ τ (h + 467) = zF ∧ τ (h + 470) = zF ∧ (∀ j : Nat, j < 64 → τ (h + 15 + 4 + 2 * j + 1) = bgF zF) ∧ (∀ j : Nat, j < 65 → τ (h + 183 + 7 + 4 + 2 * j + 1) = bgF zF) ∧ (∀ j : Nat, j < 65 → τ (h + 183 + 141 + 4 + 2 * j + 1) = bgF zF) ∧ (∀ j : Nat, j < 5 → τ (h + 149 + 4 + 4 + 2 * j + 1) = bgF zF)
theorem c_X11_init {G : GT} {S : Shp} {σ : Sto} {h : Nat} (h1 : S.1 = h + 1) (hA : At S h (sO 10 [fN, fN, fN, fN, fN, fN, fN, fN, fN, fN, fN, fN, fN, fN])) (hz : σ h = zF) (hb : h + 473 ≤ 1000000) : PMet G mX11_init 6 472 33878 [.ref h] S σ (fun r S' τ => r = none ∧ S'.1 = h + 473 ∧ (∀ b, b < h → S'.2 b = S.2 b ∧ τ b = σ b) ∧ IsHill S' h ∧ hill0 τ h) := by
  refine PMet.of [(0, .ref h)] (by decide +kernel) rfl (Nat.le_of_ble_eq_true rfl) ?_
  refine PW.aload_n dX11_init_0 rfl ?_
  refine PW.objI lo_X11 lo_in lo_co rfl (Nat.le_of_ble_eq_true rfl) ⟨(Nat.le_of_ble_eq_true rfl), (Nat.le_of_ble_eq_true rfl)⟩ dX11_init_1 ?_
  refine PW.aload_n dX11_init_4 rfl ?_
  refine PW.newOA (h + 1) (ci := 7) (ty := tyX8) [fN, fN, fI] h1 rfl iw_X8 kl_X11_7 ki_X8 kn_X8 tyX8_ok (by decide) rfl (by omega) (Nat.le_of_ble_eq_true rfl) (Nat.le_of_ble_eq_true rfl) dX11_init_5 (fun S1 p1 q1 r1 => ?_)
  refine PW.gst (fun τ1 e1 => ?_)
  have u1 : S1.1 = (h + 2) := by omega
  have w1 : At S1 h (sO 10 [fN, fN, fN, fN, fN, fN, fN, fN, fN, fN, fN, fN, fN, fN]) := hA.fr (q1 _ (by omega)) (by omega)
  refine PW.dup rfl dX11_init_8 ?_
  refine PW.callI (c_X8_init p1 r1 (by rw [e1]; exact upS_same _ _ _) (by omega)) ci_X8_init lk_X11_9 rfl r1.2 rfl rfl (Nat.le_of_ble_eq_true rfl) ⟨(Nat.le_of_ble_eq_true rfl), (Nat.le_of_ble_eq_true rfl)⟩ ⟨(Nat.le_of_ble_eq_true rfl), (Nat.le_of_ble_eq_true rfl)⟩ dX11_init_9 (fun r S2 τ2 hq => ?_)
  obtain ⟨rfl, p2, f2, c2, z2⟩ := hq
  refine PW.room (k' := 3) (n' := 122) (by omega) (by omega) ?_
  have u2 : S2.1 = (h + 4) := by omega
  clear u1 p2 p1
  have w2 : At S2 h (sO 10 [fN, fN, fN, fN, fN, fN, fN, fN, fN, fN, fN, fN, fN, fN]) := w1.fr (by rw [(f2 _ (by omega)).1]) (by omega)
  refine PW.putRA fl_X11_10 rfl (fun _ => rfl) w2 rfl (fun _ => rfl) (fun _ => rfl) dX11_init_12 (fun S3 p3 q3 r3 => ?_)
  have u3 : S3.1 = (h + 4) := by omega
  have w3 : At S3 h (sO 10 [fR (h + 1), fN, fN, fN, fN, fN, fN, fN, fN, fN, fN, fN, fN, fN]) := r3
  clear u2 p3
  refine PW.aload_n dX11_init_15 rfl ?_
  refine PW.newOA (h + 4) (ci := 7) (ty := tyX8) [fN, fN, fI] u3 rfl iw_X8 kl_X11_7 ki_X8 kn_X8 tyX8_ok (by decide) rfl (by omega) (Nat.le_of_ble_eq_true rfl) (Nat.le_of_ble_eq_true rfl) dX11_init_16 (fun S4 p4 q4 r4 => ?_)
  refine PW.gst (fun τ4 e4 => ?_)
  have u4 : S4.1 = (h + 5) := by omega
  clear u3
  have w4 : At S4 h (sO 10 [fR (h + 1), fN, fN, fN, fN, fN, fN, fN, fN, fN, fN, fN, fN, fN]) := w3.fr (q4 _ (by omega)) (by omega)
  refine PW.dup rfl dX11_init_19 ?_
  refine PW.callI (c_X8_init p4 r4 (by rw [e4]; exact upS_same _ _ _) (by omega)) ci_X8_init lk_X11_9 rfl r4.2 rfl rfl (Nat.le_of_ble_eq_true rfl) ⟨(Nat.le_of_ble_eq_true rfl), (Nat.le_of_ble_eq_true rfl)⟩ ⟨(Nat.le_of_ble_eq_true rfl), (Nat.le_of_ble_eq_true rfl)⟩ dX11_init_20 (fun r S5 τ5 hq => ?_)
  obtain ⟨rfl, p5, f5, c5, z5⟩ := hq
  refine PW.room (k' := 6) (n' := 244) (by omega) (by omega) ?_
  have u5 : S5.1 = (h + 7) := by omega
  clear u4 p5 p4
  have w5 : At S5 h (sO 10 [fR (h + 1), fN, fN, fN, fN, fN, fN, fN, fN, fN, fN, fN, fN, fN]) := w4.fr (by rw [(f5 _ (by omega)).1]) (by omega)
  refine PW.putRA fl_X11_16 rfl (fun _ => rfl) w5 rfl (fun _ => rfl) (fun _ => rfl) dX11_init_23 (fun S6 p6 q6 r6 => ?_)
  have u6 : S6.1 = (h + 7) := by omega
  have w6 : At S6 h (sO 10 [fR (h + 1), fR (h + 4), fN, fN, fN, fN, fN, fN, fN, fN, fN, fN, fN, fN]) := r6
  clear u5 p6
  refine PW.aload_n dX11_init_26 rfl ?_
  refine PW.newOA (h + 7) (ci := 7) (ty := tyX8) [fN, fN, fI] u6 rfl iw_X8 kl_X11_7 ki_X8 kn_X8 tyX8_ok (by decide) rfl (by omega) (Nat.le_of_ble_eq_true rfl) (Nat.le_of_ble_eq_true rfl) dX11_init_27 (fun S7 p7 q7 r7 => ?_)
  refine PW.gst (fun τ7 e7 => ?_)
  have u7 : S7.1 = (h + 8) := by omega
  clear u6
  have w7 : At S7 h (sO 10 [fR (h + 1), fR (h + 4), fN, fN, fN, fN, fN, fN, fN, fN, fN, fN, fN, fN]) := w6.fr (q7 _ (by omega)) (by omega)
  refine PW.dup rfl dX11_init_30 ?_
  refine PW.callI (c_X8_init p7 r7 (by rw [e7]; exact upS_same _ _ _) (by omega)) ci_X8_init lk_X11_9 rfl r7.2 rfl rfl (Nat.le_of_ble_eq_true rfl) ⟨(Nat.le_of_ble_eq_true rfl), (Nat.le_of_ble_eq_true rfl)⟩ ⟨(Nat.le_of_ble_eq_true rfl), (Nat.le_of_ble_eq_true rfl)⟩ dX11_init_31 (fun r S8 τ8 hq => ?_)
  obtain ⟨rfl, p8, f8, c8, z8⟩ := hq
  refine PW.room (k' := 9) (n' := 366) (by omega) (by omega) ?_
  have u8 : S8.1 = (h + 10) := by omega
  clear u7 p8 p7
  have w8 : At S8 h (sO 10 [fR (h + 1), fR (h + 4), fN, fN, fN, fN, fN, fN, fN, fN, fN, fN, fN, fN]) := w7.fr (by rw [(f8 _ (by omega)).1]) (by omega)
  refine PW.putRA fl_X11_19 rfl (fun _ => rfl) w8 rfl (fun _ => rfl) (fun _ => rfl) dX11_init_34 (fun S9 p9 q9 r9 => ?_)
  have u9 : S9.1 = (h + 10) := by omega
  have w9 : At S9 h (sO 10 [fR (h + 1), fR (h + 4), fR (h + 7), fN, fN, fN, fN, fN, fN, fN, fN, fN, fN, fN]) := r9
  clear u8 p9
  refine PW.aload_n dX11_init_37 rfl ?_
  refine PW.iconst dX11_init_38 ?_
  refine PW.newQA (h + 10) 4 3 u9 (by decide) kl_X11_7 (fun s h => h.2.1) (fun _ => rfl) rfl (by omega) (Nat.le_of_ble_eq_true rfl) (Nat.le_of_ble_eq_true rfl) dX11_init_39 (fun S10 p10 q10 r10 => ?_)
  refine PW.gst (fun τ10 e10 => ?_)
  have u10 : S10.1 = (h + 11) := by omega
  clear u9 p10
  have w10 : At S10 h (sO 10 [fR (h + 1), fR (h + 4), fR (h + 7), fN, fN, fN, fN, fN, fN, fN, fN, fN, fN, fN]) := w9.fr (q10 _ (by omega)) (by omega)
  refine PW.putRA fl_X11_22 rfl (fun _ => rfl) w10 rfl (fun _ => rfl) (fun _ => rfl) dX11_init_42 (fun S11 p11 q11 r11 => ?_)
  have u11 : S11.1 = (h + 11) := by omega
  have w11 : At S11 h (sO 10 [fR (h + 1), fR (h + 4), fR (h + 7), fR (h + 10), fN, fN, fN, fN, fN, fN, fN, fN, fN, fN]) := r11
  clear u10 p11
  have y11_10 : At S11 (h + 10) (sQ 3 4 (fun _ => none)) := r10.fr (by rw [q11 _ (by omega)]) (by omega)
  refine PW.aload_n dX11_init_45 rfl ?_
  refine PW.iconst dX11_init_46 ?_
  refine PW.newA (h + 11) 4 2 (atype := .boolean) u11 (by decide) ka_boolean (fun _ => rfl) rfl (by decide) (by omega) (Nat.le_of_ble_eq_true rfl) (Nat.le_of_ble_eq_true rfl) dX11_init_47 (fun S12 p12 q12 r12 => ?_)
  refine PW.gst (fun τ12 e12 => ?_)
  have u12 : S12.1 = (h + 12) := by omega
  clear u11 p12
  have w12 : At S12 h (sO 10 [fR (h + 1), fR (h + 4), fR (h + 7), fR (h + 10), fN, fN, fN, fN, fN, fN, fN, fN, fN, fN]) := w11.fr (q12 _ (by omega)) (by omega)
  have y12_10 : At S12 (h + 10) (sQ 3 4 (fun _ => none)) := y11_10.fr (by rw [q12 _ (by omega)]) (by omega)
  refine PW.putRA fl_X11_26 rfl (fun _ => rfl) w12 rfl (fun _ => rfl) (fun _ => rfl) dX11_init_49 (fun S13 p13 q13 r13 => ?_)
  have u13 : S13.1 = (h + 12) := by omega
  have w13 : At S13 h (sO 10 [fR (h + 1), fR (h + 4), fR (h + 7), fR (h + 10), fR (h + 11), fN, fN, fN, fN, fN, fN, fN, fN, fN]) := r13
  clear u12 p13
  have y13_10 : At S13 (h + 10) (sQ 3 4 (fun _ => none)) := y12_10.fr (by rw [q13 _ (by omega)]) (by omega)
  refine PW.aload_n dX11_init_52 rfl ?_
  refine PW.newOA (h + 12) (ci := 9) (ty := tyX10) [fN, fN, fI, fI, fI, fI] u13 rfl iw_X10 kl_X11_30 ki_X10 kn_X10 tyX10_ok (by decide) rfl (by omega) (Nat.le_of_ble_eq_true rfl) (Nat.le_of_ble_eq_true rfl) dX11_init_53 (fun S14 p14 q14 r14 => ?_)
  refine PW.gst (fun τ14 e14 => ?_)
  have u14 : S14.1 = (h + 13) := by omega
  clear u13
  have w14 : At S14 h (sO 10 [fR (h + 1), fR (h + 4), fR (h + 7), fR (h + 10), fR (h + 11), fN, fN, fN, fN, fN, fN, fN, fN, fN]) := w13.fr (q14 _ (by omega)) (by omega)
  have y14_10 : At S14 (h + 10) (sQ 3 4 (fun _ => none)) := y13_10.fr (by rw [q14 _ (by omega)]) (by omega)
  refine PW.dup rfl dX11_init_56 ?_
  refine PW.callI (c_X10_init p14 r14 (by rw [e14]; exact upS_same _ _ _) (by omega)) ci_X10_init lk_X11_32 rfl r14.2 rfl rfl (Nat.le_of_ble_eq_true rfl) ⟨(Nat.le_of_ble_eq_true rfl), (Nat.le_of_ble_eq_true rfl)⟩ ⟨(Nat.le_of_ble_eq_true rfl), (Nat.le_of_ble_eq_true rfl)⟩ dX11_init_57 (fun r S15 τ15 hq => ?_)
  obtain ⟨rfl, p15, f15, c15, z15⟩ := hq
  refine PW.room (k' := 14) (n' := 685) (by omega) (by omega) ?_
  have u15 : S15.1 = (h + 15) := by omega
  clear u14 p15 p14
  have w15 : At S15 h (sO 10 [fR (h + 1), fR (h + 4), fR (h + 7), fR (h + 10), fR (h + 11), fN, fN, fN, fN, fN, fN, fN, fN, fN]) := w14.fr (by rw [(f15 _ (by omega)).1]) (by omega)
  have y15_10 : At S15 (h + 10) (sQ 3 4 (fun _ => none)) := y14_10.fr (by rw [(f15 _ (by omega)).1]) (by omega)
  refine PW.putRA fl_X11_33 rfl (fun _ => rfl) w15 rfl (fun _ => rfl) (fun _ => rfl) dX11_init_60 (fun S16 p16 q16 r16 => ?_)
  have u16 : S16.1 = (h + 15) := by omega
  have w16 : At S16 h (sO 10 [fR (h + 1), fR (h + 4), fR (h + 7), fR (h + 10), fR (h + 11), fR (h + 12), fN, fN, fN, fN, fN, fN, fN, fN]) := r16
  clear u15 p16
  have y16_10 : At S16 (h + 10) (sQ 3 4 (fun _ => none)) := y15_10.fr (by rw [q16 _ (by omega)]) (by omega)
  refine PW.aload_n dX11_init_63 rfl ?_
  refine PW.newOA (h + 15) (ci := 2) (ty := tyX2) [fN, fN] u16 rfl iw_X2 kl_X11_37 ki_X2 kn_X2 tyX2_ok (by decide) rfl (by omega) (Nat.le_of_ble_eq_true rfl) (Nat.le_of_ble_eq_true rfl) dX11_init_64 (fun S17 p17 q17 r17 => ?_)
  refine PW.gst (fun τ17 e17 => ?_)
  have u17 : S17.1 = (h + 16) := by omega
  clear u16
  have w17 : At S17 h (sO 10 [fR (h + 1), fR (h + 4), fR (h + 7), fR (h + 10), fR (h + 11), fR (h + 12), fN, fN, fN, fN, fN, fN, fN, fN]) := w16.fr (q17 _ (by omega)) (by omega)
  have y17_10 : At S17 (h + 10) (sQ 3 4 (fun _ => none)) := y16_10.fr (by rw [q17 _ (by omega)]) (by omega)
  refine PW.dup rfl dX11_init_67 ?_
  refine PW.bipush (by decide) dX11_init_68 ?_
  refine PW.callI (c_X2_init (N := 64) p17 r17 (by rw [e17]; exact upS_same _ _ _) (by omega) (by omega)) ci_X2_init lk_X11_39 rfl r17.2 rfl rfl (Nat.le_of_ble_eq_true rfl) ⟨(Nat.le_of_ble_eq_true rfl), (Nat.le_of_ble_eq_true rfl)⟩ ⟨(Nat.le_of_ble_eq_true rfl), (Nat.le_of_ble_eq_true rfl)⟩ dX11_init_70 (fun r S18 τ18 hq => ?_)
  obtain ⟨rfl, p18, f18, c18, z18⟩ := hq
  refine PW.room (k' := 146) (n' := 6016) (by omega) (by omega) ?_
  have u18 : S18.1 = (h + 147) := by omega
  clear u17 p18 p17
  have w18 : At S18 h (sO 10 [fR (h + 1), fR (h + 4), fR (h + 7), fR (h + 10), fR (h + 11), fR (h + 12), fN, fN, fN, fN, fN, fN, fN, fN]) := w17.fr (by rw [(f18 _ (by omega)).1]) (by omega)
  have y18_10 : At S18 (h + 10) (sQ 3 4 (fun _ => none)) := y17_10.fr (by rw [(f18 _ (by omega)).1]) (by omega)
  refine PW.putRA fl_X11_42 rfl (fun _ => rfl) w18 rfl (fun _ => rfl) (fun _ => rfl) dX11_init_73 (fun S19 p19 q19 r19 => ?_)
  have u19 : S19.1 = (h + 147) := by omega
  have w19 : At S19 h (sO 10 [fR (h + 1), fR (h + 4), fR (h + 7), fR (h + 10), fR (h + 11), fR (h + 12), fR (h + 15), fN, fN, fN, fN, fN, fN, fN]) := r19
  clear u18 p19
  have y19_10 : At S19 (h + 10) (sQ 3 4 (fun _ => none)) := y18_10.fr (by rw [q19 _ (by omega)]) (by omega)
  refine PW.aload_n dX11_init_76 rfl ?_
  refine PW.newOA (h + 147) (ci := 1) (ty := tyX1) [fN] u19 rfl iw_X1 kl_X11_46 ki_X1 kn_X1 tyX1_ok (by decide) rfl (by omega) (Nat.le_of_ble_eq_true rfl) (Nat.le_of_ble_eq_true rfl) dX11_init_77 (fun S20 p20 q20 r20 => ?_)
  refine PW.gst (fun τ20 e20 => ?_)
  have u20 : S20.1 = (h + 148) := by omega
  clear u19
  have w20 : At S20 h (sO 10 [fR (h + 1), fR (h + 4), fR (h + 7), fR (h + 10), fR (h + 11), fR (h + 12), fR (h + 15), fN, fN, fN, fN, fN, fN, fN]) := w19.fr (q20 _ (by omega)) (by omega)
  have y20_10 : At S20 (h + 10) (sQ 3 4 (fun _ => none)) := y19_10.fr (by rw [q20 _ (by omega)]) (by omega)
  refine PW.dup rfl dX11_init_80 ?_
  refine PW.callI (c_X1_init p20 r20 (by rw [e20]; exact upS_same _ _ _) (by omega)) ci_X1_init lk_X11_48 rfl r20.2 rfl rfl (Nat.le_of_ble_eq_true rfl) ⟨(Nat.le_of_ble_eq_true rfl), (Nat.le_of_ble_eq_true rfl)⟩ ⟨(Nat.le_of_ble_eq_true rfl), (Nat.le_of_ble_eq_true rfl)⟩ dX11_init_81 (fun r S21 τ21 hq => ?_)
  obtain ⟨rfl, p21, f21, c21, z21⟩ := hq
  refine PW.room (k' := 148) (n' := 6097) (by omega) (by omega) ?_
  have u21 : S21.1 = (h + 149) := by omega
  clear u20 p21 p20
  have w21 : At S21 h (sO 10 [fR (h + 1), fR (h + 4), fR (h + 7), fR (h + 10), fR (h + 11), fR (h + 12), fR (h + 15), fN, fN, fN, fN, fN, fN, fN]) := w20.fr (by rw [(f21 _ (by omega)).1]) (by omega)
  have y21_10 : At S21 (h + 10) (sQ 3 4 (fun _ => none)) := y20_10.fr (by rw [(f21 _ (by omega)).1]) (by omega)
  refine PW.putRA fl_X11_49 rfl (fun _ => rfl) w21 rfl (fun _ => rfl) (fun _ => rfl) dX11_init_84 (fun S22 p22 q22 r22 => ?_)
  have u22 : S22.1 = (h + 149) := by omega
  have w22 : At S22 h (sO 10 [fR (h + 1), fR (h + 4), fR (h + 7), fR (h + 10), fR (h + 11), fR (h + 12), fR (h + 15), fR (h + 147), fN, fN, fN, fN, fN, fN]) := r22
  clear u21 p22
  have y22_10 : At S22 (h + 10) (sQ 3 4 (fun _ => none)) := y21_10.fr (by rw [q22 _ (by omega)]) (by omega)
  refine PW.aload_n dX11_init_87 rfl ?_
  refine PW.newOA (h + 149) (ci := 4) (ty := tyX4) [fN, fN, fN, fN, fN, fN, fI, fI, fI] u22 rfl iw_X4 kl_X11_53 ki_X4 kn_X4 tyX4_ok (by decide) rfl (by omega) (Nat.le_of_ble_eq_true rfl) (Nat.le_of_ble_eq_true rfl) dX11_init_88 (fun S23 p23 q23 r23 => ?_)
  refine PW.gst (fun τ23 e23 => ?_)
  have u23 : S23.1 = (h + 150) := by omega
  clear u22
  have w23 : At S23 h (sO 10 [fR (h + 1), fR (h + 4), fR (h + 7), fR (h + 10), fR (h + 11), fR (h + 12), fR (h + 15), fR (h + 147), fN, fN, fN, fN, fN, fN]) := w22.fr (q23 _ (by omega)) (by omega)
  have y23_10 : At S23 (h + 10) (sQ 3 4 (fun _ => none)) := y22_10.fr (by rw [q23 _ (by omega)]) (by omega)
  refine PW.dup rfl dX11_init_91 ?_
  refine PW.callI (c_X4_init p23 r23 (by rw [e23]; exact upS_same _ _ _) (by omega)) ci_X4_init lk_X11_55 rfl r23.2 rfl rfl (Nat.le_of_ble_eq_true rfl) ⟨(Nat.le_of_ble_eq_true rfl), (Nat.le_of_ble_eq_true rfl)⟩ ⟨(Nat.le_of_ble_eq_true rfl), (Nat.le_of_ble_eq_true rfl)⟩ dX11_init_92 (fun r S24 τ24 hq => ?_)
  obtain ⟨rfl, p24, f24, c24, z24⟩ := hq
  refine PW.room (k' := 170) (n' := 8053) (by omega) (by omega) ?_
  have u24 : S24.1 = (h + 171) := by omega
  clear u23 p24 p23
  have w24 : At S24 h (sO 10 [fR (h + 1), fR (h + 4), fR (h + 7), fR (h + 10), fR (h + 11), fR (h + 12), fR (h + 15), fR (h + 147), fN, fN, fN, fN, fN, fN]) := w23.fr (by rw [(f24 _ (by omega)).1]) (by omega)
  have y24_10 : At S24 (h + 10) (sQ 3 4 (fun _ => none)) := y23_10.fr (by rw [(f24 _ (by omega)).1]) (by omega)
  refine PW.putRA fl_X11_56 rfl (fun _ => rfl) w24 rfl (fun _ => rfl) (fun _ => rfl) dX11_init_95 (fun S25 p25 q25 r25 => ?_)
  have u25 : S25.1 = (h + 171) := by omega
  have w25 : At S25 h (sO 10 [fR (h + 1), fR (h + 4), fR (h + 7), fR (h + 10), fR (h + 11), fR (h + 12), fR (h + 15), fR (h + 147), fR (h + 149), fN, fN, fN, fN, fN]) := r25
  clear u24 p25
  have y25_10 : At S25 (h + 10) (sQ 3 4 (fun _ => none)) := y24_10.fr (by rw [q25 _ (by omega)]) (by omega)
  refine PW.aload_n dX11_init_98 rfl ?_
  refine PW.newOA (h + 171) (ci := 6) (ty := tyX7) [fN, fI] u25 rfl iw_X7 kl_X11_60 ki_X7 kn_X7 tyX7_ok (by decide) rfl (by omega) (Nat.le_of_ble_eq_true rfl) (Nat.le_of_ble_eq_true rfl) dX11_init_99 (fun S26 p26 q26 r26 => ?_)
  refine PW.gst (fun τ26 e26 => ?_)
  have u26 : S26.1 = (h + 172) := by omega
  clear u25
  have w26 : At S26 h (sO 10 [fR (h + 1), fR (h + 4), fR (h + 7), fR (h + 10), fR (h + 11), fR (h + 12), fR (h + 15), fR (h + 147), fR (h + 149), fN, fN, fN, fN, fN]) := w25.fr (q26 _ (by omega)) (by omega)
  have y26_10 : At S26 (h + 10) (sQ 3 4 (fun _ => none)) := y25_10.fr (by rw [q26 _ (by omega)]) (by omega)
  refine PW.dup rfl dX11_init_102 ?_
  refine PW.callI (c_X7_init p26 r26 (by rw [e26]; exact upS_same _ _ _) (by omega)) ci_X7_init lk_X11_62 rfl r26.2 rfl rfl (Nat.le_of_ble_eq_true rfl) ⟨(Nat.le_of_ble_eq_true rfl), (Nat.le_of_ble_eq_true rfl)⟩ ⟨(Nat.le_of_ble_eq_true rfl), (Nat.le_of_ble_eq_true rfl)⟩ dX11_init_103 (fun r S27 τ27 hq => ?_)
  obtain ⟨rfl, p27, f27, c27, z27⟩ := hq
  refine PW.room (k' := 172) (n' := 8205) (by omega) (by omega) ?_
  have u27 : S27.1 = (h + 173) := by omega
  clear u26 p27 p26
  have w27 : At S27 h (sO 10 [fR (h + 1), fR (h + 4), fR (h + 7), fR (h + 10), fR (h + 11), fR (h + 12), fR (h + 15), fR (h + 147), fR (h + 149), fN, fN, fN, fN, fN]) := w26.fr (by rw [(f27 _ (by omega)).1]) (by omega)
  have y27_10 : At S27 (h + 10) (sQ 3 4 (fun _ => none)) := y26_10.fr (by rw [(f27 _ (by omega)).1]) (by omega)
  refine PW.putRA fl_X11_63 rfl (fun _ => rfl) w27 rfl (fun _ => rfl) (fun _ => rfl) dX11_init_106 (fun S28 p28 q28 r28 => ?_)
  have u28 : S28.1 = (h + 173) := by omega
  have w28 : At S28 h (sO 10 [fR (h + 1), fR (h + 4), fR (h + 7), fR (h + 10), fR (h + 11), fR (h + 12), fR (h + 15), fR (h + 147), fR (h + 149), fR (h + 171), fN, fN, fN, fN]) := r28
  clear u27 p28
  have y28_10 : At S28 (h + 10) (sQ 3 4 (fun _ => none)) := y27_10.fr (by rw [q28 _ (by omega)]) (by omega)
  refine PW.aload_n dX11_init_109 rfl ?_
  refine PW.newOA (h + 173) (ci := 0) (ty := tyX0) [fN, fN, fI] u28 rfl iw_X0 kl_X11_67 ki_X0 kn_X0 tyX0_ok (by decide) rfl (by omega) (Nat.le_of_ble_eq_true rfl) (Nat.le_of_ble_eq_true rfl) dX11_init_110 (fun S29 p29 q29 r29 => ?_)
  refine PW.gst (fun τ29 e29 => ?_)
  have u29 : S29.1 = (h + 174) := by omega
  clear u28
  have w29 : At S29 h (sO 10 [fR (h + 1), fR (h + 4), fR (h + 7), fR (h + 10), fR (h + 11), fR (h + 12), fR (h + 15), fR (h + 147), fR (h + 149), fR (h + 171), fN, fN, fN, fN]) := w28.fr (q29 _ (by omega)) (by omega)
  have y29_10 : At S29 (h + 10) (sQ 3 4 (fun _ => none)) := y28_10.fr (by rw [q29 _ (by omega)]) (by omega)
  refine PW.dup rfl dX11_init_113 ?_
  refine PW.callI (c_X0_init p29 r29 (by rw [e29]; exact upS_same _ _ _) (by omega)) ci_X0_init lk_X11_69 rfl r29.2 rfl rfl (Nat.le_of_ble_eq_true rfl) ⟨(Nat.le_of_ble_eq_true rfl), (Nat.le_of_ble_eq_true rfl)⟩ ⟨(Nat.le_of_ble_eq_true rfl), (Nat.le_of_ble_eq_true rfl)⟩ dX11_init_114 (fun r S30 τ30 hq => ?_)
  obtain ⟨rfl, p30, f30, c30, z30⟩ := hq
  refine PW.room (k' := 175) (n' := 8528) (by omega) (by omega) ?_
  have u30 : S30.1 = (h + 176) := by omega
  clear u29 p30 p29
  have w30 : At S30 h (sO 10 [fR (h + 1), fR (h + 4), fR (h + 7), fR (h + 10), fR (h + 11), fR (h + 12), fR (h + 15), fR (h + 147), fR (h + 149), fR (h + 171), fN, fN, fN, fN]) := w29.fr (by rw [(f30 _ (by omega)).1]) (by omega)
  have y30_10 : At S30 (h + 10) (sQ 3 4 (fun _ => none)) := y29_10.fr (by rw [(f30 _ (by omega)).1]) (by omega)
  refine PW.putRA fl_X11_70 rfl (fun _ => rfl) w30 rfl (fun _ => rfl) (fun _ => rfl) dX11_init_117 (fun S31 p31 q31 r31 => ?_)
  have u31 : S31.1 = (h + 176) := by omega
  have w31 : At S31 h (sO 10 [fR (h + 1), fR (h + 4), fR (h + 7), fR (h + 10), fR (h + 11), fR (h + 12), fR (h + 15), fR (h + 147), fR (h + 149), fR (h + 171), fR (h + 173), fN, fN, fN]) := r31
  clear u30 p31
  have y31_10 : At S31 (h + 10) (sQ 3 4 (fun _ => none)) := y30_10.fr (by rw [q31 _ (by omega)]) (by omega)
  refine PW.aload_n dX11_init_120 rfl ?_
  refine PW.newOA (h + 176) (ci := 3) (ty := tyX3) [fN, fN, fN, fN, fN, fN, fI, fI] u31 rfl iw_X3 kl_X11_74 ki_X3 kn_X3 tyX3_ok (by decide) rfl (by omega) (Nat.le_of_ble_eq_true rfl) (Nat.le_of_ble_eq_true rfl) dX11_init_121 (fun S32 p32 q32 r32 => ?_)
  refine PW.gst (fun τ32 e32 => ?_)
  have u32 : S32.1 = (h + 177) := by omega
  clear u31
  have w32 : At S32 h (sO 10 [fR (h + 1), fR (h + 4), fR (h + 7), fR (h + 10), fR (h + 11), fR (h + 12), fR (h + 15), fR (h + 147), fR (h + 149), fR (h + 171), fR (h + 173), fN, fN, fN]) := w31.fr (q32 _ (by omega)) (by omega)
  have y32_10 : At S32 (h + 10) (sQ 3 4 (fun _ => none)) := y31_10.fr (by rw [q32 _ (by omega)]) (by omega)
  refine PW.dup rfl dX11_init_124 ?_
  refine PW.callI (c_X3_init p32 r32 (by rw [e32]; exact upS_same _ _ _) (by omega)) ci_X3_init lk_X11_76 rfl r32.2 rfl rfl (Nat.le_of_ble_eq_true rfl) ⟨(Nat.le_of_ble_eq_true rfl), (Nat.le_of_ble_eq_true rfl)⟩ ⟨(Nat.le_of_ble_eq_true rfl), (Nat.le_of_ble_eq_true rfl)⟩ dX11_init_125 (fun r S33 τ33 hq => ?_)
  obtain ⟨rfl, p33, f33, c33, z33⟩ := hq
  refine PW.room (k' := 182) (n' := 22024) (by omega) (by omega) ?_
  have u33 : S33.1 = (h + 183) := by omega
  clear u32 p33 p32
  have w33 : At S33 h (sO 10 [fR (h + 1), fR (h + 4), fR (h + 7), fR (h + 10), fR (h + 11), fR (h + 12), fR (h + 15), fR (h + 147), fR (h + 149), fR (h + 171), fR (h + 173), fN, fN, fN]) := w32.fr (by rw [(f33 _ (by omega)).1]) (by omega)
  have y33_10 : At S33 (h + 10) (sQ 3 4 (fun _ => none)) := y32_10.fr (by rw [(f33 _ (by omega)).1]) (by omega)
  refine PW.putRA fl_X11_77 rfl (fun _ => rfl) w33 rfl (fun _ => rfl) (fun _ => rfl) dX11_init_128 (fun S34 p34 q34 r34 => ?_)
  have u34 : S34.1 = (h + 183) := by omega
  have w34 : At S34 h (sO 10 [fR (h + 1), fR (h + 4), fR (h + 7), fR (h + 10), fR (h + 11), fR (h + 12), fR (h + 15), fR (h + 147), fR (h + 149), fR (h + 171), fR (h + 173), fR (h + 176), fN, fN]) := r34
  clear u33 p34
  have y34_10 : At S34 (h + 10) (sQ 3 4 (fun _ => none)) := y33_10.fr (by rw [q34 _ (by omega)]) (by omega)
  refine PW.aload_n dX11_init_131 rfl ?_
  refine PW.newOA (h + 183) (ci := 8) (ty := tyX9) [fN, fN, fN, fN, fN, fN, fN, fN, fI, fI, fI, fI, fI] u34 rfl iw_X9 kl_X11_81 ki_X9 kn_X9 tyX9_ok (by decide) rfl (by omega) (Nat.le_of_ble_eq_true rfl) (Nat.le_of_ble_eq_true rfl) dX11_init_132 (fun S35 p35 q35 r35 => ?_)
  refine PW.gst (fun τ35 e35 => ?_)
  have u35 : S35.1 = (h + 184) := by omega
  clear u34
  have w35 : At S35 h (sO 10 [fR (h + 1), fR (h + 4), fR (h + 7), fR (h + 10), fR (h + 11), fR (h + 12), fR (h + 15), fR (h + 147), fR (h + 149), fR (h + 171), fR (h + 173), fR (h + 176), fN, fN]) := w34.fr (q35 _ (by omega)) (by omega)
  have y35_10 : At S35 (h + 10) (sQ 3 4 (fun _ => none)) := y34_10.fr (by rw [q35 _ (by omega)]) (by omega)
  refine PW.dup rfl dX11_init_135 ?_
  refine PW.callI (c_X9_init p35 r35 (by rw [e35]; exact upS_same _ _ _) (by omega)) ci_X9_init lk_X11_83 rfl r35.2 rfl rfl (Nat.le_of_ble_eq_true rfl) ⟨(Nat.le_of_ble_eq_true rfl), (Nat.le_of_ble_eq_true rfl)⟩ ⟨(Nat.le_of_ble_eq_true rfl), (Nat.le_of_ble_eq_true rfl)⟩ dX11_init_136 (fun r S36 τ36 hq => ?_)
  obtain ⟨rfl, p36, f36, c36, z36⟩ := hq
  refine PW.room (k' := 457) (n' := 33253) (by omega) (by omega) ?_
  have u36 : S36.1 = (h + 458) := by omega
  clear u35 p36 p35
  have w36 : At S36 h (sO 10 [fR (h + 1), fR (h + 4), fR (h + 7), fR (h + 10), fR (h + 11), fR (h + 12), fR (h + 15), fR (h + 147), fR (h + 149), fR (h + 171), fR (h + 173), fR (h + 176), fN, fN]) := w35.fr (by rw [(f36 _ (by omega)).1]) (by omega)
  have y36_10 : At S36 (h + 10) (sQ 3 4 (fun _ => none)) := y35_10.fr (by rw [(f36 _ (by omega)).1]) (by omega)
  refine PW.putRA fl_X11_84 rfl (fun _ => rfl) w36 rfl (fun _ => rfl) (fun _ => rfl) dX11_init_139 (fun S37 p37 q37 r37 => ?_)
  have u37 : S37.1 = (h + 458) := by omega
  have w37 : At S37 h (sO 10 [fR (h + 1), fR (h + 4), fR (h + 7), fR (h + 10), fR (h + 11), fR (h + 12), fR (h + 15), fR (h + 147), fR (h + 149), fR (h + 171), fR (h + 173), fR (h + 176), fR (h + 183), fN]) := r37
  clear u36 p37
  have y37_10 : At S37 (h + 10) (sQ 3 4 (fun _ => none)) := y36_10.fr (by rw [q37 _ (by omega)]) (by omega)
  refine PW.aload_n dX11_init_142 rfl ?_
  refine PW.newOA (h + 458) (ci := 5) (ty := tyX6) [fN, fN, fI, fI, fI, fI, fI] u37 rfl iw_X6 kl_X11_88 ki_X6 kn_X6 tyX6_ok (by decide) rfl (by omega) (Nat.le_of_ble_eq_true rfl) (Nat.le_of_ble_eq_true rfl) dX11_init_143 (fun S38 p38 q38 r38 => ?_)
  refine PW.gst (fun τ38 e38 => ?_)
  have u38 : S38.1 = (h + 459) := by omega
  clear u37
  have w38 : At S38 h (sO 10 [fR (h + 1), fR (h + 4), fR (h + 7), fR (h + 10), fR (h + 11), fR (h + 12), fR (h + 15), fR (h + 147), fR (h + 149), fR (h + 171), fR (h + 173), fR (h + 176), fR (h + 183), fN]) := w37.fr (q38 _ (by omega)) (by omega)
  have y38_10 : At S38 (h + 10) (sQ 3 4 (fun _ => none)) := y37_10.fr (by rw [q38 _ (by omega)]) (by omega)
  refine PW.dup rfl dX11_init_146 ?_
  refine PW.callI (c_X6_init p38 r38 (by rw [e38]; exact upS_same _ _ _) (by omega)) ci_X6_init lk_X11_90 rfl r38.2 rfl rfl (Nat.le_of_ble_eq_true rfl) ⟨(Nat.le_of_ble_eq_true rfl), (Nat.le_of_ble_eq_true rfl)⟩ ⟨(Nat.le_of_ble_eq_true rfl), (Nat.le_of_ble_eq_true rfl)⟩ dX11_init_147 (fun r S39 τ39 hq => ?_)
  obtain ⟨rfl, p39, f39, c39, z39⟩ := hq
  refine PW.room (k' := 460) (n' := 33390) (by omega) (by omega) ?_
  have u39 : S39.1 = (h + 461) := by omega
  clear u38 p39 p38
  have w39 : At S39 h (sO 10 [fR (h + 1), fR (h + 4), fR (h + 7), fR (h + 10), fR (h + 11), fR (h + 12), fR (h + 15), fR (h + 147), fR (h + 149), fR (h + 171), fR (h + 173), fR (h + 176), fR (h + 183), fN]) := w38.fr (by rw [(f39 _ (by omega)).1]) (by omega)
  have y39_10 : At S39 (h + 10) (sQ 3 4 (fun _ => none)) := y38_10.fr (by rw [(f39 _ (by omega)).1]) (by omega)
  refine PW.putRA fl_X11_91 rfl (fun _ => rfl) w39 rfl (fun _ => rfl) (fun _ => rfl) dX11_init_150 (fun S40 p40 q40 r40 => ?_)
  have u40 : S40.1 = (h + 461) := by omega
  have w40 : At S40 h (sO 10 [fR (h + 1), fR (h + 4), fR (h + 7), fR (h + 10), fR (h + 11), fR (h + 12), fR (h + 15), fR (h + 147), fR (h + 149), fR (h + 171), fR (h + 173), fR (h + 176), fR (h + 183), fR (h + 458)]) := r40
  clear u39 p40
  have y40_10 : At S40 (h + 10) (sQ 3 4 (fun _ => none)) := y39_10.fr (by rw [q40 _ (by omega)]) (by omega)
  refine PW.iconst dX11_init_153 ?_
  refine PW.istore_n [(0, _), (1, _)] dX11_init_154 rfl (Nat.le_of_ble_eq_true rfl) ?_
  refine PW.iload_n dX11_init_155 rfl ?_
  refine PW.aload_n dX11_init_156 rfl ?_
  refine PW.getR fl_X11_22 rfl w40 rfl dX11_init_157 ?_
  refine PW.alenQ y40_10 ⟨_, rfl⟩ dX11_init_160 ?_
  refine PW.icmp_ge 183 dX11_init_161 (by decide) (by unfold inR; omega) (by unfold inR; omega) (fun hcm => ?_) (fun hcm => ?_)
  · omega
  refine PW.aload_n dX11_init_164 rfl ?_
  refine PW.getR fl_X11_22 rfl w40 rfl dX11_init_165 ?_
  refine PW.iload_n dX11_init_168 rfl ?_
  refine PW.newOA (h + 461) (ci := 7) (ty := tyX8) [fN, fN, fI] u40 rfl iw_X8 kl_X11_7 ki_X8 kn_X8 tyX8_ok (by decide) rfl (by omega) (Nat.le_of_ble_eq_true rfl) (Nat.le_of_ble_eq_true rfl) dX11_init_169 (fun S41 p41 q41 r41 => ?_)
  refine PW.gst (fun τ41 e41 => ?_)
  have u41 : S41.1 = (h + 462) := by omega
  clear u40
  have w41 : At S41 h (sO 10 [fR (h + 1), fR (h + 4), fR (h + 7), fR (h + 10), fR (h + 11), fR (h + 12), fR (h + 15), fR (h + 147), fR (h + 149), fR (h + 171), fR (h + 173), fR (h + 176), fR (h + 183), fR (h + 458)]) := w40.fr (q41 _ (by omega)) (by omega)
  have y41_10 : At S41 (h + 10) (sQ 3 4 (fun _ => none)) := y40_10.fr (by rw [q41 _ (by omega)]) (by omega)
  refine PW.dup rfl dX11_init_172 ?_
  refine PW.callI (c_X8_init p41 r41 (by rw [e41]; exact upS_same _ _ _) (by omega)) ci_X8_init lk_X11_9 rfl r41.2 rfl rfl (Nat.le_of_ble_eq_true rfl) ⟨(Nat.le_of_ble_eq_true rfl), (Nat.le_of_ble_eq_true rfl)⟩ ⟨(Nat.le_of_ble_eq_true rfl), (Nat.le_of_ble_eq_true rfl)⟩ dX11_init_173 (fun r S42 τ42 hq => ?_)
  obtain ⟨rfl, p42, f42, c42, z42⟩ := hq
  refine PW.room (k' := 463) (n' := 33512) (by omega) (by omega) ?_
  have u42 : S42.1 = (h + 464) := by omega
  clear u41 p42 p41
  have w42 : At S42 h (sO 10 [fR (h + 1), fR (h + 4), fR (h + 7), fR (h + 10), fR (h + 11), fR (h + 12), fR (h + 15), fR (h + 147), fR (h + 149), fR (h + 171), fR (h + 173), fR (h + 176), fR (h + 183), fR (h + 458)]) := w41.fr (by rw [(f42 _ (by omega)).1]) (by omega)
  have y42_10 : At S42 (h + 10) (sQ 3 4 (fun _ => none)) := y41_10.fr (by rw [(f42 _ (by omega)).1]) (by omega)
  refine PW.aast (C := RX8) (T := TX8) (Nc := 3) y42_10 c42.1 rfl (fun _ => rfl) (by unfold inR; omega) (by omega) (by omega) dX11_init_176 (fun S43 p43 q43 r43 => ?_)
  have u43 : S43.1 = (h + 464) := by omega
  clear u42 p43
  have w43 : At S43 h (sO 10 [fR (h + 1), fR (h + 4), fR (h + 7), fR (h + 10), fR (h + 11), fR (h + 12), fR (h + 15), fR (h + 147), fR (h + 149), fR (h + 171), fR (h + 173), fR (h + 176), fR (h + 183), fR (h + 458)]) := w42.fr (q43 _ (by omega)) (by omega)
  have y43 : At S43 (h + 10) (sQ 3 4 (fun j => if j = 0 then some (h + 461) else (fun _ => none) j)) := r43
  refine PW.iinc [(0, _), (1, _)] dX11_init_177 rfl rfl (Nat.le_of_ble_eq_true rfl) ?_
  refine PW.goto 155 dX11_init_180 (by decide) ?_
  refine PW.iload_n dX11_init_155 rfl ?_
  refine PW.aload_n dX11_init_156 rfl ?_
  refine PW.getR fl_X11_22 rfl w43 rfl dX11_init_157 ?_
  refine PW.alenQ y43 ⟨_, rfl⟩ dX11_init_160 ?_
  refine PW.icmp_ge 183 dX11_init_161 (by decide) (by unfold inR; omega) (by unfold inR; omega) (fun hcm => ?_) (fun hcm => ?_)
  · omega
  refine PW.aload_n dX11_init_164 rfl ?_
  refine PW.getR fl_X11_22 rfl w43 rfl dX11_init_165 ?_
  refine PW.iload_n dX11_init_168 rfl ?_
  refine PW.newOA (h + 464) (ci := 7) (ty := tyX8) [fN, fN, fI] u43 rfl iw_X8 kl_X11_7 ki_X8 kn_X8 tyX8_ok (by decide) rfl (by omega) (Nat.le_of_ble_eq_true rfl) (Nat.le_of_ble_eq_true rfl) dX11_init_169 (fun S44 p44 q44 r44 => ?_)
  refine PW.gst (fun τ44 e44 => ?_)
  have u44 : S44.1 = (h + 465) := by omega
  clear u43
  have w44 : At S44 h (sO 10 [fR (h + 1), fR (h + 4), fR (h + 7), fR (h + 10), fR (h + 11), fR (h + 12), fR (h + 15), fR (h + 147), fR (h + 149), fR (h + 171), fR (h + 173), fR (h + 176), fR (h + 183), fR (h + 458)]) := w43.fr (q44 _ (by omega)) (by omega)
  have y44_10 : At S44 (h + 10) (sQ 3 4 (fun j => if j = 0 then some (h + 461) else (fun _ => none) j)) := y43.fr (by rw [q44 _ (by omega)]) (by omega)
  refine PW.dup rfl dX11_init_172 ?_
  refine PW.callI (c_X8_init p44 r44 (by rw [e44]; exact upS_same _ _ _) (by omega)) ci_X8_init lk_X11_9 rfl r44.2 rfl rfl (Nat.le_of_ble_eq_true rfl) ⟨(Nat.le_of_ble_eq_true rfl), (Nat.le_of_ble_eq_true rfl)⟩ ⟨(Nat.le_of_ble_eq_true rfl), (Nat.le_of_ble_eq_true rfl)⟩ dX11_init_173 (fun r S45 τ45 hq => ?_)
  obtain ⟨rfl, p45, f45, c45, z45⟩ := hq
  refine PW.room (k' := 466) (n' := 33634) (by omega) (by omega) ?_
  have u45 : S45.1 = (h + 467) := by omega
  clear u44 p45 p44
  have w45 : At S45 h (sO 10 [fR (h + 1), fR (h + 4), fR (h + 7), fR (h + 10), fR (h + 11), fR (h + 12), fR (h + 15), fR (h + 147), fR (h + 149), fR (h + 171), fR (h + 173), fR (h + 176), fR (h + 183), fR (h + 458)]) := w44.fr (by rw [(f45 _ (by omega)).1]) (by omega)
  have y45_10 : At S45 (h + 10) (sQ 3 4 (fun j => if j = 0 then some (h + 461) else (fun _ => none) j)) := y44_10.fr (by rw [(f45 _ (by omega)).1]) (by omega)
  refine PW.aast (C := RX8) (T := TX8) (Nc := 3) y45_10 c45.1 rfl (fun _ => rfl) (by unfold inR; omega) (by omega) (by omega) dX11_init_176 (fun S46 p46 q46 r46 => ?_)
  have u46 : S46.1 = (h + 467) := by omega
  clear u45 p46
  have w46 : At S46 h (sO 10 [fR (h + 1), fR (h + 4), fR (h + 7), fR (h + 10), fR (h + 11), fR (h + 12), fR (h + 15), fR (h + 147), fR (h + 149), fR (h + 171), fR (h + 173), fR (h + 176), fR (h + 183), fR (h + 458)]) := w45.fr (q46 _ (by omega)) (by omega)
  have y46 : At S46 (h + 10) (sQ 3 4 (fun j => if j = 1 then some (h + 464) else (fun j => if j = 0 then some (h + 461) else (fun _ => none) j) j)) := r46
  refine PW.iinc [(0, _), (1, _)] dX11_init_177 rfl rfl (Nat.le_of_ble_eq_true rfl) ?_
  refine PW.goto 155 dX11_init_180 (by decide) ?_
  refine PW.iload_n dX11_init_155 rfl ?_
  refine PW.aload_n dX11_init_156 rfl ?_
  refine PW.getR fl_X11_22 rfl w46 rfl dX11_init_157 ?_
  refine PW.alenQ y46 ⟨_, rfl⟩ dX11_init_160 ?_
  refine PW.icmp_ge 183 dX11_init_161 (by decide) (by unfold inR; omega) (by unfold inR; omega) (fun hcm => ?_) (fun hcm => ?_)
  · omega
  refine PW.aload_n dX11_init_164 rfl ?_
  refine PW.getR fl_X11_22 rfl w46 rfl dX11_init_165 ?_
  refine PW.iload_n dX11_init_168 rfl ?_
  refine PW.newOA (h + 467) (ci := 7) (ty := tyX8) [fN, fN, fI] u46 rfl iw_X8 kl_X11_7 ki_X8 kn_X8 tyX8_ok (by decide) rfl (by omega) (Nat.le_of_ble_eq_true rfl) (Nat.le_of_ble_eq_true rfl) dX11_init_169 (fun S47 p47 q47 r47 => ?_)
  refine PW.gst (fun τ47 e47 => ?_)
  have u47 : S47.1 = (h + 468) := by omega
  clear u46
  have w47 : At S47 h (sO 10 [fR (h + 1), fR (h + 4), fR (h + 7), fR (h + 10), fR (h + 11), fR (h + 12), fR (h + 15), fR (h + 147), fR (h + 149), fR (h + 171), fR (h + 173), fR (h + 176), fR (h + 183), fR (h + 458)]) := w46.fr (q47 _ (by omega)) (by omega)
  have y47_10 : At S47 (h + 10) (sQ 3 4 (fun j => if j = 1 then some (h + 464) else (fun j => if j = 0 then some (h + 461) else (fun _ => none) j) j)) := y46.fr (by rw [q47 _ (by omega)]) (by omega)
  refine PW.dup rfl dX11_init_172 ?_
  refine PW.callI (c_X8_init p47 r47 (by rw [e47]; exact upS_same _ _ _) (by omega)) ci_X8_init lk_X11_9 rfl r47.2 rfl rfl (Nat.le_of_ble_eq_true rfl) ⟨(Nat.le_of_ble_eq_true rfl), (Nat.le_of_ble_eq_true rfl)⟩ ⟨(Nat.le_of_ble_eq_true rfl), (Nat.le_of_ble_eq_true rfl)⟩ dX11_init_173 (fun r S48 τ48 hq => ?_)
  obtain ⟨rfl, p48, f48, c48, z48⟩ := hq
  refine PW.room (k' := 469) (n' := 33756) (by omega) (by omega) ?_
  have u48 : S48.1 = (h + 470) := by omega
  clear u47 p48 p47
  have w48 : At S48 h (sO 10 [fR (h + 1), fR (h + 4), fR (h + 7), fR (h + 10), fR (h + 11), fR (h + 12), fR (h + 15), fR (h + 147), fR (h + 149), fR (h + 171), fR (h + 173), fR (h + 176), fR (h + 183), fR (h + 458)]) := w47.fr (by rw [(f48 _ (by omega)).1]) (by omega)
  have y48_10 : At S48 (h + 10) (sQ 3 4 (fun j => if j = 1 then some (h + 464) else (fun j => if j = 0 then some (h + 461) else (fun _ => none) j) j)) := y47_10.fr (by rw [(f48 _ (by omega)).1]) (by omega)
  refine PW.aast (C := RX8) (T := TX8) (Nc := 3) y48_10 c48.1 rfl (fun _ => rfl) (by unfold inR; omega) (by omega) (by omega) dX11_init_176 (fun S49 p49 q49 r49 => ?_)
  have u49 : S49.1 = (h + 470) := by omega
  clear u48 p49
  have w49 : At S49 h (sO 10 [fR (h + 1), fR (h + 4), fR (h + 7), fR (h + 10), fR (h + 11), fR (h + 12), fR (h + 15), fR (h + 147), fR (h + 149), fR (h + 171), fR (h + 173), fR (h + 176), fR (h + 183), fR (h + 458)]) := w48.fr (q49 _ (by omega)) (by omega)
  have y49 : At S49 (h + 10) (sQ 3 4 (fun j => if j = 2 then some (h + 467) else (fun j => if j = 1 then some (h + 464) else (fun j => if j = 0 then some (h + 461) else (fun _ => none) j) j) j)) := r49
  refine PW.iinc [(0, _), (1, _)] dX11_init_177 rfl rfl (Nat.le_of_ble_eq_true rfl) ?_
  refine PW.goto 155 dX11_init_180 (by decide) ?_
  refine PW.iload_n dX11_init_155 rfl ?_
  refine PW.aload_n dX11_init_156 rfl ?_
  refine PW.getR fl_X11_22 rfl w49 rfl dX11_init_157 ?_
  refine PW.alenQ y49 ⟨_, rfl⟩ dX11_init_160 ?_
  refine PW.icmp_ge 183 dX11_init_161 (by decide) (by unfold inR; omega) (by unfold inR; omega) (fun hcm => ?_) (fun hcm => ?_)
  · omega
  refine PW.aload_n dX11_init_164 rfl ?_
  refine PW.getR fl_X11_22 rfl w49 rfl dX11_init_165 ?_
  refine PW.iload_n dX11_init_168 rfl ?_
  refine PW.newOA (h + 470) (ci := 7) (ty := tyX8) [fN, fN, fI] u49 rfl iw_X8 kl_X11_7 ki_X8 kn_X8 tyX8_ok (by decide) rfl (by omega) (Nat.le_of_ble_eq_true rfl) (Nat.le_of_ble_eq_true rfl) dX11_init_169 (fun S50 p50 q50 r50 => ?_)
  refine PW.gst (fun τ50 e50 => ?_)
  have u50 : S50.1 = (h + 471) := by omega
  clear u49
  have w50 : At S50 h (sO 10 [fR (h + 1), fR (h + 4), fR (h + 7), fR (h + 10), fR (h + 11), fR (h + 12), fR (h + 15), fR (h + 147), fR (h + 149), fR (h + 171), fR (h + 173), fR (h + 176), fR (h + 183), fR (h + 458)]) := w49.fr (q50 _ (by omega)) (by omega)
  have y50_10 : At S50 (h + 10) (sQ 3 4 (fun j => if j = 2 then some (h + 467) else (fun j => if j = 1 then some (h + 464) else (fun j => if j = 0 then some (h + 461) else (fun _ => none) j) j) j)) := y49.fr (by rw [q50 _ (by omega)]) (by omega)
  refine PW.dup rfl dX11_init_172 ?_
  refine PW.callI (c_X8_init p50 r50 (by rw [e50]; exact upS_same _ _ _) (by omega)) ci_X8_init lk_X11_9 rfl r50.2 rfl rfl (Nat.le_of_ble_eq_true rfl) ⟨(Nat.le_of_ble_eq_true rfl), (Nat.le_of_ble_eq_true rfl)⟩ ⟨(Nat.le_of_ble_eq_true rfl), (Nat.le_of_ble_eq_true rfl)⟩ dX11_init_173 (fun r S51 τ51 hq => ?_)
  obtain ⟨rfl, p51, f51, c51, z51⟩ := hq
  refine PW.room (k' := 472) (n' := 33878) (by omega) (by omega) ?_
  have u51 : S51.1 = (h + 473) := by omega
  clear u50 p51 p50
  have w51 : At S51 h (sO 10 [fR (h + 1), fR (h + 4), fR (h + 7), fR (h + 10), fR (h + 11), fR (h + 12), fR (h + 15), fR (h + 147), fR (h + 149), fR (h + 171), fR (h + 173), fR (h + 176), fR (h + 183), fR (h + 458)]) := w50.fr (by rw [(f51 _ (by omega)).1]) (by omega)
  have y51_10 : At S51 (h + 10) (sQ 3 4 (fun j => if j = 2 then some (h + 467) else (fun j => if j = 1 then some (h + 464) else (fun j => if j = 0 then some (h + 461) else (fun _ => none) j) j) j)) := y50_10.fr (by rw [(f51 _ (by omega)).1]) (by omega)
  refine PW.aast (C := RX8) (T := TX8) (Nc := 3) y51_10 c51.1 rfl (fun _ => rfl) (by unfold inR; omega) (by omega) (by omega) dX11_init_176 (fun S52 p52 q52 r52 => ?_)
  have u52 : S52.1 = (h + 473) := by omega
  clear u51 p52
  have w52 : At S52 h (sO 10 [fR (h + 1), fR (h + 4), fR (h + 7), fR (h + 10), fR (h + 11), fR (h + 12), fR (h + 15), fR (h + 147), fR (h + 149), fR (h + 171), fR (h + 173), fR (h + 176), fR (h + 183), fR (h + 458)]) := w51.fr (q52 _ (by omega)) (by omega)
  have y52 : At S52 (h + 10) (sQ 3 4 (fun j => if j = 3 then some (h + 470) else (fun j => if j = 2 then some (h + 467) else (fun j => if j = 1 then some (h + 464) else (fun j => if j = 0 then some (h + 461) else (fun _ => none) j) j) j) j)) := r52
  refine PW.iinc [(0, _), (1, _)] dX11_init_177 rfl rfl (Nat.le_of_ble_eq_true rfl) ?_
  refine PW.goto 155 dX11_init_180 (by decide) ?_
  refine PW.iload_n dX11_init_155 rfl ?_
  refine PW.aload_n dX11_init_156 rfl ?_
  refine PW.getR fl_X11_22 rfl w52 rfl dX11_init_157 ?_
  refine PW.alenQ y52 ⟨_, rfl⟩ dX11_init_160 ?_
  refine PW.icmp_ge 183 dX11_init_161 (by decide) (by unfold inR; omega) (by unfold inR; omega) (fun hcm => ?_) (fun hcm => ?_)
  rotate_left
  · omega
  have i11 := r12.fr (S' := S52) (by rw [q52 _ (by omega), (f51 _ (by omega)).1, q50 _ (by omega), q49 _ (by omega), (f48 _ (by omega)).1, q47 _ (by omega), q46 _ (by omega), (f45 _ (by omega)).1, q44 _ (by omega), q43 _ (by omega), (f42 _ (by omega)).1, q41 _ (by omega), q40 _ (by omega), (f39 _ (by omega)).1, q38 _ (by omega), q37 _ (by omega), (f36 _ (by omega)).1, q35 _ (by omega), q34 _ (by omega), (f33 _ (by omega)).1, q32 _ (by omega), q31 _ (by omega), (f30 _ (by omega)).1, q29 _ (by omega), q28 _ (by omega), (f27 _ (by omega)).1, q26 _ (by omega), q25 _ (by omega), (f24 _ (by omega)).1, q23 _ (by omega), q22 _ (by omega), (f21 _ (by omega)).1, q20 _ (by omega), q19 _ (by omega), (f18 _ (by omega)).1, q17 _ (by omega), q16 _ (by omega), (f15 _ (by omega)).1, q14 _ (by omega), q13 _ (by omega)]) (by omega)
  have i1 := c2.fr (S' := S52) (fun b b0 b1 => by rw [q52 b (by omega), (f51 b (by omega)).1, q50 b (by omega), q49 b (by omega), (f48 b (by omega)).1, q47 b (by omega), q46 b (by omega), (f45 b (by omega)).1, q44 b (by omega), q43 b (by omega), (f42 b (by omega)).1, q41 b (by omega), q40 b (by omega), (f39 b (by omega)).1, q38 b (by omega), q37 b (by omega), (f36 b (by omega)).1, q35 b (by omega), q34 b (by omega), (f33 b (by omega)).1, q32 b (by omega), q31 b (by omega), (f30 b (by omega)).1, q29 b (by omega), q28 b (by omega), (f27 b (by omega)).1, q26 b (by omega), q25 b (by omega), (f24 b (by omega)).1, q23 b (by omega), q22 b (by omega), (f21 b (by omega)).1, q20 b (by omega), q19 b (by omega), (f18 b (by omega)).1, q17 b (by omega), q16 b (by omega), (f15 b (by omega)).1, q14 b (by omega), q13 b (by omega), q12 b (by omega), q11 b (by omega), q10 b (by omega), q9 b (by omega), (f8 b (by omega)).1, q7 b (by omega), q6 b (by omega), (f5 b (by omega)).1, q4 b (by omega), q3 b (by omega)]) (by omega)
  have i4 := c5.fr (S' := S52) (fun b b0 b1 => by rw [q52 b (by omega), (f51 b (by omega)).1, q50 b (by omega), q49 b (by omega), (f48 b (by omega)).1, q47 b (by omega), q46 b (by omega), (f45 b (by omega)).1, q44 b (by omega), q43 b (by omega), (f42 b (by omega)).1, q41 b (by omega), q40 b (by omega), (f39 b (by omega)).1, q38 b (by omega), q37 b (by omega), (f36 b (by omega)).1, q35 b (by omega), q34 b (by omega), (f33 b (by omega)).1, q32 b (by omega), q31 b (by omega), (f30 b (by omega)).1, q29 b (by omega), q28 b (by omega), (f27 b (by omega)).1, q26 b (by omega), q25 b (by omega), (f24 b (by omega)).1, q23 b (by omega), q22 b (by omega), (f21 b (by omega)).1, q20 b (by omega), q19 b (by omega), (f18 b (by omega)).1, q17 b (by omega), q16 b (by omega), (f15 b (by omega)).1, q14 b (by omega), q13 b (by omega), q12 b (by omega), q11 b (by omega), q10 b (by omega), q9 b (by omega), (f8 b (by omega)).1, q7 b (by omega), q6 b (by omega)]) (by omega)
  have i7 := c8.fr (S' := S52) (fun b b0 b1 => by rw [q52 b (by omega), (f51 b (by omega)).1, q50 b (by omega), q49 b (by omega), (f48 b (by omega)).1, q47 b (by omega), q46 b (by omega), (f45 b (by omega)).1, q44 b (by omega), q43 b (by omega), (f42 b (by omega)).1, q41 b (by omega), q40 b (by omega), (f39 b (by omega)).1, q38 b (by omega), q37 b (by omega), (f36 b (by omega)).1, q35 b (by omega), q34 b (by omega), (f33 b (by omega)).1, q32 b (by omega), q31 b (by omega), (f30 b (by omega)).1, q29 b (by omega), q28 b (by omega), (f27 b (by omega)).1, q26 b (by omega), q25 b (by omega), (f24 b (by omega)).1, q23 b (by omega), q22 b (by omega), (f21 b (by omega)).1, q20 b (by omega), q19 b (by omega), (f18 b (by omega)).1, q17 b (by omega), q16 b (by omega), (f15 b (by omega)).1, q14 b (by omega), q13 b (by omega), q12 b (by omega), q11 b (by omega), q10 b (by omega), q9 b (by omega)]) (by omega)
  have i12 := c15.fr (S' := S52) (fun b b0 b1 => by rw [q52 b (by omega), (f51 b (by omega)).1, q50 b (by omega), q49 b (by omega), (f48 b (by omega)).1, q47 b (by omega), q46 b (by omega), (f45 b (by omega)).1, q44 b (by omega), q43 b (by omega), (f42 b (by omega)).1, q41 b (by omega), q40 b (by omega), (f39 b (by omega)).1, q38 b (by omega), q37 b (by omega), (f36 b (by omega)).1, q35 b (by omega), q34 b (by omega), (f33 b (by omega)).1, q32 b (by omega), q31 b (by omega), (f30 b (by omega)).1, q29 b (by omega), q28 b (by omega), (f27 b (by omega)).1, q26 b (by omega), q25 b (by omega), (f24 b (by omega)).1, q23 b (by omega), q22 b (by omega), (f21 b (by omega)).1, q20 b (by omega), q19 b (by omega), (f18 b (by omega)).1, q17 b (by omega), q16 b (by omega)]) (by omega)
  have i15 := c18.fr (S' := S52) (fun b b0 b1 => by rw [q52 b (by omega), (f51 b (by omega)).1, q50 b (by omega), q49 b (by omega), (f48 b (by omega)).1, q47 b (by omega), q46 b (by omega), (f45 b (by omega)).1, q44 b (by omega), q43 b (by omega), (f42 b (by omega)).1, q41 b (by omega), q40 b (by omega), (f39 b (by omega)).1, q38 b (by omega), q37 b (by omega), (f36 b (by omega)).1, q35 b (by omega), q34 b (by omega), (f33 b (by omega)).1, q32 b (by omega), q31 b (by omega), (f30 b (by omega)).1, q29 b (by omega), q28 b (by omega), (f27 b (by omega)).1, q26 b (by omega), q25 b (by omega), (f24 b (by omega)).1, q23 b (by omega), q22 b (by omega), (f21 b (by omega)).1, q20 b (by omega), q19 b (by omega)]) (by omega)
  have i147 := c21.fr (S' := S52) (by rw [q52 _ (by omega), (f51 _ (by omega)).1, q50 _ (by omega), q49 _ (by omega), (f48 _ (by omega)).1, q47 _ (by omega), q46 _ (by omega), (f45 _ (by omega)).1, q44 _ (by omega), q43 _ (by omega), (f42 _ (by omega)).1, q41 _ (by omega), q40 _ (by omega), (f39 _ (by omega)).1, q38 _ (by omega), q37 _ (by omega), (f36 _ (by omega)).1, q35 _ (by omega), q34 _ (by omega), (f33 _ (by omega)).1, q32 _ (by omega), q31 _ (by omega), (f30 _ (by omega)).1, q29 _ (by omega), q28 _ (by omega), (f27 _ (by omega)).1, q26 _ (by omega), q25 _ (by omega), (f24 _ (by omega)).1, q23 _ (by omega), q22 _ (by omega)]) (by rw [q52 _ (by omega), (f51 _ (by omega)).1, q50 _ (by omega), q49 _ (by omega), (f48 _ (by omega)).1, q47 _ (by omega), q46 _ (by omega), (f45 _ (by omega)).1, q44 _ (by omega), q43 _ (by omega), (f42 _ (by omega)).1, q41 _ (by omega), q40 _ (by omega), (f39 _ (by omega)).1, q38 _ (by omega), q37 _ (by omega), (f36 _ (by omega)).1, q35 _ (by omega), q34 _ (by omega), (f33 _ (by omega)).1, q32 _ (by omega), q31 _ (by omega), (f30 _ (by omega)).1, q29 _ (by omega), q28 _ (by omega), (f27 _ (by omega)).1, q26 _ (by omega), q25 _ (by omega), (f24 _ (by omega)).1, q23 _ (by omega), q22 _ (by omega)]) (by omega)
  have i149 := c24.fr (S' := S52) (fun b b0 b1 => by rw [q52 b (by omega), (f51 b (by omega)).1, q50 b (by omega), q49 b (by omega), (f48 b (by omega)).1, q47 b (by omega), q46 b (by omega), (f45 b (by omega)).1, q44 b (by omega), q43 b (by omega), (f42 b (by omega)).1, q41 b (by omega), q40 b (by omega), (f39 b (by omega)).1, q38 b (by omega), q37 b (by omega), (f36 b (by omega)).1, q35 b (by omega), q34 b (by omega), (f33 b (by omega)).1, q32 b (by omega), q31 b (by omega), (f30 b (by omega)).1, q29 b (by omega), q28 b (by omega), (f27 b (by omega)).1, q26 b (by omega), q25 b (by omega)]) (by omega)
  have i171 := c27.fr (S' := S52) (fun b b0 b1 => by rw [q52 b (by omega), (f51 b (by omega)).1, q50 b (by omega), q49 b (by omega), (f48 b (by omega)).1, q47 b (by omega), q46 b (by omega), (f45 b (by omega)).1, q44 b (by omega), q43 b (by omega), (f42 b (by omega)).1, q41 b (by omega), q40 b (by omega), (f39 b (by omega)).1, q38 b (by omega), q37 b (by omega), (f36 b (by omega)).1, q35 b (by omega), q34 b (by omega), (f33 b (by omega)).1, q32 b (by omega), q31 b (by omega), (f30 b (by omega)).1, q29 b (by omega), q28 b (by omega)]) (by omega)
  have i173 := c30.fr (S' := S52) (fun b b0 b1 => by rw [q52 b (by omega), (f51 b (by omega)).1, q50 b (by omega), q49 b (by omega), (f48 b (by omega)).1, q47 b (by omega), q46 b (by omega), (f45 b (by omega)).1, q44 b (by omega), q43 b (by omega), (f42 b (by omega)).1, q41 b (by omega), q40 b (by omega), (f39 b (by omega)).1, q38 b (by omega), q37 b (by omega), (f36 b (by omega)).1, q35 b (by omega), q34 b (by omega), (f33 b (by omega)).1, q32 b (by omega), q31 b (by omega)]) (by omega)
  have i176 := c33.fr (S' := S52) (fun b b0 b1 => by rw [q52 b (by omega), (f51 b (by omega)).1, q50 b (by omega), q49 b (by omega), (f48 b (by omega)).1, q47 b (by omega), q46 b (by omega), (f45 b (by omega)).1, q44 b (by omega), q43 b (by omega), (f42 b (by omega)).1, q41 b (by omega), q40 b (by omega), (f39 b (by omega)).1, q38 b (by omega), q37 b (by omega), (f36 b (by omega)).1, q35 b (by omega), q34 b (by omega)]) (by omega)
  have i183 := c36.fr (S' := S52) (fun b b0 b1 => by rw [q52 b (by omega), (f51 b (by omega)).1, q50 b (by omega), q49 b (by omega), (f48 b (by omega)).1, q47 b (by omega), q46 b (by omega), (f45 b (by omega)).1, q44 b (by omega), q43 b (by omega), (f42 b (by omega)).1, q41 b (by omega), q40 b (by omega), (f39 b (by omega)).1, q38 b (by omega), q37 b (by omega)]) (by omega)
  have i458 := c39.fr (S' := S52) (fun b b0 b1 => by rw [q52 b (by omega), (f51 b (by omega)).1, q50 b (by omega), q49 b (by omega), (f48 b (by omega)).1, q47 b (by omega), q46 b (by omega), (f45 b (by omega)).1, q44 b (by omega), q43 b (by omega), (f42 b (by omega)).1, q41 b (by omega), q40 b (by omega)]) (by omega)
  have i461 := c42.fr (S' := S52) (fun b b0 b1 => by rw [q52 b (by omega), (f51 b (by omega)).1, q50 b (by omega), q49 b (by omega), (f48 b (by omega)).1, q47 b (by omega), q46 b (by omega), (f45 b (by omega)).1, q44 b (by omega), q43 b (by omega)]) (by omega)
  have i464 := c45.fr (S' := S52) (fun b b0 b1 => by rw [q52 b (by omega), (f51 b (by omega)).1, q50 b (by omega), q49 b (by omega), (f48 b (by omega)).1, q47 b (by omega), q46 b (by omega)]) (by omega)
  have i467 := c48.fr (S' := S52) (fun b b0 b1 => by rw [q52 b (by omega), (f51 b (by omega)).1, q50 b (by omega), q49 b (by omega)]) (by omega)
  have i470 := c51.fr (S' := S52) (fun b b0 b1 => by rw [q52 b (by omega)]) (by omega)
  have ifr : ∀ b, b < h → S52.2 b = S.2 b := fun b hb => by rw [q52 b (by omega), (f51 b (by omega)).1, q50 b (by omega), q49 b (by omega), (f48 b (by omega)).1, q47 b (by omega), q46 b (by omega), (f45 b (by omega)).1, q44 b (by omega), q43 b (by omega), (f42 b (by omega)).1, q41 b (by omega), q40 b (by omega), (f39 b (by omega)).1, q38 b (by omega), q37 b (by omega), (f36 b (by omega)).1, q35 b (by omega), q34 b (by omega), (f33 b (by omega)).1, q32 b (by omega), q31 b (by omega), (f30 b (by omega)).1, q29 b (by omega), q28 b (by omega), (f27 b (by omega)).1, q26 b (by omega), q25 b (by omega), (f24 b (by omega)).1, q23 b (by omega), q22 b (by omega), (f21 b (by omega)).1, q20 b (by omega), q19 b (by omega), (f18 b (by omega)).1, q17 b (by omega), q16 b (by omega), (f15 b (by omega)).1, q14 b (by omega), q13 b (by omega), q12 b (by omega), q11 b (by omega), q10 b (by omega), q9 b (by omega), (f8 b (by omega)).1, q7 b (by omega), q6 b (by omega), (f5 b (by omega)).1, q4 b (by omega), q3 b (by omega), (f2 b (by omega)).1, q1 b (by omega)]
  refine PW.vret rfl dX11_init_183 ?_
  have hQ2 : ∀ b, b < h → τ51 b = σ b := fun b hb => by rw [(f51 b (by omega)).2, e50, upS_ne (show b ≠ (h + 470) by omega), (f48 b (by omega)).2, e47, upS_ne (show b ≠ (h + 467) by omega), (f45 b (by omega)).2, e44, upS_ne (show b ≠ (h + 464) by omega), (f42 b (by omega)).2, e41, upS_ne (show b ≠ (h + 461) by omega), (f39 b (by omega)).2, e38, upS_ne (show b ≠ (h + 458) by omega), (f36 b (by omega)).2, e35, upS_ne (show b ≠ (h + 183) by omega), (f33 b (by omega)).2, e32, upS_ne (show b ≠ (h + 176) by omega), (f30 b (by omega)).2, e29, upS_ne (show b ≠ (h + 173) by omega), (f27 b (by omega)).2, e26, upS_ne (show b ≠ (h + 171) by omega), (f24 b (by omega)).2, e23, upS_ne (show b ≠ (h + 149) by omega), (f21 b (by omega)).2, e20, upS_ne (show b ≠ (h + 147) by omega), (f18 b (by omega)).2, e17, upS_ne (show b ≠ (h + 15) by omega), (f15 b (by omega)).2, e14, upS_ne (show b ≠ (h + 12) by omega), e12, upS_ne (show b ≠ (h + 11) by omega), e10, upS_ne (show b ≠ (h + 10) by omega), (f8 b (by omega)).2, e7, upS_ne (show b ≠ (h + 7) by omega), (f5 b (by omega)).2, e4, upS_ne (show b ≠ (h + 4) by omega), (f2 b (by omega)).2, e1, upS_ne (show b ≠ (h + 1) by omega)]
  have hG : At S52 (h + 10) (sQ 3 4 (veG h)) := by
    have e : (fun j => if j = 3 then some (h + 470) else (fun j => if j = 2 then some (h + 467) else (fun j => if j = 1 then some (h + 464) else (fun j => if j = 0 then some (h + 461) else (fun _ => none) j) j) j) j) = veG h := by
      funext j
      unfold veG
      rcases (show j = 0 ∨ j = 1 ∨ j = 2 ∨ j = 3 ∨ 4 ≤ j by omega) with rfl | rfl | rfl | rfl | hj
      · rfl
      · rfl
      · rfl
      · rfl
      · rw [if_neg (by omega), if_neg (by omega)]
        try dsimp only
        rw [if_neg (by omega), if_neg (by omega), if_neg (by omega)]
    have y := y52
    rw [e] at y
    exact y
  have hI : ∀ v : Int, 0 ≤ v → v < 4 → IsTale S52 (veA h v) := fun l l0 l1 => by
    rcases (show l = 0 ∨ l = 1 ∨ l = 2 ∨ l = 3 by omega) with rfl | rfl | rfl | rfl
    · exact i461
    · exact i464
    · exact i467
    · exact i470
  refine ⟨rfl, u52, fun b hb => ⟨ifr b hb, hQ2 b hb⟩, ⟨w52, i1, i4, i7, hG, i11, i12, i15, i147, i149, i171, i173, i176, i183, i458, hI⟩, ?_⟩
  unfold hill0
  exact ⟨by rw [(f51 (h + 1) (by omega)).2, e50, upS_ne (show (h + 1) ≠ (h + 470) by omega), (f48 (h + 1) (by omega)).2, e47, upS_ne (show (h + 1) ≠ (h + 467) by omega), (f45 (h + 1) (by omega)).2, e44, upS_ne (show (h + 1) ≠ (h + 464) by omega), (f42 (h + 1) (by omega)).2, e41, upS_ne (show (h + 1) ≠ (h + 461) by omega), (f39 (h + 1) (by omega)).2, e38, upS_ne (show (h + 1) ≠ (h + 458) by omega), (f36 (h + 1) (by omega)).2, e35, upS_ne (show (h + 1) ≠ (h + 183) by omega), (f33 (h + 1) (by omega)).2, e32, upS_ne (show (h + 1) ≠ (h + 176) by omega), (f30 (h + 1) (by omega)).2, e29, upS_ne (show (h + 1) ≠ (h + 173) by omega), (f27 (h + 1) (by omega)).2, e26, upS_ne (show (h + 1) ≠ (h + 171) by omega), (f24 (h + 1) (by omega)).2, e23, upS_ne (show (h + 1) ≠ (h + 149) by omega), (f21 (h + 1) (by omega)).2, e20, upS_ne (show (h + 1) ≠ (h + 147) by omega), (f18 (h + 1) (by omega)).2, e17, upS_ne (show (h + 1) ≠ (h + 15) by omega), (f15 (h + 1) (by omega)).2, e14, upS_ne (show (h + 1) ≠ (h + 12) by omega), e12, upS_ne (show (h + 1) ≠ (h + 11) by omega), e10, upS_ne (show (h + 1) ≠ (h + 10) by omega), (f8 (h + 1) (by omega)).2, e7, upS_ne (show (h + 1) ≠ (h + 7) by omega), (f5 (h + 1) (by omega)).2, e4, upS_ne (show (h + 1) ≠ (h + 4) by omega)]; exact z2.1, by rw [(f51 (h + 4) (by omega)).2, e50, upS_ne (show (h + 4) ≠ (h + 470) by omega), (f48 (h + 4) (by omega)).2, e47, upS_ne (show (h + 4) ≠ (h + 467) by omega), (f45 (h + 4) (by omega)).2, e44, upS_ne (show (h + 4) ≠ (h + 464) by omega), (f42 (h + 4) (by omega)).2, e41, upS_ne (show (h + 4) ≠ (h + 461) by omega), (f39 (h + 4) (by omega)).2, e38, upS_ne (show (h + 4) ≠ (h + 458) by omega), (f36 (h + 4) (by omega)).2, e35, upS_ne (show (h + 4) ≠ (h + 183) by omega), (f33 (h + 4) (by omega)).2, e32, upS_ne (show (h + 4) ≠ (h + 176) by omega), (f30 (h + 4) (by omega)).2, e29, upS_ne (show (h + 4) ≠ (h + 173) by omega), (f27 (h + 4) (by omega)).2, e26, upS_ne (show (h + 4) ≠ (h + 171) by omega), (f24 (h + 4) (by omega)).2, e23, upS_ne (show (h + 4) ≠ (h + 149) by omega), (f21 (h + 4) (by omega)).2, e20, upS_ne (show (h + 4) ≠ (h + 147) by omega), (f18 (h + 4) (by omega)).2, e17, upS_ne (show (h + 4) ≠ (h + 15) by omega), (f15 (h + 4) (by omega)).2, e14, upS_ne (show (h + 4) ≠ (h + 12) by omega), e12, upS_ne (show (h + 4) ≠ (h + 11) by omega), e10, upS_ne (show (h + 4) ≠ (h + 10) by omega), (f8 (h + 4) (by omega)).2, e7, upS_ne (show (h + 4) ≠ (h + 7) by omega)]; exact z5.1, by rw [(f51 (h + 7) (by omega)).2, e50, upS_ne (show (h + 7) ≠ (h + 470) by omega), (f48 (h + 7) (by omega)).2, e47, upS_ne (show (h + 7) ≠ (h + 467) by omega), (f45 (h + 7) (by omega)).2, e44, upS_ne (show (h + 7) ≠ (h + 464) by omega), (f42 (h + 7) (by omega)).2, e41, upS_ne (show (h + 7) ≠ (h + 461) by omega), (f39 (h + 7) (by omega)).2, e38, upS_ne (show (h + 7) ≠ (h + 458) by omega), (f36 (h + 7) (by omega)).2, e35, upS_ne (show (h + 7) ≠ (h + 183) by omega), (f33 (h + 7) (by omega)).2, e32, upS_ne (show (h + 7) ≠ (h + 176) by omega), (f30 (h + 7) (by omega)).2, e29, upS_ne (show (h + 7) ≠ (h + 173) by omega), (f27 (h + 7) (by omega)).2, e26, upS_ne (show (h + 7) ≠ (h + 171) by omega), (f24 (h + 7) (by omega)).2, e23, upS_ne (show (h + 7) ≠ (h + 149) by omega), (f21 (h + 7) (by omega)).2, e20, upS_ne (show (h + 7) ≠ (h + 147) by omega), (f18 (h + 7) (by omega)).2, e17, upS_ne (show (h + 7) ≠ (h + 15) by omega), (f15 (h + 7) (by omega)).2, e14, upS_ne (show (h + 7) ≠ (h + 12) by omega), e12, upS_ne (show (h + 7) ≠ (h + 11) by omega), e10, upS_ne (show (h + 7) ≠ (h + 10) by omega)]; exact z8.1, by rw [(f51 (h + 11) (by omega)).2, e50, upS_ne (show (h + 11) ≠ (h + 470) by omega), (f48 (h + 11) (by omega)).2, e47, upS_ne (show (h + 11) ≠ (h + 467) by omega), (f45 (h + 11) (by omega)).2, e44, upS_ne (show (h + 11) ≠ (h + 464) by omega), (f42 (h + 11) (by omega)).2, e41, upS_ne (show (h + 11) ≠ (h + 461) by omega), (f39 (h + 11) (by omega)).2, e38, upS_ne (show (h + 11) ≠ (h + 458) by omega), (f36 (h + 11) (by omega)).2, e35, upS_ne (show (h + 11) ≠ (h + 183) by omega), (f33 (h + 11) (by omega)).2, e32, upS_ne (show (h + 11) ≠ (h + 176) by omega), (f30 (h + 11) (by omega)).2, e29, upS_ne (show (h + 11) ≠ (h + 173) by omega), (f27 (h + 11) (by omega)).2, e26, upS_ne (show (h + 11) ≠ (h + 171) by omega), (f24 (h + 11) (by omega)).2, e23, upS_ne (show (h + 11) ≠ (h + 149) by omega), (f21 (h + 11) (by omega)).2, e20, upS_ne (show (h + 11) ≠ (h + 147) by omega), (f18 (h + 11) (by omega)).2, e17, upS_ne (show (h + 11) ≠ (h + 15) by omega), (f15 (h + 11) (by omega)).2, e14, upS_ne (show (h + 11) ≠ (h + 12) by omega), e12]; exact upS_same _ _ _, by rw [(f51 (h + 12) (by omega)).2, e50, upS_ne (show (h + 12) ≠ (h + 470) by omega), (f48 (h + 12) (by omega)).2, e47, upS_ne (show (h + 12) ≠ (h + 467) by omega), (f45 (h + 12) (by omega)).2, e44, upS_ne (show (h + 12) ≠ (h + 464) by omega), (f42 (h + 12) (by omega)).2, e41, upS_ne (show (h + 12) ≠ (h + 461) by omega), (f39 (h + 12) (by omega)).2, e38, upS_ne (show (h + 12) ≠ (h + 458) by omega), (f36 (h + 12) (by omega)).2, e35, upS_ne (show (h + 12) ≠ (h + 183) by omega), (f33 (h + 12) (by omega)).2, e32, upS_ne (show (h + 12) ≠ (h + 176) by omega), (f30 (h + 12) (by omega)).2, e29, upS_ne (show (h + 12) ≠ (h + 173) by omega), (f27 (h + 12) (by omega)).2, e26, upS_ne (show (h + 12) ≠ (h + 171) by omega), (f24 (h + 12) (by omega)).2, e23, upS_ne (show (h + 12) ≠ (h + 149) by omega), (f21 (h + 12) (by omega)).2, e20, upS_ne (show (h + 12) ≠ (h + 147) by omega), (f18 (h + 12) (by omega)).2, e17, upS_ne (show (h + 12) ≠ (h + 15) by omega)]; exact z15.1, by rw [(f51 (h + 12 + 1) (by omega)).2, e50, upS_ne (show (h + 12 + 1) ≠ (h + 470) by omega), (f48 (h + 12 + 1) (by omega)).2, e47, upS_ne (show (h + 12 + 1) ≠ (h + 467) by omega), (f45 (h + 12 + 1) (by omega)).2, e44, upS_ne (show (h + 12 + 1) ≠ (h + 464) by omega), (f42 (h + 12 + 1) (by omega)).2, e41, upS_ne (show (h + 12 + 1) ≠ (h + 461) by omega), (f39 (h + 12 + 1) (by omega)).2, e38, upS_ne (show (h + 12 + 1) ≠ (h + 458) by omega), (f36 (h + 12 + 1) (by omega)).2, e35, upS_ne (show (h + 12 + 1) ≠ (h + 183) by omega), (f33 (h + 12 + 1) (by omega)).2, e32, upS_ne (show (h + 12 + 1) ≠ (h + 176) by omega), (f30 (h + 12 + 1) (by omega)).2, e29, upS_ne (show (h + 12 + 1) ≠ (h + 173) by omega), (f27 (h + 12 + 1) (by omega)).2, e26, upS_ne (show (h + 12 + 1) ≠ (h + 171) by omega), (f24 (h + 12 + 1) (by omega)).2, e23, upS_ne (show (h + 12 + 1) ≠ (h + 149) by omega), (f21 (h + 12 + 1) (by omega)).2, e20, upS_ne (show (h + 12 + 1) ≠ (h + 147) by omega), (f18 (h + 12 + 1) (by omega)).2, e17, upS_ne (show (h + 12 + 1) ≠ (h + 15) by omega)]; exact z15.2.1, by rw [(f51 (h + 147 + 1) (by omega)).2, e50, upS_ne (show (h + 147 + 1) ≠ (h + 470) by omega), (f48 (h + 147 + 1) (by omega)).2, e47, upS_ne (show (h + 147 + 1) ≠ (h + 467) by omega), (f45 (h + 147 + 1) (by omega)).2, e44, upS_ne (show (h + 147 + 1) ≠ (h + 464) by omega), (f42 (h + 147 + 1) (by omega)).2, e41, upS_ne (show (h + 147 + 1) ≠ (h + 461) by omega), (f39 (h + 147 + 1) (by omega)).2, e38, upS_ne (show (h + 147 + 1) ≠ (h + 458) by omega), (f36 (h + 147 + 1) (by omega)).2, e35, upS_ne (show (h + 147 + 1) ≠ (h + 183) by omega), (f33 (h + 147 + 1) (by omega)).2, e32, upS_ne (show (h + 147 + 1) ≠ (h + 176) by omega), (f30 (h + 147 + 1) (by omega)).2, e29, upS_ne (show (h + 147 + 1) ≠ (h + 173) by omega), (f27 (h + 147 + 1) (by omega)).2, e26, upS_ne (show (h + 147 + 1) ≠ (h + 171) by omega), (f24 (h + 147 + 1) (by omega)).2, e23, upS_ne (show (h + 147 + 1) ≠ (h + 149) by omega)]; exact z21.2, by rw [(f51 (h + 149) (by omega)).2, e50, upS_ne (show (h + 149) ≠ (h + 470) by omega), (f48 (h + 149) (by omega)).2, e47, upS_ne (show (h + 149) ≠ (h + 467) by omega), (f45 (h + 149) (by omega)).2, e44, upS_ne (show (h + 149) ≠ (h + 464) by omega), (f42 (h + 149) (by omega)).2, e41, upS_ne (show (h + 149) ≠ (h + 461) by omega), (f39 (h + 149) (by omega)).2, e38, upS_ne (show (h + 149) ≠ (h + 458) by omega), (f36 (h + 149) (by omega)).2, e35, upS_ne (show (h + 149) ≠ (h + 183) by omega), (f33 (h + 149) (by omega)).2, e32, upS_ne (show (h + 149) ≠ (h + 176) by omega), (f30 (h + 149) (by omega)).2, e29, upS_ne (show (h + 149) ≠ (h + 173) by omega), (f27 (h + 149) (by omega)).2, e26, upS_ne (show (h + 149) ≠ (h + 171) by omega)]; exact z24.1, by rw [(f51 (h + 171) (by omega)).2, e50, upS_ne (show (h + 171) ≠ (h + 470) by omega), (f48 (h + 171) (by omega)).2, e47, upS_ne (show (h + 171) ≠ (h + 467) by omega), (f45 (h + 171) (by omega)).2, e44, upS_ne (show (h + 171) ≠ (h + 464) by omega), (f42 (h + 171) (by omega)).2, e41, upS_ne (show (h + 171) ≠ (h + 461) by omega), (f39 (h + 171) (by omega)).2, e38, upS_ne (show (h + 171) ≠ (h + 458) by omega), (f36 (h + 171) (by omega)).2, e35, upS_ne (show (h + 171) ≠ (h + 183) by omega), (f33 (h + 171) (by omega)).2, e32, upS_ne (show (h + 171) ≠ (h + 176) by omega), (f30 (h + 171) (by omega)).2, e29, upS_ne (show (h + 171) ≠ (h + 173) by omega)]; exact z27.1, by rw [(f51 (h + 173) (by omega)).2, e50, upS_ne (show (h + 173) ≠ (h + 470) by omega), (f48 (h + 173) (by omega)).2, e47, upS_ne (show (h + 173) ≠ (h + 467) by omega), (f45 (h + 173) (by omega)).2, e44, upS_ne (show (h + 173) ≠ (h + 464) by omega), (f42 (h + 173) (by omega)).2, e41, upS_ne (show (h + 173) ≠ (h + 461) by omega), (f39 (h + 173) (by omega)).2, e38, upS_ne (show (h + 173) ≠ (h + 458) by omega), (f36 (h + 173) (by omega)).2, e35, upS_ne (show (h + 173) ≠ (h + 183) by omega), (f33 (h + 173) (by omega)).2, e32, upS_ne (show (h + 173) ≠ (h + 176) by omega)]; exact z30.1, by rw [(f51 (h + 173 + 1) (by omega)).2, e50, upS_ne (show (h + 173 + 1) ≠ (h + 470) by omega), (f48 (h + 173 + 1) (by omega)).2, e47, upS_ne (show (h + 173 + 1) ≠ (h + 467) by omega), (f45 (h + 173 + 1) (by omega)).2, e44, upS_ne (show (h + 173 + 1) ≠ (h + 464) by omega), (f42 (h + 173 + 1) (by omega)).2, e41, upS_ne (show (h + 173 + 1) ≠ (h + 461) by omega), (f39 (h + 173 + 1) (by omega)).2, e38, upS_ne (show (h + 173 + 1) ≠ (h + 458) by omega), (f36 (h + 173 + 1) (by omega)).2, e35, upS_ne (show (h + 173 + 1) ≠ (h + 183) by omega), (f33 (h + 173 + 1) (by omega)).2, e32, upS_ne (show (h + 173 + 1) ≠ (h + 176) by omega)]; exact z30.2.1, by rw [(f51 (h + 176) (by omega)).2, e50, upS_ne (show (h + 176) ≠ (h + 470) by omega), (f48 (h + 176) (by omega)).2, e47, upS_ne (show (h + 176) ≠ (h + 467) by omega), (f45 (h + 176) (by omega)).2, e44, upS_ne (show (h + 176) ≠ (h + 464) by omega), (f42 (h + 176) (by omega)).2, e41, upS_ne (show (h + 176) ≠ (h + 461) by omega), (f39 (h + 176) (by omega)).2, e38, upS_ne (show (h + 176) ≠ (h + 458) by omega), (f36 (h + 176) (by omega)).2, e35, upS_ne (show (h + 176) ≠ (h + 183) by omega)]; exact z33.1, by rw [(f51 (h + 183) (by omega)).2, e50, upS_ne (show (h + 183) ≠ (h + 470) by omega), (f48 (h + 183) (by omega)).2, e47, upS_ne (show (h + 183) ≠ (h + 467) by omega), (f45 (h + 183) (by omega)).2, e44, upS_ne (show (h + 183) ≠ (h + 464) by omega), (f42 (h + 183) (by omega)).2, e41, upS_ne (show (h + 183) ≠ (h + 461) by omega), (f39 (h + 183) (by omega)).2, e38, upS_ne (show (h + 183) ≠ (h + 458) by omega)]; exact z36.1, by rw [(f51 (h + 458) (by omega)).2, e50, upS_ne (show (h + 458) ≠ (h + 470) by omega), (f48 (h + 458) (by omega)).2, e47, upS_ne (show (h + 458) ≠ (h + 467) by omega), (f45 (h + 458) (by omega)).2, e44, upS_ne (show (h + 458) ≠ (h + 464) by omega), (f42 (h + 458) (by omega)).2, e41, upS_ne (show (h + 458) ≠ (h + 461) by omega)]; exact z39.1, by rw [(f51 (h + 461) (by omega)).2, e50, upS_ne (show (h + 461) ≠ (h + 470) by omega), (f48 (h + 461) (by omega)).2, e47, upS_ne (show (h + 461) ≠ (h + 467) by omega), (f45 (h + 461) (by omega)).2, e44, upS_ne (show (h + 461) ≠ (h + 464) by omega)]; exact z42.1, by rw [(f51 (h + 464) (by omega)).2, e50, upS_ne (show (h + 464) ≠ (h + 470) by omega), (f48 (h + 464) (by omega)).2, e47, upS_ne (show (h + 464) ≠ (h + 467) by omega)]; exact z45.1, by rw [(f51 (h + 467) (by omega)).2, e50, upS_ne (show (h + 467) ≠ (h + 470) by omega)]; exact z48.1, z51.1, fun j hj => by rw [(f51 (h + 15 + 4 + 2 * j + 1) (by omega)).2, e50, upS_ne (show (h + 15 + 4 + 2 * j + 1) ≠ (h + 470) by omega), (f48 (h + 15 + 4 + 2 * j + 1) (by omega)).2, e47, upS_ne (show (h + 15 + 4 + 2 * j + 1) ≠ (h + 467) by omega), (f45 (h + 15 + 4 + 2 * j + 1) (by omega)).2, e44, upS_ne (show (h + 15 + 4 + 2 * j + 1) ≠ (h + 464) by omega), (f42 (h + 15 + 4 + 2 * j + 1) (by omega)).2, e41, upS_ne (show (h + 15 + 4 + 2 * j + 1) ≠ (h + 461) by omega), (f39 (h + 15 + 4 + 2 * j + 1) (by omega)).2, e38, upS_ne (show (h + 15 + 4 + 2 * j + 1) ≠ (h + 458) by omega), (f36 (h + 15 + 4 + 2 * j + 1) (by omega)).2, e35, upS_ne (show (h + 15 + 4 + 2 * j + 1) ≠ (h + 183) by omega), (f33 (h + 15 + 4 + 2 * j + 1) (by omega)).2, e32, upS_ne (show (h + 15 + 4 + 2 * j + 1) ≠ (h + 176) by omega), (f30 (h + 15 + 4 + 2 * j + 1) (by omega)).2, e29, upS_ne (show (h + 15 + 4 + 2 * j + 1) ≠ (h + 173) by omega), (f27 (h + 15 + 4 + 2 * j + 1) (by omega)).2, e26, upS_ne (show (h + 15 + 4 + 2 * j + 1) ≠ (h + 171) by omega), (f24 (h + 15 + 4 + 2 * j + 1) (by omega)).2, e23, upS_ne (show (h + 15 + 4 + 2 * j + 1) ≠ (h + 149) by omega), (f21 (h + 15 + 4 + 2 * j + 1) (by omega)).2, e20, upS_ne (show (h + 15 + 4 + 2 * j + 1) ≠ (h + 147) by omega)]; exact z18.2 j hj, fun j hj => by rw [(f51 (h + 183 + 7 + 4 + 2 * j + 1) (by omega)).2, e50, upS_ne (show (h + 183 + 7 + 4 + 2 * j + 1) ≠ (h + 470) by omega), (f48 (h + 183 + 7 + 4 + 2 * j + 1) (by omega)).2, e47, upS_ne (show (h + 183 + 7 + 4 + 2 * j + 1) ≠ (h + 467) by omega), (f45 (h + 183 + 7 + 4 + 2 * j + 1) (by omega)).2, e44, upS_ne (show (h + 183 + 7 + 4 + 2 * j + 1) ≠ (h + 464) by omega), (f42 (h + 183 + 7 + 4 + 2 * j + 1) (by omega)).2, e41, upS_ne (show (h + 183 + 7 + 4 + 2 * j + 1) ≠ (h + 461) by omega), (f39 (h + 183 + 7 + 4 + 2 * j + 1) (by omega)).2, e38, upS_ne (show (h + 183 + 7 + 4 + 2 * j + 1) ≠ (h + 458) by omega)]; exact z36.2.1 j hj, fun j hj => by rw [(f51 (h + 183 + 141 + 4 + 2 * j + 1) (by omega)).2, e50, upS_ne (show (h + 183 + 141 + 4 + 2 * j + 1) ≠ (h + 470) by omega), (f48 (h + 183 + 141 + 4 + 2 * j + 1) (by omega)).2, e47, upS_ne (show (h + 183 + 141 + 4 + 2 * j + 1) ≠ (h + 467) by omega), (f45 (h + 183 + 141 + 4 + 2 * j + 1) (by omega)).2, e44, upS_ne (show (h + 183 + 141 + 4 + 2 * j + 1) ≠ (h + 464) by omega), (f42 (h + 183 + 141 + 4 + 2 * j + 1) (by omega)).2, e41, upS_ne (show (h + 183 + 141 + 4 + 2 * j + 1) ≠ (h + 461) by omega), (f39 (h + 183 + 141 + 4 + 2 * j + 1) (by omega)).2, e38, upS_ne (show (h + 183 + 141 + 4 + 2 * j + 1) ≠ (h + 458) by omega)]; exact z36.2.2 j hj, fun j hj => by rw [(f51 (h + 149 + 4 + 4 + 2 * j + 1) (by omega)).2, e50, upS_ne (show (h + 149 + 4 + 4 + 2 * j + 1) ≠ (h + 470) by omega), (f48 (h + 149 + 4 + 4 + 2 * j + 1) (by omega)).2, e47, upS_ne (show (h + 149 + 4 + 4 + 2 * j + 1) ≠ (h + 467) by omega), (f45 (h + 149 + 4 + 4 + 2 * j + 1) (by omega)).2, e44, upS_ne (show (h + 149 + 4 + 4 + 2 * j + 1) ≠ (h + 464) by omega), (f42 (h + 149 + 4 + 4 + 2 * j + 1) (by omega)).2, e41, upS_ne (show (h + 149 + 4 + 4 + 2 * j + 1) ≠ (h + 461) by omega), (f39 (h + 149 + 4 + 4 + 2 * j + 1) (by omega)).2, e38, upS_ne (show (h + 149 + 4 + 4 + 2 * j + 1) ≠ (h + 458) by omega), (f36 (h + 149 + 4 + 4 + 2 * j + 1) (by omega)).2, e35, upS_ne (show (h + 149 + 4 + 4 + 2 * j + 1) ≠ (h + 183) by omega), (f33 (h + 149 + 4 + 4 + 2 * j + 1) (by omega)).2, e32, upS_ne (show (h + 149 + 4 + 4 + 2 * j + 1) ≠ (h + 176) by omega), (f30 (h + 149 + 4 + 4 + 2 * j + 1) (by omega)).2, e29, upS_ne (show (h + 149 + 4 + 4 + 2 * j + 1) ≠ (h + 173) by omega), (f27 (h + 149 + 4 + 4 + 2 * j + 1) (by omega)).2, e26, upS_ne (show (h + 149 + 4 + 4 + 2 * j + 1) ≠ (h + 171) by omega)]; exact z24.2 j hj⟩


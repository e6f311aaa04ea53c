theorem nn_nat2 {N : Nat} (h : N ≤ 10000000) : ¬ iI (N : Int) < 0 ∧ (iI (N : Int)).toNatClampNeg = N := by
  have hr : inR (N : Int) := ⟨by omega, by omega⟩
  refine ⟨nn_z0 hr (by omega), ?_⟩
  rw [iI_ix hr (by omega)]
  omega
section PWL
variable {x : FX} {G : GT} {S : Shp} {σ : Sto} {k n pc : Nat} {l : LV} {st : List Value} {own : String} {idx : Nat}
theorem PW.newL (c N t : Nat) {atype : ArrayType} (hc : S.1 = c) (hN : N ≤ 10000000) (harr : Cond.arrayClass (newarray.typeOf atype) ∈ gtbl) (ht : ∀ G : GT, (tys G)[t]? = some (G.2.2.1 t, newarray.typeOf atype)) (hdv : defaultValue (newarray.typeOf atype) = .int 0) (hb : N * componentBytes (newarray.typeOf atype) ≤ 536870912) (hS1 : c < 1000000) (hk : k + 1 ≤ x.2.1.cells) (hn : n + N ≤ x.2.1.slots) (hd : decode x.1.2.1 pc = .ok (.newarray atype, 2))
    (kk : ∀ S1 : Shp, S1.1 = c + 1 → (∀ b, b < c → S1.2 b = S.2 b) → At S1 c (sA t N) → PW x G S1 (upS σ c (fun _ => 0)) (k + 1) (n + N) (pc + 2) l (.ref c :: st)) : PW x G S σ k n pc l (.int (iI (N : Int)) :: st) := by
  subst hc
  have kk' := kk (S.1 + 1, upH S.2 S.1 (sA t N)) rfl (fun b hb => upH_ne (by omega)) ⟨upH_same _ _ _, Nat.lt_succ_self _⟩
  intro p e s m args below meth c H locs ls C hP hS hl
  have hK : va_K G.2.1 cls (tys G) s := C.2.2.2.2.2.2.2.2.1.1
  obtain ⟨n0, n1⟩ := nn_nat2 hN
  refine va_newaK C.1 C.2.1 (C.2.2.2.2.1 _ harr) rfl hd rfl n0 n1 hb hk hn hP.2.1 fun H1 cA e1 z1 o1 hAr hNm => ?_
  have h2 := (hK.2 t _ (ht G)).2
  have h3 : s.vm.findClass ("[" ++ (newarray.typeOf atype).toString) = some (G.2.2.1 t) := by cases atype <;> exact h2
  obtain rfl : cA = G.2.2.1 t := Option.some.inj (hNm.symm.trans h3)
  rw [hdv] at e1
  have z2 : H1.size = H.size + 1 := by rw [z1, hP.2.1]
  have o2 : ∀ q : Nat, q < H.size → H1[q]? = H[q]? := fun q hq => o1 q (by rw [← hP.2.1]; exact hq)
  have h := kk' p e s m args below meth c H1 locs ls C (hP.push (sA t N) (fun _ => 0) z2 o2 hS1 e1) (vaS_new hS z2 o2) hl
  rw [List.map_cons, rv_new hS1] at h
  exact h
end PWL
def arL : List (Nat × Nat) := [(0, 0), (1, 15360), (1, 80), (0, 16), (0, 80), (2, 16), (0, 5), (0, 300), (0, 16), (0, 80), (0, 16), (2, 4), (0, 4), (0, 64), (0, 320), (2, 64), (0, 30), (0, 30), (0, 30), (0, 30), (0, 30), (0, 24), (0, 24), (0, 24), (0, 256), (0, 8), (0, 8), (0, 13448), (0, 8), (0, 4), (0, 20), (0, 65), (0, 260), (1, 332800), (0, 4)]
def arE (i : Nat) : SE := sA (arL.getD i (0, 0)).1 (arL.getD i (0, 0)).2
/-- a model whose rows are made, so many of them -/
def cI (S S' : Shp) (σ τ : Sto) (m j : Nat) (fs : List (Option (Option Nat))) (g : Int → Int) : Prop := S'.1 = m + j ∧ (∀ b, b < m → S'.2 b = S.2 b ∧ τ b = σ b) ∧ At S' m (sO 11 fs) ∧ (∀ i, 1 ≤ i → i < j → S'.2 (m + i) = arE i ∧ τ (m + i) = zF) ∧ τ m = g
theorem cI_step {S S' S1 S2 : Shp} {σ τ : Sto} {m j N t : Nat} {fs fs' : List (Option (Option Nat))} {g : Int → Int} (H : cI S S' σ τ m j fs g) (hj : 1 ≤ j) (he : arE j = sA t N) (p1 : S1.1 = m + j + 1) (q1 : ∀ b, b < m + j → S1.2 b = S'.2 b) (r1 : At S1 (m + j) (sA t N)) (p2 : S2.1 = S1.1) (q2 : ∀ b, b ≠ m → S2.2 b = S1.2 b) (r2 : At S2 m (sO 11 fs')) : cI S S2 σ (upS τ (m + j) (fun _ => 0)) m (j + 1) fs' g := by
  obtain ⟨h1, h2, h3, h4, h5⟩ := H
  refine ⟨by omega, fun b hb => ⟨by rw [q2 b (by omega), q1 b (by omega)]; exact (h2 b hb).1, by rw [upS_ne (by omega)]; exact (h2 b hb).2⟩, r2, fun i i0 i1 => ?_, by rw [upS_ne (by omega)]; exact h5⟩
  by_cases e : i = j
  · rw [e]
    exact ⟨by rw [q2 _ (by omega), r1.1, he], upS_same _ _ _⟩
  · exact ⟨by rw [q2 _ (by omega), q1 _ (by omega)]; exact (h4 i i0 (by omega)).1, by rw [upS_ne (by omega)]; exact (h4 i i0 (by omega)).2⟩
theorem cI_g {S S' : Shp} {σ τ : Sto} {m j : Nat} {fs : List (Option (Option Nat))} {g g' : Int → Int} (H : cI S S' σ τ m j fs g) (hj : 1 ≤ j) (hg : up1 g 11 (-1) = g') : cI S S' σ (upS τ m (up1 (τ m) 11 (-1))) m j fs g' := by
  obtain ⟨h1, h2, h3, h4, h5⟩ := H
  exact ⟨h1, fun b hb => ⟨(h2 b hb).1, by rw [upS_ne (by omega)]; exact (h2 b hb).2⟩, h3, fun i i0 i1 => ⟨(h4 i i0 i1).1, by rw [upS_ne (by omega)]; exact (h4 i i0 i1).2⟩, by rw [upS_same, h5]; exact hg⟩
theorem cI_at {S S' S1 : Shp} {σ τ : Sto} {m j : Nat} {fs : List (Option (Option Nat))} {g : Int → Int} (H : cI S S' σ τ m j fs g) (hj : 1 ≤ j) (p1 : S1.1 = m + j + 1) (q1 : ∀ b, b < m + j → S1.2 b = S'.2 b) : At S1 m (sO 11 fs) := ⟨(q1 m (by omega)).trans H.2.2.1.1, by omega⟩
theorem cI_mod {S S' : Shp} {σ τ : Sto} {m : Nat} {g : Int → Int} (H : cI S S' σ τ m 35 [fR (m + 1), fR (m + 2), fI, fR (m + 3), fR (m + 4), fR (m + 5), fR (m + 6), fR (m + 7), fI, fI, fI, fI, fI, fI, fR (m + 8), fR (m + 9), fI, fR (m + 10), fR (m + 11), fR (m + 12), fR (m + 13), fR (m + 14), fR (m + 15), fI, fR (m + 16), fR (m + 17), fR (m + 18), fR (m + 19), fR (m + 20), fI, fR (m + 21), fR (m + 22), fR (m + 23), fR (m + 24), fR (m + 25), fR (m + 26), fR (m + 27), fR (m + 28), fI, fR (m + 29), fR (m + 30), fI, fR (m + 31), fR (m + 32), fR (m + 33), fR (m + 34), fI, fI] g) : IsMod S' m := by
  obtain ⟨h1, h2, h3, h4, h5⟩ := H
  exact ⟨h3, ⟨(h4 1 (by omega) (by omega)).1, by omega⟩, ⟨(h4 2 (by omega) (by omega)).1, by omega⟩, ⟨(h4 3 (by omega) (by omega)).1, by omega⟩, ⟨(h4 4 (by omega) (by omega)).1, by omega⟩, ⟨(h4 5 (by omega) (by omega)).1, by omega⟩, ⟨(h4 6 (by omega) (by omega)).1, by omega⟩, ⟨(h4 7 (by omega) (by omega)).1, by omega⟩, ⟨(h4 8 (by omega) (by omega)).1, by omega⟩, ⟨(h4 9 (by omega) (by omega)).1, by omega⟩, ⟨(h4 10 (by omega) (by omega)).1, by omega⟩, ⟨(h4 11 (by omega) (by omega)).1, by omega⟩, ⟨(h4 12 (by omega) (by omega)).1, by omega⟩, ⟨(h4 13 (by omega) (by omega)).1, by omega⟩, ⟨(h4 14 (by omega) (by omega)).1, by omega⟩, ⟨(h4 15 (by omega) (by omega)).1, by omega⟩, ⟨(h4 16 (by omega) (by omega)).1, by omega⟩, ⟨(h4 17 (by omega) (by omega)).1, by omega⟩, ⟨(h4 18 (by omega) (by omega)).1, by omega⟩, ⟨(h4 19 (by omega) (by omega)).1, by omega⟩, ⟨(h4 20 (by omega) (by omega)).1, by omega⟩, ⟨(h4 21 (by omega) (by omega)).1, by omega⟩, ⟨(h4 22 (by omega) (by omega)).1, by omega⟩, ⟨(h4 23 (by omega) (by omega)).1, by omega⟩, ⟨(h4 24 (by omega) (by omega)).1, by omega⟩, ⟨(h4 25 (by omega) (by omega)).1, by omega⟩, ⟨(h4 26 (by omega) (by omega)).1, by omega⟩, ⟨(h4 27 (by omega) (by omega)).1, by omega⟩, ⟨(h4 28 (by omega) (by omega)).1, by omega⟩, ⟨(h4 29 (by omega) (by omega)).1, by omega⟩, ⟨(h4 30 (by omega) (by omega)).1, by omega⟩, ⟨(h4 31 (by omega) (by omega)).1, by omega⟩, ⟨(h4 32 (by omega) (by omega)).1, by omega⟩, ⟨(h4 33 (by omega) (by omega)).1, by omega⟩, ⟨(h4 34 (by omega) (by omega)).1, by omega⟩⟩
theorem c_X12_init {G : GT} {S : Shp} {σ : Sto} {m : Nat} (h1 : S.1 = m + 1) (hA : At S m (sO 11 [fN, fN, fI, fN, fN, fN, fN, fN, fI, fI, fI, fI, fI, fI, fN, fN, fI, fN, fN, fN, fN, fN, fN, fI, fN, fN, fN, fN, fN, fI, fN, fN, fN, fN, fN, fN, fN, fN, fI, fN, fN, fI, fN, fN, fN, fN, fI, fI])) (hz : σ m = zF) (hb : m + 35 ≤ 1000000) : PMet G mX12_init 6 34 363528 [.ref m] S σ (fun r S' τ => r = none ∧ S'.1 = m + 35 ∧ (∀ b, b < m → S'.2 b = S.2 b ∧ τ b = σ b) ∧ IsMod S' m ∧ τ m = up1 zF 11 (-1) ∧ (∀ i, 3 ≤ i → i < 35 → i ≠ 6 → τ (m + i) = zF) ∧ ∀ f : Int → Int, mCore τ m f 0) := by
  refine PMet.of [(0, .ref m)] (by decide +kernel) rfl (Nat.le_of_ble_eq_true rfl) ?_
  have C1 : cI S S σ σ m 1 [fN, fN, fI, fN, fN, fN, fN, fN, fI, fI, fI, fI, fI, fI, fN, fN, fI, fN, fN, fN, fN, fN, fN, fI, fN, fN, fN, fN, fN, fI, fN, fN, fN, fN, fN, fN, fN, fN, fI, fN, fN, fI, fN, fN, fN, fN, fI, fI] zF := ⟨h1, fun b _ => ⟨rfl, rfl⟩, hA, fun i i0 i1 => by omega, hz⟩
  refine PW.aload_n dX12_init_0 rfl ?_
  refine PW.objI lo_X12 lo_in lo_co rfl (Nat.le_of_ble_eq_true rfl) ⟨(Nat.le_of_ble_eq_true rfl), (Nat.le_of_ble_eq_true rfl)⟩ dX12_init_1 ?_
  refine PW.aload_n dX12_init_4 rfl ?_
  refine PW.sipush (by decide) dX12_init_5 ?_
  refine PW.newL (m + 1) 15360 1 (atype := .byte) C1.1 (by decide) ka_byte (fun _ => rfl) rfl (by decide) (by omega) (Nat.le_of_ble_eq_true rfl) (Nat.le_of_ble_eq_true rfl) dX12_init_8 (fun S1 p1 q1 r1 => ?_)
  have w1 := cI_at C1 (by decide) p1 q1
  refine PW.putRA fl_X12_7 rfl (fun _ => rfl) w1 rfl (fun _ => rfl) (fun _ => rfl) dX12_init_10 (fun S1' u1 v1 x1 => ?_)
  refine PW.gst (fun τ1 e1 => ?_)
  have C2 : cI S S1' σ τ1 m 2 [fR (m + 1), fN, fI, fN, fN, fN, fN, fN, fI, fI, fI, fI, fI, fI, fN, fN, fI, fN, fN, fN, fN, fN, fN, fI, fN, fN, fN, fN, fN, fI, fN, fN, fN, fN, fN, fN, fN, fN, fI, fN, fN, fI, fN, fN, fN, fN, fI, fI] zF := by rw [e1]; exact cI_step C1 (by decide) rfl p1 q1 r1 u1 v1 x1
  clear e1 p1 q1 r1 u1 v1 x1 w1 C1
  refine PW.aload_n dX12_init_13 rfl ?_
  refine PW.bipush (by decide) dX12_init_14 ?_
  refine PW.newL (m + 2) 80 1 (atype := .byte) C2.1 (by decide) ka_byte (fun _ => rfl) rfl (by decide) (by omega) (Nat.le_of_ble_eq_true rfl) (Nat.le_of_ble_eq_true rfl) dX12_init_16 (fun S2 p2 q2 r2 => ?_)
  have w2 := cI_at C2 (by decide) p2 q2
  refine PW.putRA fl_X12_13 rfl (fun _ => rfl) w2 rfl (fun _ => rfl) (fun _ => rfl) dX12_init_18 (fun S2' u2 v2 x2 => ?_)
  refine PW.gst (fun τ2 e2 => ?_)
  have C3 : cI S S2' σ τ2 m 3 [fR (m + 1), fR (m + 2), fI, fN, fN, fN, fN, fN, fI, fI, fI, fI, fI, fI, fN, fN, fI, fN, fN, fN, fN, fN, fN, fI, fN, fN, fN, fN, fN, fI, fN, fN, fN, fN, fN, fN, fN, fN, fI, fN, fN, fI, fN, fN, fN, fN, fI, fI] zF := by rw [e2]; exact cI_step C2 (by decide) rfl p2 q2 r2 u2 v2 x2
  clear e2 p2 q2 r2 u2 v2 x2 w2 C2
  refine PW.aload_n dX12_init_21 rfl ?_
  refine PW.bipush (by decide) dX12_init_22 ?_
  refine PW.newL (m + 3) 16 0 (atype := .int) C3.1 (by decide) ka_int (fun _ => rfl) rfl (by decide) (by omega) (Nat.le_of_ble_eq_true rfl) (Nat.le_of_ble_eq_true rfl) dX12_init_24 (fun S3 p3 q3 r3 => ?_)
  have w3 := cI_at C3 (by decide) p3 q3
  refine PW.putRA fl_X12_16 rfl (fun _ => rfl) w3 rfl (fun _ => rfl) (fun _ => rfl) dX12_init_26 (fun S3' u3 v3 x3 => ?_)
  refine PW.gst (fun τ3 e3 => ?_)
  have C4 : cI S S3' σ τ3 m 4 [fR (m + 1), fR (m + 2), fI, fR (m + 3), fN, fN, fN, fN, fI, fI, fI, fI, fI, fI, fN, fN, fI, fN, fN, fN, fN, fN, fN, fI, fN, fN, fN, fN, fN, fI, fN, fN, fN, fN, fN, fN, fN, fN, fI, fN, fN, fI, fN, fN, fN, fN, fI, fI] zF := by rw [e3]; exact cI_step C3 (by decide) rfl p3 q3 r3 u3 v3 x3
  clear e3 p3 q3 r3 u3 v3 x3 w3 C3
  refine PW.aload_n dX12_init_29 rfl ?_
  refine PW.bipush (by decide) dX12_init_30 ?_
  refine PW.newL (m + 4) 80 0 (atype := .int) C4.1 (by decide) ka_int (fun _ => rfl) rfl (by decide) (by omega) (Nat.le_of_ble_eq_true rfl) (Nat.le_of_ble_eq_true rfl) dX12_init_32 (fun S4 p4 q4 r4 => ?_)
  have w4 := cI_at C4 (by decide) p4 q4
  refine PW.putRA fl_X12_20 rfl (fun _ => rfl) w4 rfl (fun _ => rfl) (fun _ => rfl) dX12_init_34 (fun S4' u4 v4 x4 => ?_)
  refine PW.gst (fun τ4 e4 => ?_)
  have C5 : cI S S4' σ τ4 m 5 [fR (m + 1), fR (m + 2), fI, fR (m + 3), fR (m + 4), fN, fN, fN, fI, fI, fI, fI, fI, fI, fN, fN, fI, fN, fN, fN, fN, fN, fN, fI, fN, fN, fN, fN, fN, fI, fN, fN, fN, fN, fN, fN, fN, fN, fI, fN, fN, fI, fN, fN, fN, fN, fI, fI] zF := by rw [e4]; exact cI_step C4 (by decide) rfl p4 q4 r4 u4 v4 x4
  clear e4 p4 q4 r4 u4 v4 x4 w4 C4
  refine PW.aload_n dX12_init_37 rfl ?_
  refine PW.bipush (by decide) dX12_init_38 ?_
  refine PW.newL (m + 5) 16 2 (atype := .boolean) C5.1 (by decide) ka_boolean (fun _ => rfl) rfl (by decide) (by omega) (Nat.le_of_ble_eq_true rfl) (Nat.le_of_ble_eq_true rfl) dX12_init_40 (fun S5 p5 q5 r5 => ?_)
  have w5 := cI_at C5 (by decide) p5 q5
  refine PW.putRA fl_X12_23 rfl (fun _ => rfl) w5 rfl (fun _ => rfl) (fun _ => rfl) dX12_init_42 (fun S5' u5 v5 x5 => ?_)
  refine PW.gst (fun τ5 e5 => ?_)
  have C6 : cI S S5' σ τ5 m 6 [fR (m + 1), fR (m + 2), fI, fR (m + 3), fR (m + 4), fR (m + 5), fN, fN, fI, fI, fI, fI, fI, fI, fN, fN, fI, fN, fN, fN, fN, fN, fN, fI, fN, fN, fN, fN, fN, fI, fN, fN, fN, fN, fN, fN, fN, fN, fI, fN, fN, fI, fN, fN, fN, fN, fI, fI] zF := by rw [e5]; exact cI_step C5 (by decide) rfl p5 q5 r5 u5 v5 x5
  clear e5 p5 q5 r5 u5 v5 x5 w5 C5
  refine PW.aload_n dX12_init_45 rfl ?_
  refine PW.iconst dX12_init_46 ?_
  refine PW.newL (m + 6) 5 0 (atype := .int) C6.1 (by decide) ka_int (fun _ => rfl) rfl (by decide) (by omega) (Nat.le_of_ble_eq_true rfl) (Nat.le_of_ble_eq_true rfl) dX12_init_47 (fun S6 p6 q6 r6 => ?_)
  have w6 := cI_at C6 (by decide) p6 q6
  refine PW.putRA fl_X12_27 rfl (fun _ => rfl) w6 rfl (fun _ => rfl) (fun _ => rfl) dX12_init_49 (fun S6' u6 v6 x6 => ?_)
  refine PW.gst (fun τ6 e6 => ?_)
  have C7 : cI S S6' σ τ6 m 7 [fR (m + 1), fR (m + 2), fI, fR (m + 3), fR (m + 4), fR (m + 5), fR (m + 6), fN, fI, fI, fI, fI, fI, fI, fN, fN, fI, fN, fN, fN, fN, fN, fN, fI, fN, fN, fN, fN, fN, fI, fN, fN, fN, fN, fN, fN, fN, fN, fI, fN, fN, fI, fN, fN, fN, fN, fI, fI] zF := by rw [e6]; exact cI_step C6 (by decide) rfl p6 q6 r6 u6 v6 x6
  clear e6 p6 q6 r6 u6 v6 x6 w6 C6
  refine PW.aload_n dX12_init_52 rfl ?_
  refine PW.sipush (by decide) dX12_init_53 ?_
  refine PW.newL (m + 7) 300 0 (atype := .int) C7.1 (by decide) ka_int (fun _ => rfl) rfl (by decide) (by omega) (Nat.le_of_ble_eq_true rfl) (Nat.le_of_ble_eq_true rfl) dX12_init_56 (fun S7 p7 q7 r7 => ?_)
  have w7 := cI_at C7 (by decide) p7 q7
  refine PW.putRA fl_X12_30 rfl (fun _ => rfl) w7 rfl (fun _ => rfl) (fun _ => rfl) dX12_init_58 (fun S7' u7 v7 x7 => ?_)
  refine PW.gst (fun τ7 e7 => ?_)
  have C8 : cI S S7' σ τ7 m 8 [fR (m + 1), fR (m + 2), fI, fR (m + 3), fR (m + 4), fR (m + 5), fR (m + 6), fR (m + 7), fI, fI, fI, fI, fI, fI, fN, fN, fI, fN, fN, fN, fN, fN, fN, fI, fN, fN, fN, fN, fN, fI, fN, fN, fN, fN, fN, fN, fN, fN, fI, fN, fN, fI, fN, fN, fN, fN, fI, fI] zF := by rw [e7]; exact cI_step C7 (by decide) rfl p7 q7 r7 u7 v7 x7
  clear e7 p7 q7 r7 u7 v7 x7 w7 C7
  refine PW.aload_n dX12_init_61 rfl ?_
  refine PW.iconst dX12_init_62 ?_
  refine PW.putI 11 fl_X12_33 rfl (fun h => absurd h (by decide)) C8.2.2.1 rfl rfl rfl rfl dX12_init_63 ?_
  refine PW.gst (fun ρ eρ => ?_)
  have D8 : cI S S7' σ ρ m 8 [fR (m + 1), fR (m + 2), fI, fR (m + 3), fR (m + 4), fR (m + 5), fR (m + 6), fR (m + 7), fI, fI, fI, fI, fI, fI, fN, fN, fI, fN, fN, fN, fN, fN, fN, fI, fN, fN, fN, fN, fN, fI, fN, fN, fN, fN, fN, fN, fN, fN, fI, fN, fN, fI, fN, fN, fN, fN, fI, fI] (up1 zF 11 (-1)) := by rw [eρ]; exact cI_g C8 (by decide) rfl
  clear eρ
  refine PW.aload_n dX12_init_66 rfl ?_
  refine PW.bipush (by decide) dX12_init_67 ?_
  refine PW.newL (m + 8) 16 0 (atype := .int) D8.1 (by decide) ka_int (fun _ => rfl) rfl (by decide) (by omega) (Nat.le_of_ble_eq_true rfl) (Nat.le_of_ble_eq_true rfl) dX12_init_69 (fun S8 p8 q8 r8 => ?_)
  have w8 := cI_at D8 (by decide) p8 q8
  refine PW.putRA fl_X12_37 rfl (fun _ => rfl) w8 rfl (fun _ => rfl) (fun _ => rfl) dX12_init_71 (fun S8' u8 v8 x8 => ?_)
  refine PW.gst (fun τ8 e8 => ?_)
  have D9 : cI S S8' σ τ8 m 9 [fR (m + 1), fR (m + 2), fI, fR (m + 3), fR (m + 4), fR (m + 5), fR (m + 6), fR (m + 7), fI, fI, fI, fI, fI, fI, fR (m + 8), fN, fI, fN, fN, fN, fN, fN, fN, fI, fN, fN, fN, fN, fN, fI, fN, fN, fN, fN, fN, fN, fN, fN, fI, fN, fN, fI, fN, fN, fN, fN, fI, fI] (up1 zF 11 (-1)) := by rw [e8]; exact cI_step D8 (by decide) rfl p8 q8 r8 u8 v8 x8
  clear e8 p8 q8 r8 u8 v8 x8 w8 D8
  refine PW.aload_n dX12_init_74 rfl ?_
  refine PW.bipush (by decide) dX12_init_75 ?_
  refine PW.newL (m + 9) 80 0 (atype := .int) D9.1 (by decide) ka_int (fun _ => rfl) rfl (by decide) (by omega) (Nat.le_of_ble_eq_true rfl) (Nat.le_of_ble_eq_true rfl) dX12_init_77 (fun S9 p9 q9 r9 => ?_)
  have w9 := cI_at D9 (by decide) p9 q9
  refine PW.putRA fl_X12_40 rfl (fun _ => rfl) w9 rfl (fun _ => rfl) (fun _ => rfl) dX12_init_79 (fun S9' u9 v9 x9 => ?_)
  refine PW.gst (fun τ9 e9 => ?_)
  have D10 : cI S S9' σ τ9 m 10 [fR (m + 1), fR (m + 2), fI, fR (m + 3), fR (m + 4), fR (m + 5), fR (m + 6), fR (m + 7), fI, fI, fI, fI, fI, fI, fR (m + 8), fR (m + 9), fI, fN, fN, fN, fN, fN, fN, fI, fN, fN, fN, fN, fN, fI, fN, fN, fN, fN, fN, fN, fN, fN, fI, fN, fN, fI, fN, fN, fN, fN, fI, fI] (up1 zF 11 (-1)) := by rw [e9]; exact cI_step D9 (by decide) rfl p9 q9 r9 u9 v9 x9
  clear e9 p9 q9 r9 u9 v9 x9 w9 D9
  refine PW.aload_n dX12_init_82 rfl ?_
  refine PW.bipush (by decide) dX12_init_83 ?_
  refine PW.newL (m + 10) 16 0 (atype := .int) D10.1 (by decide) ka_int (fun _ => rfl) rfl (by decide) (by omega) (Nat.le_of_ble_eq_true rfl) (Nat.le_of_ble_eq_true rfl) dX12_init_85 (fun S10 p10 q10 r10 => ?_)
  have w10 := cI_at D10 (by decide) p10 q10
  refine PW.putRA fl_X12_43 rfl (fun _ => rfl) w10 rfl (fun _ => rfl) (fun _ => rfl) dX12_init_87 (fun S10' u10 v10 x10 => ?_)
  refine PW.gst (fun τ10 e10 => ?_)
  have D11 : cI S S10' σ τ10 m 11 [fR (m + 1), fR (m + 2), fI, fR (m + 3), fR (m + 4), fR (m + 5), fR (m + 6), fR (m + 7), fI, fI, fI, fI, fI, fI, fR (m + 8), fR (m + 9), fI, fR (m + 10), fN, fN, fN, fN, fN, fI, fN, fN, fN, fN, fN, fI, fN, fN, fN, fN, fN, fN, fN, fN, fI, fN, fN, fI, fN, fN, fN, fN, fI, fI] (up1 zF 11 (-1)) := by rw [e10]; exact cI_step D10 (by decide) rfl p10 q10 r10 u10 v10 x10
  clear e10 p10 q10 r10 u10 v10 x10 w10 D10
  refine PW.aload_n dX12_init_90 rfl ?_
  refine PW.iconst dX12_init_91 ?_
  refine PW.newL (m + 11) 4 2 (atype := .boolean) D11.1 (by decide) ka_boolean (fun _ => rfl) rfl (by decide) (by omega) (Nat.le_of_ble_eq_true rfl) (Nat.le_of_ble_eq_true rfl) dX12_init_92 (fun S11 p11 q11 r11 => ?_)
  have w11 := cI_at D11 (by decide) p11 q11
  refine PW.putRA fl_X12_46 rfl (fun _ => rfl) w11 rfl (fun _ => rfl) (fun _ => rfl) dX12_init_94 (fun S11' u11 v11 x11 => ?_)
  refine PW.gst (fun τ11 e11 => ?_)
  have D12 : cI S S11' σ τ11 m 12 [fR (m + 1), fR (m + 2), fI, fR (m + 3), fR (m + 4), fR (m + 5), fR (m + 6), fR (m + 7), fI, fI, fI, fI, fI, fI, fR (m + 8), fR (m + 9), fI, fR (m + 10), fR (m + 11), fN, fN, fN, fN, fI, fN, fN, fN, fN, fN, fI, fN, fN, fN, fN, fN, fN, fN, fN, fI, fN, fN, fI, fN, fN, fN, fN, fI, fI] (up1 zF 11 (-1)) := by rw [e11]; exact cI_step D11 (by decide) rfl p11 q11 r11 u11 v11 x11
  clear e11 p11 q11 r11 u11 v11 x11 w11 D11
  refine PW.aload_n dX12_init_97 rfl ?_
  refine PW.iconst dX12_init_98 ?_
  refine PW.newL (m + 12) 4 0 (atype := .int) D12.1 (by decide) ka_int (fun _ => rfl) rfl (by decide) (by omega) (Nat.le_of_ble_eq_true rfl) (Nat.le_of_ble_eq_true rfl) dX12_init_99 (fun S12 p12 q12 r12 => ?_)
  have w12 := cI_at D12 (by decide) p12 q12
  refine PW.putRA fl_X12_49 rfl (fun _ => rfl) w12 rfl (fun _ => rfl) (fun _ => rfl) dX12_init_101 (fun S12' u12 v12 x12 => ?_)
  refine PW.gst (fun τ12 e12 => ?_)
  have D13 : cI S S12' σ τ12 m 13 [fR (m + 1), fR (m + 2), fI, fR (m + 3), fR (m + 4), fR (m + 5), fR (m + 6), fR (m + 7), fI, fI, fI, fI, fI, fI, fR (m + 8), fR (m + 9), fI, fR (m + 10), fR (m + 11), fR (m + 12), fN, fN, fN, fI, fN, fN, fN, fN, fN, fI, fN, fN, fN, fN, fN, fN, fN, fN, fI, fN, fN, fI, fN, fN, fN, fN, fI, fI] (up1 zF 11 (-1)) := by rw [e12]; exact cI_step D12 (by decide) rfl p12 q12 r12 u12 v12 x12
  clear e12 p12 q12 r12 u12 v12 x12 w12 D12
  refine PW.aload_n dX12_init_104 rfl ?_
  refine PW.bipush (by decide) dX12_init_105 ?_
  refine PW.newL (m + 13) 64 0 (atype := .int) D13.1 (by decide) ka_int (fun _ => rfl) rfl (by decide) (by omega) (Nat.le_of_ble_eq_true rfl) (Nat.le_of_ble_eq_true rfl) dX12_init_107 (fun S13 p13 q13 r13 => ?_)
  have w13 := cI_at D13 (by decide) p13 q13
  refine PW.putRA fl_X12_52 rfl (fun _ => rfl) w13 rfl (fun _ => rfl) (fun _ => rfl) dX12_init_109 (fun S13' u13 v13 x13 => ?_)
  refine PW.gst (fun τ13 e13 => ?_)
  have D14 : cI S S13' σ τ13 m 14 [fR (m + 1), fR (m + 2), fI, fR (m + 3), fR (m + 4), fR (m + 5), fR (m + 6), fR (m + 7), fI, fI, fI, fI, fI, fI, fR (m + 8), fR (m + 9), fI, fR (m + 10), fR (m + 11), fR (m + 12), fR (m + 13), fN, fN, fI, fN, fN, fN, fN, fN, fI, fN, fN, fN, fN, fN, fN, fN, fN, fI, fN, fN, fI, fN, fN, fN, fN, fI, fI] (up1 zF 11 (-1)) := by rw [e13]; exact cI_step D13 (by decide) rfl p13 q13 r13 u13 v13 x13
  clear e13 p13 q13 r13 u13 v13 x13 w13 D13
  refine PW.aload_n dX12_init_112 rfl ?_
  refine PW.sipush (by decide) dX12_init_113 ?_
  refine PW.newL (m + 14) 320 0 (atype := .int) D14.1 (by decide) ka_int (fun _ => rfl) rfl (by decide) (by omega) (Nat.le_of_ble_eq_true rfl) (Nat.le_of_ble_eq_true rfl) dX12_init_116 (fun S14 p14 q14 r14 => ?_)
  have w14 := cI_at D14 (by decide) p14 q14
  refine PW.putRA fl_X12_55 rfl (fun _ => rfl) w14 rfl (fun _ => rfl) (fun _ => rfl) dX12_init_118 (fun S14' u14 v14 x14 => ?_)
  refine PW.gst (fun τ14 e14 => ?_)
  have D15 : cI S S14' σ τ14 m 15 [fR (m + 1), fR (m + 2), fI, fR (m + 3), fR (m + 4), fR (m + 5), fR (m + 6), fR (m + 7), fI, fI, fI, fI, fI, fI, fR (m + 8), fR (m + 9), fI, fR (m + 10), fR (m + 11), fR (m + 12), fR (m + 13), fR (m + 14), fN, fI, fN, fN, fN, fN, fN, fI, fN, fN, fN, fN, fN, fN, fN, fN, fI, fN, fN, fI, fN, fN, fN, fN, fI, fI] (up1 zF 11 (-1)) := by rw [e14]; exact cI_step D14 (by decide) rfl p14 q14 r14 u14 v14 x14
  clear e14 p14 q14 r14 u14 v14 x14 w14 D14
  refine PW.aload_n dX12_init_121 rfl ?_
  refine PW.bipush (by decide) dX12_init_122 ?_
  refine PW.newL (m + 15) 64 2 (atype := .boolean) D15.1 (by decide) ka_boolean (fun _ => rfl) rfl (by decide) (by omega) (Nat.le_of_ble_eq_true rfl) (Nat.le_of_ble_eq_true rfl) dX12_init_124 (fun S15 p15 q15 r15 => ?_)
  have w15 := cI_at D15 (by decide) p15 q15
  refine PW.putRA fl_X12_58 rfl (fun _ => rfl) w15 rfl (fun _ => rfl) (fun _ => rfl) dX12_init_126 (fun S15' u15 v15 x15 => ?_)
  refine PW.gst (fun τ15 e15 => ?_)
  have D16 : cI S S15' σ τ15 m 16 [fR (m + 1), fR (m + 2), fI, fR (m + 3), fR (m + 4), fR (m + 5), fR (m + 6), fR (m + 7), fI, fI, fI, fI, fI, fI, fR (m + 8), fR (m + 9), fI, fR (m + 10), fR (m + 11), fR (m + 12), fR (m + 13), fR (m + 14), fR (m + 15), fI, fN, fN, fN, fN, fN, fI, fN, fN, fN, fN, fN, fN, fN, fN, fI, fN, fN, fI, fN, fN, fN, fN, fI, fI] (up1 zF 11 (-1)) := by rw [e15]; exact cI_step D15 (by decide) rfl p15 q15 r15 u15 v15 x15
  clear e15 p15 q15 r15 u15 v15 x15 w15 D15
  refine PW.aload_n dX12_init_129 rfl ?_
  refine PW.bipush (by decide) dX12_init_130 ?_
  refine PW.newL (m + 16) 30 0 (atype := .int) D16.1 (by decide) ka_int (fun _ => rfl) rfl (by decide) (by omega) (Nat.le_of_ble_eq_true rfl) (Nat.le_of_ble_eq_true rfl) dX12_init_132 (fun S16 p16 q16 r16 => ?_)
  have w16 := cI_at D16 (by decide) p16 q16
  refine PW.putRA fl_X12_61 rfl (fun _ => rfl) w16 rfl (fun _ => rfl) (fun _ => rfl) dX12_init_134 (fun S16' u16 v16 x16 => ?_)
  refine PW.gst (fun τ16 e16 => ?_)
  have D17 : cI S S16' σ τ16 m 17 [fR (m + 1), fR (m + 2), fI, fR (m + 3), fR (m + 4), fR (m + 5), fR (m + 6), fR (m + 7), fI, fI, fI, fI, fI, fI, fR (m + 8), fR (m + 9), fI, fR (m + 10), fR (m + 11), fR (m + 12), fR (m + 13), fR (m + 14), fR (m + 15), fI, fR (m + 16), fN, fN, fN, fN, fI, fN, fN, fN, fN, fN, fN, fN, fN, fI, fN, fN, fI, fN, fN, fN, fN, fI, fI] (up1 zF 11 (-1)) := by rw [e16]; exact cI_step D16 (by decide) rfl p16 q16 r16 u16 v16 x16
  clear e16 p16 q16 r16 u16 v16 x16 w16 D16
  refine PW.aload_n dX12_init_137 rfl ?_
  refine PW.bipush (by decide) dX12_init_138 ?_
  refine PW.newL (m + 17) 30 0 (atype := .int) D17.1 (by decide) ka_int (fun _ => rfl) rfl (by decide) (by omega) (Nat.le_of_ble_eq_true rfl) (Nat.le_of_ble_eq_true rfl) dX12_init_140 (fun S17 p17 q17 r17 => ?_)
  have w17 := cI_at D17 (by decide) p17 q17
  refine PW.putRA fl_X12_64 rfl (fun _ => rfl) w17 rfl (fun _ => rfl) (fun _ => rfl) dX12_init_142 (fun S17' u17 v17 x17 => ?_)
  refine PW.gst (fun τ17 e17 => ?_)
  have D18 : cI S S17' σ τ17 m 18 [fR (m + 1), fR (m + 2), fI, fR (m + 3), fR (m + 4), fR (m + 5), fR (m + 6), fR (m + 7), fI, fI, fI, fI, fI, fI, fR (m + 8), fR (m + 9), fI, fR (m + 10), fR (m + 11), fR (m + 12), fR (m + 13), fR (m + 14), fR (m + 15), fI, fR (m + 16), fR (m + 17), fN, fN, fN, fI, fN, fN, fN, fN, fN, fN, fN, fN, fI, fN, fN, fI, fN, fN, fN, fN, fI, fI] (up1 zF 11 (-1)) := by rw [e17]; exact cI_step D17 (by decide) rfl p17 q17 r17 u17 v17 x17
  clear e17 p17 q17 r17 u17 v17 x17 w17 D17
  refine PW.aload_n dX12_init_145 rfl ?_
  refine PW.bipush (by decide) dX12_init_146 ?_
  refine PW.newL (m + 18) 30 0 (atype := .int) D18.1 (by decide) ka_int (fun _ => rfl) rfl (by decide) (by omega) (Nat.le_of_ble_eq_true rfl) (Nat.le_of_ble_eq_true rfl) dX12_init_148 (fun S18 p18 q18 r18 => ?_)
  have w18 := cI_at D18 (by decide) p18 q18
  refine PW.putRA fl_X12_67 rfl (fun _ => rfl) w18 rfl (fun _ => rfl) (fun _ => rfl) dX12_init_150 (fun S18' u18 v18 x18 => ?_)
  refine PW.gst (fun τ18 e18 => ?_)
  have D19 : cI S S18' σ τ18 m 19 [fR (m + 1), fR (m + 2), fI, fR (m + 3), fR (m + 4), fR (m + 5), fR (m + 6), fR (m + 7), fI, fI, fI, fI, fI, fI, fR (m + 8), fR (m + 9), fI, fR (m + 10), fR (m + 11), fR (m + 12), fR (m + 13), fR (m + 14), fR (m + 15), fI, fR (m + 16), fR (m + 17), fR (m + 18), fN, fN, fI, fN, fN, fN, fN, fN, fN, fN, fN, fI, fN, fN, fI, fN, fN, fN, fN, fI, fI] (up1 zF 11 (-1)) := by rw [e18]; exact cI_step D18 (by decide) rfl p18 q18 r18 u18 v18 x18
  clear e18 p18 q18 r18 u18 v18 x18 w18 D18
  refine PW.aload_n dX12_init_153 rfl ?_
  refine PW.bipush (by decide) dX12_init_154 ?_
  refine PW.newL (m + 19) 30 0 (atype := .int) D19.1 (by decide) ka_int (fun _ => rfl) rfl (by decide) (by omega) (Nat.le_of_ble_eq_true rfl) (Nat.le_of_ble_eq_true rfl) dX12_init_156 (fun S19 p19 q19 r19 => ?_)
  have w19 := cI_at D19 (by decide) p19 q19
  refine PW.putRA fl_X12_70 rfl (fun _ => rfl) w19 rfl (fun _ => rfl) (fun _ => rfl) dX12_init_158 (fun S19' u19 v19 x19 => ?_)
  refine PW.gst (fun τ19 e19 => ?_)
  have D20 : cI S S19' σ τ19 m 20 [fR (m + 1), fR (m + 2), fI, fR (m + 3), fR (m + 4), fR (m + 5), fR (m + 6), fR (m + 7), fI, fI, fI, fI, fI, fI, fR (m + 8), fR (m + 9), fI, fR (m + 10), fR (m + 11), fR (m + 12), fR (m + 13), fR (m + 14), fR (m + 15), fI, fR (m + 16), fR (m + 17), fR (m + 18), fR (m + 19), fN, fI, fN, fN, fN, fN, fN, fN, fN, fN, fI, fN, fN, fI, fN, fN, fN, fN, fI, fI] (up1 zF 11 (-1)) := by rw [e19]; exact cI_step D19 (by decide) rfl p19 q19 r19 u19 v19 x19
  clear e19 p19 q19 r19 u19 v19 x19 w19 D19
  refine PW.aload_n dX12_init_161 rfl ?_
  refine PW.bipush (by decide) dX12_init_162 ?_
  refine PW.newL (m + 20) 30 0 (atype := .int) D20.1 (by decide) ka_int (fun _ => rfl) rfl (by decide) (by omega) (Nat.le_of_ble_eq_true rfl) (Nat.le_of_ble_eq_true rfl) dX12_init_164 (fun S20 p20 q20 r20 => ?_)
  have w20 := cI_at D20 (by decide) p20 q20
  refine PW.putRA fl_X12_73 rfl (fun _ => rfl) w20 rfl (fun _ => rfl) (fun _ => rfl) dX12_init_166 (fun S20' u20 v20 x20 => ?_)
  refine PW.gst (fun τ20 e20 => ?_)
  have D21 : cI S S20' σ τ20 m 21 [fR (m + 1), fR (m + 2), fI, fR (m + 3), fR (m + 4), fR (m + 5), fR (m + 6), fR (m + 7), fI, fI, fI, fI, fI, fI, fR (m + 8), fR (m + 9), fI, fR (m + 10), fR (m + 11), fR (m + 12), fR (m + 13), fR (m + 14), fR (m + 15), fI, fR (m + 16), fR (m + 17), fR (m + 18), fR (m + 19), fR (m + 20), fI, fN, fN, fN, fN, fN, fN, fN, fN, fI, fN, fN, fI, fN, fN, fN, fN, fI, fI] (up1 zF 11 (-1)) := by rw [e20]; exact cI_step D20 (by decide) rfl p20 q20 r20 u20 v20 x20
  clear e20 p20 q20 r20 u20 v20 x20 w20 D20
  refine PW.aload_n dX12_init_169 rfl ?_
  refine PW.bipush (by decide) dX12_init_170 ?_
  refine PW.newL (m + 21) 24 0 (atype := .int) D21.1 (by decide) ka_int (fun _ => rfl) rfl (by decide) (by omega) (Nat.le_of_ble_eq_true rfl) (Nat.le_of_ble_eq_true rfl) dX12_init_172 (fun S21 p21 q21 r21 => ?_)
  have w21 := cI_at D21 (by decide) p21 q21
  refine PW.putRA fl_X12_76 rfl (fun _ => rfl) w21 rfl (fun _ => rfl) (fun _ => rfl) dX12_init_174 (fun S21' u21 v21 x21 => ?_)
  refine PW.gst (fun τ21 e21 => ?_)
  have D22 : cI S S21' σ τ21 m 22 [fR (m + 1), fR (m + 2), fI, fR (m + 3), fR (m + 4), fR (m + 5), fR (m + 6), fR (m + 7), fI, fI, fI, fI, fI, fI, fR (m + 8), fR (m + 9), fI, fR (m + 10), fR (m + 11), fR (m + 12), fR (m + 13), fR (m + 14), fR (m + 15), fI, fR (m + 16), fR (m + 17), fR (m + 18), fR (m + 19), fR (m + 20), fI, fR (m + 21), fN, fN, fN, fN, fN, fN, fN, fI, fN, fN, fI, fN, fN, fN, fN, fI, fI] (up1 zF 11 (-1)) := by rw [e21]; exact cI_step D21 (by decide) rfl p21 q21 r21 u21 v21 x21
  clear e21 p21 q21 r21 u21 v21 x21 w21 D21
  refine PW.aload_n dX12_init_177 rfl ?_
  refine PW.bipush (by decide) dX12_init_178 ?_
  refine PW.newL (m + 22) 24 0 (atype := .int) D22.1 (by decide) ka_int (fun _ => rfl) rfl (by decide) (by omega) (Nat.le_of_ble_eq_true rfl) (Nat.le_of_ble_eq_true rfl) dX12_init_180 (fun S22 p22 q22 r22 => ?_)
  have w22 := cI_at D22 (by decide) p22 q22
  refine PW.putRA fl_X12_79 rfl (fun _ => rfl) w22 rfl (fun _ => rfl) (fun _ => rfl) dX12_init_182 (fun S22' u22 v22 x22 => ?_)
  refine PW.gst (fun τ22 e22 => ?_)
  have D23 : cI S S22' σ τ22 m 23 [fR (m + 1), fR (m + 2), fI, fR (m + 3), fR (m + 4), fR (m + 5), fR (m + 6), fR (m + 7), fI, fI, fI, fI, fI, fI, fR (m + 8), fR (m + 9), fI, fR (m + 10), fR (m + 11), fR (m + 12), fR (m + 13), fR (m + 14), fR (m + 15), fI, fR (m + 16), fR (m + 17), fR (m + 18), fR (m + 19), fR (m + 20), fI, fR (m + 21), fR (m + 22), fN, fN, fN, fN, fN, fN, fI, fN, fN, fI, fN, fN, fN, fN, fI, fI] (up1 zF 11 (-1)) := by rw [e22]; exact cI_step D22 (by decide) rfl p22 q22 r22 u22 v22 x22
  clear e22 p22 q22 r22 u22 v22 x22 w22 D22
  refine PW.aload_n dX12_init_185 rfl ?_
  refine PW.bipush (by decide) dX12_init_186 ?_
  refine PW.newL (m + 23) 24 0 (atype := .int) D23.1 (by decide) ka_int (fun _ => rfl) rfl (by decide) (by omega) (Nat.le_of_ble_eq_true rfl) (Nat.le_of_ble_eq_true rfl) dX12_init_188 (fun S23 p23 q23 r23 => ?_)
  have w23 := cI_at D23 (by decide) p23 q23
  refine PW.putRA fl_X12_82 rfl (fun _ => rfl) w23 rfl (fun _ => rfl) (fun _ => rfl) dX12_init_190 (fun S23' u23 v23 x23 => ?_)
  refine PW.gst (fun τ23 e23 => ?_)
  have D24 : cI S S23' σ τ23 m 24 [fR (m + 1), fR (m + 2), fI, fR (m + 3), fR (m + 4), fR (m + 5), fR (m + 6), fR (m + 7), fI, fI, fI, fI, fI, fI, fR (m + 8), fR (m + 9), fI, fR (m + 10), fR (m + 11), fR (m + 12), fR (m + 13), fR (m + 14), fR (m + 15), fI, fR (m + 16), fR (m + 17), fR (m + 18), fR (m + 19), fR (m + 20), fI, fR (m + 21), fR (m + 22), fR (m + 23), fN, fN, fN, fN, fN, fI, fN, fN, fI, fN, fN, fN, fN, fI, fI] (up1 zF 11 (-1)) := by rw [e23]; exact cI_step D23 (by decide) rfl p23 q23 r23 u23 v23 x23
  clear e23 p23 q23 r23 u23 v23 x23 w23 D23
  refine PW.aload_n dX12_init_193 rfl ?_
  refine PW.sipush (by decide) dX12_init_194 ?_
  refine PW.newL (m + 24) 256 0 (atype := .int) D24.1 (by decide) ka_int (fun _ => rfl) rfl (by decide) (by omega) (Nat.le_of_ble_eq_true rfl) (Nat.le_of_ble_eq_true rfl) dX12_init_197 (fun S24 p24 q24 r24 => ?_)
  have w24 := cI_at D24 (by decide) p24 q24
  refine PW.putRA fl_X12_85 rfl (fun _ => rfl) w24 rfl (fun _ => rfl) (fun _ => rfl) dX12_init_199 (fun S24' u24 v24 x24 => ?_)
  refine PW.gst (fun τ24 e24 => ?_)
  have D25 : cI S S24' σ τ24 m 25 [fR (m + 1), fR (m + 2), fI, fR (m + 3), fR (m + 4), fR (m + 5), fR (m + 6), fR (m + 7), fI, fI, fI, fI, fI, fI, fR (m + 8), fR (m + 9), fI, fR (m + 10), fR (m + 11), fR (m + 12), fR (m + 13), fR (m + 14), fR (m + 15), fI, fR (m + 16), fR (m + 17), fR (m + 18), fR (m + 19), fR (m + 20), fI, fR (m + 21), fR (m + 22), fR (m + 23), fR (m + 24), fN, fN, fN, fN, fI, fN, fN, fI, fN, fN, fN, fN, fI, fI] (up1 zF 11 (-1)) := by rw [e24]; exact cI_step D24 (by decide) rfl p24 q24 r24 u24 v24 x24
  clear e24 p24 q24 r24 u24 v24 x24 w24 D24
  refine PW.aload_n dX12_init_202 rfl ?_
  refine PW.bipush (by decide) dX12_init_203 ?_
  refine PW.newL (m + 25) 8 0 (atype := .int) D25.1 (by decide) ka_int (fun _ => rfl) rfl (by decide) (by omega) (Nat.le_of_ble_eq_true rfl) (Nat.le_of_ble_eq_true rfl) dX12_init_205 (fun S25 p25 q25 r25 => ?_)
  have w25 := cI_at D25 (by decide) p25 q25
  refine PW.putRA fl_X12_88 rfl (fun _ => rfl) w25 rfl (fun _ => rfl) (fun _ => rfl) dX12_init_207 (fun S25' u25 v25 x25 => ?_)
  refine PW.gst (fun τ25 e25 => ?_)
  have D26 : cI S S25' σ τ25 m 26 [fR (m + 1), fR (m + 2), fI, fR (m + 3), fR (m + 4), fR (m + 5), fR (m + 6), fR (m + 7), fI, fI, fI, fI, fI, fI, fR (m + 8), fR (m + 9), fI, fR (m + 10), fR (m + 11), fR (m + 12), fR (m + 13), fR (m + 14), fR (m + 15), fI, fR (m + 16), fR (m + 17), fR (m + 18), fR (m + 19), fR (m + 20), fI, fR (m + 21), fR (m + 22), fR (m + 23), fR (m + 24), fR (m + 25), fN, fN, fN, fI, fN, fN, fI, fN, fN, fN, fN, fI, fI] (up1 zF 11 (-1)) := by rw [e25]; exact cI_step D25 (by decide) rfl p25 q25 r25 u25 v25 x25
  clear e25 p25 q25 r25 u25 v25 x25 w25 D25
  refine PW.aload_n dX12_init_210 rfl ?_
  refine PW.bipush (by decide) dX12_init_211 ?_
  refine PW.newL (m + 26) 8 0 (atype := .int) D26.1 (by decide) ka_int (fun _ => rfl) rfl (by decide) (by omega) (Nat.le_of_ble_eq_true rfl) (Nat.le_of_ble_eq_true rfl) dX12_init_213 (fun S26 p26 q26 r26 => ?_)
  have w26 := cI_at D26 (by decide) p26 q26
  refine PW.putRA fl_X12_91 rfl (fun _ => rfl) w26 rfl (fun _ => rfl) (fun _ => rfl) dX12_init_215 (fun S26' u26 v26 x26 => ?_)
  refine PW.gst (fun τ26 e26 => ?_)
  have D27 : cI S S26' σ τ26 m 27 [fR (m + 1), fR (m + 2), fI, fR (m + 3), fR (m + 4), fR (m + 5), fR (m + 6), fR (m + 7), fI, fI, fI, fI, fI, fI, fR (m + 8), fR (m + 9), fI, fR (m + 10), fR (m + 11), fR (m + 12), fR (m + 13), fR (m + 14), fR (m + 15), fI, fR (m + 16), fR (m + 17), fR (m + 18), fR (m + 19), fR (m + 20), fI, fR (m + 21), fR (m + 22), fR (m + 23), fR (m + 24), fR (m + 25), fR (m + 26), fN, fN, fI, fN, fN, fI, fN, fN, fN, fN, fI, fI] (up1 zF 11 (-1)) := by rw [e26]; exact cI_step D26 (by decide) rfl p26 q26 r26 u26 v26 x26
  clear e26 p26 q26 r26 u26 v26 x26 w26 D26
  refine PW.aload_n dX12_init_218 rfl ?_
  refine PW.sipush (by decide) dX12_init_219 ?_
  refine PW.newL (m + 27) 13448 0 (atype := .int) D27.1 (by decide) ka_int (fun _ => rfl) rfl (by decide) (by omega) (Nat.le_of_ble_eq_true rfl) (Nat.le_of_ble_eq_true rfl) dX12_init_222 (fun S27 p27 q27 r27 => ?_)
  have w27 := cI_at D27 (by decide) p27 q27
  refine PW.putRA fl_X12_94 rfl (fun _ => rfl) w27 rfl (fun _ => rfl) (fun _ => rfl) dX12_init_224 (fun S27' u27 v27 x27 => ?_)
  refine PW.gst (fun τ27 e27 => ?_)
  have D28 : cI S S27' σ τ27 m 28 [fR (m + 1), fR (m + 2), fI, fR (m + 3), fR (m + 4), fR (m + 5), fR (m + 6), fR (m + 7), fI, fI, fI, fI, fI, fI, fR (m + 8), fR (m + 9), fI, fR (m + 10), fR (m + 11), fR (m + 12), fR (m + 13), fR (m + 14), fR (m + 15), fI, fR (m + 16), fR (m + 17), fR (m + 18), fR (m + 19), fR (m + 20), fI, fR (m + 21), fR (m + 22), fR (m + 23), fR (m + 24), fR (m + 25), fR (m + 26), fR (m + 27), fN, fI, fN, fN, fI, fN, fN, fN, fN, fI, fI] (up1 zF 11 (-1)) := by rw [e27]; exact cI_step D27 (by decide) rfl p27 q27 r27 u27 v27 x27
  clear e27 p27 q27 r27 u27 v27 x27 w27 D27
  refine PW.aload_n dX12_init_227 rfl ?_
  refine PW.bipush (by decide) dX12_init_228 ?_
  refine PW.newL (m + 28) 8 0 (atype := .int) D28.1 (by decide) ka_int (fun _ => rfl) rfl (by decide) (by omega) (Nat.le_of_ble_eq_true rfl) (Nat.le_of_ble_eq_true rfl) dX12_init_230 (fun S28 p28 q28 r28 => ?_)
  have w28 := cI_at D28 (by decide) p28 q28
  refine PW.putRA fl_X12_97 rfl (fun _ => rfl) w28 rfl (fun _ => rfl) (fun _ => rfl) dX12_init_232 (fun S28' u28 v28 x28 => ?_)
  refine PW.gst (fun τ28 e28 => ?_)
  have D29 : cI S S28' σ τ28 m 29 [fR (m + 1), fR (m + 2), fI, fR (m + 3), fR (m + 4), fR (m + 5), fR (m + 6), fR (m + 7), fI, fI, fI, fI, fI, fI, fR (m + 8), fR (m + 9), fI, fR (m + 10), fR (m + 11), fR (m + 12), fR (m + 13), fR (m + 14), fR (m + 15), fI, fR (m + 16), fR (m + 17), fR (m + 18), fR (m + 19), fR (m + 20), fI, fR (m + 21), fR (m + 22), fR (m + 23), fR (m + 24), fR (m + 25), fR (m + 26), fR (m + 27), fR (m + 28), fI, fN, fN, fI, fN, fN, fN, fN, fI, fI] (up1 zF 11 (-1)) := by rw [e28]; exact cI_step D28 (by decide) rfl p28 q28 r28 u28 v28 x28
  clear e28 p28 q28 r28 u28 v28 x28 w28 D28
  refine PW.aload_n dX12_init_235 rfl ?_
  refine PW.iconst dX12_init_236 ?_
  refine PW.newL (m + 29) 4 0 (atype := .int) D29.1 (by decide) ka_int (fun _ => rfl) rfl (by decide) (by omega) (Nat.le_of_ble_eq_true rfl) (Nat.le_of_ble_eq_true rfl) dX12_init_237 (fun S29 p29 q29 r29 => ?_)
  have w29 := cI_at D29 (by decide) p29 q29
  refine PW.putRA fl_X12_100 rfl (fun _ => rfl) w29 rfl (fun _ => rfl) (fun _ => rfl) dX12_init_239 (fun S29' u29 v29 x29 => ?_)
  refine PW.gst (fun τ29 e29 => ?_)
  have D30 : cI S S29' σ τ29 m 30 [fR (m + 1), fR (m + 2), fI, fR (m + 3), fR (m + 4), fR (m + 5), fR (m + 6), fR (m + 7), fI, fI, fI, fI, fI, fI, fR (m + 8), fR (m + 9), fI, fR (m + 10), fR (m + 11), fR (m + 12), fR (m + 13), fR (m + 14), fR (m + 15), fI, fR (m + 16), fR (m + 17), fR (m + 18), fR (m + 19), fR (m + 20), fI, fR (m + 21), fR (m + 22), fR (m + 23), fR (m + 24), fR (m + 25), fR (m + 26), fR (m + 27), fR (m + 28), fI, fR (m + 29), fN, fI, fN, fN, fN, fN, fI, fI] (up1 zF 11 (-1)) := by rw [e29]; exact cI_step D29 (by decide) rfl p29 q29 r29 u29 v29 x29
  clear e29 p29 q29 r29 u29 v29 x29 w29 D29
  refine PW.aload_n dX12_init_242 rfl ?_
  refine PW.bipush (by decide) dX12_init_243 ?_
  refine PW.newL (m + 30) 20 0 (atype := .int) D30.1 (by decide) ka_int (fun _ => rfl) rfl (by decide) (by omega) (Nat.le_of_ble_eq_true rfl) (Nat.le_of_ble_eq_true rfl) dX12_init_245 (fun S30 p30 q30 r30 => ?_)
  have w30 := cI_at D30 (by decide) p30 q30
  refine PW.putRA fl_X12_103 rfl (fun _ => rfl) w30 rfl (fun _ => rfl) (fun _ => rfl) dX12_init_247 (fun S30' u30 v30 x30 => ?_)
  refine PW.gst (fun τ30 e30 => ?_)
  have D31 : cI S S30' σ τ30 m 31 [fR (m + 1), fR (m + 2), fI, fR (m + 3), fR (m + 4), fR (m + 5), fR (m + 6), fR (m + 7), fI, fI, fI, fI, fI, fI, fR (m + 8), fR (m + 9), fI, fR (m + 10), fR (m + 11), fR (m + 12), fR (m + 13), fR (m + 14), fR (m + 15), fI, fR (m + 16), fR (m + 17), fR (m + 18), fR (m + 19), fR (m + 20), fI, fR (m + 21), fR (m + 22), fR (m + 23), fR (m + 24), fR (m + 25), fR (m + 26), fR (m + 27), fR (m + 28), fI, fR (m + 29), fR (m + 30), fI, fN, fN, fN, fN, fI, fI] (up1 zF 11 (-1)) := by rw [e30]; exact cI_step D30 (by decide) rfl p30 q30 r30 u30 v30 x30
  clear e30 p30 q30 r30 u30 v30 x30 w30 D30
  refine PW.aload_n dX12_init_250 rfl ?_
  refine PW.bipush (by decide) dX12_init_251 ?_
  refine PW.newL (m + 31) 65 0 (atype := .int) D31.1 (by decide) ka_int (fun _ => rfl) rfl (by decide) (by omega) (Nat.le_of_ble_eq_true rfl) (Nat.le_of_ble_eq_true rfl) dX12_init_253 (fun S31 p31 q31 r31 => ?_)
  have w31 := cI_at D31 (by decide) p31 q31
  refine PW.putRA fl_X12_106 rfl (fun _ => rfl) w31 rfl (fun _ => rfl) (fun _ => rfl) dX12_init_255 (fun S31' u31 v31 x31 => ?_)
  refine PW.gst (fun τ31 e31 => ?_)
  have D32 : cI S S31' σ τ31 m 32 [fR (m + 1), fR (m + 2), fI, fR (m + 3), fR (m + 4), fR (m + 5), fR (m + 6), fR (m + 7), fI, fI, fI, fI, fI, fI, fR (m + 8), fR (m + 9), fI, fR (m + 10), fR (m + 11), fR (m + 12), fR (m + 13), fR (m + 14), fR (m + 15), fI, fR (m + 16), fR (m + 17), fR (m + 18), fR (m + 19), fR (m + 20), fI, fR (m + 21), fR (m + 22), fR (m + 23), fR (m + 24), fR (m + 25), fR (m + 26), fR (m + 27), fR (m + 28), fI, fR (m + 29), fR (m + 30), fI, fR (m + 31), fN, fN, fN, fI, fI] (up1 zF 11 (-1)) := by rw [e31]; exact cI_step D31 (by decide) rfl p31 q31 r31 u31 v31 x31
  clear e31 p31 q31 r31 u31 v31 x31 w31 D31
  refine PW.aload_n dX12_init_258 rfl ?_
  refine PW.sipush (by decide) dX12_init_259 ?_
  refine PW.newL (m + 32) 260 0 (atype := .int) D32.1 (by decide) ka_int (fun _ => rfl) rfl (by decide) (by omega) (Nat.le_of_ble_eq_true rfl) (Nat.le_of_ble_eq_true rfl) dX12_init_262 (fun S32 p32 q32 r32 => ?_)
  have w32 := cI_at D32 (by decide) p32 q32
  refine PW.putRA fl_X12_109 rfl (fun _ => rfl) w32 rfl (fun _ => rfl) (fun _ => rfl) dX12_init_264 (fun S32' u32 v32 x32 => ?_)
  refine PW.gst (fun τ32 e32 => ?_)
  have D33 : cI S S32' σ τ32 m 33 [fR (m + 1), fR (m + 2), fI, fR (m + 3), fR (m + 4), fR (m + 5), fR (m + 6), fR (m + 7), fI, fI, fI, fI, fI, fI, fR (m + 8), fR (m + 9), fI, fR (m + 10), fR (m + 11), fR (m + 12), fR (m + 13), fR (m + 14), fR (m + 15), fI, fR (m + 16), fR (m + 17), fR (m + 18), fR (m + 19), fR (m + 20), fI, fR (m + 21), fR (m + 22), fR (m + 23), fR (m + 24), fR (m + 25), fR (m + 26), fR (m + 27), fR (m + 28), fI, fR (m + 29), fR (m + 30), fI, fR (m + 31), fR (m + 32), fN, fN, fI, fI] (up1 zF 11 (-1)) := by rw [e32]; exact cI_step D32 (by decide) rfl p32 q32 r32 u32 v32 x32
  clear e32 p32 q32 r32 u32 v32 x32 w32 D32
  refine PW.aload_n dX12_init_267 rfl ?_
  refine PW.ldc (332800) kc_X12_112 rfl rfl dX12_init_268 ?_
  refine PW.newL (m + 33) 332800 1 (atype := .byte) D33.1 (by decide) ka_byte (fun _ => rfl) rfl (by decide) (by omega) (Nat.le_of_ble_eq_true rfl) (Nat.le_of_ble_eq_true rfl) dX12_init_270 (fun S33 p33 q33 r33 => ?_)
  have w33 := cI_at D33 (by decide) p33 q33
  refine PW.putRA fl_X12_113 rfl (fun _ => rfl) w33 rfl (fun _ => rfl) (fun _ => rfl) dX12_init_272 (fun S33' u33 v33 x33 => ?_)
  refine PW.gst (fun τ33 e33 => ?_)
  have D34 : cI S S33' σ τ33 m 34 [fR (m + 1), fR (m + 2), fI, fR (m + 3), fR (m + 4), fR (m + 5), fR (m + 6), fR (m + 7), fI, fI, fI, fI, fI, fI, fR (m + 8), fR (m + 9), fI, fR (m + 10), fR (m + 11), fR (m + 12), fR (m + 13), fR (m + 14), fR (m + 15), fI, fR (m + 16), fR (m + 17), fR (m + 18), fR (m + 19), fR (m + 20), fI, fR (m + 21), fR (m + 22), fR (m + 23), fR (m + 24), fR (m + 25), fR (m + 26), fR (m + 27), fR (m + 28), fI, fR (m + 29), fR (m + 30), fI, fR (m + 31), fR (m + 32), fR (m + 33), fN, fI, fI] (up1 zF 11 (-1)) := by rw [e33]; exact cI_step D33 (by decide) rfl p33 q33 r33 u33 v33 x33
  clear e33 p33 q33 r33 u33 v33 x33 w33 D33
  refine PW.aload_n dX12_init_275 rfl ?_
  refine PW.iconst dX12_init_276 ?_
  refine PW.newL (m + 34) 4 0 (atype := .int) D34.1 (by decide) ka_int (fun _ => rfl) rfl (by decide) (by omega) (Nat.le_of_ble_eq_true rfl) (Nat.le_of_ble_eq_true rfl) dX12_init_277 (fun S34 p34 q34 r34 => ?_)
  have w34 := cI_at D34 (by decide) p34 q34
  refine PW.putRA fl_X12_116 rfl (fun _ => rfl) w34 rfl (fun _ => rfl) (fun _ => rfl) dX12_init_279 (fun S34' u34 v34 x34 => ?_)
  refine PW.gst (fun τ34 e34 => ?_)
  have D35 : cI S S34' σ τ34 m 35 [fR (m + 1), fR (m + 2), fI, fR (m + 3), fR (m + 4), fR (m + 5), fR (m + 6), fR (m + 7), fI, fI, fI, fI, fI, fI, fR (m + 8), fR (m + 9), fI, fR (m + 10), fR (m + 11), fR (m + 12), fR (m + 13), fR (m + 14), fR (m + 15), fI, fR (m + 16), fR (m + 17), fR (m + 18), fR (m + 19), fR (m + 20), fI, fR (m + 21), fR (m + 22), fR (m + 23), fR (m + 24), fR (m + 25), fR (m + 26), fR (m + 27), fR (m + 28), fI, fR (m + 29), fR (m + 30), fI, fR (m + 31), fR (m + 32), fR (m + 33), fR (m + 34), fI, fI] (up1 zF 11 (-1)) := by rw [e34]; exact cI_step D34 (by decide) rfl p34 q34 r34 u34 v34 x34
  clear e34 p34 q34 r34 u34 v34 x34 w34 D34
  refine PW.aload_n dX12_init_282 rfl ?_
  refine PW.iconst dX12_init_283 ?_
  have hM := cI_mod D35
  obtain ⟨z1, z2, z3, z4, z5⟩ := D35
  have zz : ∀ i, 1 ≤ i → i < 35 → τ34 (m + i) = zF := fun i i0 i1 => (z4 i i0 i1).2
  refine PW.callVg (c_X12_buildAll (n := 0) (f := zF) hM (by rw [zz 1 (by decide) (by decide)]; exact fun j _ _ => (show (-1 : Int) ≤ 0 ∧ (0 : Int) ≤ 15 by decide)) (by decide) (fun i i0 i1 => by omega)) cv_X12_buildAll lk_X12_119 hM.1 dX12_init_284 rfl rfl rfl rfl (fun r S' μ hq => ?_)
  obtain ⟨rfl, hS, g1, g2, g3, g4⟩ := hq
  subst hS
  refine PW.vret rfl dX12_init_287 ⟨rfl, z1, fun b hb => ⟨(z2 b hb).1, (g1 b (by omega) (by omega) (by omega)).trans (z2 b hb).2⟩, hM, ?_⟩
  have zm : μ m = up1 zF 11 (-1) := (g1 m (by omega) (by omega) (by omega)).trans z5
  refine ⟨zm, fun i i0 i1 i2 => (g1 (m + i) (by omega) (by omega) (by omega)).trans (zz i (by omega) i1), fun f => ⟨⟨by rw [zm]; rfl, by decide, fun i i0 i1 => by omega, fun i i0 i1 => by omega⟩, g2, fun c c0 c1 => g3 c c0 c1⟩⟩


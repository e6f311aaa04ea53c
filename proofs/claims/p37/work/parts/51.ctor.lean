section PWC
variable {x : FX} {G : GT} {S : Shp} {σ : Sto} {k n pc : Nat} {l : LV} {st : List Value} {own : String} {idx : Nat}
theorem PW.newA (c N t : Nat) {atype : ArrayType} (hc : S.1 = c) (hN : N ≤ 100000) (harr : Cond.arrayClass (newarray.typeOf atype) ∈ gtbl) (ht : ∀ G : GT, (tys G)[t]? = some (G.2.2.1 t, newarray.typeOf atype)) (hdv : defaultValue (newarray.typeOf atype) = .int 0) (hb : N * componentBytes (newarray.typeOf atype) ≤ 536870912) (hS1 : c < 1000000) (hk : k + 1 ≤ x.2.1.cells) (hn : n + N ≤ x.2.1.slots) (hd : decode x.1.2.1 pc = .ok (.newarray atype, 2))
    (kk : ∀ S1 : Shp, S1.1 = c + 1 → (∀ b, b < c → S1.2 b = S.2 b) → At S1 c (sA t N) → PW x G S1 (upS σ c (fun _ => 0)) (k + 1) (n + N) (pc + 2) l (.ref c :: st)) : PW x G S σ k n pc l (.int (iI (N : Int)) :: st) := by
  subst hc
  exact PW.newI N t hN harr ht hdv hb hS1 hk hn hd (kk _ rfl (fun b hb => upH_ne (by omega)) ⟨upH_same _ _ _, Nat.lt_succ_self _⟩)
theorem PW.newQA (c N t : Nat) {C : String} (hc : S.1 = c) (hN : N ≤ 100000) (hcl : Cond.classLink own idx C ∈ gtbl) (hao : ∀ s, Nst s → va_AO C s) (ht : ∀ G : GT, (tys G)[t]? = some (G.2.2.1 t, .object C)) (hx : x.1.1.cls = own) (hS1 : c < 1000000) (hk : k + 1 ≤ x.2.1.cells) (hn : n + N ≤ x.2.1.slots) (hd : decode x.1.2.1 pc = .ok (.anewarray idx, 3))
    (kk : ∀ S1 : Shp, S1.1 = c + 1 → (∀ b, b < c → S1.2 b = S.2 b) → At S1 c (sQ t N (fun _ => none)) → PW x G S1 (upS σ c (fun _ => 0)) (k + 1) (n + N) (pc + 3) l (.ref c :: st)) : PW x G S σ k n pc l (.int (iI (N : Int)) :: st) := by
  subst hc
  exact PW.newQ N t hN hcl hao ht hx hS1 hk hn hd (kk _ rfl (fun b hb => upH_ne (by omega)) ⟨upH_same _ _ _, Nat.lt_succ_self _⟩)
theorem PW.newOA (c : Nat) {C : String} {T : u_T} {N ci : Nat} {ty : Nat → FieldType} (fs : List (Option (Option Nat))) (hc : S.1 = c) (hcl0 : cls[ci]? = some (C, T, N)) (hin : ∀ w ∈ u_ws C T N, w ∈ gtbl) (hcl : Cond.classLink own idx C ∈ gtbl) (hinst : Cond.instantiable C N ∈ gtbl) (hini : Cond.initialized C ∈ gtbl) (hty : ∀ k, k < N → parseFieldDescriptor (T k).2.2.1 = some (ty k)) (hfs : dfOk ty N fs = true) (hx : x.1.1.cls = own) (hS1 : c < 1000000) (hk : k + 1 ≤ x.2.1.cells) (hn : n + N ≤ x.2.1.slots) (hd : decode x.1.2.1 pc = .ok (.new idx, 3))
    (kk : ∀ S1 : Shp, S1.1 = c + 1 → (∀ b, b < c → S1.2 b = S.2 b) → At S1 c (sO ci fs) → PW x G S1 (upS σ c (fun _ => 0)) (k + 1) (n + N) (pc + 3) l (.ref c :: st)) : PW x G S σ k n pc l st := by
  subst hc
  exact PW.newO fs hcl0 hin hcl hinst hini hty hfs hx hS1 hk hn hd (kk _ rfl (fun b hb => upH_ne (by omega)) ⟨upH_same _ _ _, Nat.lt_succ_self _⟩)
theorem PW.putRA {ty : FieldType} {fin : Bool} {a r ci ks : Nat} {fs : List (Option (Option Nat))} {q : Option Nat} (fl : FL own idx ci ks ty fin) (hx : x.1.1.cls = own) (hi : fin = true → x.1.1.name = "<init>") (hA : At S a (sO ci fs)) (hk : fs[ks]? = some (some q)) (hn : ∀ q : Nat, narrow ty (.ref q) = .ref q) (hf : ∀ q : Nat, fits ty (.ref q) = true) (hd : decode x.1.2.1 pc = .ok (.putfield idx, 3))
    (kk : ∀ S1 : Shp, S1.1 = S.1 → (∀ b, b ≠ a → S1.2 b = S.2 b) → At S1 a (sO ci (fs.set ks (fR r))) → PW x G S1 σ k n (pc + 3) l st) : PW x G S σ k n pc l (.ref r :: .ref a :: st) :=
  PW.putR fl hx hi hA hk hn hf hd (kk _ rfl (fun b hb => upH_ne hb) ⟨upH_same _ _ _, hA.2⟩)
theorem PW.aast {a t N v ci Nc : Nat} {i : Int} {g : Nat → Option Nat} {C : String} {T : u_T} {fs : List (Option (Option Nat))} (hA : At S a (sQ t N g)) (hV : At S v (sO ci fs)) (hc : cls[ci]? = some (C, T, Nc)) (ht : ∀ G : GT, (tys G)[t]? = some (G.2.2.1 t, .object C)) (hi : inR i) (h0 : 0 ≤ i) (h1 : i < N) (hd : decode x.1.2.1 pc = .ok (.aastore, 1))
    (kk : ∀ S1 : Shp, S1.1 = S.1 → (∀ b, b ≠ a → S1.2 b = S.2 b) → At S1 a (sQ t N (fun j => if j = i.toNat then some v else g j)) → PW x G S1 σ k n (pc + 1) l st) : PW x G S σ k n pc l (.ref v :: .int (iI i) :: .ref a :: st) := by
  have kk' := kk (S.1, upH S.2 a (sQ t N (fun j => if j = i.toNat then some v else g j))) rfl (fun b hb => upH_ne hb) ⟨upH_same _ _ _, hA.2⟩
  intro p e s m args below meth c H locs ls Cc hP hS hl
  obtain ⟨hs, ha⟩ := hA
  have hK : va_K G.2.1 cls (tys G) s := Cc.2.2.2.2.2.2.2.2.1.1
  have he := wsl_at (G := G) (S := S) (σ := σ) ha
  rw [hs, rse_arq] at he
  have hev := wsl_at (G := G) (S := S) (σ := σ) hV.2
  rw [hV.1, rse_obj] at hev
  have hr : rv G (.ref a) = .ref (gB G + a) := by show Value.ref (ra G a) = _; rw [hP.lt ha]
  have hrv : rv G (.ref v) = .ref (gB G + v) := by show Value.ref (ra G v) = _; rw [hP.lt hV.2]
  show W p G.1 e x.2.1 s m args below meth c H locs k n (x.2.2 below args s) (F0 m pc ls (rv G (.ref v) :: .int (iI i) :: rv G (.ref a) :: st.map (rv G)))
  rw [hr, hrv]
  obtain ⟨r', hr', cellV, g1, g2, g3, -⟩ := hP.1 v _ hev
  have hcls := (hK.1 ci _ hc).2
  obtain ⟨kA, comp, k1, k2, k3, -⟩ := (hK.2 t _ (ht G)).2
  have hcomp : comp = G.2.1.1 ci := Option.some.inj (k3.symm.trans hcls.1)
  subst hcomp
  obtain ⟨kC, hkC, -⟩ := hcls.2
  have hix := iI_ix hi h0
  have hin := iI_in hi h0 h1
  refine W.aast Cc.1 Cc.2.1 (hP.1 a _ he) (fun q h => by cases h) (fun h => by cases h) k1 k2 rfl hkC ⟨fun q => hin (Or.inl q), by show _ < (arrV _ _ _).slots.size; rw [arrV_size, hix]; exact (show i.toNat < N by omega)⟩ g1 (fun q h => by rw [g3] at h; cases h) (by rw [g2]; exact hkC) (by rw [g2]; exact va_assign hcls) rfl rfl hd fun H1 e z oq => ?_
  refine kk' p _ s m args below meth c H1 _ ls Cc (hP.set ha z oq ?_ rfl (fun b hb => ⟨upH_ne hb, rfl⟩)) (hS.put z oq HW.free) hl
  show va_at G.2.1 cls (gB G + a, rse G (upH S.2 a (sQ t N (fun j => if j = i.toNat then some v else g j)) a) (σ a)) H1
  rw [upH_same, rse_arq]
  show H1[gB G + a]? = some (vp_cell _ _)
  rw [e, vp_cell_q, vp_cell_q]
  try dsimp only
  rw [arrV_store]
  congr 2
  funext q
  rw [hix]
  by_cases hq : q = i.toNat
  · subst hq
    simp [updV, va_rf, hP.lt hV.2]
  · simp [updV, va_rf, hq]
end PWC
theorem PW.room {x : FX} {G : GT} {S : Shp} {σ : Sto} {k n k' n' pc : Nat} {l : LV} {st : List Value} (h1 : k = k') (h2 : n = n') (kk : PW x G S σ k' n' pc l st) : PW x G S σ k n pc l st := by
  subst h1 h2
  exact kk
theorem c_X8_init {G : GT} {S : Shp} {σ : Sto} {a : Nat} (h1 : S.1 = a + 1) (hA : At S a (sO 7 [fN, fN, fI])) (hz : σ a = zF) (hb : a + 3 ≤ 1000000) : PMet G mX8_init 1 2 119 [.ref a] S σ (fun r S' τ => r = none ∧ S'.1 = a + 3 ∧ (∀ b, b < a → S'.2 b = S.2 b ∧ τ b = σ b) ∧ IsTale S' a ∧ (τ a = zF ∧ τ (a + 1) = zF ∧ τ (a + 2) = zF)) := by
  refine PMet.of [(0, .ref a)] (by decide +kernel) rfl (Nat.le_of_ble_eq_true rfl) ?_
  refine PW.aload_n dX8_init_0 rfl ?_
  refine PW.objI lo_X8 lo_in lo_co rfl (Nat.le_of_ble_eq_true rfl) ⟨Nat.le_of_ble_eq_true rfl, Nat.le_of_ble_eq_true rfl⟩ dX8_init_1 ?_
  refine PW.aload_n dX8_init_4 rfl ?_
  refine PW.bipush (by decide) dX8_init_5 ?_
  refine PW.newA (a + 1) 112 0 (atype := .int) h1 (by decide) ka_int (fun _ => rfl) rfl (by decide) (by omega) (Nat.le_of_ble_eq_true rfl) (Nat.le_of_ble_eq_true rfl) dX8_init_7 (fun S1 p1 q1 r1 => ?_)
  have u1 : S1.1 = a + 2 := by omega
  have w1 : At S1 a (sO 7 [fN, fN, fI]) := ⟨by rw [q1 a (by omega)]; exact hA.1, by omega⟩
  refine PW.putRA fl_X8_11 rfl (fun _ => rfl) w1 rfl (fun _ => rfl) (fun _ => rfl) dX8_init_9 (fun S2 p2 q2 r2 => ?_)
  have u2 : S2.1 = a + 2 := by omega
  have w2 : At S2 a (sO 7 [fR (a + 1), fN, fI]) := r2
  refine PW.aload_n dX8_init_12 rfl ?_
  refine PW.bipush (by decide) dX8_init_13 ?_
  refine PW.newA (a + 2) 7 0 (atype := .int) u2 (by decide) ka_int (fun _ => rfl) rfl (by decide) (by omega) (Nat.le_of_ble_eq_true rfl) (Nat.le_of_ble_eq_true rfl) dX8_init_15 (fun S3 p3 q3 r3 => ?_)
  have u3 : S3.1 = a + 3 := by omega
  have w3 : At S3 a (sO 7 [fR (a + 1), fN, fI]) := ⟨by rw [q3 a (by omega)]; exact w2.1, by omega⟩
  refine PW.putRA fl_X8_15 rfl (fun _ => rfl) w3 rfl (fun _ => rfl) (fun _ => rfl) dX8_init_17 (fun S4 p4 q4 r4 => ?_)
  have u4 : S4.1 = a + 3 := by omega
  have w4 : At S4 a (sO 7 [fR (a + 1), fR (a + 2), fI]) := r4
  refine PW.aload_n dX8_init_20 rfl ?_
  refine PW.iconst dX8_init_21 ?_
  refine PW.putI 2 fl_X8_18 rfl (fun h => absurd h (by decide)) w4 rfl rfl rfl rfl dX8_init_22 ?_
  exact PW.vret rfl dX8_init_25 ⟨rfl, u4, fun b hb => ⟨by rw [q4 b (by omega), q3 b (by omega), q2 b (by omega), q1 b (by omega)], by simp [upS, show b ≠ a by omega, show b ≠ a + 1 by omega, show b ≠ a + 2 by omega]⟩, ⟨w4, ⟨by rw [q4 (a + 1) (by omega), q3 (a + 1) (by omega), q2 (a + 1) (by omega)]; exact r1.1, by omega⟩, ⟨by rw [q4 (a + 2) (by omega)]; exact r3.1, by omega⟩⟩, ⟨(by funext q; simp [upS, up1, hz]; try (repeat' split) <;> first | rfl | omega), (by funext q; simp [upS, up1, hz]; try (repeat' split) <;> first | rfl | omega), (by funext q; simp [upS, up1, hz]; try (repeat' split) <;> first | rfl | omega)⟩⟩

theorem c_X7_init {G : GT} {S : Shp} {σ : Sto} {a : Nat} (h1 : S.1 = a + 1) (hA : At S a (sO 6 [fN, fI])) (hz : σ a = zF) (hb : a + 2 ≤ 1000000) : PMet G mX7_init 1 1 150 [.ref a] S σ (fun r S' τ => r = none ∧ S'.1 = a + 2 ∧ (∀ b, b < a → S'.2 b = S.2 b ∧ τ b = σ b) ∧ IsSig S' a ∧ (τ a = zF ∧ τ (a + 1) = zF)) := by
  refine PMet.of [(0, .ref a)] (by decide +kernel) rfl (Nat.le_of_ble_eq_true rfl) ?_
  refine PW.aload_n dX7_init_0 rfl ?_
  refine PW.objI lo_X7 lo_in lo_co rfl (Nat.le_of_ble_eq_true rfl) ⟨Nat.le_of_ble_eq_true rfl, Nat.le_of_ble_eq_true rfl⟩ dX7_init_1 ?_
  refine PW.aload_n dX7_init_4 rfl ?_
  refine PW.sipush (by decide) dX7_init_5 ?_
  refine PW.newA (a + 1) 150 0 (atype := .int) h1 (by decide) ka_int (fun _ => rfl) rfl (by decide) (by omega) (Nat.le_of_ble_eq_true rfl) (Nat.le_of_ble_eq_true rfl) dX7_init_8 (fun S1 p1 q1 r1 => ?_)
  have u1 : S1.1 = a + 2 := by omega
  have w1 : At S1 a (sO 6 [fN, fI]) := ⟨by rw [q1 a (by omega)]; exact hA.1, by omega⟩
  refine PW.putRA fl_X7_11 rfl (fun _ => rfl) w1 rfl (fun _ => rfl) (fun _ => rfl) dX7_init_10 (fun S2 p2 q2 r2 => ?_)
  have u2 : S2.1 = a + 2 := by omega
  have w2 : At S2 a (sO 6 [fR (a + 1), fI]) := r2
  refine PW.aload_n dX7_init_13 rfl ?_
  refine PW.iconst dX7_init_14 ?_
  refine PW.putI 1 fl_X7_15 rfl (fun h => absurd h (by decide)) w2 rfl rfl rfl rfl dX7_init_15 ?_
  exact PW.vret rfl dX7_init_18 ⟨rfl, u2, fun b hb => ⟨by rw [q2 b (by omega), q1 b (by omega)], by simp [upS, show b ≠ a by omega, show b ≠ a + 1 by omega]⟩, ⟨w2, ⟨by rw [q2 (a + 1) (by omega)]; exact r1.1, by omega⟩⟩, ⟨(by funext q; simp [upS, up1, hz]; try (repeat' split) <;> first | rfl | omega), (by funext q; simp [upS, up1, hz]; try (repeat' split) <;> first | rfl | omega)⟩⟩

theorem c_X0_init {G : GT} {S : Shp} {σ : Sto} {a : Nat} (h1 : S.1 = a + 1) (hA : At S a (sO 0 [fN, fN, fI])) (hz : σ a = zF) (hb : a + 3 ≤ 1000000) : PMet G mX0_init 1 2 320 [.ref a] S σ (fun r S' τ => r = none ∧ S'.1 = a + 3 ∧ (∀ b, b < a → S'.2 b = S.2 b ∧ τ b = σ b) ∧ IsAge S' a ∧ (τ a = zF ∧ τ (a + 1) = zF ∧ τ (a + 2) = zF)) := by
  refine PMet.of [(0, .ref a)] (by decide +kernel) rfl (Nat.le_of_ble_eq_true rfl) ?_
  refine PW.aload_n dX0_init_0 rfl ?_
  refine PW.objI lo_X0 lo_in lo_co rfl (Nat.le_of_ble_eq_true rfl) ⟨Nat.le_of_ble_eq_true rfl, Nat.le_of_ble_eq_true rfl⟩ dX0_init_1 ?_
  refine PW.aload_n dX0_init_4 rfl ?_
  refine PW.bipush (by decide) dX0_init_5 ?_
  refine PW.newA (a + 1) 64 0 (atype := .int) h1 (by decide) ka_int (fun _ => rfl) rfl (by decide) (by omega) (Nat.le_of_ble_eq_true rfl) (Nat.le_of_ble_eq_true rfl) dX0_init_7 (fun S1 p1 q1 r1 => ?_)
  have u1 : S1.1 = a + 2 := by omega
  have w1 : At S1 a (sO 0 [fN, fN, fI]) := ⟨by rw [q1 a (by omega)]; exact hA.1, by omega⟩
  refine PW.putRA fl_X0_9 rfl (fun _ => rfl) w1 rfl (fun _ => rfl) (fun _ => rfl) dX0_init_9 (fun S2 p2 q2 r2 => ?_)
  have u2 : S2.1 = a + 2 := by omega
  have w2 : At S2 a (sO 0 [fR (a + 1), fN, fI]) := r2
  refine PW.aload_n dX0_init_12 rfl ?_
  refine PW.sipush (by decide) dX0_init_13 ?_
  refine PW.newA (a + 2) 256 0 (atype := .int) u2 (by decide) ka_int (fun _ => rfl) rfl (by decide) (by omega) (Nat.le_of_ble_eq_true rfl) (Nat.le_of_ble_eq_true rfl) dX0_init_16 (fun S3 p3 q3 r3 => ?_)
  have u3 : S3.1 = a + 3 := by omega
  have w3 : At S3 a (sO 0 [fR (a + 1), fN, fI]) := ⟨by rw [q3 a (by omega)]; exact w2.1, by omega⟩
  refine PW.putRA fl_X0_15 rfl (fun _ => rfl) w3 rfl (fun _ => rfl) (fun _ => rfl) dX0_init_18 (fun S4 p4 q4 r4 => ?_)
  have u4 : S4.1 = a + 3 := by omega
  have w4 : At S4 a (sO 0 [fR (a + 1), fR (a + 2), fI]) := r4
  refine PW.aload_n dX0_init_21 rfl ?_
  refine PW.iconst dX0_init_22 ?_
  refine PW.putI 2 fl_X0_18 rfl (fun h => absurd h (by decide)) w4 rfl rfl rfl rfl dX0_init_23 ?_
  exact PW.vret rfl dX0_init_26 ⟨rfl, u4, fun b hb => ⟨by rw [q4 b (by omega), q3 b (by omega), q2 b (by omega), q1 b (by omega)], by simp [upS, show b ≠ a by omega, show b ≠ a + 1 by omega, show b ≠ a + 2 by omega]⟩, ⟨w4, ⟨by rw [q4 (a + 1) (by omega), q3 (a + 1) (by omega), q2 (a + 1) (by omega)]; exact r1.1, by omega⟩, ⟨by rw [q4 (a + 2) (by omega)]; exact r3.1, by omega⟩⟩, ⟨(by funext q; simp [upS, up1, hz]; try (repeat' split) <;> first | rfl | omega), (by funext q; simp [upS, up1, hz]; try (repeat' split) <;> first | rfl | omega), (by funext q; simp [upS, up1, hz]; try (repeat' split) <;> first | rfl | omega)⟩⟩

theorem c_X3_init {G : GT} {S : Shp} {σ : Sto} {a : Nat} (h1 : S.1 = a + 1) (hA : At S a (sO 3 [fN, fN, fN, fN, fN, fN, fI, fI])) (hz : σ a = zF) (hb : a + 7 ≤ 1000000) : PMet G mX3_init 1 6 13488 [.ref a] S σ (fun r S' τ => r = none ∧ S'.1 = a + 7 ∧ (∀ b, b < a → S'.2 b = S.2 b ∧ τ b = σ b) ∧ IsDr S' a ∧ (τ a = zF ∧ τ (a + 1) = zF ∧ τ (a + 2) = zF ∧ τ (a + 3) = zF ∧ τ (a + 4) = zF ∧ τ (a + 5) = zF ∧ τ (a + 6) = zF)) := by
  refine PMet.of [(0, .ref a)] (by decide +kernel) rfl (Nat.le_of_ble_eq_true rfl) ?_
  refine PW.aload_n dX3_init_0 rfl ?_
  refine PW.objI lo_X3 lo_in lo_co rfl (Nat.le_of_ble_eq_true rfl) ⟨Nat.le_of_ble_eq_true rfl, Nat.le_of_ble_eq_true rfl⟩ dX3_init_1 ?_
  refine PW.aload_n dX3_init_4 rfl ?_
  refine PW.bipush (by decide) dX3_init_5 ?_
  refine PW.newA (a + 1) 8 0 (atype := .int) h1 (by decide) ka_int (fun _ => rfl) rfl (by decide) (by omega) (Nat.le_of_ble_eq_true rfl) (Nat.le_of_ble_eq_true rfl) dX3_init_7 (fun S1 p1 q1 r1 => ?_)
  have u1 : S1.1 = a + 2 := by omega
  have w1 : At S1 a (sO 3 [fN, fN, fN, fN, fN, fN, fI, fI]) := ⟨by rw [q1 a (by omega)]; exact hA.1, by omega⟩
  refine PW.putRA fl_X3_9 rfl (fun _ => rfl) w1 rfl (fun _ => rfl) (fun _ => rfl) dX3_init_9 (fun S2 p2 q2 r2 => ?_)
  have u2 : S2.1 = a + 2 := by omega
  have w2 : At S2 a (sO 3 [fR (a + 1), fN, fN, fN, fN, fN, fI, fI]) := r2
  refine PW.aload_n dX3_init_12 rfl ?_
  refine PW.bipush (by decide) dX3_init_13 ?_
  refine PW.newA (a + 2) 8 0 (atype := .int) u2 (by decide) ka_int (fun _ => rfl) rfl (by decide) (by omega) (Nat.le_of_ble_eq_true rfl) (Nat.le_of_ble_eq_true rfl) dX3_init_15 (fun S3 p3 q3 r3 => ?_)
  have u3 : S3.1 = a + 3 := by omega
  have w3 : At S3 a (sO 3 [fR (a + 1), fN, fN, fN, fN, fN, fI, fI]) := ⟨by rw [q3 a (by omega)]; exact w2.1, by omega⟩
  refine PW.putRA fl_X3_15 rfl (fun _ => rfl) w3 rfl (fun _ => rfl) (fun _ => rfl) dX3_init_17 (fun S4 p4 q4 r4 => ?_)
  have u4 : S4.1 = a + 3 := by omega
  have w4 : At S4 a (sO 3 [fR (a + 1), fR (a + 2), fN, fN, fN, fN, fI, fI]) := r4
  refine PW.aload_n dX3_init_20 rfl ?_
  refine PW.bipush (by decide) dX3_init_21 ?_
  refine PW.newA (a + 3) 8 0 (atype := .int) u4 (by decide) ka_int (fun _ => rfl) rfl (by decide) (by omega) (Nat.le_of_ble_eq_true rfl) (Nat.le_of_ble_eq_true rfl) dX3_init_23 (fun S5 p5 q5 r5 => ?_)
  have u5 : S5.1 = a + 4 := by omega
  have w5 : At S5 a (sO 3 [fR (a + 1), fR (a + 2), fN, fN, fN, fN, fI, fI]) := ⟨by rw [q5 a (by omega)]; exact w4.1, by omega⟩
  refine PW.putRA fl_X3_18 rfl (fun _ => rfl) w5 rfl (fun _ => rfl) (fun _ => rfl) dX3_init_25 (fun S6 p6 q6 r6 => ?_)
  have u6 : S6.1 = a + 4 := by omega
  have w6 : At S6 a (sO 3 [fR (a + 1), fR (a + 2), fR (a + 3), fN, fN, fN, fI, fI]) := r6
  refine PW.aload_n dX3_init_28 rfl ?_
  refine PW.bipush (by decide) dX3_init_29 ?_
  refine PW.newA (a + 4) 8 0 (atype := .int) u6 (by decide) ka_int (fun _ => rfl) rfl (by decide) (by omega) (Nat.le_of_ble_eq_true rfl) (Nat.le_of_ble_eq_true rfl) dX3_init_31 (fun S7 p7 q7 r7 => ?_)
  have u7 : S7.1 = a + 5 := by omega
  have w7 : At S7 a (sO 3 [fR (a + 1), fR (a + 2), fR (a + 3), fN, fN, fN, fI, fI]) := ⟨by rw [q7 a (by omega)]; exact w6.1, by omega⟩
  refine PW.putRA fl_X3_21 rfl (fun _ => rfl) w7 rfl (fun _ => rfl) (fun _ => rfl) dX3_init_33 (fun S8 p8 q8 r8 => ?_)
  have u8 : S8.1 = a + 5 := by omega
  have w8 : At S8 a (sO 3 [fR (a + 1), fR (a + 2), fR (a + 3), fR (a + 4), fN, fN, fI, fI]) := r8
  refine PW.aload_n dX3_init_36 rfl ?_
  refine PW.sipush (by decide) dX3_init_37 ?_
  refine PW.newA (a + 5) 13448 0 (atype := .int) u8 (by decide) ka_int (fun _ => rfl) rfl (by decide) (by omega) (Nat.le_of_ble_eq_true rfl) (Nat.le_of_ble_eq_true rfl) dX3_init_40 (fun S9 p9 q9 r9 => ?_)
  have u9 : S9.1 = a + 6 := by omega
  have w9 : At S9 a (sO 3 [fR (a + 1), fR (a + 2), fR (a + 3), fR (a + 4), fN, fN, fI, fI]) := ⟨by rw [q9 a (by omega)]; exact w8.1, by omega⟩
  refine PW.putRA fl_X3_24 rfl (fun _ => rfl) w9 rfl (fun _ => rfl) (fun _ => rfl) dX3_init_42 (fun S10 p10 q10 r10 => ?_)
  have u10 : S10.1 = a + 6 := by omega
  have w10 : At S10 a (sO 3 [fR (a + 1), fR (a + 2), fR (a + 3), fR (a + 4), fR (a + 5), fN, fI, fI]) := r10
  refine PW.aload_n dX3_init_45 rfl ?_
  refine PW.bipush (by decide) dX3_init_46 ?_
  refine PW.newA (a + 6) 8 0 (atype := .int) u10 (by decide) ka_int (fun _ => rfl) rfl (by decide) (by omega) (Nat.le_of_ble_eq_true rfl) (Nat.le_of_ble_eq_true rfl) dX3_init_48 (fun S11 p11 q11 r11 => ?_)
  have u11 : S11.1 = a + 7 := by omega
  have w11 : At S11 a (sO 3 [fR (a + 1), fR (a + 2), fR (a + 3), fR (a + 4), fR (a + 5), fN, fI, fI]) := ⟨by rw [q11 a (by omega)]; exact w10.1, by omega⟩
  refine PW.putRA fl_X3_27 rfl (fun _ => rfl) w11 rfl (fun _ => rfl) (fun _ => rfl) dX3_init_50 (fun S12 p12 q12 r12 => ?_)
  have u12 : S12.1 = a + 7 := by omega
  have w12 : At S12 a (sO 3 [fR (a + 1), fR (a + 2), fR (a + 3), fR (a + 4), fR (a + 5), fR (a + 6), fI, fI]) := r12
  refine PW.aload_n dX3_init_53 rfl ?_
  refine PW.iconst dX3_init_54 ?_
  refine PW.putI 6 fl_X3_30 rfl (fun h => absurd h (by decide)) w12 rfl rfl rfl rfl dX3_init_55 ?_
  refine PW.aload_n dX3_init_58 rfl ?_
  refine PW.iconst dX3_init_59 ?_
  refine PW.putI 7 fl_X3_34 rfl (fun h => absurd h (by decide)) w12 rfl rfl rfl rfl dX3_init_60 ?_
  exact PW.vret rfl dX3_init_63 ⟨rfl, u12, fun b hb => ⟨by rw [q12 b (by omega), q11 b (by omega), q10 b (by omega), q9 b (by omega), q8 b (by omega), q7 b (by omega), q6 b (by omega), q5 b (by omega), q4 b (by omega), q3 b (by omega), q2 b (by omega), q1 b (by omega)], by simp [upS, show b ≠ a by omega, show b ≠ a + 1 by omega, show b ≠ a + 2 by omega, show b ≠ a + 3 by omega, show b ≠ a + 4 by omega, show b ≠ a + 5 by omega, show b ≠ a + 6 by omega]⟩, ⟨w12, ⟨by rw [q12 (a + 1) (by omega), q11 (a + 1) (by omega), q10 (a + 1) (by omega), q9 (a + 1) (by omega), q8 (a + 1) (by omega), q7 (a + 1) (by omega), q6 (a + 1) (by omega), q5 (a + 1) (by omega), q4 (a + 1) (by omega), q3 (a + 1) (by omega), q2 (a + 1) (by omega)]; exact r1.1, by omega⟩, ⟨by rw [q12 (a + 2) (by omega), q11 (a + 2) (by omega), q10 (a + 2) (by omega), q9 (a + 2) (by omega), q8 (a + 2) (by omega), q7 (a + 2) (by omega), q6 (a + 2) (by omega), q5 (a + 2) (by omega), q4 (a + 2) (by omega)]; exact r3.1, by omega⟩, ⟨by rw [q12 (a + 3) (by omega), q11 (a + 3) (by omega), q10 (a + 3) (by omega), q9 (a + 3) (by omega), q8 (a + 3) (by omega), q7 (a + 3) (by omega), q6 (a + 3) (by omega)]; exact r5.1, by omega⟩, ⟨by rw [q12 (a + 4) (by omega), q11 (a + 4) (by omega), q10 (a + 4) (by omega), q9 (a + 4) (by omega), q8 (a + 4) (by omega)]; exact r7.1, by omega⟩, ⟨by rw [q12 (a + 5) (by omega), q11 (a + 5) (by omega), q10 (a + 5) (by omega)]; exact r9.1, by omega⟩, ⟨by rw [q12 (a + 6) (by omega)]; exact r11.1, by omega⟩⟩, ⟨(by funext q; simp [upS, up1, hz]; try (repeat' split) <;> first | rfl | omega), (by funext q; simp [upS, up1, hz]; try (repeat' split) <;> first | rfl | omega), (by funext q; simp [upS, up1, hz]; try (repeat' split) <;> first | rfl | omega), (by funext q; simp [upS, up1, hz]; try (repeat' split) <;> first | rfl | omega), (by funext q; simp [upS, up1, hz]; try (repeat' split) <;> first | rfl | omega), (by funext q; simp [upS, up1, hz]; try (repeat' split) <;> first | rfl | omega), (by funext q; simp [upS, up1, hz]; try (repeat' split) <;> first | rfl | omega)⟩⟩

theorem c_X6_init {G : GT} {S : Shp} {σ : Sto} {a : Nat} (h1 : S.1 = a + 1) (hA : At S a (sO 5 [fN, fN, fI, fI, fI, fI, fI])) (hz : σ a = zF) (hb : a + 3 ≤ 1000000) : PMet G mX6_init 1 2 130 [.ref a] S σ (fun r S' τ => r = none ∧ S'.1 = a + 3 ∧ (∀ b, b < a → S'.2 b = S.2 b ∧ τ b = σ b) ∧ IsHole S' a ∧ (τ a = up1 (up1 (zF) 3 (-1)) 6 (-1) ∧ τ (a + 1) = zF ∧ τ (a + 2) = zF)) := by
  refine PMet.of [(0, .ref a)] (by decide +kernel) rfl (Nat.le_of_ble_eq_true rfl) ?_
  refine PW.aload_n dX6_init_0 rfl ?_
  refine PW.objI lo_X6 lo_in lo_co rfl (Nat.le_of_ble_eq_true rfl) ⟨Nat.le_of_ble_eq_true rfl, Nat.le_of_ble_eq_true rfl⟩ dX6_init_1 ?_
  refine PW.aload_n dX6_init_4 rfl ?_
  refine PW.bipush (by decide) dX6_init_5 ?_
  refine PW.newA (a + 1) 65 0 (atype := .int) h1 (by decide) ka_int (fun _ => rfl) rfl (by decide) (by omega) (Nat.le_of_ble_eq_true rfl) (Nat.le_of_ble_eq_true rfl) dX6_init_7 (fun S1 p1 q1 r1 => ?_)
  have u1 : S1.1 = a + 2 := by omega
  have w1 : At S1 a (sO 5 [fN, fN, fI, fI, fI, fI, fI]) := ⟨by rw [q1 a (by omega)]; exact hA.1, by omega⟩
  refine PW.putRA fl_X6_9 rfl (fun _ => rfl) w1 rfl (fun _ => rfl) (fun _ => rfl) dX6_init_9 (fun S2 p2 q2 r2 => ?_)
  have u2 : S2.1 = a + 2 := by omega
  have w2 : At S2 a (sO 5 [fR (a + 1), fN, fI, fI, fI, fI, fI]) := r2
  refine PW.aload_n dX6_init_12 rfl ?_
  refine PW.bipush (by decide) dX6_init_13 ?_
  refine PW.newA (a + 2) 65 0 (atype := .int) u2 (by decide) ka_int (fun _ => rfl) rfl (by decide) (by omega) (Nat.le_of_ble_eq_true rfl) (Nat.le_of_ble_eq_true rfl) dX6_init_15 (fun S3 p3 q3 r3 => ?_)
  have u3 : S3.1 = a + 3 := by omega
  have w3 : At S3 a (sO 5 [fR (a + 1), fN, fI, fI, fI, fI, fI]) := ⟨by rw [q3 a (by omega)]; exact w2.1, by omega⟩
  refine PW.putRA fl_X6_15 rfl (fun _ => rfl) w3 rfl (fun _ => rfl) (fun _ => rfl) dX6_init_17 (fun S4 p4 q4 r4 => ?_)
  have u4 : S4.1 = a + 3 := by omega
  have w4 : At S4 a (sO 5 [fR (a + 1), fR (a + 2), fI, fI, fI, fI, fI]) := r4
  refine PW.aload_n dX6_init_20 rfl ?_
  refine PW.iconst dX6_init_21 ?_
  refine PW.putI 2 fl_X6_18 rfl (fun h => absurd h (by decide)) w4 rfl rfl rfl rfl dX6_init_22 ?_
  refine PW.aload_n dX6_init_25 rfl ?_
  refine PW.iconst dX6_init_26 ?_
  refine PW.putI 3 fl_X6_22 rfl (fun h => absurd h (by decide)) w4 rfl rfl rfl rfl dX6_init_27 ?_
  refine PW.aload_n dX6_init_30 rfl ?_
  refine PW.iconst dX6_init_31 ?_
  refine PW.putI 4 fl_X6_25 rfl (fun h => absurd h (by decide)) w4 rfl rfl rfl rfl dX6_init_32 ?_
  refine PW.aload_n dX6_init_35 rfl ?_
  refine PW.iconst dX6_init_36 ?_
  refine PW.putI 5 fl_X6_28 rfl (fun h => absurd h (by decide)) w4 rfl rfl rfl rfl dX6_init_37 ?_
  refine PW.aload_n dX6_init_40 rfl ?_
  refine PW.iconst dX6_init_41 ?_
  refine PW.putI 6 fl_X6_31 rfl (fun h => absurd h (by decide)) w4 rfl rfl rfl rfl dX6_init_42 ?_
  exact PW.vret rfl dX6_init_45 ⟨rfl, u4, fun b hb => ⟨by rw [q4 b (by omega), q3 b (by omega), q2 b (by omega), q1 b (by omega)], by simp [upS, show b ≠ a by omega, show b ≠ a + 1 by omega, show b ≠ a + 2 by omega]⟩, ⟨w4, ⟨by rw [q4 (a + 1) (by omega), q3 (a + 1) (by omega), q2 (a + 1) (by omega)]; exact r1.1, by omega⟩, ⟨by rw [q4 (a + 2) (by omega)]; exact r3.1, by omega⟩⟩, ⟨(by funext q; simp [upS, up1, hz]; try (repeat' split) <;> first | rfl | omega), (by funext q; simp [upS, up1, hz]; try (repeat' split) <;> first | rfl | omega), (by funext q; simp [upS, up1, hz]; try (repeat' split) <;> first | rfl | omega)⟩⟩

theorem c_X10_init {G : GT} {S : Shp} {σ : Sto} {a : Nat} (h1 : S.1 = a + 1) (hA : At S a (sO 9 [fN, fN, fI, fI, fI, fI])) (hz : σ a = zF) (hb : a + 3 ≤ 1000000) : PMet G mX10_init 1 2 305 [.ref a] S σ (fun r S' τ => r = none ∧ S'.1 = a + 3 ∧ (∀ b, b < a → S'.2 b = S.2 b ∧ τ b = σ b) ∧ IsTxt S' a ∧ (τ a = up1 (zF) 4 (-1) ∧ τ (a + 1) = zF ∧ τ (a + 2) = zF)) := by
  refine PMet.of [(0, .ref a)] (by decide +kernel) rfl (Nat.le_of_ble_eq_true rfl) ?_
  refine PW.aload_n dX10_init_0 rfl ?_
  refine PW.objI lo_X10 lo_in lo_co rfl (Nat.le_of_ble_eq_true rfl) ⟨Nat.le_of_ble_eq_true rfl, Nat.le_of_ble_eq_true rfl⟩ dX10_init_1 ?_
  refine PW.aload_n dX10_init_4 rfl ?_
  refine PW.sipush (by decide) dX10_init_5 ?_
  refine PW.newA (a + 1) 300 0 (atype := .int) h1 (by decide) ka_int (fun _ => rfl) rfl (by decide) (by omega) (Nat.le_of_ble_eq_true rfl) (Nat.le_of_ble_eq_true rfl) dX10_init_8 (fun S1 p1 q1 r1 => ?_)
  have u1 : S1.1 = a + 2 := by omega
  have w1 : At S1 a (sO 9 [fN, fN, fI, fI, fI, fI]) := ⟨by rw [q1 a (by omega)]; exact hA.1, by omega⟩
  refine PW.putRA fl_X10_9 rfl (fun _ => rfl) w1 rfl (fun _ => rfl) (fun _ => rfl) dX10_init_10 (fun S2 p2 q2 r2 => ?_)
  have u2 : S2.1 = a + 2 := by omega
  have w2 : At S2 a (sO 9 [fR (a + 1), fN, fI, fI, fI, fI]) := r2
  refine PW.aload_n dX10_init_13 rfl ?_
  refine PW.iconst dX10_init_14 ?_
  refine PW.newA (a + 2) 5 0 (atype := .int) u2 (by decide) ka_int (fun _ => rfl) rfl (by decide) (by omega) (Nat.le_of_ble_eq_true rfl) (Nat.le_of_ble_eq_true rfl) dX10_init_15 (fun S3 p3 q3 r3 => ?_)
  have u3 : S3.1 = a + 3 := by omega
  have w3 : At S3 a (sO 9 [fR (a + 1), fN, fI, fI, fI, fI]) := ⟨by rw [q3 a (by omega)]; exact w2.1, by omega⟩
  refine PW.putRA fl_X10_17 rfl (fun _ => rfl) w3 rfl (fun _ => rfl) (fun _ => rfl) dX10_init_17 (fun S4 p4 q4 r4 => ?_)
  have u4 : S4.1 = a + 3 := by omega
  have w4 : At S4 a (sO 9 [fR (a + 1), fR (a + 2), fI, fI, fI, fI]) := r4
  refine PW.aload_n dX10_init_20 rfl ?_
  refine PW.iconst dX10_init_21 ?_
  refine PW.putI 2 fl_X10_20 rfl (fun h => absurd h (by decide)) w4 rfl rfl rfl rfl dX10_init_22 ?_
  refine PW.aload_n dX10_init_25 rfl ?_
  refine PW.iconst dX10_init_26 ?_
  refine PW.putI 3 fl_X10_24 rfl (fun h => absurd h (by decide)) w4 rfl rfl rfl rfl dX10_init_27 ?_
  refine PW.aload_n dX10_init_30 rfl ?_
  refine PW.iconst dX10_init_31 ?_
  refine PW.putI 4 fl_X10_27 rfl (fun h => absurd h (by decide)) w4 rfl rfl rfl rfl dX10_init_32 ?_
  refine PW.aload_n dX10_init_35 rfl ?_
  refine PW.iconst dX10_init_36 ?_
  refine PW.putI 5 fl_X10_30 rfl (fun h => absurd h (by decide)) w4 rfl rfl rfl rfl dX10_init_37 ?_
  exact PW.vret rfl dX10_init_40 ⟨rfl, u4, fun b hb => ⟨by rw [q4 b (by omega), q3 b (by omega), q2 b (by omega), q1 b (by omega)], by simp [upS, show b ≠ a by omega, show b ≠ a + 1 by omega, show b ≠ a + 2 by omega]⟩, ⟨w4, ⟨by rw [q4 (a + 1) (by omega), q3 (a + 1) (by omega), q2 (a + 1) (by omega)]; exact r1.1, by omega⟩, ⟨by rw [q4 (a + 2) (by omega)]; exact r3.1, by omega⟩⟩, ⟨(by funext q; simp [upS, up1, hz]; try (repeat' split) <;> first | rfl | omega), (by funext q; simp [upS, up1, hz]; try (repeat' split) <;> first | rfl | omega), (by funext q; simp [upS, up1, hz]; try (repeat' split) <;> first | rfl | omega)⟩⟩


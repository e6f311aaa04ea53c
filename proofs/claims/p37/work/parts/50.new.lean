theorem HW.push {G : GT} {S : Shp} {σ : Sto} {H H1 : Heap} (hP : HW G S σ H) (e : SE) (f : Int → Int) (hz : H1.size = H.size + 1) (oq : ∀ q : Nat, q < H.size → H1[q]? = H[q]?) (hb : S.1 < 1000000) (hat : va_at G.2.1 cls (gB G + S.1, rse G e f) H1) : HW G (S.1 + 1, upH S.2 S.1 e) (upS σ S.1 f) H1 := by
  refine ⟨?_, by show H1.size = gB G + (S.1 + 1); rw [hz, hP.2.1]; omega, by show S.1 + 1 ≤ 1000000; omega⟩
  rw [← wsl_push (G := G) (S := S) (S' := (S.1 + 1, upH S.2 S.1 e)) (σ := σ) (σ' := upS σ S.1 f) rfl (fun b hb => ⟨upH_ne (by omega), upS_ne (by omega)⟩)]
  refine (hP.1.kept (fun k q hq => oq q.1 ((hP.1 k q hq).lt))).app (fun k q hq => ?_)
  have hz : k < 1 := (List.getElem?_eq_some_iff.mp hq).1
  rw [show k = 0 by omega] at hq
  cases hq
  show va_at G.2.1 cls (gB G + S.1, rse G (upH S.2 S.1 e S.1) (upS σ S.1 f S.1)) H1
  rw [upH_same, upS_same]
  exact hat
theorem rv_new {G : GT} {S : Shp} (hS1 : S.1 < 1000000) : rv G (.ref S.1) = .ref (gB G + S.1) := by
  show Value.ref (ra G S.1) = _
  unfold ra
  rw [if_pos hS1]
theorem vaS_new {A : Nat → Prop} {H0 H H1 : Heap} {locs : List Loc} (hS : va_S A H0 H locs) (hz : H1.size = H.size + 1) (oq : ∀ q : Nat, q < H.size → H1[q]? = H[q]?) : va_S A H0 H1 locs :=
  ⟨Nat.le_trans hS.1 (by omega), fun x h1 h2 => (oq x (Nat.lt_of_lt_of_le h1 hS.1)).trans (hS.2.1 x h1 h2), hS.2.2⟩
section PWN
variable {x : FX} {G : GT} {S : Shp} {σ : Sto} {k n pc : Nat} {l : LV} {st : List Value} {own : String} {idx : Nat}
theorem nn_nat {N : Nat} (h : N ≤ 100000) : ¬ iI (N : Int) < 0 ∧ (iI (N : Int)).toNatClampNeg = N := by
  have hr : inR (N : Int) := ⟨by omega, by omega⟩
  refine ⟨nn_z0 hr (by omega), ?_⟩
  rw [iI_ix hr (by omega)]
  omega
theorem PW.newI (N t : Nat) {atype : ArrayType} (hN : N ≤ 100000) (harr : Cond.arrayClass (newarray.typeOf atype) ∈ gtbl) (ht : ∀ G : GT, (tys G)[t]? = some (G.2.2.1 t, newarray.typeOf atype)) (hdv : defaultValue (newarray.typeOf atype) = .int 0) (hb : N * componentBytes (newarray.typeOf atype) ≤ 536870912) (hS1 : S.1 < 1000000) (hk : k + 1 ≤ x.2.1.cells) (hn : n + N ≤ x.2.1.slots) (hd : decode x.1.2.1 pc = .ok (.newarray atype, 2))
    (kk : PW x G (S.1 + 1, upH S.2 S.1 (sA t N)) (upS σ S.1 (fun _ => 0)) (k + 1) (n + N) (pc + 2) l (.ref S.1 :: st)) : PW x G S σ k n pc l (.int (iI (N : Int)) :: st) := by
  intro p e s m args below meth c H locs ls C hP hS hl
  have hK : va_K G.2.1 cls (tys G) s := C.2.2.2.2.2.2.2.2.1.1
  obtain ⟨n0, n1⟩ := nn_nat hN
  refine va_newaK C.1 C.2.1 (C.2.2.2.2.1 _ harr) rfl hd rfl n0 n1 hb hk hn hP.2.1 fun H1 cA e1 z1 o1 hAr hNm => ?_
  have h2 := (hK.2 t _ (ht G)).2
  have h3 : s.vm.findClass ("[" ++ (newarray.typeOf atype).toString) = some (G.2.2.1 t) := by cases atype <;> exact h2
  obtain rfl : cA = G.2.2.1 t := Option.some.inj (hNm.symm.trans h3)
  rw [hdv] at e1
  have z2 : H1.size = H.size + 1 := by rw [z1, hP.2.1]
  have o2 : ∀ q : Nat, q < H.size → H1[q]? = H[q]? := fun q hq => o1 q (by rw [← hP.2.1]; exact hq)
  have h := kk p e s m args below meth c H1 locs ls C (hP.push (sA t N) (fun _ => 0) z2 o2 hS1 e1) (vaS_new hS z2 o2) hl
  rw [List.map_cons, rv_new hS1] at h
  exact h
theorem PW.newQ (N t : Nat) {C : String} (hN : N ≤ 100000) (hcl : Cond.classLink own idx C ∈ gtbl) (hao : ∀ s, Nst s → va_AO C s) (ht : ∀ G : GT, (tys G)[t]? = some (G.2.2.1 t, .object C)) (hx : x.1.1.cls = own) (hS1 : S.1 < 1000000) (hk : k + 1 ≤ x.2.1.cells) (hn : n + N ≤ x.2.1.slots) (hd : decode x.1.2.1 pc = .ok (.anewarray idx, 3))
    (kk : PW x G (S.1 + 1, upH S.2 S.1 (sQ t N (fun _ => none))) (upS σ S.1 (fun _ => 0)) (k + 1) (n + N) (pc + 3) l (.ref S.1 :: st)) : PW x G S σ k n pc l (.int (iI (N : Int)) :: st) := by
  intro p e s m args below meth c H locs ls C hP hS hl
  subst hx
  have hK : va_K G.2.1 cls (tys G) s := C.2.2.2.2.2.2.2.2.1.1
  have hN' : Nst s := C.2.2.2.2.2.2.2.2.1.2.2
  obtain ⟨n0, n1⟩ := nn_nat hN
  refine W.anew C.1 C.2.1 C.2.2.2.1 (C.2.2.2.2.1 _ hcl) (va_AO.use (hao s hN')) rfl hd rfl n0 (by rw [n1]; omega) hk (by rw [n1]; exact hn) fun cA kA comp f1 f2 f3 f4 => ?_
  rw [n1]
  obtain ⟨_, _, _, _, _, h3⟩ := (hK.2 t _ (ht G)).2
  obtain rfl : cA = G.2.2.1 t := Option.some.inj (f1.symm.trans h3)
  generalize hH1 : H.push ({ cls := G.2.2.1 t, slots := Array.replicate N .null, vm := .none } : Cell) = H1
  have z2 : H1.size = H.size + 1 := by rw [← hH1, Array.size_push]
  have e1 : H1[H.size]? = some (arrV (G.2.2.1 t) N (fun _ => .null)) := by rw [← hH1, Array.getElem?_push_size, ← arrV_new]
  have o2 : ∀ q : Nat, q < H.size → H1[q]? = H[q]? := fun q hq => by rw [← hH1, Array.getElem?_push, if_neg (Nat.ne_of_lt hq)]
  rw [hP.2.1] at e1
  have h := kk p e s m args below meth c H1 locs ls C (hP.push (sQ t N (fun _ => none)) (fun _ => 0) z2 o2 hS1 e1) (vaS_new hS z2 o2) hl
  rw [List.map_cons, rv_new hS1, ← hP.2.1] at h
  exact h
/-- the fields of a new object -/
def dfOk (ty : Nat → FieldType) (N : Nat) (fs : List (Option (Option Nat))) : Bool := (List.range N).all fun j => match defaultValue (ty j), fs[j]? with
  | .int v, some none => v == 0
  | .null, some (some none) => true
  | _, _ => false
theorem dfOk_spec {G : GT} {ty : Nat → FieldType} {N : Nat} {fs : List (Option (Option Nat))} (h : dfOk ty N fs = true) (j : Nat) (hj : j < N) : defaultValue (ty j) = vp_V (fs.mapIdx (rfd G (fun _ => 0))) j := by
  unfold dfOk at h
  have h1 := List.all_eq_true.mp h j (List.mem_range.mpr hj)
  unfold vp_V
  rw [List.getD_eq_getElem?_getD, List.getElem?_mapIdx]
  revert h1
  cases defaultValue (ty j) <;> cases fs[j]? with
  | none => intro h1; simp at h1
  | some o =>
    cases o with
    | none => intro h1; first | (simp at h1; done) | (simp at h1; rw [h1]; rfl)
    | some r =>
      cases r with
      | none => intro h1; first | (simp at h1; done) | rfl
      | some r => intro h1; simp at h1
theorem PW.newO {C : String} {T : u_T} {N ci : Nat} {ty : Nat → FieldType} (fs : List (Option (Option Nat))) (hc : cls[ci]? = some (C, T, N)) (hin : ∀ w ∈ u_ws C T N, w ∈ gtbl) (hcl : Cond.classLink own idx C ∈ gtbl) (hinst : Cond.instantiable C N ∈ gtbl) (hini : Cond.initialized C ∈ gtbl) (hty : ∀ k, k < N → parseFieldDescriptor (T k).2.2.1 = some (ty k)) (hfs : dfOk ty N fs = true) (hx : x.1.1.cls = own) (hS1 : S.1 < 1000000) (hk : k + 1 ≤ x.2.1.cells) (hn : n + N ≤ x.2.1.slots) (hd : decode x.1.2.1 pc = .ok (.new idx, 3))
    (kk : PW x G (S.1 + 1, upH S.2 S.1 (sO ci fs)) (upS σ S.1 (fun _ => 0)) (k + 1) (n + N) (pc + 3) l (.ref S.1 :: st)) : PW x G S σ k n pc l st := by
  intro p e s m args below meth c H locs ls C hP hS hl
  subst hx
  have hts : ∀ w ∈ gtbl, w.before args s = true := C.2.2.2.2.1
  have hK : va_K G.2.1 cls (tys G) s := C.2.2.2.2.2.2.2.2.1.1
  have hKn := hK.1 ci _ hc
  refine W.newcK C.1 C.2.1 C.2.2.2.1 (hts _ hcl) (hts _ hinst) (hts _ hini) rfl hd hk hn hKn.2.1 hP.2.1 fun H1 kC hkC e1 z1 o1 => ?_
  have z2 : H1.size = H.size + 1 := by rw [z1, hP.2.1]
  have o2 : ∀ q : Nat, q < H.size → H1[q]? = H[q]? := fun q hq => o1 q (by rw [← hP.2.1]; exact hq)
  have h := kk p e s m args below meth c H1 locs ls C (hP.push (sO ci fs) (fun _ => 0) z2 o2 hS1 ⟨_, hc, (u_born ty hts hin hKn hkC e1 hty).to (fun j hj => dfOk_spec hfs j hj)⟩) (vaS_new hS z2 o2) hl
  rw [List.map_cons, rv_new hS1] at h
  exact h
end PWN

-- ===== rows: calls, ends =====
section PWC
variable {x : FX} {G : GT} {S : Shp} {σ : Sto} {k n pc : Nat} {l : LV} {st : List Value}
/-- what a method needs of the tables to be called -/
def Cal (y : MY) (np : Nat) : Prop := Cond.code y.1 y.2.1 y.2.2.1 y.2.2.2 ∈ gtbl ∧ Cond.initialized y.1.cls ∈ gtbl ∧ (y.1.cls ≠ "java/lang/invoke/MethodHandle" ∧ y.1.cls ≠ "java/lang/invoke/VarHandle" ∧ (parseMethodDescriptor y.1.desc).map (fun d => d.parameters.length) = some np)
def CalV (y : MY) (np : Nat) : Prop := Cal y np ∧ Cond.instanceMethod y.1 ∈ gtbl ∧ Cond.selects y.1.cls y.1 y.1 ∈ gtbl
def CalS (y : MY) (np : Nat) : Prop := Cal y np ∧ Cond.static y.1 ∈ gtbl
def CalI (y : MY) (np : Nat) : Prop := Cal y np ∧ Cond.instanceMethod y.1 ∈ gtbl ∧ y.1.name = "<init>" ∧ y.2.2.2 = none
/-- how the class own links it: by itself, or as a nest mate -/
def Lnk (own : String) (idx : Nat) (y : MY) : Prop := Cond.methodLink own idx y.1 ∈ gtbl ∨ ∃ host, Cond.methodLinkNest own idx y.1 host ∈ lw_tbl
theorem gt_in {y : MY} (h : Cond.code y.1 y.2.1 y.2.2.1 y.2.2.2 ∈ gtbl) : GoodIn gtbl (Cond.code y.1 y.2.1 y.2.2.1 y.2.2.2 :: gtbl) := by
  intro w hw
  rcases List.mem_cons.mp hw with h1 | h1
  · rw [h1]; exact ⟨h, gt_good _ h⟩
  · exact ⟨h1, gt_good _ h1⟩
theorem Pc_blind {G : GT} {S : Shp} {σ : Sto} {as : List Value} : FrameBlind (fun v U => v = (as.map (rv G)).toArray ∧ SF G U ∧ HW G S σ U.heap) := fun a U g mk h => ⟨h.1, h.2.1.calling g mk a, h.2.2⟩
/-- behind a call, whatever its kind -/
theorem PW.back {p : Program} {e : Env} {s : State} {m : MethodId} {args : Array Value} {below : List Frame} {meth : Method} {c : Code} {H : Heap} {locs : List Loc} {ls : Array Slot} {mc ms : Nat} {st0 : List Value} {a : Array Value} {Q : Option Value → Shp → Sto → Prop}
    (C : Cx x G p s m args meth c) (hS : va_S (AA G) s.heap H locs) (hl : lv_has ls x.1.2.2.1 (rl G l)) (hr : va_Run p G.1 e x.2.1 s m args below meth c H locs k n mc ms (F0 m pc ls st0) (st.map (rv G)) (Post G Q a) (AA G))
    (kk : ∀ (r : Option Value) (S' : Shp) (σ' : Sto), Q r S' σ' → PW x G S' σ' (k + mc) (n + ms) (pc + 3) l (r.toList ++ st)) : W p G.1 e x.2.1 s m args below meth c H locs k n (x.2.2 below args s) (F0 m pc ls st0) := by
  intro T hT X
  obtain ⟨v, st₀, t, T', L, h0, X', hL, e1, e2, ⟨⟨r, S', σ', hQ, hv, hW⟩, hz, hk⟩, stp⟩ := hr T hT X
  have hv' : v = r.map (rv G) := by
    have := Outcome.returned.inj hv
    exact this
  subst hv'
  rw [h0] at hz hk
  have hH : HW G S' σ' T'.heap := by rw [e1]; exact hW
  obtain ⟨t2, a1, b1⟩ := kk r S' σ' hQ p e s m args below meth c T'.heap (locs ++ L) ls C hH
    ⟨Nat.le_trans hS.1 (by rw [e1]; exact hz), fun q h1 h2 => by rw [e1, hk q (Nat.lt_of_lt_of_le h1 hS.1) h2]; exact hS.2.1 q h1 h2, fun q hq => by
      rcases List.mem_append.mp hq with h | h
      · exact hS.2.2 q h
      · exact hL q h⟩ hl T' rfl X'
  refine ⟨t2, stp t2 ?_, b1⟩
  cases r <;> exact a1
theorem sum_cat {G : GT} {st : List Value} (h : (st.map fun v => v.category).sum ≤ 8) : ((st.map (rv G)).map fun v => v.category).sum ≤ 8 := by
  rw [List.map_map]
  have e : ((fun v => v.category) ∘ rv G) = fun v : Value => v.category := funext fun v => rv_cat G v
  rw [e]
  exact h
theorem PW.callV {y : MY} {d mc ms np idx ci a : Nat} {own : String} {as : List Value} {fs : List (Option (Option Nat))} {Q : Option Value → Shp → Sto → Prop} {stk : List Value} {Tc : u_T} {Nc : Nat}
    (hM : PMet G y d mc ms (.ref a :: as) S σ Q) (hc : CalV y np) (hlk : Lnk own idx y) (hx : x.1.1.cls = own) (hA : At S a (sO ci fs)) (hcl : cls[ci]? = some (y.1.cls, Tc, Nc)) (hnp : as.length = np) (hstk : stk = as.reverse ++ .ref a :: st) (hcat : (st.map fun v => v.category).sum ≤ 8)
    (hR : d + 1 ≤ x.2.1.frames ∧ 8 + (y.2.2.1 + 11) + 40 * d ≤ x.2.1.locals) (hf : k + mc ≤ x.2.1.cells ∧ n + ms ≤ x.2.1.slots) (hd : decode x.1.2.1 pc = .ok (.invokevirtual idx, 3))
    (kk : ∀ (r : Option Value) (S' : Shp) (σ' : Sto), Q r S' σ' → PW x G S' σ' (k + mc) (n + ms) (pc + 3) l (r.toList ++ st)) : PW x G S σ k n pc l stk := by
  intro p e s m args below meth c H locs ls C hP hS hl
  obtain ⟨hs, ha⟩ := hA
  subst hstk
  subst hx
  have hts : ∀ w ∈ gtbl, w.before args s = true := C.2.2.2.2.1
  have he := wsl_at (G := G) (S := S) (σ := σ) ha
  rw [hs, rse_obj] at he
  have hr : rv G (.ref a) = .ref (gB G + a) := by show Value.ref (ra G a) = _; rw [hP.lt ha]
  have hrc := va_recv (q := (y.1.cls, Tc, Nc)) C.2.2.2.2.2.2.2.2.1.1 hP.1 hcl he
  have hfix : CallFix p m c x.1.2.1 x.1.2.2.1 s args gtbl x.1.1.cls := ⟨C.1, C.2.1, C.2.2.1, C.2.2.2.1, hts⟩
  have hpre : PreV s H y.1.cls (gB G + a) (fun v U => v = ((Value.ref a :: as).map (rv G)).toArray ∧ SF G U ∧ HW G S σ U.heap) (as.map (rv G)) :=
    ⟨Pc_blind, hrc, fun U hU hW => ⟨by rw [List.map_cons, hr], C.2.2.2.2.2.2.2.2.1.warm hS hU hW, by rw [hU]; exact hP⟩⟩
  have hst : (as.reverse ++ Value.ref a :: st).map (rv G) = (as.map (rv G)).reverse ++ .ref (gB G + a) :: st.map (rv G) := by
    rw [List.map_append, List.map_cons, hr, List.map_reverse]
  rw [hst]
  rcases hlk with hlk | ⟨host, hlk⟩
  · have cw : CallW x.2.1 s args x.1.1.cls y.1.cls idx y.1 y.2.1 y.2.2.1 y.2.2.2 (Cond.code y.1 y.2.1 y.2.2.1 y.2.2.2 :: gtbl) (rmd d mc ms) mc ms np := ⟨callB_of np hts (gt_in hc.1.1) rfl rfl rfl (hts _ hc.1.2.1) (hts _ hlk) hc.1.2.2 hR, hts _ hc.2.1, hts _ hc.2.2⟩
    exact PW.back C hS hl (va_runV hfix hM cw hpre rfl (by rw [List.length_map]; exact hnp) hl.1 rfl (lv_room (sum_cat hcat)) hd hf) kk
  · have cw : va_CN x.2.1 s args x.1.1.cls idx y.1 host y.2.1 y.2.2.1 y.2.2.2 (Cond.code y.1 y.2.1 y.2.2.1 y.2.2.2 :: gtbl) (rmd d mc ms) mc ms np := va_cnB np hts (gt_in hc.1.1) rfl rfl rfl (C.2.2.2.2.2.2.2.2.1.2.2.1 _ hlk rfl) (hts _ hc.1.2.1) hc.1.2.2 hR
    exact PW.back C hS hl (va_runVN hfix hM ⟨cw, hts _ hc.2.1, hts _ hc.2.2⟩ hpre rfl (by rw [List.length_map]; exact hnp) hl.1 rfl (lv_room (sum_cat hcat)) hd hf) kk
theorem PW.callS {y : MY} {d mc ms np idx : Nat} {own : String} {as : List Value} {Q : Option Value → Shp → Sto → Prop} {stk : List Value}
    (hM : PMet G y d mc ms as S σ Q) (hc : CalS y np) (hlk : Lnk own idx y) (hx : x.1.1.cls = own) (hnp : as.length = np) (hstk : stk = as.reverse ++ st) (hcat : (st.map fun v => v.category).sum ≤ 8)
    (hR : d + 1 ≤ x.2.1.frames ∧ 8 + (y.2.2.1 + 11) + 40 * d ≤ x.2.1.locals) (hf : k + mc ≤ x.2.1.cells ∧ n + ms ≤ x.2.1.slots) (hd : decode x.1.2.1 pc = .ok (.invokestatic idx, 3))
    (kk : ∀ (r : Option Value) (S' : Shp) (σ' : Sto), Q r S' σ' → PW x G S' σ' (k + mc) (n + ms) (pc + 3) l (r.toList ++ st)) : PW x G S σ k n pc l stk := by
  intro p e s m args below meth c H locs ls C hP hS hl
  subst hstk
  subst hx
  have hts : ∀ w ∈ gtbl, w.before args s = true := C.2.2.2.2.1
  have hfix : CallFix p m c x.1.2.1 x.1.2.2.1 s args gtbl x.1.1.cls := ⟨C.1, C.2.1, C.2.2.1, C.2.2.2.1, hts⟩
  have hpre : PreS s H (fun v U => v = (as.map (rv G)).toArray ∧ SF G U ∧ HW G S σ U.heap) (as.map (rv G)) :=
    ⟨Pc_blind, fun U hU hW => ⟨rfl, C.2.2.2.2.2.2.2.2.1.warm hS hU hW, by rw [hU]; exact hP⟩⟩
  have hst : (as.reverse ++ st).map (rv G) = (as.map (rv G)).reverse ++ st.map (rv G) := by rw [List.map_append, List.map_reverse]
  rw [hst]
  rcases hlk with hlk | ⟨host, hlk⟩
  · have cw : CallB x.2.1 s args x.1.1.cls idx y.1 y.2.1 y.2.2.1 y.2.2.2 (Cond.code y.1 y.2.1 y.2.2.1 y.2.2.2 :: gtbl) (rmd d mc ms) mc ms np := callB_of np hts (gt_in hc.1.1) rfl rfl rfl (hts _ hc.1.2.1) (hts _ hlk) hc.1.2.2 hR
    exact PW.back C hS hl (va_runS hfix hM ⟨cw, hts _ hc.2⟩ hpre rfl (by rw [List.length_map]; exact hnp) hl.1 rfl (lv_room (sum_cat hcat)) hd hf) kk
  · have cw : va_CN x.2.1 s args x.1.1.cls idx y.1 host y.2.1 y.2.2.1 y.2.2.2 (Cond.code y.1 y.2.1 y.2.2.1 y.2.2.2 :: gtbl) (rmd d mc ms) mc ms np := va_cnB np hts (gt_in hc.1.1) rfl rfl rfl (C.2.2.2.2.2.2.2.2.1.2.2.1 _ hlk rfl) (hts _ hc.1.2.1) hc.1.2.2 hR
    exact PW.back C hS hl (va_runSN hfix hM ⟨cw, hts _ hc.2, trivial⟩ hpre rfl (by rw [List.length_map]; exact hnp) hl.1 rfl (lv_room (sum_cat hcat)) hd hf) kk
theorem PW.callI {y : MY} {d mc ms np idx a : Nat} {own : String} {as : List Value} {Q : Option Value → Shp → Sto → Prop} {stk : List Value}
    (hM : PMet G y d mc ms (.ref a :: as) S σ Q) (hc : CalI y np) (hlk : Lnk own idx y) (hx : x.1.1.cls = own) (ha : a < S.1) (hnp : as.length = np) (hstk : stk = as.reverse ++ .ref a :: st) (hcat : (st.map fun v => v.category).sum ≤ 8)
    (hR : d + 1 ≤ x.2.1.frames ∧ 8 + (y.2.2.1 + 11) + 40 * d ≤ x.2.1.locals) (hf : k + mc ≤ x.2.1.cells ∧ n + ms ≤ x.2.1.slots) (hd : decode x.1.2.1 pc = .ok (.invokespecial idx, 3))
    (kk : ∀ (r : Option Value) (S' : Shp) (σ' : Sto), Q r S' σ' → PW x G S' σ' (k + mc) (n + ms) (pc + 3) l (r.toList ++ st)) : PW x G S σ k n pc l stk := by
  intro p e s m args below meth c H locs ls C hP hS hl
  subst hstk
  subst hx
  have hts : ∀ w ∈ gtbl, w.before args s = true := C.2.2.2.2.1
  have hr : rv G (.ref a) = .ref (gB G + a) := by show Value.ref (ra G a) = _; rw [hP.lt ha]
  have hfix : CallFix p m c x.1.2.1 x.1.2.2.1 s args gtbl x.1.1.cls := ⟨C.1, C.2.1, C.2.2.1, C.2.2.2.1, hts⟩
  have hpre : PreS s H (fun v U => v = ((Value.ref a :: as).map (rv G)).toArray ∧ SF G U ∧ HW G S σ U.heap) (.ref (gB G + a) :: as.map (rv G)) :=
    ⟨Pc_blind, fun U hU hW => ⟨by rw [List.map_cons, hr], C.2.2.2.2.2.2.2.2.1.warm hS hU hW, by rw [hU]; exact hP⟩⟩
  have hst : (as.reverse ++ Value.ref a :: st).map (rv G) = (as.map (rv G)).reverse ++ .ref (gB G + a) :: st.map (rv G) := by
    rw [List.map_append, List.map_cons, hr, List.map_reverse]
  rw [hst]
  obtain ⟨hca, hin, hnm, hno⟩ := hc
  have hM' := hM
  unfold PMet at hM'
  rcases hlk with hlk | ⟨host, hlk⟩
  · have cw : CallB x.2.1 s args x.1.1.cls idx y.1 y.2.1 y.2.2.1 none (Cond.code y.1 y.2.1 y.2.2.1 y.2.2.2 :: gtbl) (rmd d mc ms) mc ms np := by
      rw [← hno]
      exact callB_of np hts (gt_in hca.1) rfl rfl rfl (hts _ hca.2.1) (hts _ hlk) hca.2.2 hR
    exact PW.back C hS hl (va_runI hfix hM' ⟨cw, hnm, hts _ hin⟩ hpre rfl (by rw [List.length_map]; exact hnp) hl.1 rfl (lv_room (sum_cat hcat)) hd hf) kk
  · have cw : va_CN x.2.1 s args x.1.1.cls idx y.1 host y.2.1 y.2.2.1 none (Cond.code y.1 y.2.1 y.2.2.1 y.2.2.2 :: gtbl) (rmd d mc ms) mc ms np := by
      rw [← hno]
      exact va_cnB np hts (gt_in hca.1) rfl rfl rfl (C.2.2.2.2.2.2.2.2.1.2.2.1 _ hlk rfl) (hts _ hca.2.1) hca.2.2 hR
    exact PW.back C hS hl (va_runIN hfix hM' ⟨cw, hnm, hts _ hin⟩ hpre rfl (by rw [List.length_map]; exact hnp) hl.1 rfl (lv_room (sum_cat hcat)) hd hf) kk
theorem PW.objI {a idx : Nat} {own : String} (hlk : Cond.methodLink own idx Lib.objectInit ∈ gtbl) (hin : Cond.instanceMethod Lib.objectInit ∈ gtbl) (hco : Cond.code Lib.objectInit ⟨#[0xb1]⟩ 1 none ∈ gtbl) (hx : x.1.1.cls = own) (hcat : (st.map fun v => v.category).sum ≤ 8) (hR : 1 ≤ x.2.1.frames ∧ 20 ≤ x.2.1.locals) (hd : decode x.1.2.1 pc = .ok (.invokespecial idx, 3))
    (kk : PW x G S σ k n (pc + 3) l st) : PW x G S σ k n pc l (.ref a :: st) := by
  intro p e s m args below meth c H locs ls C hP hS hl
  subst hx
  have hts : ∀ w ∈ gtbl, w.before args s = true := C.2.2.2.2.1
  refine W.objInit (a := ra G a) (rest := st.map (rv G)) C.1 C.2.1 C.2.2.2.1 (hts _ hlk) (hts _ hin) (hts _ hco) rfl (by rw [C.2.2.1]; exact hl.1) rfl hd hR.1 ?_ ?_
  · have h1 := sum_cat (G := G) hcat
    show 2 * 0 + _ + 12 ≤ _
    omega
  · exact W.eq (g2 := F0 m (pc + 3) ls (st.map (rv G))) rfl (kk p e s m args below meth c H locs ls C hP hS hl)
-- ends
theorem PW.iret {y : MY} {d mc ms : Nat} {Q : Option Value → Shp → Sto → Prop} {v : Int} {ty : FieldType} (hr : y.2.2.2 = some ty) (hn : narrow ty (.int (iI v)) = .int (iI v)) (hd : decode y.2.1 pc = .ok (.ireturn, 1)) (hQ : Q (some (.int (iI v))) S σ) : PW (fm G y d mc ms Q) G S σ mc ms pc l [.int (iI v)] := by
  intro p e s m args below meth c H locs ls C hP hS hl
  exact W.zret C.1 C.2.1 (C.2.2.2.2.2.1.trans hr) hn (fun t ht hW => ⟨⟨some (.int (iI v)), S, σ, hQ, rfl, by rw [ht]; exact hP⟩, hS.F ht⟩) hS.2.2 hd C.2.2.2.2.2.2.1
theorem PW.vret {y : MY} {d mc ms : Nat} {Q : Option Value → Shp → Sto → Prop} (hr : y.2.2.2 = none) (hd : decode y.2.1 pc = .ok (.return_, 1)) (hQ : Q none S σ) : PW (fm G y d mc ms Q) G S σ mc ms pc l [] := by
  intro p e s m args below meth c H locs ls C hP hS hl
  exact W.vret C.1 C.2.1 (C.2.2.2.2.2.1.trans hr) (fun t ht hW => ⟨⟨none, S, σ, hQ, rfl, by rw [ht]; exact hP⟩, hS.F ht⟩) hS.2.2 hd C.2.2.2.2.2.2.1
theorem PW.aret {y : MY} {d mc ms a : Nat} {Q : Option Value → Shp → Sto → Prop} {nm : String} (hr : y.2.2.2 = some (.object nm)) (hd : decode y.2.1 pc = .ok (.areturn, 1)) (hQ : Q (some (.ref a)) S σ) : PW (fm G y d mc ms Q) G S σ mc ms pc l [.ref a] := by
  intro p e s m args below meth c H locs ls C hP hS hl
  exact W.aret C.1 C.2.1 (C.2.2.2.2.2.1.trans hr) (Or.inl ⟨_, rfl⟩) (Or.inr ⟨_, rfl⟩) (fun t ht hW => ⟨⟨some (.ref a), S, σ, hQ, rfl, by rw [ht]; exact hP⟩, hS.F ht⟩) hS.2.2 hd C.2.2.2.2.2.2.1
/-- the end is told: this answer, this world -/
abbrev isP (r0 : Option Value) (S0 : Shp) (σ0 : Sto) : Option Value → Shp → Sto → Prop := fun r S' σ' => r = r0 ∧ S' = S0 ∧ σ' = σ0
theorem PMet.weaken {y : MY} {d mc ms : Nat} {as : List Value} {Q Q' : Option Value → Shp → Sto → Prop} (h : PMet G y d mc ms as S σ Q) (hq : ∀ r S' σ', Q r S' σ' → Q' r S' σ') : PMet G y d mc ms as S σ Q' := by
  unfold PMet Met at h ⊢
  intro p e ha hc hk s m args below hf happ hP hK
  obtain ⟨t, o, h1, h2, h3, ⟨⟨r, S', σ', h4, h5⟩, h6⟩, h7⟩ := h p e ha hc hk s m args below hf happ hP hK
  exact ⟨t, o, h1, h2, h3, ⟨⟨r, S', σ', hq _ _ _ h4, h5⟩, h6⟩, h7⟩
end PWC

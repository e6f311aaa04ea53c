def R_law : String := "HillLandLaw"
def lw_P (b : Addr) (xs : List Int32) (args : Array Value) (s : State) : Prop := args = #[.ref b] ∧ s.IntsAt b xs ∧ xs.length ≤ 260 ∧ (Jvm.Cond.and given_1 narrow_1).before args s = true
def lw_Q (_ : Array Value) (s : State) (o : Outcome) (t : State) : Prop := o = .returned (some (.int 1)) ∧ Framed s o t [] 600000 7302250
def lw_Z (below : List Frame) (a : Array Value) (s : State) : State → Prop := fun t => ∃ o, t.status = .running ∧ Ended t below o ∧ lw_Q a s o t
/-- the law's own end, with 1 on the stack, nothing written that was there before, its room as the claim has it -/
theorem lw_ret {p : Program} {l : Launch} {e : Env} {s : State} {m : MethodId} {below : List Frame} {meth : Method} {c : Code} {b : Nat} (hx : p.tables.exec = Jvm.exec) (hb : c.code = code) (hr : meth.sig.returnType = ret) (hlocks : meth.locks = false) {pc : Nat} {H : Heap} {ls : Array Slot} (hdg : decode code pc = .ok (.ireturn, 1)) : W p l e room_1 s m #[Value.ref b] below meth c H [] 600000 7302250 (lw_Z below #[Value.ref b] s) (F0 m pc ls [.int 1]) := by
  intro T hT X
  obtain ⟨fs, hret, hrun, hended, hW, hframe⟩ := X.leave (v := some (.int 1)) (hlocks := hlocks) (fun h => by rw [hr] at h; cases h)
  have hmeth' : T.vm.method? m = some meth := X.method'
  refine ⟨T.setFrames fs, ?_, .returned (some (.int 1)), hrun, hended, rfl, ⟨_, rfl⟩, hW, hframe⟩
  jvm_step X.here [X.here.top, hx, hb, hdg, hmeth', hr, ret, narrow_b1]
  (try refine ⟨rfl, ?_⟩); (try refine ⟨rfl, ?_⟩)
  first | (intro acts; rw [hret _ acts rfl rfl rfl]) | rw [hret _ _ rfl rfl rfl]
  exact Steps.refl _
/-- what holds at the law's entry: the machine, the code, the tables' words (any of lw_tbl by 'hts w (by decide +kernel)'), the script of L ints xs at the cell b, what the Statement gives of the start (any of its parts by flat_of_before) -/
def lw_At (p : Program) (s : State) (m : MethodId) (meth : Method) (c : Code) (b L : Nat) (xs : Nat → Int32) : Prop :=
  p.tables.exec = Jvm.exec ∧ c.code = code ∧ meth.sig.returnType = ret ∧ c.maxLocals = 20 ∧ s.vm.findClass R_law = some m.cls ∧ (∀ w ∈ lw_tbl, w.before #[Value.ref b] s = true) ∧ va_X b L xs s s.heap ∧ b < s.heap.size ∧ meth.locks = false ∧ (Jvm.Cond.and given_1 narrow_1).before #[Value.ref b] s = true
def mL_law : MY := (yL_law, code, 20, ret)
/-- the law's end, over a script that stands at b -/
def LZ (b g0 : Nat) : List Frame → Array Value → State → State → Prop := fun below args s t => args = #[Value.ref b] ∧ s.heap.size = g0 → lw_Z below #[Value.ref b] s t
abbrev xL (b g0 : Nat) : FX := (mL_law, room_1, LZ b g0)
section PLW
variable {G : GT} {S : Shp} {σ : Sto} {k n pc : Nat} {l : LV} {st : List Value} {b : Nat}
theorem PL_triv {p : Program} {e : Env} {s : State} {m : MethodId} {args : Array Value} {below : List Frame} {meth : Method} {c : Code} {H : Heap} {locs : List Loc} {la : Launch} {g : JFrame} (hX : ¬ (args = #[Value.ref b] ∧ s.heap.size = gB G)) : W p la e room_1 s m args below meth c H locs k n (LZ b (gB G) below args s) g := fun T _ _ => ⟨_, Steps.refl _, fun q => absurd q hX⟩
theorem PW.lend (hk : k ≤ 600000) (hn : n ≤ 7302250) : PW (xL b (gB G)) G S σ k n 1234 l [.int (iI 1)] := by
  intro p e s m args below meth c H locs ls C hP hS hl
  by_cases hX : args = #[Value.ref b] ∧ s.heap.size = gB G
  · obtain ⟨h2, h3⟩ := hX
    subst h2
    have k1 : W p G.1 e room_1 s m #[Value.ref b] below meth c H locs k n (lw_Z below #[Value.ref b] s) (F0 m 1234 ls [.int 1]) := by
      refine va_forget (fun q hq => by rw [h3]; exact hS.2.2 q hq) ?_
      refine W.widen (k := 600000) (n := 7302250) hk hn ?_
      exact lw_ret C.1 C.2.1 C.2.2.2.2.2.1 C.2.2.2.2.2.2.1 dL_law_1234
    intro T hT X
    obtain ⟨t, a1, a2⟩ := k1 T hT X
    exact ⟨t, a1, fun _ => a2⟩
  · exact PL_triv hX
/-- a row of the law's bytes, as the rules ask for it -/
theorem eL {g0 : Nat} {r : _} (h : decode code pc = r) : decode (xL b g0).1.2.1 pc = r := h
theorem lawC {g0 : Nat} (h : k ≤ 100000) : k + 0 ≤ (xL b g0).2.1.cells := by
  show k + 0 ≤ 600000
  omega
theorem lawS {g0 : Nat} (h : n ≤ 1000000) : n + 0 ≤ (xL b g0).2.1.slots := by
  show n + 0 ≤ 7302250
  omega
end PLW

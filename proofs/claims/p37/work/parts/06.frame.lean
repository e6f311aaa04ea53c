-- ===== pure shapes and stores, and the machine's heap as their picture =====
abbrev SE : Type := (Nat × Nat) ⊕ (Nat × Nat × (Nat → Option Nat)) ⊕ (Nat × List (Option (Option Nat)))
/-- whole numbers as ints of the machine -/
def iI (z : Int) : Int32 := Int32.ofInt z
def inR (z : Int) : Prop := -2147483648 ≤ z ∧ z ≤ 2147483647
theorem iI_toInt {z : Int} (h : inR z) : (iI z).toInt = z := Int32.toInt_ofInt_of_le h.1 (by have := h.2; omega)
theorem iI_of (v : Int32) : iI v.toInt = v := Int32.ofInt_toInt v
theorem inR_of (v : Int32) : inR v.toInt := ⟨Int32.le_toInt v, by have := Int32.toInt_lt v; omega⟩
theorem iI_add (a b : Int) : iI a + iI b = iI (a + b) := (Int32.ofInt_add a b).symm
theorem iI_sub (a b : Int) : iI a - iI b = iI (a - b) := (Int32.ofInt_sub a b).symm
theorem iI_mul (a b : Int) : iI a * iI b = iI (a * b) := (Int32.ofInt_mul a b).symm
theorem iI_neg (a : Int) : -iI a = iI (-a) := (Int32.ofInt_neg a).symm
theorem iI_lt {a b : Int} (ha : inR a) (hb : inR b) : iI a < iI b ↔ a < b := by rw [Int32.lt_iff_toInt_lt, iI_toInt ha, iI_toInt hb]
theorem iI_le {a b : Int} (ha : inR a) (hb : inR b) : iI a ≤ iI b ↔ a ≤ b := by rw [Int32.le_iff_toInt_le, iI_toInt ha, iI_toInt hb]
theorem iI_eq {a b : Int} (ha : inR a) (hb : inR b) : iI a = iI b ↔ a = b := by rw [← Int32.toInt_inj, iI_toInt ha, iI_toInt hb]
theorem iI_0 : (0 : Int32) = iI 0 := rfl
theorem inR_0 : inR 0 := ⟨by decide, by decide⟩
theorem iI_ix {z : Int} (h : inR z) (h0 : 0 ≤ z) : (iI z).toNatClampNeg = z.toNat := by
  show (iI z).toInt.toNat = z.toNat
  rw [iI_toInt h]
theorem iI_in {z : Int} {N : Nat} (h : inR z) (h0 : 0 ≤ z) (h1 : z < N) : vp_in (iI z) N := vp_in_iff.mpr (by rw [iI_toInt h]; exact ⟨h0, h1⟩)
abbrev Sto : Type := Nat → Int → Int
abbrev Shp : Type := Nat × (Nat → SE)
abbrev sA (t n : Nat) : SE := .inl (t, n)
abbrev sQ (t n : Nat) (f : Nat → Option Nat) : SE := .inr (.inl (t, n, f))
abbrev sO (ci : Nat) (fs : List (Option (Option Nat))) : SE := .inr (.inr (ci, fs))
abbrev fI : Option (Option Nat) := none
abbrev fN : Option (Option Nat) := some none
abbrev fR (a : Nat) : Option (Option Nat) := some (some a)
abbrev GT : Type := Launch × va_G × (Nat → ClassId) × Nat × (Nat → Nat)
def gB (G : GT) : Nat := G.2.2.2.1
def AA (G : GT) : Nat → Prop := fun q => gB G ≤ q
def ra (G : GT) (i : Nat) : Nat := if i < 1000000 then gB G + i else G.2.2.2.2 (i - 1000000)
def rv (G : GT) : Value → Value
  | .ref i => .ref (ra G i)
  | v => v
def rfd (G : GT) (f : Int → Int) (k : Nat) (o : Option (Option Nat)) : Value := match o with
  | none => .int (iI (f (k : Int)))
  | some r => va_rf (r.map (ra G))
def rse (G : GT) (e : SE) (f : Int → Int) : va_E := match e with
  | .inl q => .inl (G.2.2.1 q.1, q.2, .inl (fun j : Nat => iI (f (j : Int))))
  | .inr (.inl q) => .inl (G.2.2.1 q.1, q.2.1, .inr (.inr (.inr (.inr (fun j => (q.2.2 j).map (ra G))))))
  | .inr (.inr q) => .inr (q.1, q.2.mapIdx (rfd G f))
def wsl (G : GT) (S : Shp) (σ : Sto) : va_W := (List.range S.1).map fun i => (gB G + i, rse G (S.2 i) (σ i))
def upS (σ : Sto) (a : Nat) (f : Int → Int) : Sto := fun b => if b = a then f else σ b
def upH (h : Nat → SE) (a : Nat) (e : SE) : Nat → SE := fun b => if b = a then e else h b
def up1 (f : Int → Int) (i : Int) (x : Int) : Int → Int := fun j => if j = i then x else f j
/-- what stands at an address, and that it is one -/
def At (S : Shp) (a : Nat) (e : SE) : Prop := S.2 a = e ∧ a < S.1
theorem upS_same (σ : Sto) (a : Nat) (f : Int → Int) : upS σ a f a = f := by simp [upS]
theorem upS_ne {σ : Sto} {a b : Nat} {f : Int → Int} (h : b ≠ a) : upS σ a f b = σ b := by simp [upS, h]
theorem upH_same (h : Nat → SE) (a : Nat) (e : SE) : upH h a e a = e := by simp [upH]
theorem upH_ne {h : Nat → SE} {a b : Nat} {e : SE} (hn : b ≠ a) : upH h a e b = h b := by simp [upH, hn]
theorem wsl_at {G : GT} {S : Shp} {σ : Sto} {i : Nat} (h : i < S.1) : (wsl G S σ)[i]? = some (gB G + i, rse G (S.2 i) (σ i)) := by
  simp [wsl, List.getElem?_map, List.getElem?_range h]
theorem wsl_ge {G : GT} {S : Shp} {σ : Sto} {i : Nat} (h : ¬ i < S.1) : (wsl G S σ)[i]? = none := by
  have hh : S.1 ≤ i := Nat.le_of_not_lt h
  simp [wsl, List.getElem?_eq_none, hh]
theorem wsl_set {G : GT} {S S' : Shp} {σ σ' : Sto} {a : Nat} (ha : a < S.1) (h1 : S'.1 = S.1) (h2 : ∀ b, b ≠ a → S'.2 b = S.2 b ∧ σ' b = σ b) : (wsl G S σ).set a (gB G + a, rse G (S'.2 a) (σ' a)) = wsl G S' σ' := by
  apply List.ext_getElem?
  intro i
  rw [List.getElem?_set]
  have hlen : (wsl G S σ).length = S.1 := by simp [wsl]
  by_cases hi : a = i
  · subst hi
    rw [if_pos rfl, if_pos (by rw [hlen]; exact ha), wsl_at (by rw [h1]; exact ha)]
  · rw [if_neg hi]
    by_cases hl : i < S.1
    · rw [wsl_at hl, wsl_at (by rw [h1]; exact hl), (h2 i (Ne.symm hi)).1, (h2 i (Ne.symm hi)).2]
    · rw [wsl_ge hl, wsl_ge (by rw [h1]; exact hl)]
theorem wsl_push {G : GT} {S S' : Shp} {σ σ' : Sto} (h1 : S'.1 = S.1 + 1) (h2 : ∀ b, b < S.1 → S'.2 b = S.2 b ∧ σ' b = σ b) : wsl G S σ ++ [(gB G + S.1, rse G (S'.2 S.1) (σ' S.1))] = wsl G S' σ' := by
  have e : wsl G S' σ' = (List.range S.1).map (fun i => (gB G + i, rse G (S'.2 i) (σ' i))) ++ [(gB G + S.1, rse G (S'.2 S.1) (σ' S.1))] := by
    simp [wsl, h1, List.range_succ]
  rw [e]
  congr 1
  apply List.map_congr_left
  intro i hi
  rw [(h2 i (List.mem_range.mp hi)).1, (h2 i (List.mem_range.mp hi)).2]
theorem wsl_D {G : GT} {S : Shp} {σ : Sto} : va_D (AA G) (wsl G S σ) := by
  have key : ∀ (i : Nat) (q : Nat × va_E), (wsl G S σ)[i]? = some q → q.1 = gB G + i := by
    intro i q h
    by_cases hl : i < S.1
    · rw [wsl_at hl] at h
      cases h
      rfl
    · rw [wsl_ge hl] at h
      cases h
  refine ⟨fun i j p q hp hq e => ?_, fun k q h => ?_⟩
  · rw [key i p hp, key j q hq] at e
    omega
  · rw [key k q h]
    exact Nat.le_add_right _ _
def tys (G : GT) : List (ClassId × FieldType) := [(G.2.2.1 0, .int), (G.2.2.1 1, .int), (G.2.2.1 2, .boolean), (G.2.2.1 3, .object "HillLand$Tale"), (G.2.2.1 4, .object "HillLand$Tale"), (G.2.2.1 5, .object "HillLand$Column")]
abbrev lenK : List Nat := [3, 4, 4, 5, 3, 4, 1, 1]
abbrev bytK : List (List Int32) := [[108, 97, 121], [116, 105, 108, 116], [102, 111, 108, 100], [98, 114, 101, 97, 107], [99, 117, 116], [100, 121, 107, 101], [120], [121]]
abbrev tabK (k : Nat) : List Int32 := match k with
  | 0 => [2, 2, 4, 4, 3, 5]
  | 1 => [1, 0, 1, 2, 0, 4]
  | 2 => [0, 1, 0, 0, 0, -8, -8, 0, 0, 0, 0, -8, 2, 0, 0, 0, 0, -16, -2, 0, -30, -8, -8, 0, 0, 0, 0, 0, 0, -40]
  | _ => [14, 8, 0, 0, 0, 8, 8, 0, 0, 0, 1, 8, 8, 7, 0, 1, 7, 16, 2, 0, 39, 8, 8, 0, 0, 14, 1, 7, 7, 39]
abbrev nmT (k : Nat) : String := match k with
  | 0 => "MANY"
  | 1 => "MAIN"
  | 2 => "LEAST"
  | _ => "GREATEST"
abbrev ownK (k : Nat) : String × Nat × String := match k with
  | 0 => ("HillLand$Kinds", 40, "lay")
  | 1 => ("HillLand$Kinds", 42, "tilt")
  | 2 => ("HillLand$Kinds", 44, "fold")
  | 3 => ("HillLand$Kinds", 46, "break")
  | 4 => ("HillLand$Kinds", 48, "cut")
  | 5 => ("HillLand$Kinds", 50, "dyke")
  | 6 => ("HillLand$Text", 96, "x")
  | _ => ("HillLand$Text", 102, "y")
/-- the script, as the world's numbers keep it -/
def scL (G : GT) : Nat := G.2.2.2.2 22
def scX (G : GT) (j : Nat) : Int32 := Int32.ofBitVec (BitVec.ofNat 32 (G.2.2.2.2 (23 + j)))
/-- what stands outside of our world: four tables and the script -/
def Ext (G : GT) (s : State) (H : Heap) : Prop :=
  (∀ k, k < 4 → va_Z "HillLand$Kinds" (nmT k) "[I" (.ref (ra G (1000000 + k))) (AA G) s H ∧ va_T .int (ra G (1000000 + k)) (tabK k).length (fun j => .int ((tabK k).getD j 0)) (AA G) s H) ∧ scL G ≤ 260 ∧ va_T .int (ra G 1000021) (scL G) (fun j => .int (scX G j)) (AA G) s H
theorem Ext.kept {G : GT} {s : State} {H H1 : Heap} (h : Ext G s H) (hq : ∀ a : Nat, a < H.size → ¬ AA G a → H1[a]? = H[a]?) : Ext G s H1 := ⟨fun k hk => ⟨(h.1 k hk).1.kept hq, (h.1 k hk).2.kept hq⟩, h.2.1, h.2.2.kept hq⟩
theorem Ext.warm {G : GT} {s U : State} {H : Heap} (hW : s.WarmedH U.vm) (h : Ext G s H) : Ext G U H := ⟨fun k hk => ⟨(h.1 k hk).1.moved hW.alike, (h.1 k hk).2.moved hW.alike⟩, h.2.1, h.2.2.moved hW.alike⟩
theorem Ext.same {G : GT} {s U : State} {H : Heap} (hv : U.vm = s.vm) (h : Ext G s H) : Ext G U H := by
  have ha : s.vm.Alike U.vm := by rw [hv]; exact Vm.Alike.refl _
  exact ⟨fun k hk => ⟨(h.1 k hk).1.moved ha, (h.1 k hk).2.moved ha⟩, h.2.1, h.2.2.moved ha⟩
def isNest : Cond → Bool
  | .methodLinkNest .. => true
  | _ => false
def Nst (s : State) : Prop := (∀ w ∈ lw_tbl, isNest w = true → va_Nw w s) ∧ va_AO "HillLand$Tale" s ∧ va_AO "HillLand$Tale" s ∧ va_AO "HillLand$Column" s
theorem Nst.warm {s U : State} (hW : s.WarmedH U.vm) (h : Nst s) : Nst U := by
  refine ⟨fun w hw hn => ?_, h.2.1.moved hW.alike, h.2.2.1.moved hW.alike, h.2.2.2.moved hW.alike⟩
  have h1 := h.1 w hw hn
  cases w <;> first | (exact va_Nw.warmM hW h1) | (simp [isNest] at hn; done)
theorem Nst.same {s U : State} (hv : U.vm = s.vm) (h : Nst s) : Nst U := by
  have ha : s.vm.Alike U.vm := by rw [hv]; exact Vm.Alike.refl _
  refine ⟨fun w hw hn => ?_, h.2.1.moved ha, h.2.2.1.moved ha, h.2.2.2.moved ha⟩
  have h1 := h.1 w hw hn
  cases w <;> first | (exact va_Nw.same rfl hv.symm h1) | (simp [isNest] at hn; done)
def SF (G : GT) (s : State) : Prop := va_K G.2.1 cls (tys G) s ∧ Ext G s s.heap ∧ Nst s
theorem SF.warm {G : GT} {s U : State} {H : Heap} {locs : List Loc} (h : SF G s) (hS : va_S (AA G) s.heap H locs) (hU : U.heap = H) (hW : s.WarmedH U.vm) : SF G U :=
  ⟨va_K.moved hW.alike h.1, by rw [hU]; exact (h.2.1.kept hS.2.1).warm hW, h.2.2.warm hW⟩
theorem SF.calling {G : GT} {U : State} (h : SF G U) (g : JFrame) (mk : MethodId) (a : Array Value) : SF G (U.calling g mk a) :=
  ⟨va_K.moved (u := U) (U := U.calling g mk a) (Vm.Alike.refl U.vm) h.1, Ext.same (s := U) (U := U.calling g mk a) rfl h.2.1, Nst.same (s := U) (U := U.calling g mk a) rfl h.2.2⟩
def HW (G : GT) (S : Shp) (σ : Sto) (H : Heap) : Prop := va_P G.2.1 cls (wsl G S σ) H ∧ H.size = gB G + S.1 ∧ S.1 ≤ 1000000
abbrev FX : Type := MY × Room × (List Frame → Array Value → State → State → Prop)
def Cx (x : FX) (G : GT) (p : Program) (s : State) (m : MethodId) (args : Array Value) (meth : Method) (c : Code) : Prop :=
  p.tables.exec = Jvm.exec ∧ c.code = x.1.2.1 ∧ c.maxLocals = x.1.2.2.1 ∧ s.vm.findClass x.1.1.cls = some m.cls ∧ (∀ w ∈ gtbl, w.before args s = true) ∧ meth.sig.returnType = x.1.2.2.2 ∧ meth.locks = false ∧ (x.1.1.name = "<init>" → meth.name = "<init>") ∧ SF G s ∧ gB G ≤ s.heap.size
abbrev LV : Type := List (Nat × Value)
def rl (G : GT) (l : LV) : LV := l.map fun q => (q.1, rv G q.2)
/-- from this place of the method's body, over this world, the method comes to its end as told by x -/
def PW (x : FX) (G : GT) (S : Shp) (σ : Sto) (k n pc : Nat) (l : LV) (st : List Value) : Prop :=
  ∀ (p : Program) (e : Env) (s : State) (m : MethodId) (args : Array Value) (below : List Frame) (meth : Method) (c : Code) (H : Heap) (locs : List Loc) (ls : Array Slot),
    Cx x G p s m args meth c → HW G S σ H → va_S (AA G) s.heap H locs → lv_has ls x.1.2.2.1 (rl G l) →
    W p G.1 e x.2.1 s m args below meth c H locs k n (x.2.2 below args s) (F0 m pc ls (st.map (rv G)))
def Post (G : GT) (Q : Option Value → Shp → Sto → Prop) : Array Value → State → Outcome → State → Prop := fun _ st o t =>
  (∃ (r : Option Value) (S' : Shp) (σ' : Sto), Q r S' σ' ∧ o = .returned (r.map (rv G)) ∧ HW G S' σ' t.heap) ∧ va_F (AA G) st t
abbrev rmd (d k n : Nat) : Room := { frames := d, cells := k, slots := n, locals := 40 * d }
def PMet (G : GT) (y : MY) (d k n : Nat) (as : List Value) (S : Shp) (σ : Sto) (Q : Option Value → Shp → Sto → Prop) : Prop :=
  Met G.1 y.1 (Cond.code y.1 y.2.1 y.2.2.1 y.2.2.2 :: gtbl) (rmd d k n) (fun v U => v = (as.map (rv G)).toArray ∧ SF G U ∧ HW G S σ U.heap) (Post G Q) k n (AA G)
def fm (G : GT) (y : MY) (d k n : Nat) (Q : Option Value → Shp → Sto → Prop) : FX := (y, rmd d k n, fun below args s => MQ below (Post G Q) args s k n (AA G))
theorem rv_cat (G : GT) (v : Value) : (rv G v).category = v.category := by cases v <;> rfl
theorem lv_args_map (G : GT) (as : List Value) : ∀ i, lv_args i (as.map (rv G)) = rl G (lv_args i as) := by
  induction as with
  | nil => intro i; rfl
  | cons v t ih =>
    intro i
    show (i, rv G v) :: lv_args (if (rv G v).category = 2 then i + 2 else i + 1) (t.map (rv G)) = (i, rv G v) :: rl G (lv_args (if v.category = 2 then i + 2 else i + 1) t)
    rw [rv_cat, ih]
theorem lg_sl_map (G : GT) (as : List Value) : (lg_sl (as.map (rv G))).length = (lg_sl as).length := by
  induction as with
  | nil => rfl
  | cons v t ih =>
    simp only [lg_sl, List.map_cons, List.flatMap_cons, List.length_append] at ih ⊢
    rw [ih, rv_cat]
    congr 1
    split <;> rfl
theorem PMet.of {G : GT} {y : MY} {d k n : Nat} {as : List Value} {S : Shp} {σ : Sto} {Q : Option Value → Shp → Sto → Prop} (l : LV) (hy : plainFor y.1 = true) (hl : lv_args 0 as = l) (hn : (lg_sl as).length ≤ y.2.2.1) (h : PW (fm G y d k n Q) G S σ 0 0 0 l []) : PMet G y d k n as S σ Q := by
  refine va_MetF (cc := y.2.1) (maxL := y.2.2.1) (ret := y.2.2.2) hy rfl ?_
  intro p e s m args below meth c s₁ B hml hv
  obtain ⟨rfl, hSF, hP⟩ := hv
  have hts := atoms_spec (ws := Cond.code y.1 y.2.1 y.2.2.1 y.2.2.2 :: gtbl) B.pre
  have hl2 := lv_entry (as.map (rv G)) (n := y.2.2.1) (by rw [lg_sl_map]; exact hn)
  rw [lv_args_map, hl] at hl2
  rw [lg_entry_eq]
  exact h p e s m _ below meth c s.heap [] _ ⟨B.exec, B.bytes, hml, findClass_of_methodNamed B.named, fun w hw => hts w (List.mem_cons_of_mem _ hw), B.returns, B.notSynchronized, fun hi => by rw [← hi]; exact (name_of_methodNamed B.named B.method).1, hSF, by rw [hP.2.1]; exact Nat.le_add_right _ _⟩ hP va_S.rf hl2
theorem Cx.S0 {x : FX} {G : GT} {p : Program} {s : State} {m : MethodId} {args : Array Value} {meth : Method} {c : Code} (C : Cx x G p s m args meth c) : ∀ q, s.heap.size ≤ q → AA G q := fun q h => Nat.le_trans C.2.2.2.2.2.2.2.2.2 h
-- ===== rows: locals =====
def gL : LV → Nat → Option Value
  | [], _ => none
  | (j, w) :: r, i => if j = i then some w else gL r i
theorem gL_mem {l : LV} {i : Nat} {v : Value} (h : gL l i = some v) : (i, v) ∈ l := by
  induction l with
  | nil => cases h
  | cons q r ih =>
    obtain ⟨j, w⟩ := q
    unfold gL at h
    split at h
    · next e => cases h; subst e; exact List.mem_cons_self
    · exact List.mem_cons_of_mem _ (ih h)
/-- puts a value of one word into the place i: what stood there, or a value of two words just below it, goes -/
def sL : LV → Nat → Value → LV
  | [], i, v => [(i, v)]
  | (j, w) :: r, i, v => if j = i then (i, v) :: r.filter (fun q => !(q.1 == i) && !(q.1 + 1 == i && q.2.category == 2)) else if j + 1 = i then (if w.category = 2 then sL r i v else (j, w) :: sL r i v) else if i < j then (i, v) :: (j, w) :: r.filter (fun q => !(q.1 == i) && !(q.1 + 1 == i && q.2.category == 2)) else (j, w) :: sL r i v
theorem sL_mem {l : LV} {i : Nat} {v : Value} : ∀ q ∈ sL l i v, q ∈ ((i, v) :: l.filter (fun q => !(q.1 == i) && !(q.1 + 1 == i && q.2.category == 2)) : LV) := by
  induction l with
  | nil => intro q h; exact h
  | cons q0 r ih =>
    obtain ⟨j, w⟩ := q0
    intro q h
    unfold sL at h
    split at h
    · next e =>
      subst e
      rcases List.mem_cons.mp h with h | h
      · rw [h]; exact List.mem_cons_self
      · refine List.mem_cons_of_mem _ ?_
        rw [List.filter_cons]
        split
        · exact List.mem_cons_of_mem _ h
        · exact h
    · next hne =>
      split at h
      · next e2 =>
        split at h
        · next hc =>
          rcases List.mem_cons.mp (ih q h) with h | h
          · rw [h]; exact List.mem_cons_self
          · refine List.mem_cons_of_mem _ ?_
            rw [List.filter_cons]
            split
            · exact List.mem_cons_of_mem _ h
            · exact h
        · next hc =>
          rcases List.mem_cons.mp h with h | h
          · rw [h]
            refine List.mem_cons_of_mem _ ?_
            rw [List.filter_cons, if_pos (by simp [hne, hc])]
            exact List.mem_cons_self
          · rcases List.mem_cons.mp (ih q h) with h | h
            · rw [h]; exact List.mem_cons_self
            · refine List.mem_cons_of_mem _ ?_
              rw [List.filter_cons]
              split
              · exact List.mem_cons_of_mem _ h
              · exact h
      · next hne2 =>
        have hp : (!(j == i) && !(j + 1 == i && w.category == 2)) = true := by simp [hne, hne2]
        split at h
        · rcases List.mem_cons.mp h with h | h
          · rw [h]; exact List.mem_cons_self
          · refine List.mem_cons_of_mem _ ?_
            rw [List.filter_cons, if_pos hp]
            exact h
        · rcases List.mem_cons.mp h with h | h
          · rw [h]
            refine List.mem_cons_of_mem _ ?_
            rw [List.filter_cons, if_pos hp]
            exact List.mem_cons_self
          · rcases List.mem_cons.mp (ih q h) with h | h
            · rw [h]; exact List.mem_cons_self
            · refine List.mem_cons_of_mem _ ?_
              rw [List.filter_cons, if_pos hp]
              exact List.mem_cons_of_mem _ h
theorem rl_filter (G : GT) (l : LV) (i : Nat) : (rl G l).filter (fun q => !(q.1 == i) && !(q.1 + 1 == i && q.2.category == 2)) = rl G (l.filter (fun q => !(q.1 == i) && !(q.1 + 1 == i && q.2.category == 2))) := by
  induction l with
  | nil => rfl
  | cons q r ih =>
    simp only [rl, List.map_cons, List.filter_cons] at ih ⊢
    rw [rv_cat]
    split
    · rw [List.map_cons, ih]
    · exact ih
theorem rl_get {G : GT} {l : LV} {i : Nat} {v : Value} {ls : Array Slot} {nL : Nat} (h : lv_has ls nL (rl G l)) (hl : gL l i = some v) : ls[i]? = some (.val (rv G v)) :=
  h.2.2 (i, rv G v) (List.mem_map.mpr ⟨(i, v), gL_mem hl, rfl⟩)
theorem lv_mono {ls : Array Slot} {nL : Nat} {l l' : LV} (h : lv_has ls nL l) (hs : ∀ q ∈ l', q ∈ l) : lv_has ls nL l' := ⟨h.1, h.2.1, fun q hq => h.2.2 q (hs q hq)⟩
theorem rl_set {G : GT} {l : LV} {i : Nat} {v : Value} {ls : Array Slot} {nL : Nat} (h : lv_has ls nL ((i, rv G v) :: (rl G l).filter (fun q => !(q.1 == i) && !(q.1 + 1 == i && q.2.category == 2)))) : lv_has ls nL (rl G (sL l i v)) := by
  refine lv_mono h fun q hq => ?_
  rw [rl_filter]
  obtain ⟨q0, h0, e⟩ := List.mem_map.mp hq
  have := sL_mem q0 h0
  rw [← e]
  rcases List.mem_cons.mp this with h1 | h1
  · rw [h1]; exact List.mem_cons_self
  · exact List.mem_cons_of_mem _ (List.mem_map.mpr ⟨q0, h1, rfl⟩)

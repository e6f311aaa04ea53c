theorem PW.iconst {x : FX} {G : GT} {S : Shp} {σ : Sto} {k n pc : Nat} {l : LV} {st : List Value} {j : Int} (hd : decode x.1.2.1 pc = .ok (.iconst j, 1)) (kk : PW x G S σ k n (pc + 1) l (.int (iI j) :: st)) : PW x G S σ k n pc l (st) := by
  intro p e s m args below meth c H locs ls C hP hS hl
  exact lv_iconst C.1 C.2.1 hd rfl (kk p e s m args below meth c H locs ls C hP hS hl)
theorem PW.bipush {x : FX} {G : GT} {S : Shp} {σ : Sto} {k n pc : Nat} {l : LV} {st : List Value} {j : Int} (hv : (Int8.ofInt j).toInt32 = iI j) (hd : decode x.1.2.1 pc = .ok (.bipush j, 2)) (kk : PW x G S σ k n (pc + 2) l (.int (iI j) :: st)) : PW x G S σ k n pc l (st) := by
  intro p e s m args below meth c H locs ls C hP hS hl
  exact lv_bipush C.1 C.2.1 hd hv (kk p e s m args below meth c H locs ls C hP hS hl)
theorem PW.sipush {x : FX} {G : GT} {S : Shp} {σ : Sto} {k n pc : Nat} {l : LV} {st : List Value} {j : Int} (hv : (Int16.ofInt j).toInt32 = iI j) (hd : decode x.1.2.1 pc = .ok (.sipush j, 3)) (kk : PW x G S σ k n (pc + 3) l (.int (iI j) :: st)) : PW x G S σ k n pc l (st) := by
  intro p e s m args below meth c H locs ls C hP hS hl
  exact lv_sipush C.1 C.2.1 hd hv (kk p e s m args below meth c H locs ls C hP hS hl)
theorem PW.iadd {x : FX} {G : GT} {S : Shp} {σ : Sto} {k n pc : Nat} {l : LV} {st : List Value} {a b : Int} (hd : decode x.1.2.1 pc = .ok (.iadd, 1)) (kk : PW x G S σ k n (pc + 1) l (.int (iI (a + b)) :: st)) : PW x G S σ k n pc l (.int (iI b) :: .int (iI a) :: st) := by
  intro p e s m args below meth c H locs ls C hP hS hl
  refine lv_iadd C.1 C.2.1 hd ?_
  rw [iI_add]
  exact kk p e s m args below meth c H locs ls C hP hS hl
theorem PW.isub {x : FX} {G : GT} {S : Shp} {σ : Sto} {k n pc : Nat} {l : LV} {st : List Value} {a b : Int} (hd : decode x.1.2.1 pc = .ok (.isub, 1)) (kk : PW x G S σ k n (pc + 1) l (.int (iI (a - b)) :: st)) : PW x G S σ k n pc l (.int (iI b) :: .int (iI a) :: st) := by
  intro p e s m args below meth c H locs ls C hP hS hl
  refine lv_isub C.1 C.2.1 hd ?_
  rw [iI_sub]
  exact kk p e s m args below meth c H locs ls C hP hS hl
theorem PW.imul {x : FX} {G : GT} {S : Shp} {σ : Sto} {k n pc : Nat} {l : LV} {st : List Value} {a b : Int} (hd : decode x.1.2.1 pc = .ok (.imul, 1)) (kk : PW x G S σ k n (pc + 1) l (.int (iI (a * b)) :: st)) : PW x G S σ k n pc l (.int (iI b) :: .int (iI a) :: st) := by
  intro p e s m args below meth c H locs ls C hP hS hl
  refine lv_imul C.1 C.2.1 hd ?_
  rw [iI_mul]
  exact kk p e s m args below meth c H locs ls C hP hS hl
def bAnd (a b : Int) : Int := (iI a &&& iI b).toInt
theorem PW.iand {x : FX} {G : GT} {S : Shp} {σ : Sto} {k n pc : Nat} {l : LV} {st : List Value} {a b : Int} (hd : decode x.1.2.1 pc = .ok (.iand, 1)) (kk : PW x G S σ k n (pc + 1) l (.int (iI (bAnd a b)) :: st)) : PW x G S σ k n pc l (.int (iI b) :: .int (iI a) :: st) := by
  intro p e s m args below meth c H locs ls C hP hS hl
  refine lv_iand C.1 C.2.1 hd ?_
  rw [← iI_of (iI a &&& iI b)]
  exact kk p e s m args below meth c H locs ls C hP hS hl
def bOr (a b : Int) : Int := (iI a ||| iI b).toInt
theorem PW.ior {x : FX} {G : GT} {S : Shp} {σ : Sto} {k n pc : Nat} {l : LV} {st : List Value} {a b : Int} (hd : decode x.1.2.1 pc = .ok (.ior, 1)) (kk : PW x G S σ k n (pc + 1) l (.int (iI (bOr a b)) :: st)) : PW x G S σ k n pc l (.int (iI b) :: .int (iI a) :: st) := by
  intro p e s m args below meth c H locs ls C hP hS hl
  refine lv_ior C.1 C.2.1 hd ?_
  rw [← iI_of (iI a ||| iI b)]
  exact kk p e s m args below meth c H locs ls C hP hS hl
def bXor (a b : Int) : Int := (iI a ^^^ iI b).toInt
theorem PW.ixor {x : FX} {G : GT} {S : Shp} {σ : Sto} {k n pc : Nat} {l : LV} {st : List Value} {a b : Int} (hd : decode x.1.2.1 pc = .ok (.ixor, 1)) (kk : PW x G S σ k n (pc + 1) l (.int (iI (bXor a b)) :: st)) : PW x G S σ k n pc l (.int (iI b) :: .int (iI a) :: st) := by
  intro p e s m args below meth c H locs ls C hP hS hl
  refine lv_ixor C.1 C.2.1 hd ?_
  rw [← iI_of (iI a ^^^ iI b)]
  exact kk p e s m args below meth c H locs ls C hP hS hl
def bShl (a b : Int) : Int := (iI a <<< (iI b &&& 31)).toInt
theorem PW.ishl {x : FX} {G : GT} {S : Shp} {σ : Sto} {k n pc : Nat} {l : LV} {st : List Value} {a b : Int} (hd : decode x.1.2.1 pc = .ok (.ishl, 1)) (kk : PW x G S σ k n (pc + 1) l (.int (iI (bShl a b)) :: st)) : PW x G S σ k n pc l (.int (iI b) :: .int (iI a) :: st) := by
  intro p e s m args below meth c H locs ls C hP hS hl
  refine lv_ishl C.1 C.2.1 hd ?_
  rw [← iI_of (iI a <<< (iI b &&& 31))]
  exact kk p e s m args below meth c H locs ls C hP hS hl
def bShr (a b : Int) : Int := (iI a >>> (iI b &&& 31)).toInt
theorem PW.ishr {x : FX} {G : GT} {S : Shp} {σ : Sto} {k n pc : Nat} {l : LV} {st : List Value} {a b : Int} (hd : decode x.1.2.1 pc = .ok (.ishr, 1)) (kk : PW x G S σ k n (pc + 1) l (.int (iI (bShr a b)) :: st)) : PW x G S σ k n pc l (.int (iI b) :: .int (iI a) :: st) := by
  intro p e s m args below meth c H locs ls C hP hS hl
  refine lv_ishr C.1 C.2.1 hd ?_
  rw [← iI_of (iI a >>> (iI b &&& 31))]
  exact kk p e s m args below meth c H locs ls C hP hS hl
def tdv (a b : Int) : Int := (iI a / iI b).toInt
theorem PW.idiv {x : FX} {G : GT} {S : Shp} {σ : Sto} {k n pc : Nat} {l : LV} {st : List Value} {a b : Int} (hb : inR b) (hne : b ≠ 0) (hd : decode x.1.2.1 pc = .ok (.idiv, 1)) (kk : PW x G S σ k n (pc + 1) l (.int (iI (tdv a b)) :: st)) : PW x G S σ k n pc l (.int (iI b) :: .int (iI a) :: st) := by
  intro p e s m args below meth c H locs ls C hP hS hl
  refine lv_idiv C.1 C.2.1 hd (fun h => hne ((iI_eq hb inR_0).mp h)) ?_
  rw [← iI_of (iI a / iI b)]
  exact kk p e s m args below meth c H locs ls C hP hS hl
theorem PW.irem {x : FX} {G : GT} {S : Shp} {σ : Sto} {k n pc : Nat} {l : LV} {st : List Value} {a b : Int} (hb : inR b) (hne : b ≠ 0) (hd : decode x.1.2.1 pc = .ok (.irem, 1)) (kk : PW x G S σ k n (pc + 1) l (.int (iI (a - tdv a b * b)) :: st)) : PW x G S σ k n pc l (.int (iI b) :: .int (iI a) :: st) := by
  intro p e s m args below meth c H locs ls C hP hS hl
  refine lv_irem C.1 C.2.1 hd (fun h => hne ((iI_eq hb inR_0).mp h)) ?_
  rw [← iI_of (iI a / iI b), iI_mul, iI_sub]
  exact kk p e s m args below meth c H locs ls C hP hS hl
def b8 (a : Int) : Int := ((iI a).toInt8.toInt32).toInt
theorem PW.i2b {x : FX} {G : GT} {S : Shp} {σ : Sto} {k n pc : Nat} {l : LV} {st : List Value} {a : Int} (hd : decode x.1.2.1 pc = .ok (.i2b, 1)) (kk : PW x G S σ k n (pc + 1) l (.int (iI (b8 a)) :: st)) : PW x G S σ k n pc l (.int (iI a) :: st) := by
  intro p e s m args below meth c H locs ls C hP hS hl
  exact lv_i2b C.1 C.2.1 hd (iI_of _).symm (kk p e s m args below meth c H locs ls C hP hS hl)
def lI (z : Int) : Int64 := Int64.ofInt z
def inL (z : Int) : Prop := -9223372036854775808 ≤ z ∧ z ≤ 9223372036854775807
theorem lI_toInt {z : Int} (h : inL z) : (lI z).toInt = z := Int64.toInt_ofInt_of_le h.1 (by have := h.2; omega)
theorem iI_l {a : Int} (h : inR a) : (iI a).toInt64 = lI a := by
  apply Int64.toInt_inj.mp
  rw [lI_toInt ⟨by have := h.1; omega, by have := h.2; omega⟩, Int32.toInt_toInt64, iI_toInt h]
theorem PW.i2l {x : FX} {G : GT} {S : Shp} {σ : Sto} {k n pc : Nat} {l : LV} {st : List Value} {a : Int} (h : inR a) (hd : decode x.1.2.1 pc = .ok (.i2l, 1)) (kk : PW x G S σ k n (pc + 1) l (.long (lI a) :: st)) : PW x G S σ k n pc l (.int (iI a) :: st) := by
  intro p e s m args below meth c H locs ls C hP hS hl
  exact lv_i2l C.1 C.2.1 hd (iI_l h) (kk p e s m args below meth c H locs ls C hP hS hl)
theorem PW.lconst {x : FX} {G : GT} {S : Shp} {σ : Sto} {k n pc : Nat} {l : LV} {st : List Value} {j : Fin 2} {z : Int} (hz : Int64.ofNat (j : Nat) = lI z) (hd : decode x.1.2.1 pc = .ok (.lconst j, 1)) (kk : PW x G S σ k n (pc + 1) l (.long (lI z) :: st)) : PW x G S σ k n pc l st := by
  intro p e s m args below meth c H locs ls C hP hS hl
  exact lv_lconst C.1 C.2.1 hd hz (kk p e s m args below meth c H locs ls C hP hS hl)
def zcmp (a b : Int) : Int := if b < a then 1 else if a = b then 0 else -1
theorem PW.lcmp {x : FX} {G : GT} {S : Shp} {σ : Sto} {k n pc : Nat} {l : LV} {st : List Value} {a b : Int} (ha : inL a) (hb : inL b) (hd : decode x.1.2.1 pc = .ok (.lcmp, 1)) (kk : PW x G S σ k n (pc + 1) l (.int (iI (zcmp a b)) :: st)) : PW x G S σ k n pc l (.long (lI b) :: .long (lI a) :: st) := by
  intro p e s m args below meth c H locs ls C hP hS hl
  refine W.lcmp C.1 C.2.1 hd ?_
  have hcmp : lg_cmp (lI a) (lI b) = iI (zcmp a b) := by
    unfold lg_cmp zcmp
    have h1 : (lI a > lI b) ↔ b < a := by show lI b < lI a ↔ _; rw [Int64.lt_iff_toInt_lt, lI_toInt ha, lI_toInt hb]
    have h2 : (lI a = lI b) ↔ a = b := by rw [← Int64.toInt_inj, lI_toInt ha, lI_toInt hb]
    by_cases c1 : b < a
    · rw [if_pos c1, if_pos (h1.mpr c1)]; rfl
    · rw [if_neg c1, if_neg (fun h => c1 (h1.mp h))]
      by_cases c2 : a = b
      · rw [if_pos c2, if_pos (h2.mpr c2)]; rfl
      · rw [if_neg c2, if_neg (fun h => c2 (h2.mp h))]; rfl
  rw [hcmp]
  exact kk p e s m args below meth c H locs ls C hP hS hl
theorem PW.ineg {x : FX} {G : GT} {S : Shp} {σ : Sto} {k n pc : Nat} {l : LV} {st : List Value} {a : Int} (hd : decode x.1.2.1 pc = .ok (.ineg, 1)) (kk : PW x G S σ k n (pc + 1) l (.int (iI (-a)) :: st)) : PW x G S σ k n pc l (.int (iI a) :: st) := by
  intro p e s m args below meth c H locs ls C hP hS hl
  refine lv_ineg C.1 C.2.1 hd ?_
  rw [iI_neg]
  exact kk p e s m args below meth c H locs ls C hP hS hl
theorem PW.land {x : FX} {G : GT} {S : Shp} {σ : Sto} {k n pc : Nat} {l : LV} {st : List Value} {a b : Int64} (hd : decode x.1.2.1 pc = .ok (.land, 1)) (kk : PW x G S σ k n (pc + 1) l (.long (a &&& b) :: st)) : PW x G S σ k n pc l (.long b :: .long a :: st) := by
  intro p e s m args below meth c H locs ls C hP hS hl
  exact lv_land C.1 C.2.1 hd (kk p e s m args below meth c H locs ls C hP hS hl)
theorem PW.lor {x : FX} {G : GT} {S : Shp} {σ : Sto} {k n pc : Nat} {l : LV} {st : List Value} {a b : Int64} (hd : decode x.1.2.1 pc = .ok (.lor, 1)) (kk : PW x G S σ k n (pc + 1) l (.long (a ||| b) :: st)) : PW x G S σ k n pc l (.long b :: .long a :: st) := by
  intro p e s m args below meth c H locs ls C hP hS hl
  exact lv_lor C.1 C.2.1 hd (kk p e s m args below meth c H locs ls C hP hS hl)
theorem PW.l2i {x : FX} {G : GT} {S : Shp} {σ : Sto} {k n pc : Nat} {l : LV} {st : List Value} {a : Int64} {v : Int32} (hv : a.toInt32 = v) (hd : decode x.1.2.1 pc = .ok (.l2i, 1)) (kk : PW x G S σ k n (pc + 1) l (.int v :: st)) : PW x G S σ k n pc l (.long a :: st) := by
  intro p e s m args below meth c H locs ls C hP hS hl
  exact lv_l2i C.1 C.2.1 hd hv (kk p e s m args below meth c H locs ls C hP hS hl)
theorem PW.i2c {x : FX} {G : GT} {S : Shp} {σ : Sto} {k n pc : Nat} {l : LV} {st : List Value} {a v : Int32} (hv : (a.toUInt32 % 65536).toInt32 = v) (hd : decode x.1.2.1 pc = .ok (.i2c, 1)) (kk : PW x G S σ k n (pc + 1) l (.int v :: st)) : PW x G S σ k n pc l (.int a :: st) := by
  intro p e s m args below meth c H locs ls C hP hS hl
  exact lv_i2c C.1 C.2.1 hd hv (kk p e s m args below meth c H locs ls C hP hS hl)
theorem PW.lushr {x : FX} {G : GT} {S : Shp} {σ : Sto} {k n pc : Nat} {l : LV} {st : List Value} {a v : Int64} {b : Int32} (hv : (a.toUInt64 >>> (b.toInt64.toUInt64 &&& Int64.toUInt64 63)).toInt64 = v) (hd : decode x.1.2.1 pc = .ok (.lushr, 1)) (kk : PW x G S σ k n (pc + 1) l (.long v :: st)) : PW x G S σ k n pc l (.int b :: .long a :: st) := by
  intro p e s m args below meth c H locs ls C hP hS hl
  exact lv_lushr C.1 C.2.1 hd hv (kk p e s m args below meth c H locs ls C hP hS hl)
theorem PW.lshl {x : FX} {G : GT} {S : Shp} {σ : Sto} {k n pc : Nat} {l : LV} {st : List Value} {a v : Int64} {b : Int32} (hv : a <<< (b.toInt64 &&& 63) = v) (hd : decode x.1.2.1 pc = .ok (.lshl, 1)) (kk : PW x G S σ k n (pc + 1) l (.long v :: st)) : PW x G S σ k n pc l (.int b :: .long a :: st) := by
  intro p e s m args below meth c H locs ls C hP hS hl
  exact lv_lshl C.1 C.2.1 hd hv (kk p e s m args below meth c H locs ls C hP hS hl)
theorem PW.lshr {x : FX} {G : GT} {S : Shp} {σ : Sto} {k n pc : Nat} {l : LV} {st : List Value} {a v : Int64} {b : Int32} (hv : a >>> (b.toInt64 &&& 63) = v) (hd : decode x.1.2.1 pc = .ok (.lshr, 1)) (kk : PW x G S σ k n (pc + 1) l (.long v :: st)) : PW x G S σ k n pc l (.int b :: .long a :: st) := by
  intro p e s m args below meth c H locs ls C hP hS hl
  exact lv_lshr C.1 C.2.1 hd hv (kk p e s m args below meth c H locs ls C hP hS hl)
theorem PW.dup {x : FX} {G : GT} {S : Shp} {σ : Sto} {k n pc : Nat} {l : LV} {st : List Value} {a : Value} (ha : a.category = 1) (hd : decode x.1.2.1 pc = .ok (.dup, 1)) (kk : PW x G S σ k n (pc + 1) l (a :: a :: st)) : PW x G S σ k n pc l (a :: st) := by
  intro p e s m args below meth c H locs ls C hP hS hl
  exact lv_dup C.1 C.2.1 hd (by rw [rv_cat]; exact ha) (kk p e s m args below meth c H locs ls C hP hS hl)
theorem PW.dup2 {x : FX} {G : GT} {S : Shp} {σ : Sto} {k n pc : Nat} {l : LV} {st : List Value} {a b : Value} (ha : a.category = 1) (hb : b.category = 1) (hd : decode x.1.2.1 pc = .ok (.dup2, 1)) (kk : PW x G S σ k n (pc + 1) l (b :: a :: b :: a :: st)) : PW x G S σ k n pc l (b :: a :: st) := by
  intro p e s m args below meth c H locs ls C hP hS hl
  exact lv_dup2_11 C.1 C.2.1 hd (by rw [rv_cat]; first | exact ha | exact hb) (by rw [rv_cat]; first | exact hb | exact ha) (kk p e s m args below meth c H locs ls C hP hS hl)
theorem PW.pop {x : FX} {G : GT} {S : Shp} {σ : Sto} {k n pc : Nat} {l : LV} {st : List Value} {a : Value} (ha : a.category = 1) (hd : decode x.1.2.1 pc = .ok (.pop, 1)) (kk : PW x G S σ k n (pc + 1) l (st)) : PW x G S σ k n pc l (a :: st) := by
  intro p e s m args below meth c H locs ls C hP hS hl
  exact lv_pop C.1 C.2.1 hd (by rw [rv_cat]; exact ha) (kk p e s m args below meth c H locs ls C hP hS hl)
theorem PW.iload_n {x : FX} {G : GT} {S : Shp} {σ : Sto} {k n pc : Nat} {l : LV} {st : List Value} {j : Fin 4} {a : Int32} (hd : decode x.1.2.1 pc = .ok (.iload_n j, 1)) (hg : gL l j = some (.int a)) (kk : PW x G S σ k n (pc + 1) l (.int a :: st)) : PW x G S σ k n pc l st := by
  intro p e s m args below meth c H locs ls C hP hS hl
  exact lv_iload_n C.1 C.2.1 hd rfl (rl_get hl hg) (kk p e s m args below meth c H locs ls C hP hS hl)
theorem PW.iload {x : FX} {G : GT} {S : Shp} {σ : Sto} {k n pc : Nat} {l : LV} {st : List Value} {j : Nat} {a : Int32} (hd : decode x.1.2.1 pc = .ok (.iload j, 2)) (hg : gL l j = some (.int a)) (kk : PW x G S σ k n (pc + 2) l (.int a :: st)) : PW x G S σ k n pc l st := by
  intro p e s m args below meth c H locs ls C hP hS hl
  exact lv_iload C.1 C.2.1 hd (rl_get hl hg) (kk p e s m args below meth c H locs ls C hP hS hl)
theorem PW.lload_n {x : FX} {G : GT} {S : Shp} {σ : Sto} {k n pc : Nat} {l : LV} {st : List Value} {j : Fin 4} {a : Int64} (hd : decode x.1.2.1 pc = .ok (.lload_n j, 1)) (hg : gL l j = some (.long a)) (kk : PW x G S σ k n (pc + 1) l (.long a :: st)) : PW x G S σ k n pc l st := by
  intro p e s m args below meth c H locs ls C hP hS hl
  exact lv_lload_n C.1 C.2.1 hd rfl (rl_get hl hg) (kk p e s m args below meth c H locs ls C hP hS hl)
theorem PW.lload {x : FX} {G : GT} {S : Shp} {σ : Sto} {k n pc : Nat} {l : LV} {st : List Value} {j : Nat} {a : Int64} (hd : decode x.1.2.1 pc = .ok (.lload j, 2)) (hg : gL l j = some (.long a)) (kk : PW x G S σ k n (pc + 2) l (.long a :: st)) : PW x G S σ k n pc l st := by
  intro p e s m args below meth c H locs ls C hP hS hl
  exact lv_lload C.1 C.2.1 hd (rl_get hl hg) (kk p e s m args below meth c H locs ls C hP hS hl)
theorem PW.aload_n {x : FX} {G : GT} {S : Shp} {σ : Sto} {k n pc : Nat} {l : LV} {st : List Value} {j : Fin 4} {a : Nat} (hd : decode x.1.2.1 pc = .ok (.aload_n j, 1)) (hg : gL l j = some (.ref a)) (kk : PW x G S σ k n (pc + 1) l (.ref a :: st)) : PW x G S σ k n pc l st := by
  intro p e s m args below meth c H locs ls C hP hS hl
  exact lv_aload_n C.1 C.2.1 hd rfl (rl_get hl hg) (kk p e s m args below meth c H locs ls C hP hS hl)
theorem PW.aload {x : FX} {G : GT} {S : Shp} {σ : Sto} {k n pc : Nat} {l : LV} {st : List Value} {j : Nat} {a : Nat} (hd : decode x.1.2.1 pc = .ok (.aload j, 2)) (hg : gL l j = some (.ref a)) (kk : PW x G S σ k n (pc + 2) l (.ref a :: st)) : PW x G S σ k n pc l st := by
  intro p e s m args below meth c H locs ls C hP hS hl
  exact lv_aload C.1 C.2.1 hd (rl_get hl hg) (kk p e s m args below meth c H locs ls C hP hS hl)
theorem PW.aloadN_n {x : FX} {G : GT} {S : Shp} {σ : Sto} {k n pc : Nat} {l : LV} {st : List Value} {j : Fin 4} (hd : decode x.1.2.1 pc = .ok (.aload_n j, 1)) (hg : gL l j = some .null) (kk : PW x G S σ k n (pc + 1) l (.null :: st)) : PW x G S σ k n pc l st := by
  intro p e s m args below meth c H locs ls C hP hS hl
  exact lv_aload_nN C.1 C.2.1 hd rfl (rl_get hl hg) (kk p e s m args below meth c H locs ls C hP hS hl)
theorem PW.aloadN {x : FX} {G : GT} {S : Shp} {σ : Sto} {k n pc : Nat} {l : LV} {st : List Value} {j : Nat} (hd : decode x.1.2.1 pc = .ok (.aload j, 2)) (hg : gL l j = some .null) (kk : PW x G S σ k n (pc + 2) l (.null :: st)) : PW x G S σ k n pc l st := by
  intro p e s m args below meth c H locs ls C hP hS hl
  exact lv_aloadN C.1 C.2.1 hd (rl_get hl hg) (kk p e s m args below meth c H locs ls C hP hS hl)
theorem PW.istore_n {x : FX} {G : GT} {S : Shp} {σ : Sto} {k n pc : Nat} {l : LV} {st : List Value} {j : Fin 4} {a : Int32} (l' : LV) (hd : decode x.1.2.1 pc = .ok (.istore_n j, 1)) (hs : sL l j (.int a) = l') (hj : (j : Nat) < x.1.2.2.1) (kk : PW x G S σ k n (pc + 1) l' st) : PW x G S σ k n pc l ((.int a) :: st) := by
  intro p e s m args below meth c H locs ls C hP hS hl
  exact lv_istore_n C.1 C.2.1 hd rfl hl hj rfl (fun ls hl => kk p e s m args below meth c H locs ls C hP hS (hs ▸ rl_set (G := G) hl))
theorem PW.istore {x : FX} {G : GT} {S : Shp} {σ : Sto} {k n pc : Nat} {l : LV} {st : List Value} {j : Nat} {a : Int32} (l' : LV) (hd : decode x.1.2.1 pc = .ok (.istore j, 2)) (hs : sL l j (.int a) = l') (hj : (j : Nat) < x.1.2.2.1) (kk : PW x G S σ k n (pc + 2) l' st) : PW x G S σ k n pc l ((.int a) :: st) := by
  intro p e s m args below meth c H locs ls C hP hS hl
  exact lv_istore C.1 C.2.1 hd hl hj rfl (fun ls hl => kk p e s m args below meth c H locs ls C hP hS (hs ▸ rl_set (G := G) hl))
theorem PW.astore_n {x : FX} {G : GT} {S : Shp} {σ : Sto} {k n pc : Nat} {l : LV} {st : List Value} {j : Fin 4} {a : Nat} (l' : LV) (hd : decode x.1.2.1 pc = .ok (.astore_n j, 1)) (hs : sL l j (.ref a) = l') (hj : (j : Nat) < x.1.2.2.1) (kk : PW x G S σ k n (pc + 1) l' st) : PW x G S σ k n pc l ((.ref a) :: st) := by
  intro p e s m args below meth c H locs ls C hP hS hl
  exact lv_astore_n C.1 C.2.1 hd rfl hl hj rfl (fun ls hl => kk p e s m args below meth c H locs ls C hP hS (hs ▸ rl_set (G := G) hl))
theorem PW.astore {x : FX} {G : GT} {S : Shp} {σ : Sto} {k n pc : Nat} {l : LV} {st : List Value} {j : Nat} {a : Nat} (l' : LV) (hd : decode x.1.2.1 pc = .ok (.astore j, 2)) (hs : sL l j (.ref a) = l') (hj : (j : Nat) < x.1.2.2.1) (kk : PW x G S σ k n (pc + 2) l' st) : PW x G S σ k n pc l ((.ref a) :: st) := by
  intro p e s m args below meth c H locs ls C hP hS hl
  exact lv_astore C.1 C.2.1 hd hl hj rfl (fun ls hl => kk p e s m args below meth c H locs ls C hP hS (hs ▸ rl_set (G := G) hl))
theorem PW.iinc {x : FX} {G : GT} {S : Shp} {σ : Sto} {k n pc : Nat} {l : LV} {st : List Value} {j : Nat} {c : Int} {a : Int} (l' : LV) (hd : decode x.1.2.1 pc = .ok (.iinc j c, 3)) (hg : gL l j = some (.int (iI a))) (hs : sL l j (.int (iI (a + c))) = l') (hj : j < x.1.2.2.1) (kk : PW x G S σ k n (pc + 3) l' st) : PW x G S σ k n pc l st := by
  intro p e s m args below meth cc H locs ls C hP hS hl
  obtain ⟨i, hi⟩ := List.getElem?_of_mem (List.mem_map.mpr ⟨(j, .int (iI a)), gL_mem hg, rfl⟩ : (j, rv G (.int (iI a))) ∈ rl G l)
  exact lv_iinc C.1 C.2.1 hd hl hi (iI_add a c) hj rfl (fun ls hl => kk p e s m args below meth cc H locs ls C hP hS (hs ▸ rl_set (G := G) hl))
theorem PW.keep {x : FX} {G : GT} {S : Shp} {σ : Sto} {k n pc : Nat} {l : LV} {st : List Value} (l' : LV) (h : ∀ q ∈ l', q ∈ l) (kk : PW x G S σ k n pc l' st) : PW x G S σ k n pc l st := by
  intro p e s m args below meth c H locs ls C hP hS hl
  refine kk p e s m args below meth c H locs ls C hP hS (lv_mono hl fun q hq => ?_)
  obtain ⟨q0, h0, e⟩ := List.mem_map.mp hq
  exact List.mem_map.mpr ⟨q0, h q0 h0, e⟩
theorem PW.if_eq {x : FX} {G : GT} {S : Shp} {σ : Sto} {k n pc : Nat} {l : LV} {st : List Value} {a : Int} {off : Int} (tgt : Nat) (hd : decode x.1.2.1 pc = .ok (.ifCond .eq off, 3)) (ht : (pc : Int) + off = (tgt : Int)) (ha : inR a) (kt : a = 0 → PW x G S σ k n tgt l st) (kf : ¬ a = 0 → PW x G S σ k n (pc + 3) l st) : PW x G S σ k n pc l (.int (iI a) :: st) := by
  intro p e s m args below meth c H locs ls C hP hS hl
  exact lv_if_eq C.1 C.2.1 hd ht (fun h => kt ((iI_eq ha inR_0).mp h) p e s m args below meth c H locs ls C hP hS hl) (fun h => kf (fun q => h ((iI_eq ha inR_0).mpr q)) p e s m args below meth c H locs ls C hP hS hl)
theorem PW.icmp_eq {x : FX} {G : GT} {S : Shp} {σ : Sto} {k n pc : Nat} {l : LV} {st : List Value} {a b : Int} {off : Int} (tgt : Nat) (hd : decode x.1.2.1 pc = .ok (.if_icmp .eq off, 3)) (ht : (pc : Int) + off = (tgt : Int)) (ha : inR a) (hb : inR b) (kt : a = b → PW x G S σ k n tgt l st) (kf : ¬ a = b → PW x G S σ k n (pc + 3) l st) : PW x G S σ k n pc l (.int (iI b) :: .int (iI a) :: st) := by
  intro p e s m args below meth c H locs ls C hP hS hl
  exact lv_icmp_eq C.1 C.2.1 hd ht (fun h => kt ((iI_eq ha hb).mp h) p e s m args below meth c H locs ls C hP hS hl) (fun h => kf (fun q => h ((iI_eq ha hb).mpr q)) p e s m args below meth c H locs ls C hP hS hl)
theorem PW.if_ne {x : FX} {G : GT} {S : Shp} {σ : Sto} {k n pc : Nat} {l : LV} {st : List Value} {a : Int} {off : Int} (tgt : Nat) (hd : decode x.1.2.1 pc = .ok (.ifCond .ne off, 3)) (ht : (pc : Int) + off = (tgt : Int)) (ha : inR a) (kt : ¬ a = 0 → PW x G S σ k n tgt l st) (kf : a = 0 → PW x G S σ k n (pc + 3) l st) : PW x G S σ k n pc l (.int (iI a) :: st) := by
  intro p e s m args below meth c H locs ls C hP hS hl
  exact lv_if_ne C.1 C.2.1 hd ht (fun h => kt (fun q => h ((iI_eq ha inR_0).mpr q)) p e s m args below meth c H locs ls C hP hS hl) (fun h => kf ((iI_eq ha inR_0).mp h) p e s m args below meth c H locs ls C hP hS hl)
theorem PW.icmp_ne {x : FX} {G : GT} {S : Shp} {σ : Sto} {k n pc : Nat} {l : LV} {st : List Value} {a b : Int} {off : Int} (tgt : Nat) (hd : decode x.1.2.1 pc = .ok (.if_icmp .ne off, 3)) (ht : (pc : Int) + off = (tgt : Int)) (ha : inR a) (hb : inR b) (kt : ¬ a = b → PW x G S σ k n tgt l st) (kf : a = b → PW x G S σ k n (pc + 3) l st) : PW x G S σ k n pc l (.int (iI b) :: .int (iI a) :: st) := by
  intro p e s m args below meth c H locs ls C hP hS hl
  exact lv_icmp_ne C.1 C.2.1 hd ht (fun h => kt (fun q => h ((iI_eq ha hb).mpr q)) p e s m args below meth c H locs ls C hP hS hl) (fun h => kf ((iI_eq ha hb).mp h) p e s m args below meth c H locs ls C hP hS hl)
theorem PW.if_lt {x : FX} {G : GT} {S : Shp} {σ : Sto} {k n pc : Nat} {l : LV} {st : List Value} {a : Int} {off : Int} (tgt : Nat) (hd : decode x.1.2.1 pc = .ok (.ifCond .lt off, 3)) (ht : (pc : Int) + off = (tgt : Int)) (ha : inR a) (kt : a < 0 → PW x G S σ k n tgt l st) (kf : ¬ a < 0 → PW x G S σ k n (pc + 3) l st) : PW x G S σ k n pc l (.int (iI a) :: st) := by
  intro p e s m args below meth c H locs ls C hP hS hl
  exact lv_if_lt C.1 C.2.1 hd ht (fun h => kt ((iI_lt ha inR_0).mp h) p e s m args below meth c H locs ls C hP hS hl) (fun h => kf (fun q => h ((iI_lt ha inR_0).mpr q)) p e s m args below meth c H locs ls C hP hS hl)
theorem PW.icmp_lt {x : FX} {G : GT} {S : Shp} {σ : Sto} {k n pc : Nat} {l : LV} {st : List Value} {a b : Int} {off : Int} (tgt : Nat) (hd : decode x.1.2.1 pc = .ok (.if_icmp .lt off, 3)) (ht : (pc : Int) + off = (tgt : Int)) (ha : inR a) (hb : inR b) (kt : a < b → PW x G S σ k n tgt l st) (kf : ¬ a < b → PW x G S σ k n (pc + 3) l st) : PW x G S σ k n pc l (.int (iI b) :: .int (iI a) :: st) := by
  intro p e s m args below meth c H locs ls C hP hS hl
  exact lv_icmp_lt C.1 C.2.1 hd ht (fun h => kt ((iI_lt ha hb).mp h) p e s m args below meth c H locs ls C hP hS hl) (fun h => kf (fun q => h ((iI_lt ha hb).mpr q)) p e s m args below meth c H locs ls C hP hS hl)
theorem PW.if_ge {x : FX} {G : GT} {S : Shp} {σ : Sto} {k n pc : Nat} {l : LV} {st : List Value} {a : Int} {off : Int} (tgt : Nat) (hd : decode x.1.2.1 pc = .ok (.ifCond .ge off, 3)) (ht : (pc : Int) + off = (tgt : Int)) (ha : inR a) (kt : 0 ≤ a → PW x G S σ k n tgt l st) (kf : ¬ 0 ≤ a → PW x G S σ k n (pc + 3) l st) : PW x G S σ k n pc l (.int (iI a) :: st) := by
  intro p e s m args below meth c H locs ls C hP hS hl
  exact lv_if_ge C.1 C.2.1 hd ht (fun h => kt ((iI_le inR_0 ha).mp h) p e s m args below meth c H locs ls C hP hS hl) (fun h => kf (fun q => h ((iI_le inR_0 ha).mpr q)) p e s m args below meth c H locs ls C hP hS hl)
theorem PW.icmp_ge {x : FX} {G : GT} {S : Shp} {σ : Sto} {k n pc : Nat} {l : LV} {st : List Value} {a b : Int} {off : Int} (tgt : Nat) (hd : decode x.1.2.1 pc = .ok (.if_icmp .ge off, 3)) (ht : (pc : Int) + off = (tgt : Int)) (ha : inR a) (hb : inR b) (kt : b ≤ a → PW x G S σ k n tgt l st) (kf : ¬ b ≤ a → PW x G S σ k n (pc + 3) l st) : PW x G S σ k n pc l (.int (iI b) :: .int (iI a) :: st) := by
  intro p e s m args below meth c H locs ls C hP hS hl
  exact lv_icmp_ge C.1 C.2.1 hd ht (fun h => kt ((iI_le hb ha).mp h) p e s m args below meth c H locs ls C hP hS hl) (fun h => kf (fun q => h ((iI_le hb ha).mpr q)) p e s m args below meth c H locs ls C hP hS hl)
theorem PW.if_gt {x : FX} {G : GT} {S : Shp} {σ : Sto} {k n pc : Nat} {l : LV} {st : List Value} {a : Int} {off : Int} (tgt : Nat) (hd : decode x.1.2.1 pc = .ok (.ifCond .gt off, 3)) (ht : (pc : Int) + off = (tgt : Int)) (ha : inR a) (kt : 0 < a → PW x G S σ k n tgt l st) (kf : ¬ 0 < a → PW x G S σ k n (pc + 3) l st) : PW x G S σ k n pc l (.int (iI a) :: st) := by
  intro p e s m args below meth c H locs ls C hP hS hl
  exact lv_if_gt C.1 C.2.1 hd ht (fun h => kt ((iI_lt inR_0 ha).mp h) p e s m args below meth c H locs ls C hP hS hl) (fun h => kf (fun q => h ((iI_lt inR_0 ha).mpr q)) p e s m args below meth c H locs ls C hP hS hl)
theorem PW.icmp_gt {x : FX} {G : GT} {S : Shp} {σ : Sto} {k n pc : Nat} {l : LV} {st : List Value} {a b : Int} {off : Int} (tgt : Nat) (hd : decode x.1.2.1 pc = .ok (.if_icmp .gt off, 3)) (ht : (pc : Int) + off = (tgt : Int)) (ha : inR a) (hb : inR b) (kt : b < a → PW x G S σ k n tgt l st) (kf : ¬ b < a → PW x G S σ k n (pc + 3) l st) : PW x G S σ k n pc l (.int (iI b) :: .int (iI a) :: st) := by
  intro p e s m args below meth c H locs ls C hP hS hl
  exact lv_icmp_gt C.1 C.2.1 hd ht (fun h => kt ((iI_lt hb ha).mp h) p e s m args below meth c H locs ls C hP hS hl) (fun h => kf (fun q => h ((iI_lt hb ha).mpr q)) p e s m args below meth c H locs ls C hP hS hl)
theorem PW.if_le {x : FX} {G : GT} {S : Shp} {σ : Sto} {k n pc : Nat} {l : LV} {st : List Value} {a : Int} {off : Int} (tgt : Nat) (hd : decode x.1.2.1 pc = .ok (.ifCond .le off, 3)) (ht : (pc : Int) + off = (tgt : Int)) (ha : inR a) (kt : a ≤ 0 → PW x G S σ k n tgt l st) (kf : ¬ a ≤ 0 → PW x G S σ k n (pc + 3) l st) : PW x G S σ k n pc l (.int (iI a) :: st) := by
  intro p e s m args below meth c H locs ls C hP hS hl
  exact lv_if_le C.1 C.2.1 hd ht (fun h => kt ((iI_le ha inR_0).mp h) p e s m args below meth c H locs ls C hP hS hl) (fun h => kf (fun q => h ((iI_le ha inR_0).mpr q)) p e s m args below meth c H locs ls C hP hS hl)
theorem PW.icmp_le {x : FX} {G : GT} {S : Shp} {σ : Sto} {k n pc : Nat} {l : LV} {st : List Value} {a b : Int} {off : Int} (tgt : Nat) (hd : decode x.1.2.1 pc = .ok (.if_icmp .le off, 3)) (ht : (pc : Int) + off = (tgt : Int)) (ha : inR a) (hb : inR b) (kt : a ≤ b → PW x G S σ k n tgt l st) (kf : ¬ a ≤ b → PW x G S σ k n (pc + 3) l st) : PW x G S σ k n pc l (.int (iI b) :: .int (iI a) :: st) := by
  intro p e s m args below meth c H locs ls C hP hS hl
  exact lv_icmp_le C.1 C.2.1 hd ht (fun h => kt ((iI_le ha hb).mp h) p e s m args below meth c H locs ls C hP hS hl) (fun h => kf (fun q => h ((iI_le ha hb).mpr q)) p e s m args below meth c H locs ls C hP hS hl)
theorem PW.goto {x : FX} {G : GT} {S : Shp} {σ : Sto} {k n pc : Nat} {l : LV} {st : List Value} {off : Int} (tgt : Nat) (hd : decode x.1.2.1 pc = .ok (.goto off, 3)) (ht : (pc : Int) + off = (tgt : Int)) (kk : PW x G S σ k n tgt l st) : PW x G S σ k n pc l st := by
  intro p e s m args below meth c H locs ls C hP hS hl
  exact lv_goto C.1 C.2.1 hd ht (kk p e s m args below meth c H locs ls C hP hS hl)
theorem PW.ifnonnull {x : FX} {G : GT} {S : Shp} {σ : Sto} {k n pc : Nat} {l : LV} {st : List Value} {a : Nat} {off : Int} (tgt : Nat) (hd : decode x.1.2.1 pc = .ok (.ifnonnull off, 3)) (ht : (pc : Int) + off = (tgt : Int)) (kk : PW x G S σ k n tgt l st) : PW x G S σ k n pc l (.ref a :: st) := by
  intro p e s m args below meth c H locs ls C hP hS hl
  exact lv_ifnonnull C.1 C.2.1 hd ht (kk p e s m args below meth c H locs ls C hP hS hl)
theorem PW.ifnull {x : FX} {G : GT} {S : Shp} {σ : Sto} {k n pc : Nat} {l : LV} {st : List Value} {a : Nat} {off : Int} (hd : decode x.1.2.1 pc = .ok (.ifnull off, 3)) (kk : PW x G S σ k n (pc + 3) l st) : PW x G S σ k n pc l (.ref a :: st) := by
  intro p e s m args below meth c H locs ls C hP hS hl
  exact lv_ifnull C.1 C.2.1 hd (kk p e s m args below meth c H locs ls C hP hS hl)
theorem PW.ifnullN {x : FX} {G : GT} {S : Shp} {σ : Sto} {k n pc : Nat} {l : LV} {st : List Value} {off : Int} (tgt : Nat) (hd : decode x.1.2.1 pc = .ok (.ifnull off, 3)) (ht : (pc : Int) + off = (tgt : Int)) (kk : PW x G S σ k n tgt l st) : PW x G S σ k n pc l (.null :: st) := by
  intro p e s m args below meth c H locs ls C hP hS hl
  exact lv_ifnullN C.1 C.2.1 hd ht (kk p e s m args below meth c H locs ls C hP hS hl)
theorem PW.ifnonnullN {x : FX} {G : GT} {S : Shp} {σ : Sto} {k n pc : Nat} {l : LV} {st : List Value} {off : Int} (hd : decode x.1.2.1 pc = .ok (.ifnonnull off, 3)) (kk : PW x G S σ k n (pc + 3) l st) : PW x G S σ k n pc l (.null :: st) := by
  intro p e s m args below meth c H locs ls C hP hS hl
  exact lv_ifnonnullN C.1 C.2.1 hd (kk p e s m args below meth c H locs ls C hP hS hl)
theorem PW.tsIn {x : FX} {G : GT} {S : Shp} {σ : Sto} {k n pc : Nat} {l : LV} {st : List Value} {dflt lo hi : Int} {offs : Array Int} {len : Nat} {a : Int} (off : Int) (tgt : Nat) (ha : inR a) (hd : decode x.1.2.1 pc = .ok (.tableswitch dflt lo hi offs, len)) (h1 : ¬ a < lo) (h2 : ¬ hi < a) (ho : offs[(a - lo).toNat]? = some off) (ht : (pc : Int) + off = (tgt : Int)) (kk : PW x G S σ k n tgt l st) : PW x G S σ k n pc l (.int (iI a) :: st) := by
  intro p e s m args below meth c H locs ls C hP hS hl
  exact lv_tableIn (x := iI a) C.1 C.2.1 hd (by rw [iI_toInt ha]; exact h1) (by rw [iI_toInt ha]; exact h2) (by rw [iI_toInt ha]; exact ho) ht (kk p e s m args below meth c H locs ls C hP hS hl)
theorem PW.tsOut {x : FX} {G : GT} {S : Shp} {σ : Sto} {k n pc : Nat} {l : LV} {st : List Value} {dflt lo hi : Int} {offs : Array Int} {len : Nat} {a : Int} (tgt : Nat) (ha : inR a) (hd : decode x.1.2.1 pc = .ok (.tableswitch dflt lo hi offs, len)) (h : a < lo ∨ hi < a) (ht : (pc : Int) + dflt = (tgt : Int)) (kk : PW x G S σ k n tgt l st) : PW x G S σ k n pc l (.int (iI a) :: st) := by
  intro p e s m args below meth c H locs ls C hP hS hl
  exact lv_tableOut (x := iI a) C.1 C.2.1 hd (by rw [iI_toInt ha]; exact h) ht (kk p e s m args below meth c H locs ls C hP hS hl)
def b01 (P : Prop) [Decidable P] : Int := if P then 1 else 0
theorem b01_t {P : Prop} [Decidable P] (h : P) : b01 P = 1 := if_pos h
theorem b01_f {P : Prop} [Decidable P] (h : ¬ P) : b01 P = 0 := if_neg h
theorem b01_R (P : Prop) [Decidable P] : inR (b01 P) := by unfold b01 inR; split <;> omega
theorem PW.if_eqB {x : FX} {G : GT} {S : Shp} {σ : Sto} {k n pc : Nat} {l : LV} {st : List Value} {P : Prop} [Decidable P] {off : Int} (tgt : Nat) (hd : decode x.1.2.1 pc = .ok (.ifCond .eq off, 3)) (ht : (pc : Int) + off = (tgt : Int)) (kt : ¬ P → PW x G S σ k n tgt l st) (kf : P → PW x G S σ k n (pc + 3) l st) : PW x G S σ k n pc l (.int (iI (b01 P)) :: st) := by
  refine PW.if_eq tgt hd ht (b01_R P) (fun h => kt fun p => ?_) (fun h => kf (Classical.byContradiction fun p => h (b01_f p)))
  rw [b01_t p] at h
  cases h
theorem PW.if_neB {x : FX} {G : GT} {S : Shp} {σ : Sto} {k n pc : Nat} {l : LV} {st : List Value} {P : Prop} [Decidable P] {off : Int} (tgt : Nat) (hd : decode x.1.2.1 pc = .ok (.ifCond .ne off, 3)) (ht : (pc : Int) + off = (tgt : Int)) (kt : P → PW x G S σ k n tgt l st) (kf : ¬ P → PW x G S σ k n (pc + 3) l st) : PW x G S σ k n pc l (.int (iI (b01 P)) :: st) := by
  refine PW.if_ne tgt hd ht (b01_R P) (fun h => kt (Classical.byContradiction fun p => h (b01_f p))) (fun h => kf fun p => ?_)
  rw [b01_t p] at h
  cases h
theorem PW.ldc {x : FX} {G : GT} {S : Shp} {σ : Sto} {k n pc : Nat} {l : LV} {st : List Value} {own : String} {j : Nat} {v : Int32} (z : Int) (hw : Cond.constant own j v ∈ gtbl) (hz : v = iI z) (hx : x.1.1.cls = own) (hd : decode x.1.2.1 pc = .ok (.ldc j, 2)) (kk : PW x G S σ k n (pc + 2) l (.int (iI z) :: st)) : PW x G S σ k n pc l st := by
  intro p e s m args below meth c H locs ls C hP hS hl
  subst hz
  exact lv_ldc C.1 C.2.1 (hx ▸ C.2.2.2.1) (C.2.2.2.2.1 _ hw) hd (kk p e s m args below meth c H locs ls C hP hS hl)
theorem PW.ldcw {x : FX} {G : GT} {S : Shp} {σ : Sto} {k n pc : Nat} {l : LV} {st : List Value} {own : String} {j : Nat} {v : Int32} (z : Int) (hw : Cond.constant own j v ∈ gtbl) (hz : v = iI z) (hx : x.1.1.cls = own) (hd : decode x.1.2.1 pc = .ok (.ldc_w j, 3)) (kk : PW x G S σ k n (pc + 3) l (.int (iI z) :: st)) : PW x G S σ k n pc l st := by
  intro p e s m args below meth c H locs ls C hP hS hl
  subst hz
  exact lv_ldcw C.1 C.2.1 (hx ▸ C.2.2.2.1) (C.2.2.2.2.1 _ hw) hd (kk p e s m args below meth c H locs ls C hP hS hl)
theorem PW.ldc2 {x : FX} {G : GT} {S : Shp} {σ : Sto} {k n pc : Nat} {l : LV} {st : List Value} {own : String} {j : Nat} {v : Int64} (z : Int) (hw : Cond.constantLong own j v ∈ gtbl) (hz : v = lI z) (hx : x.1.1.cls = own) (hd : decode x.1.2.1 pc = .ok (.ldc2_w j, 3)) (kk : PW x G S σ k n (pc + 3) l (.long (lI z) :: st)) : PW x G S σ k n pc l st := by
  intro p e s m args below meth c H locs ls C hP hS hl
  subst hz
  exact lv_ldc2 C.1 C.2.1 (hx ▸ C.2.2.2.1) (C.2.2.2.2.1 _ hw) hd (kk p e s m args below meth c H locs ls C hP hS hl)
-- ===== rows: fields, arrays =====
/-- a field as the class `own` names it at `idx`: slot k of class number ci -/
def FL (own : String) (idx ci k : Nat) (ty : FieldType) (fin : Bool) : Prop :=
  ∃ (C : String) (T : u_T) (N : Nat) (ty0 : Nat → FieldType), cls[ci]? = some (C, T, N) ∧ k < N ∧ (∀ w ∈ u_ws C T N, w ∈ gtbl) ∧ Cond.fieldLink own idx (T k).1 (T k).2.1 (T k).2.2.1 ∈ gtbl ∧ (T k).2.2.2 = fin ∧ parseFieldDescriptor (T k).2.2.1 = some ty ∧ (∀ j, j < N → parseFieldDescriptor (T j).2.2.1 = some (ty0 j)) ∧ (∀ a, a < N → ∀ b, b < N → a ≠ b → (T a).2.1 ≠ (T b).2.1) ∧ (fin = true → (T k).1 = own)
theorem rse_obj {G : GT} {ci : Nat} {fs : List (Option (Option Nat))} {f : Int → Int} : rse G (sO ci fs) f = .inr (ci, fs.mapIdx (rfd G f)) := rfl
theorem HW.lt {G : GT} {S : Shp} {σ : Sto} {H : Heap} (h : HW G S σ H) {a : Nat} (ha : a < S.1) : ra G a = gB G + a := by
  have h1 := h.2.2
  simp [ra, show a < 1000000 by omega]
theorem PW.getI {x : FX} {G : GT} {S : Shp} {σ : Sto} {k n pc : Nat} {l : LV} {st : List Value} {a idx ci ks : Nat} {ty : FieldType} {fin : Bool} {own : String} {fs : List (Option (Option Nat))} (z : Int)
    (fl : FL own idx ci ks ty fin) (hx : x.1.1.cls = own) (hA : At S a (sO ci fs)) (hk : fs[ks]? = some fI) (hz : (ks : Int) = z) (hd : decode x.1.2.1 pc = .ok (.getfield idx, 3)) (kk : PW x G S σ k n (pc + 3) l (.int (iI (σ a z)) :: st)) : PW x G S σ k n pc l (.ref a :: st) := by
  subst hz
  intro p e s m args below meth c H locs ls C hP hS hl
  obtain ⟨hs, ha⟩ := hA
  obtain ⟨Cn, T, N, ty0, h1, h2, h3, h4, -⟩ := fl
  subst hx
  have he := wsl_at (G := G) (S := S) (σ := σ) ha
  rw [hs, rse_obj] at he
  have hr : rv G (.ref a) = .ref (gB G + a) := by show Value.ref (ra G a) = _; rw [hP.lt ha]
  show W p G.1 e x.2.1 s m args below meth c H locs k n (x.2.2 below args s) (F0 m pc ls (rv G (.ref a) :: st.map (rv G)))
  rw [hr]
  refine va_get (D := G.2.1) (Ts := gtbl) C.1 C.2.1 C.2.2.2.2.1 h3 C.2.2.2.1 C.2.2.2.2.2.2.2.2.1.1 hP.1 a he h1 ks h2 (C.2.2.2.2.1 _ h4) (fun _ h => h) (v := .int (iI (σ a ks))) ?_ hd (kk p e s m args below meth c H locs ls C hP hS hl)
  rw [List.getElem?_mapIdx, hk]
  rfl
theorem PW.getR {x : FX} {G : GT} {S : Shp} {σ : Sto} {k n pc : Nat} {l : LV} {st : List Value} {a r idx ci ks : Nat} {ty : FieldType} {fin : Bool} {own : String} {fs : List (Option (Option Nat))}
    (fl : FL own idx ci ks ty fin) (hx : x.1.1.cls = own) (hA : At S a (sO ci fs)) (hk : fs[ks]? = some (fR r)) (hd : decode x.1.2.1 pc = .ok (.getfield idx, 3)) (kk : PW x G S σ k n (pc + 3) l (.ref r :: st)) : PW x G S σ k n pc l (.ref a :: st) := by
  intro p e s m args below meth c H locs ls C hP hS hl
  obtain ⟨hs, ha⟩ := hA
  obtain ⟨Cn, T, N, ty0, h1, h2, h3, h4, -⟩ := fl
  subst hx
  have he := wsl_at (G := G) (S := S) (σ := σ) ha
  rw [hs, rse_obj] at he
  have hr : rv G (.ref a) = .ref (gB G + a) := by show Value.ref (ra G a) = _; rw [hP.lt ha]
  show W p G.1 e x.2.1 s m args below meth c H locs k n (x.2.2 below args s) (F0 m pc ls (rv G (.ref a) :: st.map (rv G)))
  rw [hr]
  refine va_get (D := G.2.1) (Ts := gtbl) C.1 C.2.1 C.2.2.2.2.1 h3 C.2.2.2.1 C.2.2.2.2.2.2.2.2.1.1 hP.1 a he h1 ks h2 (C.2.2.2.2.1 _ h4) (fun _ h => h) (v := .ref (ra G r)) ?_ hd (kk p e s m args below meth c H locs ls C hP hS hl)
  rw [List.getElem?_mapIdx, hk]
  rfl
theorem mapIdx_set {G : GT} {f : Int → Int} {fs : List (Option (Option Nat))} {ks : Nat} {v : Int} (hk : fs[ks]? = some fI) : (fs.mapIdx (rfd G f)).set ks (.int (iI v)) = fs.mapIdx (rfd G (up1 f ks v)) := by
  apply List.ext_getElem?
  intro i
  rw [List.getElem?_set, List.getElem?_mapIdx, List.getElem?_mapIdx]
  have hlt : ks < fs.length := (List.getElem?_eq_some_iff.mp hk).1
  by_cases hi : ks = i
  · subst hi
    rw [if_pos rfl, if_pos (by simpa using hlt), hk]
    simp [rfd, up1]
  · rw [if_neg hi]
    cases h : fs[i]? with
    | none => rfl
    | some o =>
      cases o with
      | none => simp [rfd, up1, show ¬ ((i : Int) = (ks : Int)) by omega]
      | some r => rfl
theorem mapIdx_setR {G : GT} {f : Int → Int} {fs : List (Option (Option Nat))} {ks r : Nat} {o : Option Nat} (hk : fs[ks]? = some (some o)) : (fs.mapIdx (rfd G f)).set ks (.ref (ra G r)) = (fs.set ks (fR r)).mapIdx (rfd G f) := by
  apply List.ext_getElem?
  intro i
  rw [List.getElem?_set, List.getElem?_mapIdx, List.getElem?_mapIdx, List.getElem?_set]
  have hlt : ks < fs.length := (List.getElem?_eq_some_iff.mp hk).1
  by_cases hi : ks = i
  · subst hi
    rw [if_pos rfl, if_pos (by simpa using hlt), if_pos rfl, if_pos hlt]
    rfl
  · rw [if_neg hi, if_neg hi]
theorem HW.set {G : GT} {S S' : Shp} {σ σ' : Sto} {H H1 : Heap} {a : Nat} (hP : HW G S σ H) (ha : a < S.1) (hz : H1.size = H.size) (oq : ∀ q : Nat, q ≠ gB G + a → H1[q]? = H[q]?) (hat : va_at G.2.1 cls (gB G + a, rse G (S'.2 a) (σ' a)) H1) (hS : S'.1 = S.1) (h2 : ∀ b, b ≠ a → S'.2 b = S.2 b ∧ σ' b = σ b) : HW G S' σ' H1 := by
  refine ⟨?_, by rw [hz, hP.2.1, hS], by rw [hS]; exact hP.2.2⟩
  rw [← wsl_set (G := G) ha hS h2]
  exact hP.1.set (wsl_D (S := S) (σ := σ)) (wsl_at ha) hat oq
theorem HW.free {G : GT} {a : Nat} : AA G (gB G + a) := Nat.le_add_right _ _
section PWB
variable {x : FX} {G : GT} {S : Shp} {σ : Sto} {k n pc : Nat} {l : LV} {st : List Value} {a idx ci ks : Nat} {ty : FieldType} {own : String} {fs : List (Option (Option Nat))}
/-- putfield, whatever the value: the world that has it -/
theorem PW.putG {fin : Bool} {v : Value} (S' : Shp) (σ' : Sto) (fl : FL own idx ci ks ty fin) (hx : x.1.1.cls = own) (hi : fin = true → x.1.1.name = "<init>") (hA : At S a (sO ci fs)) (hl0 : ks < fs.length) (hn : narrow ty (rv G v) = rv G v) (hf : fits ty (rv G v) = true)
    (hS' : S'.1 = S.1) (h2 : ∀ b, b ≠ a → S'.2 b = S.2 b ∧ σ' b = σ b) (he : rse G (S'.2 a) (σ' a) = .inr (ci, (fs.mapIdx (rfd G (σ a))).set ks (rv G v))) (hd : decode x.1.2.1 pc = .ok (.putfield idx, 3)) (kk : PW x G S' σ' k n (pc + 3) l st) : PW x G S σ k n pc l (v :: .ref a :: st) := by
  intro p e s m args below meth c H locs ls C hP hS hl
  obtain ⟨hs, ha⟩ := hA
  obtain ⟨Cn, T, N, ty0, h1, hk, hin, h4, h5, h6, h7, h8, h9⟩ := fl
  subst hx
  have hr : rv G (.ref a) = .ref (gB G + a) := by show Value.ref (ra G a) = _; rw [hP.lt ha]
  show W p G.1 e x.2.1 s m args below meth c H locs k n (x.2.2 below args s) (F0 m pc ls (rv G v :: rv G (.ref a) :: st.map (rv G)))
  rw [hr]
  have hts : ∀ w ∈ gtbl, w.before args s = true := C.2.2.2.2.1
  have hK : va_K G.2.1 cls (tys G) s := C.2.2.2.2.2.2.2.2.1.1
  have hq := wsl_at (G := G) (S := S) (σ := σ) ha
  rw [hs, rse_obj] at hq
  have hap := va_apart (own := x.1.1.cls) (D := G.2.1) (cl := cls) (tys := tys G) (s := s) hts hin ty0 h7 h8 hK h1
  obtain ⟨r, h1', cell, q1, q2, q3, q4⟩ := hP.1 a _ hq
  have hr' : r = (Cn, T, N) := Option.some.inj (h1'.symm.trans h1)
  subst hr'
  obtain ⟨hSl, hfc, kC, hkC, hkind⟩ := hK.1 ci _ h1
  obtain ⟨cf, kf, fi, f, hif, hsl⟩ := hSl ks hk
  have hlay := hts _ (hin _ (u_in_lay hk))
  have hst := (u_facts hfc hkC (u_lays hts hin hk) hif).1
  have hlen : ks < (fs.mapIdx (rfd G (σ a))).length := by simpa using hl0
  have fin2 : ∀ H' : Heap, H'[gB G + a]? = some (cell.setSlot f.slot (rv G v)) → H'.size = H.size → (∀ q : Nat, q ≠ gB G + a → H'[q]? = H[q]?) → W p G.1 e x.2.1 s m args below meth c H' (locs ++ [⟨gB G + a, f.slot⟩]) k n (x.2.2 below args s) (F0 m (pc + 3) ls (st.map (rv G))) := by
    intro H' e1 e2 e3
    rw [hsl] at e1 ⊢
    refine kk p e s m args below meth c H' _ ls C (hP.set ha e2 e3 ?_ hS' h2) (hS.put e2 e3 HW.free) hl
    rw [he]
    exact ⟨_, h1, t_OB.to (V := updV (vp_V (fs.mapIdx (rfd G (σ a)))) ks (rv G v)) ⟨_, e1, q2, q3, t_set q4 hap hk (rv G v)⟩ (fun j _ => vp_updV_set hlen (rv G v) j)⟩
  unfold u_lay at hlay
  cases hfin : fin with
  | false =>
    rw [if_neg (by rw [h5, hfin]; decide)] at hlay
    have h6' := u_store hfc hkC hkind hlay hif h6 hn hf
    exact W.putK C.1 C.2.1 (f := f) ⟨C.2.2.2.1, hts _ h4, ⟨_, _, _, hif⟩, hst⟩ (by rw [q2]; exact h6') q1 q3 (by rw [hsl]; exact k2_hasslot (q4 ks hk)) rfl rfl hd fin2
  | true =>
    rw [if_pos (by rw [h5, hfin])] at hlay
    have hcf : m.cls = cf := by
      obtain ⟨_, _, c', _, _, _, -, -, hf', -, -, -, hown2, -⟩ := Cond.laysFinal_spec hlay
      have e1 : c' = cf := by have := hif.symm.trans hf'; simp at this; exact this.1.symm
      rw [h9 hfin] at hown2
      rw [← e1]
      exact Option.some.inj (C.2.2.2.1.symm.trans hown2)
    have h6' := u_fits hfc hkC hkind (Or.inr hlay) hif h6 hn hf
    exact W.putFinK C.1 C.2.1 C.2.2.2.1 (hts _ h4) hif hst hcf (C.2.2.2.2.2.2.2.1 (hi hfin)) (by rw [q2]; exact h6') q1 q3 (by rw [hsl]; exact k2_hasslot (q4 ks hk)) rfl rfl hd fin2
theorem PW.putI {v : Int} {fin : Bool} (z : Int) (fl : FL own idx ci ks ty fin) (hx : x.1.1.cls = own) (hi : fin = true → x.1.1.name = "<init>") (hA : At S a (sO ci fs)) (hk : fs[ks]? = some fI) (hz : (ks : Int) = z) (hn : narrow ty (.int (iI v)) = .int (iI v)) (hf : fits ty (.int (iI v)) = true) (hd : decode x.1.2.1 pc = .ok (.putfield idx, 3))
    (kk : PW x G S (upS σ a (up1 (σ a) z v)) k n (pc + 3) l st) : PW x G S σ k n pc l (.int (iI v) :: .ref a :: st) := by
  subst hz
  refine PW.putG S (upS σ a (up1 (σ a) ks v)) fl hx hi hA (List.getElem?_eq_some_iff.mp hk).1 hn hf rfl (fun b hb => ⟨rfl, upS_ne hb⟩) ?_ hd kk
  rw [hA.1, rse_obj, upS_same]
  exact congrArg (fun z => Sum.inr (ci, z)) (mapIdx_set hk).symm
theorem PW.putR {r : Nat} {fin : Bool} {o : Option Nat} (fl : FL own idx ci ks ty fin) (hx : x.1.1.cls = own) (hi : fin = true → x.1.1.name = "<init>") (hA : At S a (sO ci fs)) (hk : fs[ks]? = some (some o)) (hn : ∀ q : Nat, narrow ty (.ref q) = .ref q) (hf : ∀ q : Nat, fits ty (.ref q) = true) (hd : decode x.1.2.1 pc = .ok (.putfield idx, 3))
    (kk : PW x G (S.1, upH S.2 a (sO ci (fs.set ks (fR r)))) σ k n (pc + 3) l st) : PW x G S σ k n pc l (.ref r :: .ref a :: st) := by
  refine PW.putG (S.1, upH S.2 a (sO ci (fs.set ks (fR r)))) σ fl hx hi hA (List.getElem?_eq_some_iff.mp hk).1 (hn _) (hf _) rfl (fun b hb => ⟨upH_ne hb, rfl⟩) ?_ hd kk
  show rse G (upH S.2 a (sO ci (fs.set ks (fR r))) a) (σ a) = _
  rw [upH_same, rse_obj]
  exact congrArg (fun z => Sum.inr (ci, z)) (mapIdx_setR hk).symm
theorem rse_arr {G : GT} {t N : Nat} {f : Int → Int} : rse G (sA t N) f = .inl (G.2.2.1 t, N, .inl (fun j : Nat => iI (f (j : Int)))) := rfl
theorem rse_arq {G : GT} {t N : Nat} {f : Int → Int} {g : Nat → Option Nat} : rse G (sQ t N g) f = .inl (G.2.2.1 t, N, .inr (.inr (.inr (.inr (fun j => (g j).map (ra G)))))) := rfl
theorem PW.iaload {N : Nat} {i : Int} (hA : At S a (sA 0 N)) (hi : inR i) (h0 : 0 ≤ i) (h1 : i < N) (hd : decode x.1.2.1 pc = .ok (.iaload, 1)) (kk : PW x G S σ k n (pc + 1) l (.int (iI (σ a i)) :: st)) : PW x G S σ k n pc l (.int (iI i) :: .ref a :: st) := by
  intro p e s m args below meth c H locs ls C hP hS hl
  obtain ⟨hs, ha⟩ := hA
  have he := wsl_at (G := G) (S := S) (σ := σ) ha
  rw [hs, rse_arr] at he
  have hr : rv G (.ref a) = .ref (gB G + a) := by show Value.ref (ra G a) = _; rw [hP.lt ha]
  show W p G.1 e x.2.1 s m args below meth c H locs k n (x.2.2 below args s) (F0 m pc ls (.int (iI i) :: rv G (.ref a) :: st.map (rv G)))
  rw [hr]
  have h := kk p e s m args below meth c H locs ls C hP hS hl
  rw [show i = ((iI i).toNatClampNeg : Int) by rw [iI_ix hi h0]; omega] at h
  refine va_iald C.1 C.2.1 C.2.2.2.2.2.2.2.2.1.1 hP.1 a 0 he rfl (iI_in hi h0 h1) hd ?_
  exact h
theorem PW.zaload {N : Nat} {i : Int} (hA : At S a (sA 2 N)) (hi : inR i) (h0 : 0 ≤ i) (h1 : i < N) (hd : decode x.1.2.1 pc = .ok (.baload, 1)) (kk : PW x G S σ k n (pc + 1) l (.int (iI (σ a i)) :: st)) : PW x G S σ k n pc l (.int (iI i) :: .ref a :: st) := by
  intro p e s m args below meth c H locs ls C hP hS hl
  obtain ⟨hs, ha⟩ := hA
  have he := wsl_at (G := G) (S := S) (σ := σ) ha
  rw [hs, rse_arr] at he
  have hr : rv G (.ref a) = .ref (gB G + a) := by show Value.ref (ra G a) = _; rw [hP.lt ha]
  show W p G.1 e x.2.1 s m args below meth c H locs k n (x.2.2 below args s) (F0 m pc ls (.int (iI i) :: rv G (.ref a) :: st.map (rv G)))
  rw [hr]
  have h := kk p e s m args below meth c H locs ls C hP hS hl
  rw [show i = ((iI i).toNatClampNeg : Int) by rw [iI_ix hi h0]; omega] at h
  refine va_zald C.1 C.2.1 C.2.2.2.2.2.2.2.2.1.1 hP.1 a 2 he rfl (iI_in hi h0 h1) hd ?_
  exact h
theorem PW.aaload {N t r : Nat} {i : Int} {g : Nat → Option Nat} (hA : At S a (sQ t N g)) (ht : ∃ Cn, (tys G)[t]? = some (G.2.2.1 t, .object Cn)) (hi : inR i) (h0 : 0 ≤ i) (h1 : i < N) (hg : g i.toNat = some r) (hd : decode x.1.2.1 pc = .ok (.aaload, 1)) (kk : PW x G S σ k n (pc + 1) l (.ref r :: st)) : PW x G S σ k n pc l (.int (iI i) :: .ref a :: st) := by
  intro p e s m args below meth c H locs ls C hP hS hl
  obtain ⟨hs, ha⟩ := hA
  have he := wsl_at (G := G) (S := S) (σ := σ) ha
  rw [hs, rse_arq] at he
  obtain ⟨Cn, ht⟩ := ht
  have hr : rv G (.ref a) = .ref (gB G + a) := by show Value.ref (ra G a) = _; rw [hP.lt ha]
  show W p G.1 e x.2.1 s m args below meth c H locs k n (x.2.2 below args s) (F0 m pc ls (.int (iI i) :: rv G (.ref a) :: st.map (rv G)))
  rw [hr]
  refine va_aldq C.1 C.2.1 C.2.2.2.2.2.2.2.2.1.1 hP.1 a t he ht (iI_in hi h0 h1) hd ?_
  rw [iI_ix hi h0, hg]
  exact kk p e s m args below meth c H locs ls C hP hS hl
theorem PW.alen {N t : Nat} (hA : At S a (sA t N)) (ht : t < 3) (hd : decode x.1.2.1 pc = .ok (.arraylength, 1)) (kk : PW x G S σ k n (pc + 1) l (.int (iI (N : Int)) :: st)) : PW x G S σ k n pc l (.ref a :: st) := by
  intro p e s m args below meth c H locs ls C hP hS hl
  obtain ⟨hs, ha⟩ := hA
  have he := wsl_at (G := G) (S := S) (σ := σ) ha
  rw [hs, rse_arr] at he
  have hr : rv G (.ref a) = .ref (gB G + a) := by show Value.ref (ra G a) = _; rw [hP.lt ha]
  show W p G.1 e x.2.1 s m args below meth c H locs k n (x.2.2 below args s) (F0 m pc ls (rv G (.ref a) :: st.map (rv G)))
  rw [hr]
  have htt : ∃ ty, (tys G)[t]? = some (G.2.2.1 t, ty) := by
    rcases (show t = 0 ∨ t = 1 ∨ t = 2 by omega) with rfl | rfl | rfl <;> exact ⟨_, rfl⟩
  obtain ⟨ty, htt⟩ := htt
  exact va_alen C.1 C.2.1 C.2.2.2.2.2.2.2.2.1.1 hP.1 a t he htt rfl hd (kk p e s m args below meth c H locs ls C hP hS hl)
theorem PW.alenQ {N t : Nat} {g : Nat → Option Nat} (hA : At S a (sQ t N g)) (ht : ∃ Cn, (tys G)[t]? = some (G.2.2.1 t, .object Cn)) (hd : decode x.1.2.1 pc = .ok (.arraylength, 1)) (kk : PW x G S σ k n (pc + 1) l (.int (iI (N : Int)) :: st)) : PW x G S σ k n pc l (.ref a :: st) := by
  intro p e s m args below meth c H locs ls C hP hS hl
  obtain ⟨hs, ha⟩ := hA
  have he := wsl_at (G := G) (S := S) (σ := σ) ha
  rw [hs, rse_arq] at he
  obtain ⟨Cn, ht⟩ := ht
  have hr : rv G (.ref a) = .ref (gB G + a) := by show Value.ref (ra G a) = _; rw [hP.lt ha]
  show W p G.1 e x.2.1 s m args below meth c H locs k n (x.2.2 below args s) (F0 m pc ls (rv G (.ref a) :: st.map (rv G)))
  rw [hr]
  exact va_alen C.1 C.2.1 C.2.2.2.2.2.2.2.2.1.1 hP.1 a t he ht rfl hd (kk p e s m args below meth c H locs ls C hP hS hl)
theorem arr_at {G : GT} {s : State} {cA : ClassId} {ty : FieldType} {t : Nat} (hK : va_K G.2.1 cls (tys G) s) (ht : (tys G)[t]? = some (cA, ty)) (N : Nat) (f : Nat → Value) : s.isArrayOf (arrV cA N f) ty := (hK.2 t _ ht).1 N f
theorem PW.iastore {N : Nat} {i v : Int} (hA : At S a (sA 0 N)) (hi : inR i) (h0 : 0 ≤ i) (h1 : i < N) (hd : decode x.1.2.1 pc = .ok (.iastore, 1)) (kk : PW x G S (upS σ a (up1 (σ a) i v)) k n (pc + 1) l st) : PW x G S σ k n pc l (.int (iI v) :: .int (iI i) :: .ref a :: st) := by
  intro p e s m args below meth c H locs ls C hP hS hl
  obtain ⟨hs, ha⟩ := hA
  have he := wsl_at (G := G) (S := S) (σ := σ) ha
  rw [hs, rse_arr] at he
  have hr : rv G (.ref a) = .ref (gB G + a) := by show Value.ref (ra G a) = _; rw [hP.lt ha]
  show W p G.1 e x.2.1 s m args below meth c H locs k n (x.2.2 below args s) (F0 m pc ls (.int (iI v) :: .int (iI i) :: rv G (.ref a) :: st.map (rv G)))
  rw [hr]
  have hc : H[gB G + a]? = some (arrV (G.2.2.1 0) N (fun j => .int (iI (σ a (j : Int))))) := hP.1 a _ he
  refine W.iast C.1 C.2.1 hc (arr_at C.2.2.2.2.2.2.2.2.1.1 (t := 0) rfl _ _) (fun q => by cases q) (by rw [arrV_size]; exact iI_in hi h0 h1) rfl rfl hd fun H1 e1 z oq => ?_
  refine kk p e s m args below meth c H1 _ ls C (hP.set ha z oq ?_ rfl (fun b hb => ⟨rfl, upS_ne hb⟩)) (hS.put z oq HW.free) hl
  rw [hs, rse_arr, upS_same]
  show H1[gB G + a]? = some (arrV (G.2.2.1 0) N (fun j => .int (iI (up1 (σ a) i v (j : Int)))))
  rw [e1, arrV_store]
  congr 2
  funext q
  rw [iI_ix hi h0]
  by_cases hq : q = i.toNat
  · simp [updV, up1, hq, show max i 0 = i by omega]
  · simp [updV, up1, hq, show ¬ ((q : Int) = i) by omega]
theorem PW.zastore {N : Nat} {i v w : Int} (hA : At S a (sA 2 N)) (hi : inR i) (h0 : 0 ≤ i) (h1 : i < N) (hw : narrow .boolean (.int (iI v)) = .int (iI w)) (hd : decode x.1.2.1 pc = .ok (.bastore, 1)) (kk : PW x G S (upS σ a (up1 (σ a) i w)) k n (pc + 1) l st) : PW x G S σ k n pc l (.int (iI v) :: .int (iI i) :: .ref a :: st) := by
  intro p e s m args below meth c H locs ls C hP hS hl
  obtain ⟨hs, ha⟩ := hA
  have he := wsl_at (G := G) (S := S) (σ := σ) ha
  rw [hs, rse_arr] at he
  have hr : rv G (.ref a) = .ref (gB G + a) := by show Value.ref (ra G a) = _; rw [hP.lt ha]
  show W p G.1 e x.2.1 s m args below meth c H locs k n (x.2.2 below args s) (F0 m pc ls (.int (iI v) :: .int (iI i) :: rv G (.ref a) :: st.map (rv G)))
  rw [hr]
  have hc : H[gB G + a]? = some (arrV (G.2.2.1 2) N (fun j => .int (iI (σ a (j : Int))))) := hP.1 a _ he
  refine W.zast C.1 C.2.1 hc (arr_at C.2.2.2.2.2.2.2.2.1.1 (t := 2) rfl _ _) (fun q => by cases q) (by rw [arrV_size]; exact iI_in hi h0 h1) rfl rfl hd fun H1 e1 z oq => ?_
  refine kk p e s m args below meth c H1 _ ls C (hP.set ha z oq ?_ rfl (fun b hb => ⟨rfl, upS_ne hb⟩)) (hS.put z oq HW.free) hl
  rw [hs, rse_arr, upS_same]
  show H1[gB G + a]? = some (arrV (G.2.2.1 2) N (fun j => .int (iI (up1 (σ a) i w (j : Int)))))
  rw [e1, arrV_store, hw]
  congr 2
  funext q
  rw [iI_ix hi h0]
  by_cases hq : q = i.toNat
  · simp [updV, up1, hq, show max i 0 = i by omega]
  · simp [updV, up1, hq, show ¬ ((q : Int) = i) by omega]
end PWB

/-- the tables that stand outside, as whole numbers -/
def xT (k : Nat) : Int → Int := fun j => ((tabK k).getD j.toNat 0).toInt
section PWX
variable {x : FX} {G : GT} {S : Shp} {σ : Sto} {k n pc : Nat} {l : LV} {st : List Value} {own : String} {idx : Nat}
theorem nn_z0 {z : Int} (h : inR z) (h0 : 0 ≤ z) : ¬ iI z < 0 := by
  rw [iI_0, iI_lt h inR_0]
  omega
theorem ra_ext (G : GT) (j : Nat) : ∃ q, ra G (1000000 + j) = q := ⟨_, rfl⟩
theorem PW.getsX (k0 : Nat) (hk : k0 < 4) (hw : Cond.fieldLink own idx "HillLand$Kinds" (nmT k0) "[I" ∈ gtbl) (hx : x.1.1.cls = own) (hd : decode x.1.2.1 pc = .ok (.getstatic idx, 3)) (kk : PW x G S σ k n (pc + 3) l (.ref (1000000 + k0) :: st)) : PW x G S σ k n pc l st := by
  intro p e s m args below meth c H locs ls C hP hS hl
  have hE : Ext G s s.heap := C.2.2.2.2.2.2.2.2.1.2.1
  exact va_gets C.1 C.2.1 (hE.1 k0 hk).1 hS (hx ▸ C.2.2.2.1) (C.2.2.2.2.1 _ hw) (fun _ h => h) hd (kk p e s m args below meth c H locs ls C hP hS hl)
theorem PW.ialoadX (k0 : Nat) {i : Int} (hk : k0 < 4) (hi : inR i) (h0 : 0 ≤ i) (h1 : i < (tabK k0).length) (hd : decode x.1.2.1 pc = .ok (.iaload, 1)) (kk : PW x G S σ k n (pc + 1) l (.int (iI (xT k0 i)) :: st)) : PW x G S σ k n pc l (.int (iI i) :: .ref (1000000 + k0) :: st) := by
  intro p e s m args below meth c H locs ls C hP hS hl
  have hE : Ext G s s.heap := C.2.2.2.2.2.2.2.2.1.2.1
  obtain ⟨cell, q1, q2, q3, q4, q5, q6, q7⟩ := (hE.1 k0 hk).2.kept hS.2.1
  have hix := iI_ix hi h0
  refine W.iald (v := .int (iI (xT k0 i))) C.1 C.2.1 (a := ra G (1000000 + k0)) q1 q2 q3 (j := iI i) ?_ ?_ rfl rfl hd (kk p e s m args below meth c H locs ls C hP hS hl)
  · intro h
    rcases h with h | h
    · exact nn_z0 hi h0 h
    · rw [hix] at h
      omega
  · rw [hix, q6 _ (by omega)]
    rw [show iI (xT k0 i) = (tabK k0).getD i.toNat 0 from iI_of _]
theorem PW.alenX (k0 : Nat) (hk : k0 < 4) (hd : decode x.1.2.1 pc = .ok (.arraylength, 1)) (kk : PW x G S σ k n (pc + 1) l (.int (iI ((tabK k0).length : Int)) :: st)) : PW x G S σ k n pc l (.ref (1000000 + k0) :: st) := by
  intro p e s m args below meth c H locs ls C hP hS hl
  have hE : Ext G s s.heap := C.2.2.2.2.2.2.2.2.1.2.1
  obtain ⟨cell, q1, q2, q3, q4, q5, q6, q7⟩ := (hE.1 k0 hk).2.kept hS.2.1
  exact W.alen (n := iI ((tabK k0).length : Int)) C.1 C.2.1 (a := ra G (1000000 + k0)) q1 q2 q5 rfl rfl hd (kk p e s m args below meth c H locs ls C hP hS hl)
/-- the script's i-th int -/
def scI (G : GT) (i : Int) : Int := (scX G i.toNat).toInt
theorem scI_R (G : GT) (i : Int) : inR (scI G i) := inR_of _
theorem PW.sld {i : Int} (hi : inR i) (h0 : 0 ≤ i) (h1 : i < scL G) (hd : decode x.1.2.1 pc = .ok (.iaload, 1)) (kk : PW x G S σ k n (pc + 1) l (.int (iI (scI G i)) :: st)) : PW x G S σ k n pc l (.int (iI i) :: .ref 1000021 :: st) := by
  intro p e s m args below meth c H locs ls C hP hS hl
  have hE : Ext G s s.heap := C.2.2.2.2.2.2.2.2.1.2.1
  obtain ⟨cell, q1, q2, q3, q4, q5, q6, q7⟩ := hE.2.2.kept hS.2.1
  have hix := iI_ix hi h0
  refine W.iald (v := .int (iI (scI G i))) C.1 C.2.1 (a := ra G 1000021) q1 q2 q3 (j := iI i) ?_ ?_ rfl rfl hd (kk p e s m args below meth c H locs ls C hP hS hl)
  · intro h
    rcases h with h | h
    · exact nn_z0 hi h0 h
    · rw [hix] at h
      omega
  · rw [hix, q6 _ (by omega)]
    rw [show iI (scI G i) = scX G i.toNat from iI_of _]
theorem PW.slen (hd : decode x.1.2.1 pc = .ok (.arraylength, 1)) (kk : scL G ≤ 260 → PW x G S σ k n (pc + 1) l (.int (iI (scL G : Int)) :: st)) : PW x G S σ k n pc l (.ref 1000021 :: st) := by
  intro p e s m args below meth c H locs ls C hP hS hl
  have hE : Ext G s s.heap := C.2.2.2.2.2.2.2.2.1.2.1
  obtain ⟨cell, q1, q2, q3, q4, q5, q6, q7⟩ := hE.2.2.kept hS.2.1
  exact W.alen (n := iI (scL G : Int)) C.1 C.2.1 (a := ra G 1000021) q1 q2 q5 rfl rfl hd (kk hE.2.1 p e s m args below meth c H locs ls C hP hS hl)
end PWX

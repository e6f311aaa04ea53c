def R_law : String := "HillLandLaw"
def lw_P (b : Addr) (xs : List Int32) (args : Array Value) (s : State) : Prop := args = #[.ref b] ∧ s.IntsAt b xs ∧ xs.length ≤ 3584 ∧ (Jvm.Cond.and given_1 narrow_1).before args s = true
def lw_Q (_ : Array Value) (s : State) (o : Outcome) (t : State) : Prop := o = .returned (some (.int 1)) ∧ Framed s o t [] 600000 7302250
def lw_Z (below : List Frame) (a : Array Value) (s : State) : State → Prop := fun t => ∃ o, t.status = .running ∧ Ended t below o ∧ lw_Q a s o t
/-- the law's own end, with 1 on the stack, nothing written that was there before, its room as the claim has it -/
theorem lw_ret {p : Program} {l : Launch} {e : Env} {s : State} {m : MethodId} {below : List Frame} {meth : Method} {c : Code} {b : Nat} (hx : p.tables.exec = Jvm.exec) (hb : c.code = code) (hr : meth.sig.returnType = ret) (hlocks : meth.locks = false) {pc : Nat} {H : Heap} {ls : Array Slot} (hdg : decode code pc = .ok (.ireturn, 1)) : W p l e room_1 s m #[Value.ref b] below meth c H [] 600000 7302250 (lw_Z below #[Value.ref b] s) (F0 m pc ls [.int 1]) := by
  intro T hT X
  obtain ⟨fs, hret, hrun, hended, hW, hframe⟩ := X.leave (v := some (.int 1)) (hlocks := hlocks) (fun h => by rw [hr] at h; cases h)
  have hmeth' : T.vm.method? m = some meth := X.method'
  refine ⟨T.setFrames fs, ?_, .returned (some (.int 1)), hrun, hended, rfl, ⟨_, rfl⟩, hW, hframe⟩
  jvm_step X.here [X.here.top, hx, hb, hdg, hmeth', hr, ret, narrow_b1]
  (try refine ⟨rfl, ?_⟩); (try refine ⟨rfl, ?_⟩)
  first | (intro acts; rw [hret _ acts rfl rfl rfl]) | rw [hret _ _ rfl rfl rfl]
  exact Steps.refl _
/-- what holds at the law's entry: the machine, the code, the tables' words (any of lw_tbl by 'hts w (by decide +kernel)'), the script of L ints xs at the cell b, what the Statement gives of the start (any of its parts by flat_of_before) -/
def lw_At (p : Program) (s : State) (m : MethodId) (meth : Method) (c : Code) (b L : Nat) (xs : Nat → Int32) : Prop :=
  p.tables.exec = Jvm.exec ∧ c.code = code ∧ meth.sig.returnType = ret ∧ c.maxLocals = 4 ∧ s.vm.findClass R_law = some m.cls ∧ (∀ w ∈ lw_tbl, w.before #[Value.ref b] s = true) ∧ va_X b L xs s s.heap ∧ b < s.heap.size ∧ meth.locks = false ∧ (Jvm.Cond.and given_1 narrow_1).before #[Value.ref b] s = true
theorem bAnd63 (a : Int) : 0 ≤ bAnd a 63 ∧ bAnd a 63 ≤ 63 := by
  unfold bAnd
  have h : (iI a &&& iI 63).toBitVec.toNat ≤ 63 := by
    rw [Int32.toBitVec_and, BitVec.toNat_and]
    exact Nat.le_trans Nat.and_le_right (by decide)
  rw [show (iI a &&& iI 63).toInt = (iI a &&& iI 63).toBitVec.toInt from rfl, BitVec.toInt_eq_toNat_of_lt (by omega)]
  omega
/-- the script's i-th int -/
def sc (xs : Nat → Int32) (i : Int) : Int := (xs i.toNat).toInt
theorem sc_R (xs : Nat → Int32) (i : Int) : inR (sc xs i) := inR_of _
def mL_law : MY := (yL_law, code, 4, ret)
/-- the law's end, over a script that stands at b -/
def LZ (b L g0 : Nat) (xs : Nat → Int32) : List Frame → Array Value → State → State → Prop := fun below args s t => va_X b L xs s s.heap ∧ args = #[Value.ref b] ∧ s.heap.size = g0 → lw_Z below #[Value.ref b] s t
abbrev xL (b L g0 : Nat) (xs : Nat → Int32) : FX := (mL_law, room_1, LZ b L g0 xs)
section PLW
variable {G : GT} {S : Shp} {σ : Sto} {k n pc : Nat} {l : LV} {st : List Value} {b L : Nat} {xs : Nat → Int32}
theorem PL_triv {p : Program} {e : Env} {s : State} {m : MethodId} {args : Array Value} {below : List Frame} {meth : Method} {c : Code} {H : Heap} {locs : List Loc} {la : Launch} {g : JFrame} (hX : ¬ (va_X b L xs s s.heap ∧ args = #[Value.ref b] ∧ s.heap.size = gB G)) : W p la e room_1 s m args below meth c H locs k n (LZ b L (gB G) xs below args s) g := fun T _ _ => ⟨_, Steps.refl _, fun q => absurd q hX⟩
theorem PW.sld {i : Int} (hr : ra G 1000021 = b) (hb : b < gB G) (ri : inR i) (h0 : 0 ≤ i) (h1 : i < L) (hd : decode code pc = .ok (.iaload, 1)) (kk : PW (xL b L (gB G) xs) G S σ k n (pc + 1) l (.int (iI (sc xs i)) :: st)) : PW (xL b L (gB G) xs) G S σ k n pc l (.int (iI i) :: .ref 1000021 :: st) := by
  intro p e s m args below meth c H locs ls C hP hS hl
  by_cases hX : va_X b L xs s s.heap ∧ args = #[Value.ref b] ∧ s.heap.size = gB G
  · have hr' : rv G (.ref 1000021) = .ref b := by show Value.ref (ra G 1000021) = _; rw [hr]
    show W p G.1 e room_1 s m args below meth c H locs k n (LZ b L (gB G) xs below args s) (F0 m pc ls (.int (iI i) :: rv G (.ref 1000021) :: st.map (rv G)))
    rw [hr']
    refine va_sld C.1 C.2.1 hX.1 (by rw [hX.2.2]; exact hb) (Nat.not_le.mpr hb) hS (iI_in ri h0 h1) hd ?_
    have kk' := kk p e s m args below meth c H locs ls C hP hS hl
    have e1 : xs (iI i).toNatClampNeg = iI (sc xs i) := by unfold sc; rw [iI_of, iI_ix ri h0]
    rw [e1]
    exact kk'
  · exact PL_triv hX
theorem PW.slen (hr : ra G 1000021 = b) (hb : b < gB G) (hd : decode code pc = .ok (.arraylength, 1)) (kk : PW (xL b L (gB G) xs) G S σ k n (pc + 1) l (.int (iI (L : Int)) :: st)) : PW (xL b L (gB G) xs) G S σ k n pc l (.ref 1000021 :: st) := by
  intro p e s m args below meth c H locs ls C hP hS hl
  by_cases hX : va_X b L xs s s.heap ∧ args = #[Value.ref b] ∧ s.heap.size = gB G
  · have hr' : rv G (.ref 1000021) = .ref b := by show Value.ref (ra G 1000021) = _; rw [hr]
    show W p G.1 e room_1 s m args below meth c H locs k n (LZ b L (gB G) xs below args s) (F0 m pc ls (rv G (.ref 1000021) :: st.map (rv G)))
    rw [hr']
    exact va_slen C.1 C.2.1 hX.1 (by rw [hX.2.2]; exact hb) (Nat.not_le.mpr hb) hS hd (kk p e s m args below meth c H locs ls C hP hS hl)
  · exact PL_triv hX
theorem PW.lend (hk : k ≤ 600000) (hn : n ≤ 7302250) : PW (xL b L (gB G) xs) G S σ k n 1395 l [.int (iI 1)] := by
  intro p e s m args below meth c H locs ls C hP hS hl
  by_cases hX : va_X b L xs s s.heap ∧ args = #[Value.ref b] ∧ s.heap.size = gB G
  · obtain ⟨h1, h2, h3⟩ := hX
    subst h2
    have k1 : W p G.1 e room_1 s m #[Value.ref b] below meth c H locs k n (lw_Z below #[Value.ref b] s) (F0 m 1395 ls [.int 1]) := by
      refine va_forget (fun q hq => by rw [h3]; exact hS.2.2 q hq) ?_
      refine W.widen (k := 600000) (n := 7302250) hk hn ?_
      exact lw_ret C.1 C.2.1 C.2.2.2.2.2.1 C.2.2.2.2.2.2.1 dL_law_1395
    intro T hT X
    obtain ⟨t, a1, a2⟩ := k1 T hT X
    exact ⟨t, a1, fun _ => a2⟩
  · exact PL_triv hX
/-- a row of the law's bytes, as the rules ask for it (without it each row compares the bytes one by one: 9 minutes) -/
theorem eL {g0 : Nat} {r : _} (h : decode code pc = r) : decode (xL b L g0 xs).1.2.1 pc = r := h
/-- the room that the law's calls want; told once: a comparison of numbers beside free variables is counted one by one (9 minutes over all calls) -/
theorem lawC {g0 : Nat} : 508 + 0 ≤ (xL b L g0 xs).2.1.cells := by
  show (508 : Nat) + 0 ≤ 600000
  omega
theorem lawS {g0 : Nat} : 397468 + 0 ≤ (xL b L g0 xs).2.1.slots := by
  show (397468 : Nat) + 0 ≤ 7302250
  omega
theorem PW.icmpS {x : FX} {v off : Int} (tgt : Nat) (hd : decode x.1.2.1 pc = .ok (.if_icmp .eq off, 3)) (ht : (pc : Int) + off = (tgt : Int)) (kk : PW x G S σ k n tgt l st) : PW x G S σ k n pc l (.int (iI v) :: .int (iI v) :: st) := by
  have e : iI v = iI ((iI v).toInt) := (iI_of _).symm
  rw [e]
  exact PW.icmp_eq tgt hd ht (inR_of _) (inR_of _) (fun _ => kk) (fun q => absurd rfl q)
end PLW
set_option maxRecDepth 20000 in
theorem law_0 {G : GT} {S : Shp} {σ : Sto} {b L h m : Nat} {xs : Nat → Int32} {i R : Int} (hr : ra G 1000021 = b) (hb : b < gB G) (hL : L ≤ 3584) (h0 : 0 ≤ i) (h1 : i + 7 ≤ L) (hR : Rel S σ h m R) (hRb : 0 ≤ R ∧ R < 2147483000) (hK : ∀ μ, Rel S μ h m (R + 1) → PW (xL b L (gB G) xs) G S μ 508 397468 1388 [(0, .ref 1000021), (1, .ref h), (2, .ref m), (3, .int (iI i))] []) : PW (xL b L (gB G) xs) G S σ 508 397468 184 [(0, .ref 1000021), (1, .ref h), (2, .ref m), (3, .int (iI i))] [] := by
  refine PW.aload_n (eL dL_law_184) rfl ?_
  refine PW.aload_n (eL dL_law_185) rfl ?_
  refine PW.iload_n (eL dL_law_186) rfl ?_
  refine PW.iconst (eL dL_law_187) ?_
  refine PW.iadd (eL dL_law_188) ?_
  refine PW.sld hr hb (by unfold inR; omega) (by omega) (by omega) dL_law_189 ?_
  refine PW.aload_n (eL dL_law_190) rfl ?_
  refine PW.iload_n (eL dL_law_191) rfl ?_
  refine PW.iconst (eL dL_law_192) ?_
  refine PW.iadd (eL dL_law_193) ?_
  refine PW.sld hr hb (by unfold inR; omega) (by omega) (by omega) dL_law_194 ?_
  refine PW.aload_n (eL dL_law_195) rfl ?_
  refine PW.iload_n (eL dL_law_196) rfl ?_
  refine PW.iconst (eL dL_law_197) ?_
  refine PW.iadd (eL dL_law_198) ?_
  refine PW.sld hr hb (by unfold inR; omega) (by omega) (by omega) dL_law_199 ?_
  refine PW.aload_n (eL dL_law_200) rfl ?_
  refine PW.iload_n (eL dL_law_201) rfl ?_
  refine PW.iconst (eL dL_law_202) ?_
  refine PW.iadd (eL dL_law_203) ?_
  refine PW.sld hr hb (by unfold inR; omega) (by omega) (by omega) dL_law_204 ?_
  refine PW.aload_n (eL dL_law_205) rfl ?_
  refine PW.iload_n (eL dL_law_206) rfl ?_
  refine PW.iconst (eL dL_law_207) ?_
  refine PW.iadd (eL dL_law_208) ?_
  refine PW.sld hr hb (by unfold inR; omega) (by omega) (by omega) dL_law_209 ?_
  refine PW.aload_n (eL dL_law_210) rfl ?_
  refine PW.iload_n (eL dL_law_211) rfl ?_
  refine PW.bipush (by decide) (eL dL_law_212) ?_
  refine PW.iadd (eL dL_law_214) ?_
  refine PW.sld hr hb (by unfold inR; omega) (by omega) (by omega) dL_law_215 ?_
  refine PW.callVg (pr_event hR hRb (sc_R _ _) (sc_R _ _) (sc_R _ _) (sc_R _ _) (sc_R _ _) (sc_R _ _)) cv_X11_event lk_L_13 hR.1.1 (eL dL_law_216) rfl rfl rfl (okC_mk rfl (Nat.le_of_ble_eq_true rfl) (Nat.le_of_ble_eq_true rfl) (Nat.le_of_ble_eq_true rfl) lawC lawS) (fun r S' τ216 hq => ?_)
  obtain ⟨hS, v, rfl, hq2⟩ := hq
  have hS2 := hS.symm
  subst hS2
  refine PW.aload_n (eL dL_law_219) rfl ?_
  refine PW.aload_n (eL dL_law_220) rfl ?_
  refine PW.iload_n (eL dL_law_221) rfl ?_
  refine PW.iconst (eL dL_law_222) ?_
  refine PW.iadd (eL dL_law_223) ?_
  refine PW.sld hr hb (by unfold inR; omega) (by omega) (by omega) dL_law_224 ?_
  refine PW.aload_n (eL dL_law_225) rfl ?_
  refine PW.iload_n (eL dL_law_226) rfl ?_
  refine PW.iconst (eL dL_law_227) ?_
  refine PW.iadd (eL dL_law_228) ?_
  refine PW.sld hr hb (by unfold inR; omega) (by omega) (by omega) dL_law_229 ?_
  refine PW.aload_n (eL dL_law_230) rfl ?_
  refine PW.iload_n (eL dL_law_231) rfl ?_
  refine PW.iconst (eL dL_law_232) ?_
  refine PW.iadd (eL dL_law_233) ?_
  refine PW.sld hr hb (by unfold inR; omega) (by omega) (by omega) dL_law_234 ?_
  refine PW.aload_n (eL dL_law_235) rfl ?_
  refine PW.iload_n (eL dL_law_236) rfl ?_
  refine PW.iconst (eL dL_law_237) ?_
  refine PW.iadd (eL dL_law_238) ?_
  refine PW.sld hr hb (by unfold inR; omega) (by omega) (by omega) dL_law_239 ?_
  refine PW.aload_n (eL dL_law_240) rfl ?_
  refine PW.iload_n (eL dL_law_241) rfl ?_
  refine PW.iconst (eL dL_law_242) ?_
  refine PW.iadd (eL dL_law_243) ?_
  refine PW.sld hr hb (by unfold inR; omega) (by omega) (by omega) dL_law_244 ?_
  refine PW.aload_n (eL dL_law_245) rfl ?_
  refine PW.iload_n (eL dL_law_246) rfl ?_
  refine PW.bipush (by decide) (eL dL_law_247) ?_
  refine PW.iadd (eL dL_law_249) ?_
  refine PW.sld hr hb (by unfold inR; omega) (by omega) (by omega) dL_law_250 ?_
  refine PW.callVg (hq2) cv_X12_event lk_L_17 hR.2.1.1 (eL dL_law_251) rfl rfl rfl (okC_mk rfl (Nat.le_of_ble_eq_true rfl) (Nat.le_of_ble_eq_true rfl) (Nat.le_of_ble_eq_true rfl) lawC lawS) (fun r S' τ251 hq => ?_)
  obtain ⟨hS, rfl, hRel⟩ := hq
  have hS3 := hS.symm
  subst hS3
  refine PW.icmpS 1388 (eL dL_law_254) (by decide) ?_
  exact hK _ hRel
set_option maxRecDepth 20000 in
theorem law_1 {G : GT} {S : Shp} {σ : Sto} {b L h m : Nat} {xs : Nat → Int32} {i R : Int} (hr : ra G 1000021 = b) (hb : b < gB G) (hL : L ≤ 3584) (h0 : 0 ≤ i) (h1 : i + 7 ≤ L) (hR : Rel S σ h m R) (hRb : 0 ≤ R ∧ R < 2147483000) (hK : ∀ μ, Rel S μ h m (R + 1) → PW (xL b L (gB G) xs) G S μ 508 397468 1388 [(0, .ref 1000021), (1, .ref h), (2, .ref m), (3, .int (iI i))] []) : PW (xL b L (gB G) xs) G S σ 508 397468 259 [(0, .ref 1000021), (1, .ref h), (2, .ref m), (3, .int (iI i))] [] := by
  refine PW.aload_n (eL dL_law_259) rfl ?_
  refine PW.callVg (pr_undo hR hRb) cv_X11_undo lk_L_18 hR.1.1 (eL dL_law_260) rfl rfl rfl (okC_mk rfl (Nat.le_of_ble_eq_true rfl) (Nat.le_of_ble_eq_true rfl) (Nat.le_of_ble_eq_true rfl) lawC lawS) (fun r S' τ260 hq => ?_)
  obtain ⟨hS, v, rfl, hq2⟩ := hq
  have hS2 := hS.symm
  subst hS2
  refine PW.aload_n (eL dL_law_263) rfl ?_
  refine PW.callVg (hq2) cv_X12_undo lk_L_22 hR.2.1.1 (eL dL_law_264) rfl rfl rfl (okC_mk rfl (Nat.le_of_ble_eq_true rfl) (Nat.le_of_ble_eq_true rfl) (Nat.le_of_ble_eq_true rfl) lawC lawS) (fun r S' τ264 hq => ?_)
  obtain ⟨hS, rfl, hRel⟩ := hq
  have hS3 := hS.symm
  subst hS3
  refine PW.icmpS 1388 (eL dL_law_267) (by decide) ?_
  exact hK _ hRel
set_option maxRecDepth 20000 in
theorem law_2 {G : GT} {S : Shp} {σ : Sto} {b L h m : Nat} {xs : Nat → Int32} {i R : Int} (hr : ra G 1000021 = b) (hb : b < gB G) (hL : L ≤ 3584) (h0 : 0 ≤ i) (h1 : i + 7 ≤ L) (hR : Rel S σ h m R) (hRb : 0 ≤ R ∧ R < 2147483000) (hK : ∀ μ, Rel S μ h m (R + 1) → PW (xL b L (gB G) xs) G S μ 508 397468 1388 [(0, .ref 1000021), (1, .ref h), (2, .ref m), (3, .int (iI i))] []) : PW (xL b L (gB G) xs) G S σ 508 397468 272 [(0, .ref 1000021), (1, .ref h), (2, .ref m), (3, .int (iI i))] [] := by
  refine PW.aload_n (eL dL_law_272) rfl ?_
  refine PW.callVg (pr_clear hR hRb) cv_X11_clear lk_L_23 hR.1.1 (eL dL_law_273) rfl rfl rfl (okC_mk rfl (Nat.le_of_ble_eq_true rfl) (Nat.le_of_ble_eq_true rfl) (Nat.le_of_ble_eq_true rfl) lawC lawS) (fun r S' τ273 hq => ?_)
  obtain ⟨hS, v, rfl, hq2⟩ := hq
  have hS2 := hS.symm
  subst hS2
  refine PW.aload_n (eL dL_law_276) rfl ?_
  refine PW.callVg (hq2) cv_X12_clear lk_L_26 hR.2.1.1 (eL dL_law_277) rfl rfl rfl (okC_mk rfl (Nat.le_of_ble_eq_true rfl) (Nat.le_of_ble_eq_true rfl) (Nat.le_of_ble_eq_true rfl) lawC lawS) (fun r S' τ277 hq => ?_)
  obtain ⟨hS, rfl, hRel⟩ := hq
  have hS3 := hS.symm
  subst hS3
  refine PW.icmpS 1388 (eL dL_law_280) (by decide) ?_
  exact hK _ hRel
set_option maxRecDepth 20000 in
theorem law_3 {G : GT} {S : Shp} {σ : Sto} {b L h m : Nat} {xs : Nat → Int32} {i R : Int} (hr : ra G 1000021 = b) (hb : b < gB G) (hL : L ≤ 3584) (h0 : 0 ≤ i) (h1 : i + 7 ≤ L) (hR : Rel S σ h m R) (hRb : 0 ≤ R ∧ R < 2147483000) (hK : ∀ μ, Rel S μ h m (R + 1) → PW (xL b L (gB G) xs) G S μ 508 397468 1388 [(0, .ref 1000021), (1, .ref h), (2, .ref m), (3, .int (iI i))] []) : PW (xL b L (gB G) xs) G S σ 508 397468 285 [(0, .ref 1000021), (1, .ref h), (2, .ref m), (3, .int (iI i))] [] := by
  refine PW.aload_n (eL dL_law_285) rfl ?_
  refine PW.aload_n (eL dL_law_286) rfl ?_
  refine PW.iload_n (eL dL_law_287) rfl ?_
  refine PW.iconst (eL dL_law_288) ?_
  refine PW.iadd (eL dL_law_289) ?_
  refine PW.sld hr hb (by unfold inR; omega) (by omega) (by omega) dL_law_290 ?_
  refine PW.aload_n (eL dL_law_291) rfl ?_
  refine PW.iload_n (eL dL_law_292) rfl ?_
  refine PW.iconst (eL dL_law_293) ?_
  refine PW.iadd (eL dL_law_294) ?_
  refine PW.sld hr hb (by unfold inR; omega) (by omega) (by omega) dL_law_295 ?_
  refine PW.callVg (pr_told hR hRb (sc_R _ _) (sc_R _ _)) cv_X11_told lk_L_27 hR.1.1 (eL dL_law_296) rfl rfl rfl (okC_mk rfl (Nat.le_of_ble_eq_true rfl) (Nat.le_of_ble_eq_true rfl) (Nat.le_of_ble_eq_true rfl) lawC lawS) (fun r S' τ296 hq => ?_)
  obtain ⟨hS, v, rfl, hq2⟩ := hq
  have hS2 := hS.symm
  subst hS2
  refine PW.aload_n (eL dL_law_299) rfl ?_
  refine PW.aload_n (eL dL_law_300) rfl ?_
  refine PW.iload_n (eL dL_law_301) rfl ?_
  refine PW.iconst (eL dL_law_302) ?_
  refine PW.iadd (eL dL_law_303) ?_
  refine PW.sld hr hb (by unfold inR; omega) (by omega) (by omega) dL_law_304 ?_
  refine PW.aload_n (eL dL_law_305) rfl ?_
  refine PW.iload_n (eL dL_law_306) rfl ?_
  refine PW.iconst (eL dL_law_307) ?_
  refine PW.iadd (eL dL_law_308) ?_
  refine PW.sld hr hb (by unfold inR; omega) (by omega) (by omega) dL_law_309 ?_
  refine PW.callVg (hq2) cv_X12_told lk_L_31 hR.2.1.1 (eL dL_law_310) rfl rfl rfl (okC_mk rfl (Nat.le_of_ble_eq_true rfl) (Nat.le_of_ble_eq_true rfl) (Nat.le_of_ble_eq_true rfl) lawC lawS) (fun r S' τ310 hq => ?_)
  obtain ⟨hS, rfl, hRel⟩ := hq
  have hS3 := hS.symm
  subst hS3
  refine PW.icmpS 1388 (eL dL_law_313) (by decide) ?_
  exact hK _ hRel
set_option maxRecDepth 20000 in
theorem law_4 {G : GT} {S : Shp} {σ : Sto} {b L h m : Nat} {xs : Nat → Int32} {i R : Int} (hr : ra G 1000021 = b) (hb : b < gB G) (hL : L ≤ 3584) (h0 : 0 ≤ i) (h1 : i + 7 ≤ L) (hR : Rel S σ h m R) (hRb : 0 ≤ R ∧ R < 2147483000) (hK : ∀ μ, Rel S μ h m (R + 1) → PW (xL b L (gB G) xs) G S μ 508 397468 1388 [(0, .ref 1000021), (1, .ref h), (2, .ref m), (3, .int (iI i))] []) : PW (xL b L (gB G) xs) G S σ 508 397468 318 [(0, .ref 1000021), (1, .ref h), (2, .ref m), (3, .int (iI i))] [] := by
  refine PW.aload_n (eL dL_law_318) rfl ?_
  refine PW.aload_n (eL dL_law_319) rfl ?_
  refine PW.iload_n (eL dL_law_320) rfl ?_
  refine PW.iconst (eL dL_law_321) ?_
  refine PW.iadd (eL dL_law_322) ?_
  refine PW.sld hr hb (by unfold inR; omega) (by omega) (by omega) dL_law_323 ?_
  refine PW.aload_n (eL dL_law_324) rfl ?_
  refine PW.iload_n (eL dL_law_325) rfl ?_
  refine PW.iconst (eL dL_law_326) ?_
  refine PW.iadd (eL dL_law_327) ?_
  refine PW.sld hr hb (by unfold inR; omega) (by omega) (by omega) dL_law_328 ?_
  refine PW.if_eq 336 (eL dL_law_329) (by decide) (by first | exact sc_R _ _ | (unfold inR; omega) | assumption) (fun h329 => ?_) (fun h329 => ?_)
  · refine PW.iconst (eL dL_law_336) ?_
    refine PW.top (b01 (¬ sc xs (i + 2) = 0)) (by first | exact (b01_t (by assumption)).symm | exact (b01_f (fun q => q (by assumption))).symm) ?_
    refine PW.callVg (pr_loose (P := ¬ sc xs (i + 2) = 0) hR hRb (sc_R _ _)) cv_X11_loose lk_L_32 hR.1.1 (eL dL_law_337) rfl rfl rfl (okC_mk rfl (Nat.le_of_ble_eq_true rfl) (Nat.le_of_ble_eq_true rfl) (Nat.le_of_ble_eq_true rfl) lawC lawS) (fun r S' τ337 hq => ?_)
    obtain ⟨hS, v, rfl, hq2⟩ := hq
    have hS2 := hS.symm
    subst hS2
    refine PW.aload_n (eL dL_law_340) rfl ?_
    refine PW.aload_n (eL dL_law_341) rfl ?_
    refine PW.iload_n (eL dL_law_342) rfl ?_
    refine PW.iconst (eL dL_law_343) ?_
    refine PW.iadd (eL dL_law_344) ?_
    refine PW.sld hr hb (by unfold inR; omega) (by omega) (by omega) dL_law_345 ?_
    refine PW.aload_n (eL dL_law_346) rfl ?_
    refine PW.iload_n (eL dL_law_347) rfl ?_
    refine PW.iconst (eL dL_law_348) ?_
    refine PW.iadd (eL dL_law_349) ?_
    refine PW.sld hr hb (by unfold inR; omega) (by omega) (by omega) dL_law_350 ?_
    refine PW.if_eq 358 (eL dL_law_351) (by decide) (by first | exact sc_R _ _ | (unfold inR; omega) | assumption) (fun h351 => ?_) (fun h351 => ?_)
    · refine PW.iconst (eL dL_law_358) ?_
      refine PW.top (b01 (¬ sc xs (i + 2) = 0)) (by first | exact (b01_t (by assumption)).symm | exact (b01_f (fun q => q (by assumption))).symm) ?_
      refine PW.callVg (hq2) cv_X12_loose lk_L_36 hR.2.1.1 (eL dL_law_359) rfl rfl rfl (okC_mk rfl (Nat.le_of_ble_eq_true rfl) (Nat.le_of_ble_eq_true rfl) (Nat.le_of_ble_eq_true rfl) lawC lawS) (fun r S' τ359 hq => ?_)
      obtain ⟨hS, rfl, hRel⟩ := hq
      have hS3 := hS.symm
      subst hS3
      refine PW.icmpS 1388 (eL dL_law_362) (by decide) ?_
      exact hK _ hRel
    · refine PW.iconst (eL dL_law_354) ?_
      refine PW.goto 359 (eL dL_law_355) (by decide) ?_
      refine PW.top (b01 (¬ sc xs (i + 2) = 0)) (by first | exact (b01_t (by assumption)).symm | exact (b01_f (fun q => q (by assumption))).symm) ?_
      refine PW.callVg (hq2) cv_X12_loose lk_L_36 hR.2.1.1 (eL dL_law_359) rfl rfl rfl (okC_mk rfl (Nat.le_of_ble_eq_true rfl) (Nat.le_of_ble_eq_true rfl) (Nat.le_of_ble_eq_true rfl) lawC lawS) (fun r S' τ359 hq => ?_)
      obtain ⟨hS, rfl, hRel⟩ := hq
      have hS3 := hS.symm
      subst hS3
      refine PW.icmpS 1388 (eL dL_law_362) (by decide) ?_
      exact hK _ hRel
  · refine PW.iconst (eL dL_law_332) ?_
    refine PW.goto 337 (eL dL_law_333) (by decide) ?_
    refine PW.top (b01 (¬ sc xs (i + 2) = 0)) (by first | exact (b01_t (by assumption)).symm | exact (b01_f (fun q => q (by assumption))).symm) ?_
    refine PW.callVg (pr_loose (P := ¬ sc xs (i + 2) = 0) hR hRb (sc_R _ _)) cv_X11_loose lk_L_32 hR.1.1 (eL dL_law_337) rfl rfl rfl (okC_mk rfl (Nat.le_of_ble_eq_true rfl) (Nat.le_of_ble_eq_true rfl) (Nat.le_of_ble_eq_true rfl) lawC lawS) (fun r S' τ337 hq => ?_)
    obtain ⟨hS, v, rfl, hq2⟩ := hq
    have hS2 := hS.symm
    subst hS2
    refine PW.aload_n (eL dL_law_340) rfl ?_
    refine PW.aload_n (eL dL_law_341) rfl ?_
    refine PW.iload_n (eL dL_law_342) rfl ?_
    refine PW.iconst (eL dL_law_343) ?_
    refine PW.iadd (eL dL_law_344) ?_
    refine PW.sld hr hb (by unfold inR; omega) (by omega) (by omega) dL_law_345 ?_
    refine PW.aload_n (eL dL_law_346) rfl ?_
    refine PW.iload_n (eL dL_law_347) rfl ?_
    refine PW.iconst (eL dL_law_348) ?_
    refine PW.iadd (eL dL_law_349) ?_
    refine PW.sld hr hb (by unfold inR; omega) (by omega) (by omega) dL_law_350 ?_
    refine PW.if_eq 358 (eL dL_law_351) (by decide) (by first | exact sc_R _ _ | (unfold inR; omega) | assumption) (fun h351 => ?_) (fun h351 => ?_)
    · refine PW.iconst (eL dL_law_358) ?_
      refine PW.top (b01 (¬ sc xs (i + 2) = 0)) (by first | exact (b01_t (by assumption)).symm | exact (b01_f (fun q => q (by assumption))).symm) ?_
      refine PW.callVg (hq2) cv_X12_loose lk_L_36 hR.2.1.1 (eL dL_law_359) rfl rfl rfl (okC_mk rfl (Nat.le_of_ble_eq_true rfl) (Nat.le_of_ble_eq_true rfl) (Nat.le_of_ble_eq_true rfl) lawC lawS) (fun r S' τ359 hq => ?_)
      obtain ⟨hS, rfl, hRel⟩ := hq
      have hS3 := hS.symm
      subst hS3
      refine PW.icmpS 1388 (eL dL_law_362) (by decide) ?_
      exact hK _ hRel
    · refine PW.iconst (eL dL_law_354) ?_
      refine PW.goto 359 (eL dL_law_355) (by decide) ?_
      refine PW.top (b01 (¬ sc xs (i + 2) = 0)) (by first | exact (b01_t (by assumption)).symm | exact (b01_f (fun q => q (by assumption))).symm) ?_
      refine PW.callVg (hq2) cv_X12_loose lk_L_36 hR.2.1.1 (eL dL_law_359) rfl rfl rfl (okC_mk rfl (Nat.le_of_ble_eq_true rfl) (Nat.le_of_ble_eq_true rfl) (Nat.le_of_ble_eq_true rfl) lawC lawS) (fun r S' τ359 hq => ?_)
      obtain ⟨hS, rfl, hRel⟩ := hq
      have hS3 := hS.symm
      subst hS3
      refine PW.icmpS 1388 (eL dL_law_362) (by decide) ?_
      exact hK _ hRel
set_option maxRecDepth 20000 in
theorem law_5 {G : GT} {S : Shp} {σ : Sto} {b L h m : Nat} {xs : Nat → Int32} {i R : Int} (hr : ra G 1000021 = b) (hb : b < gB G) (hL : L ≤ 3584) (h0 : 0 ≤ i) (h1 : i + 7 ≤ L) (hR : Rel S σ h m R) (hRb : 0 ≤ R ∧ R < 2147483000) (hK : ∀ μ, Rel S μ h m (R + 1) → PW (xL b L (gB G) xs) G S μ 508 397468 1388 [(0, .ref 1000021), (1, .ref h), (2, .ref m), (3, .int (iI i))] []) : PW (xL b L (gB G) xs) G S σ 508 397468 367 [(0, .ref 1000021), (1, .ref h), (2, .ref m), (3, .int (iI i))] [] := by
  refine PW.aload_n (eL dL_law_367) rfl ?_
  refine PW.aload_n (eL dL_law_368) rfl ?_
  refine PW.iload_n (eL dL_law_369) rfl ?_
  refine PW.iconst (eL dL_law_370) ?_
  refine PW.iadd (eL dL_law_371) ?_
  refine PW.sld hr hb (by unfold inR; omega) (by omega) (by omega) dL_law_372 ?_
  refine PW.callVg (pr_swap hR hRb (sc_R _ _)) cv_X11_swap lk_L_37 hR.1.1 (eL dL_law_373) rfl rfl rfl (okC_mk rfl (Nat.le_of_ble_eq_true rfl) (Nat.le_of_ble_eq_true rfl) (Nat.le_of_ble_eq_true rfl) lawC lawS) (fun r S' τ373 hq => ?_)
  obtain ⟨hS, v, rfl, hq2⟩ := hq
  have hS2 := hS.symm
  subst hS2
  refine PW.aload_n (eL dL_law_376) rfl ?_
  refine PW.aload_n (eL dL_law_377) rfl ?_
  refine PW.iload_n (eL dL_law_378) rfl ?_
  refine PW.iconst (eL dL_law_379) ?_
  refine PW.iadd (eL dL_law_380) ?_
  refine PW.sld hr hb (by unfold inR; omega) (by omega) (by omega) dL_law_381 ?_
  refine PW.callVg (hq2) cv_X12_swap lk_L_41 hR.2.1.1 (eL dL_law_382) rfl rfl rfl (okC_mk rfl (Nat.le_of_ble_eq_true rfl) (Nat.le_of_ble_eq_true rfl) (Nat.le_of_ble_eq_true rfl) lawC lawS) (fun r S' τ382 hq => ?_)
  obtain ⟨hS, rfl, hRel⟩ := hq
  have hS3 := hS.symm
  subst hS3
  refine PW.icmpS 1388 (eL dL_law_385) (by decide) ?_
  exact hK _ hRel
set_option maxRecDepth 20000 in
theorem law_6 {G : GT} {S : Shp} {σ : Sto} {b L h m : Nat} {xs : Nat → Int32} {i R : Int} (hr : ra G 1000021 = b) (hb : b < gB G) (hL : L ≤ 3584) (h0 : 0 ≤ i) (h1 : i + 7 ≤ L) (hR : Rel S σ h m R) (hRb : 0 ≤ R ∧ R < 2147483000) (hK : ∀ μ, Rel S μ h m (R + 1) → PW (xL b L (gB G) xs) G S μ 508 397468 1388 [(0, .ref 1000021), (1, .ref h), (2, .ref m), (3, .int (iI i))] []) : PW (xL b L (gB G) xs) G S σ 508 397468 390 [(0, .ref 1000021), (1, .ref h), (2, .ref m), (3, .int (iI i))] [] := by
  refine PW.aload_n (eL dL_law_390) rfl ?_
  refine PW.aload_n (eL dL_law_391) rfl ?_
  refine PW.iload_n (eL dL_law_392) rfl ?_
  refine PW.iconst (eL dL_law_393) ?_
  refine PW.iadd (eL dL_law_394) ?_
  refine PW.sld hr hb (by unfold inR; omega) (by omega) (by omega) dL_law_395 ?_
  refine PW.callVg (pr_count hR hRb (sc_R _ _)) cv_X11_count lk_L_42 hR.1.1 (eL dL_law_396) rfl rfl rfl (okC_mk rfl (Nat.le_of_ble_eq_true rfl) (Nat.le_of_ble_eq_true rfl) (Nat.le_of_ble_eq_true rfl) lawC lawS) (fun r S' τ396 hq => ?_)
  obtain ⟨hS, v, rfl, hq2⟩ := hq
  have hS2 := hS.symm
  subst hS2
  refine PW.aload_n (eL dL_law_399) rfl ?_
  refine PW.aload_n (eL dL_law_400) rfl ?_
  refine PW.iload_n (eL dL_law_401) rfl ?_
  refine PW.iconst (eL dL_law_402) ?_
  refine PW.iadd (eL dL_law_403) ?_
  refine PW.sld hr hb (by unfold inR; omega) (by omega) (by omega) dL_law_404 ?_
  refine PW.callVg (hq2) cv_X12_count lk_L_45 hR.2.1.1 (eL dL_law_405) rfl rfl rfl (okC_mk rfl (Nat.le_of_ble_eq_true rfl) (Nat.le_of_ble_eq_true rfl) (Nat.le_of_ble_eq_true rfl) lawC lawS) (fun r S' τ405 hq => ?_)
  obtain ⟨hS, rfl, hRel⟩ := hq
  have hS3 := hS.symm
  subst hS3
  refine PW.icmpS 1388 (eL dL_law_408) (by decide) ?_
  exact hK _ hRel
set_option maxRecDepth 20000 in
theorem law_7 {G : GT} {S : Shp} {σ : Sto} {b L h m : Nat} {xs : Nat → Int32} {i R : Int} (hr : ra G 1000021 = b) (hb : b < gB G) (hL : L ≤ 3584) (h0 : 0 ≤ i) (h1 : i + 7 ≤ L) (hR : Rel S σ h m R) (hRb : 0 ≤ R ∧ R < 2147483000) (hK : ∀ μ, Rel S μ h m (R + 1) → PW (xL b L (gB G) xs) G S μ 508 397468 1388 [(0, .ref 1000021), (1, .ref h), (2, .ref m), (3, .int (iI i))] []) : PW (xL b L (gB G) xs) G S σ 508 397468 413 [(0, .ref 1000021), (1, .ref h), (2, .ref m), (3, .int (iI i))] [] := by
  refine PW.aload_n (eL dL_law_413) rfl ?_
  refine PW.aload_n (eL dL_law_414) rfl ?_
  refine PW.iload_n (eL dL_law_415) rfl ?_
  refine PW.iconst (eL dL_law_416) ?_
  refine PW.iadd (eL dL_law_417) ?_
  refine PW.sld hr hb (by unfold inR; omega) (by omega) (by omega) dL_law_418 ?_
  refine PW.aload_n (eL dL_law_419) rfl ?_
  refine PW.iload_n (eL dL_law_420) rfl ?_
  refine PW.iconst (eL dL_law_421) ?_
  refine PW.iadd (eL dL_law_422) ?_
  refine PW.sld hr hb (by unfold inR; omega) (by omega) (by omega) dL_law_423 ?_
  refine PW.i2l (by first | exact sc_R _ _ | (unfold inR; omega) | assumption) (eL dL_law_424) ?_
  refine PW.bipush (by decide) (eL dL_law_425) ?_
  refine PW.lshl (hd := (eL dL_law_427)) rfl ?_
  refine PW.aload_n (eL dL_law_428) rfl ?_
  refine PW.iload_n (eL dL_law_429) rfl ?_
  refine PW.iconst (eL dL_law_430) ?_
  refine PW.iadd (eL dL_law_431) ?_
  refine PW.sld hr hb (by unfold inR; omega) (by omega) (by omega) dL_law_432 ?_
  refine PW.i2l (by first | exact sc_R _ _ | (unfold inR; omega) | assumption) (eL dL_law_433) ?_
  refine PW.ldc2 (4294967295) kc_L_46 rfl rfl (eL dL_law_434) ?_
  refine PW.land (eL dL_law_437) ?_
  refine PW.lor (eL dL_law_438) ?_
  refine PW.callVg (pr_feed hR hRb (sc_R _ _)) cv_X11_feed lk_L_48 hR.1.1 (eL dL_law_439) rfl rfl rfl (okC_mk rfl (Nat.le_of_ble_eq_true rfl) (Nat.le_of_ble_eq_true rfl) (Nat.le_of_ble_eq_true rfl) lawC lawS) (fun r S' τ439 hq => ?_)
  obtain ⟨hS, v, rfl, hq2⟩ := hq
  have hS2 := hS.symm
  subst hS2
  refine PW.aload_n (eL dL_law_442) rfl ?_
  refine PW.aload_n (eL dL_law_443) rfl ?_
  refine PW.iload_n (eL dL_law_444) rfl ?_
  refine PW.iconst (eL dL_law_445) ?_
  refine PW.iadd (eL dL_law_446) ?_
  refine PW.sld hr hb (by unfold inR; omega) (by omega) (by omega) dL_law_447 ?_
  refine PW.aload_n (eL dL_law_448) rfl ?_
  refine PW.iload_n (eL dL_law_449) rfl ?_
  refine PW.iconst (eL dL_law_450) ?_
  refine PW.iadd (eL dL_law_451) ?_
  refine PW.sld hr hb (by unfold inR; omega) (by omega) (by omega) dL_law_452 ?_
  refine PW.i2l (by first | exact sc_R _ _ | (unfold inR; omega) | assumption) (eL dL_law_453) ?_
  refine PW.bipush (by decide) (eL dL_law_454) ?_
  refine PW.lshl (hd := (eL dL_law_456)) rfl ?_
  refine PW.aload_n (eL dL_law_457) rfl ?_
  refine PW.iload_n (eL dL_law_458) rfl ?_
  refine PW.iconst (eL dL_law_459) ?_
  refine PW.iadd (eL dL_law_460) ?_
  refine PW.sld hr hb (by unfold inR; omega) (by omega) (by omega) dL_law_461 ?_
  refine PW.i2l (by first | exact sc_R _ _ | (unfold inR; omega) | assumption) (eL dL_law_462) ?_
  refine PW.ldc2 (4294967295) kc_L_46 rfl rfl (eL dL_law_463) ?_
  refine PW.land (eL dL_law_466) ?_
  refine PW.lor (eL dL_law_467) ?_
  refine PW.callVg (hq2) cv_X12_feed lk_L_52 hR.2.1.1 (eL dL_law_468) rfl rfl rfl (okC_mk rfl (Nat.le_of_ble_eq_true rfl) (Nat.le_of_ble_eq_true rfl) (Nat.le_of_ble_eq_true rfl) lawC lawS) (fun r S' τ468 hq => ?_)
  obtain ⟨hS, rfl, hRel⟩ := hq
  have hS3 := hS.symm
  subst hS3
  refine PW.icmpS 1388 (eL dL_law_471) (by decide) ?_
  exact hK _ hRel
set_option maxRecDepth 20000 in
theorem law_8 {G : GT} {S : Shp} {σ : Sto} {b L h m : Nat} {xs : Nat → Int32} {i R : Int} (hr : ra G 1000021 = b) (hb : b < gB G) (hL : L ≤ 3584) (h0 : 0 ≤ i) (h1 : i + 7 ≤ L) (hR : Rel S σ h m R) (hRb : 0 ≤ R ∧ R < 2147483000) (hK : ∀ μ, Rel S μ h m (R + 1) → PW (xL b L (gB G) xs) G S μ 508 397468 1388 [(0, .ref 1000021), (1, .ref h), (2, .ref m), (3, .int (iI i))] []) : PW (xL b L (gB G) xs) G S σ 508 397468 476 [(0, .ref 1000021), (1, .ref h), (2, .ref m), (3, .int (iI i))] [] := by
  refine PW.aload_n (eL dL_law_476) rfl ?_
  refine PW.callVg (pr_read hR hRb) cv_X11_read lk_L_53 hR.1.1 (eL dL_law_477) rfl rfl rfl (okC_mk rfl (Nat.le_of_ble_eq_true rfl) (Nat.le_of_ble_eq_true rfl) (Nat.le_of_ble_eq_true rfl) lawC lawS) (fun r S' τ477 hq => ?_)
  obtain ⟨hS, v, rfl, hq2⟩ := hq
  have hS2 := hS.symm
  subst hS2
  refine PW.aload_n (eL dL_law_480) rfl ?_
  refine PW.callVg (hq2) cv_X12_read lk_L_56 hR.2.1.1 (eL dL_law_481) rfl rfl rfl (okC_mk rfl (Nat.le_of_ble_eq_true rfl) (Nat.le_of_ble_eq_true rfl) (Nat.le_of_ble_eq_true rfl) lawC lawS) (fun r S' τ481 hq => ?_)
  obtain ⟨hS, rfl, hRel⟩ := hq
  have hS3 := hS.symm
  subst hS3
  refine PW.icmpS 1388 (eL dL_law_484) (by decide) ?_
  exact hK _ hRel
set_option maxRecDepth 20000 in
theorem law_9 {G : GT} {S : Shp} {σ : Sto} {b L h m : Nat} {xs : Nat → Int32} {i R : Int} (hr : ra G 1000021 = b) (hb : b < gB G) (hL : L ≤ 3584) (h0 : 0 ≤ i) (h1 : i + 7 ≤ L) (hR : Rel S σ h m R) (hRb : 0 ≤ R ∧ R < 2147483000) (hK : ∀ μ, Rel S μ h m (R + 1) → PW (xL b L (gB G) xs) G S μ 508 397468 1388 [(0, .ref 1000021), (1, .ref h), (2, .ref m), (3, .int (iI i))] []) : PW (xL b L (gB G) xs) G S σ 508 397468 489 [(0, .ref 1000021), (1, .ref h), (2, .ref m), (3, .int (iI i))] [] := by
  refine PW.aload_n (eL dL_law_489) rfl ?_
  refine PW.callVg (pr_fault hR hRb) cv_X11_fault lk_L_57 hR.1.1 (eL dL_law_490) rfl rfl rfl (okC_mk rfl (Nat.le_of_ble_eq_true rfl) (Nat.le_of_ble_eq_true rfl) (Nat.le_of_ble_eq_true rfl) lawC lawS) (fun r S' τ490 hq => ?_)
  obtain ⟨hS, v, rfl, hq2⟩ := hq
  have hS2 := hS.symm
  subst hS2
  refine PW.aload_n (eL dL_law_493) rfl ?_
  refine PW.callVg (hq2) cv_X12_fault lk_L_60 hR.2.1.1 (eL dL_law_494) rfl rfl rfl (okC_mk rfl (Nat.le_of_ble_eq_true rfl) (Nat.le_of_ble_eq_true rfl) (Nat.le_of_ble_eq_true rfl) lawC lawS) (fun r S' τ494 hq => ?_)
  obtain ⟨hS, rfl, hRel⟩ := hq
  have hS3 := hS.symm
  subst hS3
  refine PW.icmpS 1388 (eL dL_law_497) (by decide) ?_
  exact hK _ hRel
set_option maxRecDepth 20000 in
theorem law_10 {G : GT} {S : Shp} {σ : Sto} {b L h m : Nat} {xs : Nat → Int32} {i R : Int} (hr : ra G 1000021 = b) (hb : b < gB G) (hL : L ≤ 3584) (h0 : 0 ≤ i) (h1 : i + 7 ≤ L) (hR : Rel S σ h m R) (hRb : 0 ≤ R ∧ R < 2147483000) (hK : ∀ μ, Rel S μ h m (R + 1) → PW (xL b L (gB G) xs) G S μ 508 397468 1388 [(0, .ref 1000021), (1, .ref h), (2, .ref m), (3, .int (iI i))] []) : PW (xL b L (gB G) xs) G S σ 508 397468 502 [(0, .ref 1000021), (1, .ref h), (2, .ref m), (3, .int (iI i))] [] := by
  refine PW.aload_n (eL dL_law_502) rfl ?_
  refine PW.aload_n (eL dL_law_503) rfl ?_
  refine PW.iload_n (eL dL_law_504) rfl ?_
  refine PW.iconst (eL dL_law_505) ?_
  refine PW.iadd (eL dL_law_506) ?_
  refine PW.sld hr hb (by unfold inR; omega) (by omega) (by omega) dL_law_507 ?_
  refine PW.aload_n (eL dL_law_508) rfl ?_
  refine PW.iload_n (eL dL_law_509) rfl ?_
  refine PW.iconst (eL dL_law_510) ?_
  refine PW.iadd (eL dL_law_511) ?_
  refine PW.sld hr hb (by unfold inR; omega) (by omega) (by omega) dL_law_512 ?_
  refine PW.aload_n (eL dL_law_513) rfl ?_
  refine PW.iload_n (eL dL_law_514) rfl ?_
  refine PW.iconst (eL dL_law_515) ?_
  refine PW.iadd (eL dL_law_516) ?_
  refine PW.sld hr hb (by unfold inR; omega) (by omega) (by omega) dL_law_517 ?_
  refine PW.callVg (pr_at hR hRb (sc_R _ _) (sc_R _ _) (sc_R _ _)) cv_X11_at lk_L_61 hR.1.1 (eL dL_law_518) rfl rfl rfl (okC_mk rfl (Nat.le_of_ble_eq_true rfl) (Nat.le_of_ble_eq_true rfl) (Nat.le_of_ble_eq_true rfl) lawC lawS) (fun r S' τ518 hq => ?_)
  obtain ⟨hS, v, rfl, hq2⟩ := hq
  have hS2 := hS.symm
  subst hS2
  refine PW.aload_n (eL dL_law_521) rfl ?_
  refine PW.aload_n (eL dL_law_522) rfl ?_
  refine PW.iload_n (eL dL_law_523) rfl ?_
  refine PW.iconst (eL dL_law_524) ?_
  refine PW.iadd (eL dL_law_525) ?_
  refine PW.sld hr hb (by unfold inR; omega) (by omega) (by omega) dL_law_526 ?_
  refine PW.aload_n (eL dL_law_527) rfl ?_
  refine PW.iload_n (eL dL_law_528) rfl ?_
  refine PW.iconst (eL dL_law_529) ?_
  refine PW.iadd (eL dL_law_530) ?_
  refine PW.sld hr hb (by unfold inR; omega) (by omega) (by omega) dL_law_531 ?_
  refine PW.aload_n (eL dL_law_532) rfl ?_
  refine PW.iload_n (eL dL_law_533) rfl ?_
  refine PW.iconst (eL dL_law_534) ?_
  refine PW.iadd (eL dL_law_535) ?_
  refine PW.sld hr hb (by unfold inR; omega) (by omega) (by omega) dL_law_536 ?_
  refine PW.callVg (hq2) cv_X12_at lk_L_65 hR.2.1.1 (eL dL_law_537) rfl rfl rfl (okC_mk rfl (Nat.le_of_ble_eq_true rfl) (Nat.le_of_ble_eq_true rfl) (Nat.le_of_ble_eq_true rfl) lawC lawS) (fun r S' τ537 hq => ?_)
  obtain ⟨hS, rfl, hRel⟩ := hq
  have hS3 := hS.symm
  subst hS3
  refine PW.icmpS 1388 (eL dL_law_540) (by decide) ?_
  exact hK _ hRel
set_option maxRecDepth 20000 in
theorem law_11 {G : GT} {S : Shp} {σ : Sto} {b L h m : Nat} {xs : Nat → Int32} {i R : Int} (hr : ra G 1000021 = b) (hb : b < gB G) (hL : L ≤ 3584) (h0 : 0 ≤ i) (h1 : i + 7 ≤ L) (hR : Rel S σ h m R) (hRb : 0 ≤ R ∧ R < 2147483000) (hK : ∀ μ, Rel S μ h m (R + 1) → PW (xL b L (gB G) xs) G S μ 508 397468 1388 [(0, .ref 1000021), (1, .ref h), (2, .ref m), (3, .int (iI i))] []) : PW (xL b L (gB G) xs) G S σ 508 397468 545 [(0, .ref 1000021), (1, .ref h), (2, .ref m), (3, .int (iI i))] [] := by
  refine PW.aload_n (eL dL_law_545) rfl ?_
  refine PW.aload_n (eL dL_law_546) rfl ?_
  refine PW.iload_n (eL dL_law_547) rfl ?_
  refine PW.iconst (eL dL_law_548) ?_
  refine PW.iadd (eL dL_law_549) ?_
  refine PW.sld hr hb (by unfold inR; omega) (by omega) (by omega) dL_law_550 ?_
  refine PW.aload_n (eL dL_law_551) rfl ?_
  refine PW.iload_n (eL dL_law_552) rfl ?_
  refine PW.iconst (eL dL_law_553) ?_
  refine PW.iadd (eL dL_law_554) ?_
  refine PW.sld hr hb (by unfold inR; omega) (by omega) (by omega) dL_law_555 ?_
  refine PW.aload_n (eL dL_law_556) rfl ?_
  refine PW.iload_n (eL dL_law_557) rfl ?_
  refine PW.iconst (eL dL_law_558) ?_
  refine PW.iadd (eL dL_law_559) ?_
  refine PW.sld hr hb (by unfold inR; omega) (by omega) (by omega) dL_law_560 ?_
  refine PW.callVg (pr_skin hR hRb (sc_R _ _) (sc_R _ _) (sc_R _ _)) cv_X11_skin lk_L_66 hR.1.1 (eL dL_law_561) rfl rfl rfl (okC_mk rfl (Nat.le_of_ble_eq_true rfl) (Nat.le_of_ble_eq_true rfl) (Nat.le_of_ble_eq_true rfl) lawC lawS) (fun r S' τ561 hq => ?_)
  obtain ⟨hS, v, rfl, hq2⟩ := hq
  have hS2 := hS.symm
  subst hS2
  refine PW.aload_n (eL dL_law_564) rfl ?_
  refine PW.aload_n (eL dL_law_565) rfl ?_
  refine PW.iload_n (eL dL_law_566) rfl ?_
  refine PW.iconst (eL dL_law_567) ?_
  refine PW.iadd (eL dL_law_568) ?_
  refine PW.sld hr hb (by unfold inR; omega) (by omega) (by omega) dL_law_569 ?_
  refine PW.aload_n (eL dL_law_570) rfl ?_
  refine PW.iload_n (eL dL_law_571) rfl ?_
  refine PW.iconst (eL dL_law_572) ?_
  refine PW.iadd (eL dL_law_573) ?_
  refine PW.sld hr hb (by unfold inR; omega) (by omega) (by omega) dL_law_574 ?_
  refine PW.aload_n (eL dL_law_575) rfl ?_
  refine PW.iload_n (eL dL_law_576) rfl ?_
  refine PW.iconst (eL dL_law_577) ?_
  refine PW.iadd (eL dL_law_578) ?_
  refine PW.sld hr hb (by unfold inR; omega) (by omega) (by omega) dL_law_579 ?_
  refine PW.callVg (hq2) cv_X12_skin lk_L_69 hR.2.1.1 (eL dL_law_580) rfl rfl rfl (okC_mk rfl (Nat.le_of_ble_eq_true rfl) (Nat.le_of_ble_eq_true rfl) (Nat.le_of_ble_eq_true rfl) lawC lawS) (fun r S' τ580 hq => ?_)
  obtain ⟨hS, rfl, hRel⟩ := hq
  have hS3 := hS.symm
  subst hS3
  refine PW.icmpS 1388 (eL dL_law_583) (by decide) ?_
  exact hK _ hRel
set_option maxRecDepth 20000 in
theorem law_12 {G : GT} {S : Shp} {σ : Sto} {b L h m : Nat} {xs : Nat → Int32} {i R : Int} (hr : ra G 1000021 = b) (hb : b < gB G) (hL : L ≤ 3584) (h0 : 0 ≤ i) (h1 : i + 7 ≤ L) (hR : Rel S σ h m R) (hRb : 0 ≤ R ∧ R < 2147483000) (hK : ∀ μ, Rel S μ h m (R + 1) → PW (xL b L (gB G) xs) G S μ 508 397468 1388 [(0, .ref 1000021), (1, .ref h), (2, .ref m), (3, .int (iI i))] []) : PW (xL b L (gB G) xs) G S σ 508 397468 588 [(0, .ref 1000021), (1, .ref h), (2, .ref m), (3, .int (iI i))] [] := by
  refine PW.aload_n (eL dL_law_588) rfl ?_
  refine PW.aload_n (eL dL_law_589) rfl ?_
  refine PW.iload_n (eL dL_law_590) rfl ?_
  refine PW.iconst (eL dL_law_591) ?_
  refine PW.iadd (eL dL_law_592) ?_
  refine PW.sld hr hb (by unfold inR; omega) (by omega) (by omega) dL_law_593 ?_
  refine PW.aload_n (eL dL_law_594) rfl ?_
  refine PW.iload_n (eL dL_law_595) rfl ?_
  refine PW.iconst (eL dL_law_596) ?_
  refine PW.iadd (eL dL_law_597) ?_
  refine PW.sld hr hb (by unfold inR; omega) (by omega) (by omega) dL_law_598 ?_
  refine PW.aload_n (eL dL_law_599) rfl ?_
  refine PW.iload_n (eL dL_law_600) rfl ?_
  refine PW.iconst (eL dL_law_601) ?_
  refine PW.iadd (eL dL_law_602) ?_
  refine PW.sld hr hb (by unfold inR; omega) (by omega) (by omega) dL_law_603 ?_
  refine PW.aload_n (eL dL_law_604) rfl ?_
  refine PW.iload_n (eL dL_law_605) rfl ?_
  refine PW.iconst (eL dL_law_606) ?_
  refine PW.iadd (eL dL_law_607) ?_
  refine PW.sld hr hb (by unfold inR; omega) (by omega) (by omega) dL_law_608 ?_
  refine PW.callVg (pr_top hR hRb (sc_R _ _) (sc_R _ _) (sc_R _ _) (sc_R _ _)) cv_X11_top lk_L_70 hR.1.1 (eL dL_law_609) rfl rfl rfl (okC_mk rfl (Nat.le_of_ble_eq_true rfl) (Nat.le_of_ble_eq_true rfl) (Nat.le_of_ble_eq_true rfl) lawC lawS) (fun r S' τ609 hq => ?_)
  obtain ⟨hS, v, rfl, hq2⟩ := hq
  have hS2 := hS.symm
  subst hS2
  refine PW.aload_n (eL dL_law_612) rfl ?_
  refine PW.aload_n (eL dL_law_613) rfl ?_
  refine PW.iload_n (eL dL_law_614) rfl ?_
  refine PW.iconst (eL dL_law_615) ?_
  refine PW.iadd (eL dL_law_616) ?_
  refine PW.sld hr hb (by unfold inR; omega) (by omega) (by omega) dL_law_617 ?_
  refine PW.aload_n (eL dL_law_618) rfl ?_
  refine PW.iload_n (eL dL_law_619) rfl ?_
  refine PW.iconst (eL dL_law_620) ?_
  refine PW.iadd (eL dL_law_621) ?_
  refine PW.sld hr hb (by unfold inR; omega) (by omega) (by omega) dL_law_622 ?_
  refine PW.aload_n (eL dL_law_623) rfl ?_
  refine PW.iload_n (eL dL_law_624) rfl ?_
  refine PW.iconst (eL dL_law_625) ?_
  refine PW.iadd (eL dL_law_626) ?_
  refine PW.sld hr hb (by unfold inR; omega) (by omega) (by omega) dL_law_627 ?_
  refine PW.aload_n (eL dL_law_628) rfl ?_
  refine PW.iload_n (eL dL_law_629) rfl ?_
  refine PW.iconst (eL dL_law_630) ?_
  refine PW.iadd (eL dL_law_631) ?_
  refine PW.sld hr hb (by unfold inR; omega) (by omega) (by omega) dL_law_632 ?_
  refine PW.callVg (hq2) cv_X12_top lk_L_74 hR.2.1.1 (eL dL_law_633) rfl rfl rfl (okC_mk rfl (Nat.le_of_ble_eq_true rfl) (Nat.le_of_ble_eq_true rfl) (Nat.le_of_ble_eq_true rfl) lawC lawS) (fun r S' τ633 hq => ?_)
  obtain ⟨hS, rfl, hRel⟩ := hq
  have hS3 := hS.symm
  subst hS3
  refine PW.icmpS 1388 (eL dL_law_636) (by decide) ?_
  exact hK _ hRel
set_option maxRecDepth 20000 in
theorem law_13 {G : GT} {S : Shp} {σ : Sto} {b L h m : Nat} {xs : Nat → Int32} {i R : Int} (hr : ra G 1000021 = b) (hb : b < gB G) (hL : L ≤ 3584) (h0 : 0 ≤ i) (h1 : i + 7 ≤ L) (hR : Rel S σ h m R) (hRb : 0 ≤ R ∧ R < 2147483000) (hK : ∀ μ, Rel S μ h m (R + 1) → PW (xL b L (gB G) xs) G S μ 508 397468 1388 [(0, .ref 1000021), (1, .ref h), (2, .ref m), (3, .int (iI i))] []) : PW (xL b L (gB G) xs) G S σ 508 397468 641 [(0, .ref 1000021), (1, .ref h), (2, .ref m), (3, .int (iI i))] [] := by
  refine PW.aload_n (eL dL_law_641) rfl ?_
  refine PW.aload_n (eL dL_law_642) rfl ?_
  refine PW.iload_n (eL dL_law_643) rfl ?_
  refine PW.iconst (eL dL_law_644) ?_
  refine PW.iadd (eL dL_law_645) ?_
  refine PW.sld hr hb (by unfold inR; omega) (by omega) (by omega) dL_law_646 ?_
  refine PW.aload_n (eL dL_law_647) rfl ?_
  refine PW.iload_n (eL dL_law_648) rfl ?_
  refine PW.iconst (eL dL_law_649) ?_
  refine PW.iadd (eL dL_law_650) ?_
  refine PW.sld hr hb (by unfold inR; omega) (by omega) (by omega) dL_law_651 ?_
  refine PW.aload_n (eL dL_law_652) rfl ?_
  refine PW.iload_n (eL dL_law_653) rfl ?_
  refine PW.iconst (eL dL_law_654) ?_
  refine PW.iadd (eL dL_law_655) ?_
  refine PW.sld hr hb (by unfold inR; omega) (by omega) (by omega) dL_law_656 ?_
  refine PW.aload_n (eL dL_law_657) rfl ?_
  refine PW.iload_n (eL dL_law_658) rfl ?_
  refine PW.iconst (eL dL_law_659) ?_
  refine PW.iadd (eL dL_law_660) ?_
  refine PW.sld hr hb (by unfold inR; omega) (by omega) (by omega) dL_law_661 ?_
  refine PW.callVg (pr_was hR hRb (sc_R _ _) (sc_R _ _) (sc_R _ _) (sc_R _ _)) cv_X11_was lk_L_75 hR.1.1 (eL dL_law_662) rfl rfl rfl (okC_mk rfl (Nat.le_of_ble_eq_true rfl) (Nat.le_of_ble_eq_true rfl) (Nat.le_of_ble_eq_true rfl) lawC lawS) (fun r S' τ662 hq => ?_)
  obtain ⟨hS, v, rfl, hq2⟩ := hq
  have hS2 := hS.symm
  subst hS2
  refine PW.aload_n (eL dL_law_665) rfl ?_
  refine PW.aload_n (eL dL_law_666) rfl ?_
  refine PW.iload_n (eL dL_law_667) rfl ?_
  refine PW.iconst (eL dL_law_668) ?_
  refine PW.iadd (eL dL_law_669) ?_
  refine PW.sld hr hb (by unfold inR; omega) (by omega) (by omega) dL_law_670 ?_
  refine PW.aload_n (eL dL_law_671) rfl ?_
  refine PW.iload_n (eL dL_law_672) rfl ?_
  refine PW.iconst (eL dL_law_673) ?_
  refine PW.iadd (eL dL_law_674) ?_
  refine PW.sld hr hb (by unfold inR; omega) (by omega) (by omega) dL_law_675 ?_
  refine PW.aload_n (eL dL_law_676) rfl ?_
  refine PW.iload_n (eL dL_law_677) rfl ?_
  refine PW.iconst (eL dL_law_678) ?_
  refine PW.iadd (eL dL_law_679) ?_
  refine PW.sld hr hb (by unfold inR; omega) (by omega) (by omega) dL_law_680 ?_
  refine PW.aload_n (eL dL_law_681) rfl ?_
  refine PW.iload_n (eL dL_law_682) rfl ?_
  refine PW.iconst (eL dL_law_683) ?_
  refine PW.iadd (eL dL_law_684) ?_
  refine PW.sld hr hb (by unfold inR; omega) (by omega) (by omega) dL_law_685 ?_
  refine PW.callVg (hq2) cv_X12_was lk_L_78 hR.2.1.1 (eL dL_law_686) rfl rfl rfl (okC_mk rfl (Nat.le_of_ble_eq_true rfl) (Nat.le_of_ble_eq_true rfl) (Nat.le_of_ble_eq_true rfl) lawC lawS) (fun r S' τ686 hq => ?_)
  obtain ⟨hS, rfl, hRel⟩ := hq
  have hS3 := hS.symm
  subst hS3
  refine PW.icmpS 1388 (eL dL_law_689) (by decide) ?_
  exact hK _ hRel
set_option maxRecDepth 20000 in
theorem law_14 {G : GT} {S : Shp} {σ : Sto} {b L h m : Nat} {xs : Nat → Int32} {i R : Int} (hr : ra G 1000021 = b) (hb : b < gB G) (hL : L ≤ 3584) (h0 : 0 ≤ i) (h1 : i + 7 ≤ L) (hR : Rel S σ h m R) (hRb : 0 ≤ R ∧ R < 2147483000) (hK : ∀ μ, Rel S μ h m (R + 1) → PW (xL b L (gB G) xs) G S μ 508 397468 1388 [(0, .ref 1000021), (1, .ref h), (2, .ref m), (3, .int (iI i))] []) : PW (xL b L (gB G) xs) G S σ 508 397468 694 [(0, .ref 1000021), (1, .ref h), (2, .ref m), (3, .int (iI i))] [] := by
  refine PW.aload_n (eL dL_law_694) rfl ?_
  refine PW.aload_n (eL dL_law_695) rfl ?_
  refine PW.iload_n (eL dL_law_696) rfl ?_
  refine PW.iconst (eL dL_law_697) ?_
  refine PW.iadd (eL dL_law_698) ?_
  refine PW.sld hr hb (by unfold inR; omega) (by omega) (by omega) dL_law_699 ?_
  refine PW.aload_n (eL dL_law_700) rfl ?_
  refine PW.iload_n (eL dL_law_701) rfl ?_
  refine PW.iconst (eL dL_law_702) ?_
  refine PW.iadd (eL dL_law_703) ?_
  refine PW.sld hr hb (by unfold inR; omega) (by omega) (by omega) dL_law_704 ?_
  refine PW.callVg (pr_amount hR hRb (sc_R _ _) (sc_R _ _)) cv_X11_amount lk_L_79 hR.1.1 (eL dL_law_705) rfl rfl rfl (okC_mk rfl (Nat.le_of_ble_eq_true rfl) (Nat.le_of_ble_eq_true rfl) (Nat.le_of_ble_eq_true rfl) lawC lawS) (fun r S' τ705 hq => ?_)
  obtain ⟨hS, v, rfl, hq2⟩ := hq
  have hS2 := hS.symm
  subst hS2
  refine PW.aload_n (eL dL_law_708) rfl ?_
  refine PW.aload_n (eL dL_law_709) rfl ?_
  refine PW.iload_n (eL dL_law_710) rfl ?_
  refine PW.iconst (eL dL_law_711) ?_
  refine PW.iadd (eL dL_law_712) ?_
  refine PW.sld hr hb (by unfold inR; omega) (by omega) (by omega) dL_law_713 ?_
  refine PW.aload_n (eL dL_law_714) rfl ?_
  refine PW.iload_n (eL dL_law_715) rfl ?_
  refine PW.iconst (eL dL_law_716) ?_
  refine PW.iadd (eL dL_law_717) ?_
  refine PW.sld hr hb (by unfold inR; omega) (by omega) (by omega) dL_law_718 ?_
  refine PW.callVg (hq2) cv_X12_amount lk_L_82 hR.2.1.1 (eL dL_law_719) rfl rfl rfl (okC_mk rfl (Nat.le_of_ble_eq_true rfl) (Nat.le_of_ble_eq_true rfl) (Nat.le_of_ble_eq_true rfl) lawC lawS) (fun r S' τ719 hq => ?_)
  obtain ⟨hS, rfl, hRel⟩ := hq
  have hS3 := hS.symm
  subst hS3
  refine PW.icmpS 1388 (eL dL_law_722) (by decide) ?_
  exact hK _ hRel
set_option maxRecDepth 20000 in
theorem law_15 {G : GT} {S : Shp} {σ : Sto} {b L h m : Nat} {xs : Nat → Int32} {i R : Int} (hr : ra G 1000021 = b) (hb : b < gB G) (hL : L ≤ 3584) (h0 : 0 ≤ i) (h1 : i + 7 ≤ L) (hR : Rel S σ h m R) (hRb : 0 ≤ R ∧ R < 2147483000) (hK : ∀ μ, Rel S μ h m (R + 1) → PW (xL b L (gB G) xs) G S μ 508 397468 1388 [(0, .ref 1000021), (1, .ref h), (2, .ref m), (3, .int (iI i))] []) : PW (xL b L (gB G) xs) G S σ 508 397468 727 [(0, .ref 1000021), (1, .ref h), (2, .ref m), (3, .int (iI i))] [] := by
  refine PW.aload_n (eL dL_law_727) rfl ?_
  refine PW.aload_n (eL dL_law_728) rfl ?_
  refine PW.iload_n (eL dL_law_729) rfl ?_
  refine PW.iconst (eL dL_law_730) ?_
  refine PW.iadd (eL dL_law_731) ?_
  refine PW.sld hr hb (by unfold inR; omega) (by omega) (by omega) dL_law_732 ?_
  refine PW.callVg (pr_youth hR hRb (sc_R _ _)) cv_X11_youth lk_L_83 hR.1.1 (eL dL_law_733) rfl rfl rfl (okC_mk rfl (Nat.le_of_ble_eq_true rfl) (Nat.le_of_ble_eq_true rfl) (Nat.le_of_ble_eq_true rfl) lawC lawS) (fun r S' τ733 hq => ?_)
  obtain ⟨hS, v, rfl, hq2⟩ := hq
  have hS2 := hS.symm
  subst hS2
  refine PW.aload_n (eL dL_law_736) rfl ?_
  refine PW.aload_n (eL dL_law_737) rfl ?_
  refine PW.iload_n (eL dL_law_738) rfl ?_
  refine PW.iconst (eL dL_law_739) ?_
  refine PW.iadd (eL dL_law_740) ?_
  refine PW.sld hr hb (by unfold inR; omega) (by omega) (by omega) dL_law_741 ?_
  refine PW.callVg (hq2) cv_X12_youth lk_L_86 hR.2.1.1 (eL dL_law_742) rfl rfl rfl (okC_mk rfl (Nat.le_of_ble_eq_true rfl) (Nat.le_of_ble_eq_true rfl) (Nat.le_of_ble_eq_true rfl) lawC lawS) (fun r S' τ742 hq => ?_)
  obtain ⟨hS, rfl, hRel⟩ := hq
  have hS3 := hS.symm
  subst hS3
  refine PW.icmpS 1388 (eL dL_law_745) (by decide) ?_
  exact hK _ hRel
set_option maxRecDepth 20000 in
theorem law_16 {G : GT} {S : Shp} {σ : Sto} {b L h m : Nat} {xs : Nat → Int32} {i R : Int} (hr : ra G 1000021 = b) (hb : b < gB G) (hL : L ≤ 3584) (h0 : 0 ≤ i) (h1 : i + 7 ≤ L) (hR : Rel S σ h m R) (hRb : 0 ≤ R ∧ R < 2147483000) (hK : ∀ μ, Rel S μ h m (R + 1) → PW (xL b L (gB G) xs) G S μ 508 397468 1388 [(0, .ref 1000021), (1, .ref h), (2, .ref m), (3, .int (iI i))] []) : PW (xL b L (gB G) xs) G S σ 508 397468 750 [(0, .ref 1000021), (1, .ref h), (2, .ref m), (3, .int (iI i))] [] := by
  refine PW.aload_n (eL dL_law_750) rfl ?_
  refine PW.aload_n (eL dL_law_751) rfl ?_
  refine PW.iload_n (eL dL_law_752) rfl ?_
  refine PW.iconst (eL dL_law_753) ?_
  refine PW.iadd (eL dL_law_754) ?_
  refine PW.sld hr hb (by unfold inR; omega) (by omega) (by omega) dL_law_755 ?_
  refine PW.callVg (pr_keep hR hRb (sc_R _ _)) cv_X11_keep lk_L_87 hR.1.1 (eL dL_law_756) rfl rfl rfl (okC_mk rfl (Nat.le_of_ble_eq_true rfl) (Nat.le_of_ble_eq_true rfl) (Nat.le_of_ble_eq_true rfl) lawC lawS) (fun r S' τ756 hq => ?_)
  obtain ⟨hS, v, rfl, hq2⟩ := hq
  have hS2 := hS.symm
  subst hS2
  refine PW.aload_n (eL dL_law_759) rfl ?_
  refine PW.aload_n (eL dL_law_760) rfl ?_
  refine PW.iload_n (eL dL_law_761) rfl ?_
  refine PW.iconst (eL dL_law_762) ?_
  refine PW.iadd (eL dL_law_763) ?_
  refine PW.sld hr hb (by unfold inR; omega) (by omega) (by omega) dL_law_764 ?_
  refine PW.callVg (hq2) cv_X12_keep lk_L_90 hR.2.1.1 (eL dL_law_765) rfl rfl rfl (okC_mk rfl (Nat.le_of_ble_eq_true rfl) (Nat.le_of_ble_eq_true rfl) (Nat.le_of_ble_eq_true rfl) lawC lawS) (fun r S' τ765 hq => ?_)
  obtain ⟨hS, rfl, hRel⟩ := hq
  have hS3 := hS.symm
  subst hS3
  refine PW.icmpS 1388 (eL dL_law_768) (by decide) ?_
  exact hK _ hRel
set_option maxRecDepth 20000 in
theorem law_17 {G : GT} {S : Shp} {σ : Sto} {b L h m : Nat} {xs : Nat → Int32} {i R : Int} (hr : ra G 1000021 = b) (hb : b < gB G) (hL : L ≤ 3584) (h0 : 0 ≤ i) (h1 : i + 7 ≤ L) (hR : Rel S σ h m R) (hRb : 0 ≤ R ∧ R < 2147483000) (hK : ∀ μ, Rel S μ h m (R + 1) → PW (xL b L (gB G) xs) G S μ 508 397468 1388 [(0, .ref 1000021), (1, .ref h), (2, .ref m), (3, .int (iI i))] []) : PW (xL b L (gB G) xs) G S σ 508 397468 773 [(0, .ref 1000021), (1, .ref h), (2, .ref m), (3, .int (iI i))] [] := by
  refine PW.aload_n (eL dL_law_773) rfl ?_
  refine PW.aload_n (eL dL_law_774) rfl ?_
  refine PW.iload_n (eL dL_law_775) rfl ?_
  refine PW.iconst (eL dL_law_776) ?_
  refine PW.iadd (eL dL_law_777) ?_
  refine PW.sld hr hb (by unfold inR; omega) (by omega) (by omega) dL_law_778 ?_
  refine PW.callVg (pr_back hR hRb (sc_R _ _)) cv_X11_back lk_L_91 hR.1.1 (eL dL_law_779) rfl rfl rfl (okC_mk rfl (Nat.le_of_ble_eq_true rfl) (Nat.le_of_ble_eq_true rfl) (Nat.le_of_ble_eq_true rfl) lawC lawS) (fun r S' τ779 hq => ?_)
  obtain ⟨hS, v, rfl, hq2⟩ := hq
  have hS2 := hS.symm
  subst hS2
  refine PW.aload_n (eL dL_law_782) rfl ?_
  refine PW.aload_n (eL dL_law_783) rfl ?_
  refine PW.iload_n (eL dL_law_784) rfl ?_
  refine PW.iconst (eL dL_law_785) ?_
  refine PW.iadd (eL dL_law_786) ?_
  refine PW.sld hr hb (by unfold inR; omega) (by omega) (by omega) dL_law_787 ?_
  refine PW.callVg (hq2) cv_X12_back lk_L_94 hR.2.1.1 (eL dL_law_788) rfl rfl rfl (okC_mk rfl (Nat.le_of_ble_eq_true rfl) (Nat.le_of_ble_eq_true rfl) (Nat.le_of_ble_eq_true rfl) lawC lawS) (fun r S' τ788 hq => ?_)
  obtain ⟨hS, rfl, hRel⟩ := hq
  have hS3 := hS.symm
  subst hS3
  refine PW.icmpS 1388 (eL dL_law_791) (by decide) ?_
  exact hK _ hRel
set_option maxRecDepth 20000 in
theorem law_18 {G : GT} {S : Shp} {σ : Sto} {b L h m : Nat} {xs : Nat → Int32} {i R : Int} (hr : ra G 1000021 = b) (hb : b < gB G) (hL : L ≤ 3584) (h0 : 0 ≤ i) (h1 : i + 7 ≤ L) (hR : Rel S σ h m R) (hRb : 0 ≤ R ∧ R < 2147483000) (hK : ∀ μ, Rel S μ h m (R + 1) → PW (xL b L (gB G) xs) G S μ 508 397468 1388 [(0, .ref 1000021), (1, .ref h), (2, .ref m), (3, .int (iI i))] []) : PW (xL b L (gB G) xs) G S σ 508 397468 796 [(0, .ref 1000021), (1, .ref h), (2, .ref m), (3, .int (iI i))] [] := by
  refine PW.aload_n (eL dL_law_796) rfl ?_
  refine PW.aload_n (eL dL_law_797) rfl ?_
  refine PW.iload_n (eL dL_law_798) rfl ?_
  refine PW.iconst (eL dL_law_799) ?_
  refine PW.iadd (eL dL_law_800) ?_
  refine PW.sld hr hb (by unfold inR; omega) (by omega) (by omega) dL_law_801 ?_
  refine PW.aload_n (eL dL_law_802) rfl ?_
  refine PW.iload_n (eL dL_law_803) rfl ?_
  refine PW.iconst (eL dL_law_804) ?_
  refine PW.iadd (eL dL_law_805) ?_
  refine PW.sld hr hb (by unfold inR; omega) (by omega) (by omega) dL_law_806 ?_
  refine PW.callVg (pr_differ hR hRb (sc_R _ _) (sc_R _ _)) cv_X11_differ lk_L_95 hR.1.1 (eL dL_law_807) rfl rfl rfl (okC_mk rfl (Nat.le_of_ble_eq_true rfl) (Nat.le_of_ble_eq_true rfl) (Nat.le_of_ble_eq_true rfl) lawC lawS) (fun r S' τ807 hq => ?_)
  obtain ⟨hS, v, rfl, hq2⟩ := hq
  have hS2 := hS.symm
  subst hS2
  refine PW.aload_n (eL dL_law_810) rfl ?_
  refine PW.aload_n (eL dL_law_811) rfl ?_
  refine PW.iload_n (eL dL_law_812) rfl ?_
  refine PW.iconst (eL dL_law_813) ?_
  refine PW.iadd (eL dL_law_814) ?_
  refine PW.sld hr hb (by unfold inR; omega) (by omega) (by omega) dL_law_815 ?_
  refine PW.aload_n (eL dL_law_816) rfl ?_
  refine PW.iload_n (eL dL_law_817) rfl ?_
  refine PW.iconst (eL dL_law_818) ?_
  refine PW.iadd (eL dL_law_819) ?_
  refine PW.sld hr hb (by unfold inR; omega) (by omega) (by omega) dL_law_820 ?_
  refine PW.callVg (hq2) cv_X12_differ lk_L_98 hR.2.1.1 (eL dL_law_821) rfl rfl rfl (okC_mk rfl (Nat.le_of_ble_eq_true rfl) (Nat.le_of_ble_eq_true rfl) (Nat.le_of_ble_eq_true rfl) lawC lawS) (fun r S' τ821 hq => ?_)
  obtain ⟨hS, rfl, hRel⟩ := hq
  have hS3 := hS.symm
  subst hS3
  refine PW.icmpS 1388 (eL dL_law_824) (by decide) ?_
  exact hK _ hRel
set_option maxRecDepth 20000 in
theorem law_19 {G : GT} {S : Shp} {σ : Sto} {b L h m : Nat} {xs : Nat → Int32} {i R : Int} (hr : ra G 1000021 = b) (hb : b < gB G) (hL : L ≤ 3584) (h0 : 0 ≤ i) (h1 : i + 7 ≤ L) (hR : Rel S σ h m R) (hRb : 0 ≤ R ∧ R < 2147483000) (hK : ∀ μ, Rel S μ h m (R + 1) → PW (xL b L (gB G) xs) G S μ 508 397468 1388 [(0, .ref 1000021), (1, .ref h), (2, .ref m), (3, .int (iI i))] []) : PW (xL b L (gB G) xs) G S σ 508 397468 829 [(0, .ref 1000021), (1, .ref h), (2, .ref m), (3, .int (iI i))] [] := by
  refine PW.aload_n (eL dL_law_829) rfl ?_
  refine PW.aload_n (eL dL_law_830) rfl ?_
  refine PW.iload_n (eL dL_law_831) rfl ?_
  refine PW.iconst (eL dL_law_832) ?_
  refine PW.iadd (eL dL_law_833) ?_
  refine PW.sld hr hb (by unfold inR; omega) (by omega) (by omega) dL_law_834 ?_
  refine PW.aload_n (eL dL_law_835) rfl ?_
  refine PW.iload_n (eL dL_law_836) rfl ?_
  refine PW.iconst (eL dL_law_837) ?_
  refine PW.iadd (eL dL_law_838) ?_
  refine PW.sld hr hb (by unfold inR; omega) (by omega) (by omega) dL_law_839 ?_
  refine PW.aload_n (eL dL_law_840) rfl ?_
  refine PW.iload_n (eL dL_law_841) rfl ?_
  refine PW.iconst (eL dL_law_842) ?_
  refine PW.iadd (eL dL_law_843) ?_
  refine PW.sld hr hb (by unfold inR; omega) (by omega) (by omega) dL_law_844 ?_
  refine PW.aload_n (eL dL_law_845) rfl ?_
  refine PW.iload_n (eL dL_law_846) rfl ?_
  refine PW.iconst (eL dL_law_847) ?_
  refine PW.iadd (eL dL_law_848) ?_
  refine PW.sld hr hb (by unfold inR; omega) (by omega) (by omega) dL_law_849 ?_
  refine PW.aload_n (eL dL_law_850) rfl ?_
  refine PW.iload_n (eL dL_law_851) rfl ?_
  refine PW.iconst (eL dL_law_852) ?_
  refine PW.iadd (eL dL_law_853) ?_
  refine PW.sld hr hb (by unfold inR; omega) (by omega) (by omega) dL_law_854 ?_
  refine PW.aload_n (eL dL_law_855) rfl ?_
  refine PW.iload_n (eL dL_law_856) rfl ?_
  refine PW.bipush (by decide) (eL dL_law_857) ?_
  refine PW.iadd (eL dL_law_859) ?_
  refine PW.sld hr hb (by unfold inR; omega) (by omega) (by omega) dL_law_860 ?_
  refine PW.callVg (pr_sight hR hRb (sc_R _ _) (sc_R _ _) (sc_R _ _) (sc_R _ _) (sc_R _ _) (sc_R _ _)) cv_X11_sight lk_L_99 hR.1.1 (eL dL_law_861) rfl rfl rfl (okC_mk rfl (Nat.le_of_ble_eq_true rfl) (Nat.le_of_ble_eq_true rfl) (Nat.le_of_ble_eq_true rfl) lawC lawS) (fun r S' τ861 hq => ?_)
  obtain ⟨hS, v, rfl, hq2⟩ := hq
  have hS2 := hS.symm
  subst hS2
  refine PW.aload_n (eL dL_law_864) rfl ?_
  refine PW.aload_n (eL dL_law_865) rfl ?_
  refine PW.iload_n (eL dL_law_866) rfl ?_
  refine PW.iconst (eL dL_law_867) ?_
  refine PW.iadd (eL dL_law_868) ?_
  refine PW.sld hr hb (by unfold inR; omega) (by omega) (by omega) dL_law_869 ?_
  refine PW.aload_n (eL dL_law_870) rfl ?_
  refine PW.iload_n (eL dL_law_871) rfl ?_
  refine PW.iconst (eL dL_law_872) ?_
  refine PW.iadd (eL dL_law_873) ?_
  refine PW.sld hr hb (by unfold inR; omega) (by omega) (by omega) dL_law_874 ?_
  refine PW.aload_n (eL dL_law_875) rfl ?_
  refine PW.iload_n (eL dL_law_876) rfl ?_
  refine PW.iconst (eL dL_law_877) ?_
  refine PW.iadd (eL dL_law_878) ?_
  refine PW.sld hr hb (by unfold inR; omega) (by omega) (by omega) dL_law_879 ?_
  refine PW.aload_n (eL dL_law_880) rfl ?_
  refine PW.iload_n (eL dL_law_881) rfl ?_
  refine PW.iconst (eL dL_law_882) ?_
  refine PW.iadd (eL dL_law_883) ?_
  refine PW.sld hr hb (by unfold inR; omega) (by omega) (by omega) dL_law_884 ?_
  refine PW.aload_n (eL dL_law_885) rfl ?_
  refine PW.iload_n (eL dL_law_886) rfl ?_
  refine PW.iconst (eL dL_law_887) ?_
  refine PW.iadd (eL dL_law_888) ?_
  refine PW.sld hr hb (by unfold inR; omega) (by omega) (by omega) dL_law_889 ?_
  refine PW.aload_n (eL dL_law_890) rfl ?_
  refine PW.iload_n (eL dL_law_891) rfl ?_
  refine PW.bipush (by decide) (eL dL_law_892) ?_
  refine PW.iadd (eL dL_law_894) ?_
  refine PW.sld hr hb (by unfold inR; omega) (by omega) (by omega) dL_law_895 ?_
  refine PW.callVg (hq2) cv_X12_sight lk_L_102 hR.2.1.1 (eL dL_law_896) rfl rfl rfl (okC_mk rfl (Nat.le_of_ble_eq_true rfl) (Nat.le_of_ble_eq_true rfl) (Nat.le_of_ble_eq_true rfl) lawC lawS) (fun r S' τ896 hq => ?_)
  obtain ⟨hS, rfl, hRel⟩ := hq
  have hS3 := hS.symm
  subst hS3
  refine PW.icmpS 1388 (eL dL_law_899) (by decide) ?_
  exact hK _ hRel
set_option maxRecDepth 20000 in
theorem law_20 {G : GT} {S : Shp} {σ : Sto} {b L h m : Nat} {xs : Nat → Int32} {i R : Int} (hr : ra G 1000021 = b) (hb : b < gB G) (hL : L ≤ 3584) (h0 : 0 ≤ i) (h1 : i + 7 ≤ L) (hR : Rel S σ h m R) (hRb : 0 ≤ R ∧ R < 2147483000) (hK : ∀ μ, Rel S μ h m (R + 1) → PW (xL b L (gB G) xs) G S μ 508 397468 1388 [(0, .ref 1000021), (1, .ref h), (2, .ref m), (3, .int (iI i))] []) : PW (xL b L (gB G) xs) G S σ 508 397468 904 [(0, .ref 1000021), (1, .ref h), (2, .ref m), (3, .int (iI i))] [] := by
  refine PW.aload_n (eL dL_law_904) rfl ?_
  refine PW.aload_n (eL dL_law_905) rfl ?_
  refine PW.iload_n (eL dL_law_906) rfl ?_
  refine PW.iconst (eL dL_law_907) ?_
  refine PW.iadd (eL dL_law_908) ?_
  refine PW.sld hr hb (by unfold inR; omega) (by omega) (by omega) dL_law_909 ?_
  refine PW.callVg (pr_met hR hRb (sc_R _ _)) cv_X11_met lk_L_103 hR.1.1 (eL dL_law_910) rfl rfl rfl (okC_mk rfl (Nat.le_of_ble_eq_true rfl) (Nat.le_of_ble_eq_true rfl) (Nat.le_of_ble_eq_true rfl) lawC lawS) (fun r S' τ910 hq => ?_)
  obtain ⟨hS, v, rfl, hq2⟩ := hq
  have hS2 := hS.symm
  subst hS2
  refine PW.aload_n (eL dL_law_913) rfl ?_
  refine PW.aload_n (eL dL_law_914) rfl ?_
  refine PW.iload_n (eL dL_law_915) rfl ?_
  refine PW.iconst (eL dL_law_916) ?_
  refine PW.iadd (eL dL_law_917) ?_
  refine PW.sld hr hb (by unfold inR; omega) (by omega) (by omega) dL_law_918 ?_
  refine PW.callVg (hq2) cv_X12_met lk_L_106 hR.2.1.1 (eL dL_law_919) rfl rfl rfl (okC_mk rfl (Nat.le_of_ble_eq_true rfl) (Nat.le_of_ble_eq_true rfl) (Nat.le_of_ble_eq_true rfl) lawC lawS) (fun r S' τ919 hq => ?_)
  obtain ⟨hS, rfl, hRel⟩ := hq
  have hS3 := hS.symm
  subst hS3
  refine PW.icmpS 1388 (eL dL_law_922) (by decide) ?_
  exact hK _ hRel
set_option maxRecDepth 20000 in
theorem law_21 {G : GT} {S : Shp} {σ : Sto} {b L h m : Nat} {xs : Nat → Int32} {i R : Int} (hr : ra G 1000021 = b) (hb : b < gB G) (hL : L ≤ 3584) (h0 : 0 ≤ i) (h1 : i + 7 ≤ L) (hR : Rel S σ h m R) (hRb : 0 ≤ R ∧ R < 2147483000) (hK : ∀ μ, Rel S μ h m (R + 1) → PW (xL b L (gB G) xs) G S μ 508 397468 1388 [(0, .ref 1000021), (1, .ref h), (2, .ref m), (3, .int (iI i))] []) : PW (xL b L (gB G) xs) G S σ 508 397468 927 [(0, .ref 1000021), (1, .ref h), (2, .ref m), (3, .int (iI i))] [] := by
  refine PW.aload_n (eL dL_law_927) rfl ?_
  refine PW.aload_n (eL dL_law_928) rfl ?_
  refine PW.iload_n (eL dL_law_929) rfl ?_
  refine PW.iconst (eL dL_law_930) ?_
  refine PW.iadd (eL dL_law_931) ?_
  refine PW.sld hr hb (by unfold inR; omega) (by omega) (by omega) dL_law_932 ?_
  refine PW.aload_n (eL dL_law_933) rfl ?_
  refine PW.iload_n (eL dL_law_934) rfl ?_
  refine PW.iconst (eL dL_law_935) ?_
  refine PW.iadd (eL dL_law_936) ?_
  refine PW.sld hr hb (by unfold inR; omega) (by omega) (by omega) dL_law_937 ?_
  refine PW.callVg (pr_unmet hR hRb (sc_R _ _) (sc_R _ _)) cv_X11_unmet lk_L_107 hR.1.1 (eL dL_law_938) rfl rfl rfl (okC_mk rfl (Nat.le_of_ble_eq_true rfl) (Nat.le_of_ble_eq_true rfl) (Nat.le_of_ble_eq_true rfl) lawC lawS) (fun r S' τ938 hq => ?_)
  obtain ⟨hS, v, rfl, hq2⟩ := hq
  have hS2 := hS.symm
  subst hS2
  refine PW.aload_n (eL dL_law_941) rfl ?_
  refine PW.aload_n (eL dL_law_942) rfl ?_
  refine PW.iload_n (eL dL_law_943) rfl ?_
  refine PW.iconst (eL dL_law_944) ?_
  refine PW.iadd (eL dL_law_945) ?_
  refine PW.sld hr hb (by unfold inR; omega) (by omega) (by omega) dL_law_946 ?_
  refine PW.aload_n (eL dL_law_947) rfl ?_
  refine PW.iload_n (eL dL_law_948) rfl ?_
  refine PW.iconst (eL dL_law_949) ?_
  refine PW.iadd (eL dL_law_950) ?_
  refine PW.sld hr hb (by unfold inR; omega) (by omega) (by omega) dL_law_951 ?_
  refine PW.callVg (hq2) cv_X12_unmet lk_L_110 hR.2.1.1 (eL dL_law_952) rfl rfl rfl (okC_mk rfl (Nat.le_of_ble_eq_true rfl) (Nat.le_of_ble_eq_true rfl) (Nat.le_of_ble_eq_true rfl) lawC lawS) (fun r S' τ952 hq => ?_)
  obtain ⟨hS, rfl, hRel⟩ := hq
  have hS3 := hS.symm
  subst hS3
  refine PW.icmpS 1388 (eL dL_law_955) (by decide) ?_
  exact hK _ hRel
set_option maxRecDepth 20000 in
theorem law_22 {G : GT} {S : Shp} {σ : Sto} {b L h m : Nat} {xs : Nat → Int32} {i R : Int} (hr : ra G 1000021 = b) (hb : b < gB G) (hL : L ≤ 3584) (h0 : 0 ≤ i) (h1 : i + 7 ≤ L) (hR : Rel S σ h m R) (hRb : 0 ≤ R ∧ R < 2147483000) (hK : ∀ μ, Rel S μ h m (R + 1) → PW (xL b L (gB G) xs) G S μ 508 397468 1388 [(0, .ref 1000021), (1, .ref h), (2, .ref m), (3, .int (iI i))] []) : PW (xL b L (gB G) xs) G S σ 508 397468 960 [(0, .ref 1000021), (1, .ref h), (2, .ref m), (3, .int (iI i))] [] := by
  refine PW.aload_n (eL dL_law_960) rfl ?_
  refine PW.callVg (pr_forget hR hRb) cv_X11_forget lk_L_111 hR.1.1 (eL dL_law_961) rfl rfl rfl (okC_mk rfl (Nat.le_of_ble_eq_true rfl) (Nat.le_of_ble_eq_true rfl) (Nat.le_of_ble_eq_true rfl) lawC lawS) (fun r S' τ961 hq => ?_)
  obtain ⟨hS, v, rfl, hq2⟩ := hq
  have hS2 := hS.symm
  subst hS2
  refine PW.aload_n (eL dL_law_964) rfl ?_
  refine PW.callVg (hq2) cv_X12_forget lk_L_114 hR.2.1.1 (eL dL_law_965) rfl rfl rfl (okC_mk rfl (Nat.le_of_ble_eq_true rfl) (Nat.le_of_ble_eq_true rfl) (Nat.le_of_ble_eq_true rfl) lawC lawS) (fun r S' τ965 hq => ?_)
  obtain ⟨hS, rfl, hRel⟩ := hq
  have hS3 := hS.symm
  subst hS3
  refine PW.icmpS 1388 (eL dL_law_968) (by decide) ?_
  exact hK _ hRel
set_option maxRecDepth 20000 in
theorem law_23 {G : GT} {S : Shp} {σ : Sto} {b L h m : Nat} {xs : Nat → Int32} {i R : Int} (hr : ra G 1000021 = b) (hb : b < gB G) (hL : L ≤ 3584) (h0 : 0 ≤ i) (h1 : i + 7 ≤ L) (hR : Rel S σ h m R) (hRb : 0 ≤ R ∧ R < 2147483000) (hK : ∀ μ, Rel S μ h m (R + 1) → PW (xL b L (gB G) xs) G S μ 508 397468 1388 [(0, .ref 1000021), (1, .ref h), (2, .ref m), (3, .int (iI i))] []) : PW (xL b L (gB G) xs) G S σ 508 397468 973 [(0, .ref 1000021), (1, .ref h), (2, .ref m), (3, .int (iI i))] [] := by
  refine PW.aload_n (eL dL_law_973) rfl ?_
  refine PW.aload_n (eL dL_law_974) rfl ?_
  refine PW.iload_n (eL dL_law_975) rfl ?_
  refine PW.iconst (eL dL_law_976) ?_
  refine PW.iadd (eL dL_law_977) ?_
  refine PW.sld hr hb (by unfold inR; omega) (by omega) (by omega) dL_law_978 ?_
  refine PW.aload_n (eL dL_law_979) rfl ?_
  refine PW.iload_n (eL dL_law_980) rfl ?_
  refine PW.iconst (eL dL_law_981) ?_
  refine PW.iadd (eL dL_law_982) ?_
  refine PW.sld hr hb (by unfold inR; omega) (by omega) (by omega) dL_law_983 ?_
  refine PW.aload_n (eL dL_law_984) rfl ?_
  refine PW.iload_n (eL dL_law_985) rfl ?_
  refine PW.iconst (eL dL_law_986) ?_
  refine PW.iadd (eL dL_law_987) ?_
  refine PW.sld hr hb (by unfold inR; omega) (by omega) (by omega) dL_law_988 ?_
  refine PW.callVg (pr_claim hR hRb (sc_R _ _) (sc_R _ _) (sc_R _ _)) cv_X11_claim lk_L_115 hR.1.1 (eL dL_law_989) rfl rfl rfl (okC_mk rfl (Nat.le_of_ble_eq_true rfl) (Nat.le_of_ble_eq_true rfl) (Nat.le_of_ble_eq_true rfl) lawC lawS) (fun r S' τ989 hq => ?_)
  obtain ⟨hS, v, rfl, hq2⟩ := hq
  have hS2 := hS.symm
  subst hS2
  refine PW.aload_n (eL dL_law_992) rfl ?_
  refine PW.aload_n (eL dL_law_993) rfl ?_
  refine PW.iload_n (eL dL_law_994) rfl ?_
  refine PW.iconst (eL dL_law_995) ?_
  refine PW.iadd (eL dL_law_996) ?_
  refine PW.sld hr hb (by unfold inR; omega) (by omega) (by omega) dL_law_997 ?_
  refine PW.aload_n (eL dL_law_998) rfl ?_
  refine PW.iload_n (eL dL_law_999) rfl ?_
  refine PW.iconst (eL dL_law_1000) ?_
  refine PW.iadd (eL dL_law_1001) ?_
  refine PW.sld hr hb (by unfold inR; omega) (by omega) (by omega) dL_law_1002 ?_
  refine PW.aload_n (eL dL_law_1003) rfl ?_
  refine PW.iload_n (eL dL_law_1004) rfl ?_
  refine PW.iconst (eL dL_law_1005) ?_
  refine PW.iadd (eL dL_law_1006) ?_
  refine PW.sld hr hb (by unfold inR; omega) (by omega) (by omega) dL_law_1007 ?_
  refine PW.callVg (hq2) cv_X12_claim lk_L_118 hR.2.1.1 (eL dL_law_1008) rfl rfl rfl (okC_mk rfl (Nat.le_of_ble_eq_true rfl) (Nat.le_of_ble_eq_true rfl) (Nat.le_of_ble_eq_true rfl) lawC lawS) (fun r S' τ1008 hq => ?_)
  obtain ⟨hS, rfl, hRel⟩ := hq
  have hS3 := hS.symm
  subst hS3
  refine PW.icmpS 1388 (eL dL_law_1011) (by decide) ?_
  exact hK _ hRel
set_option maxRecDepth 20000 in
theorem law_24 {G : GT} {S : Shp} {σ : Sto} {b L h m : Nat} {xs : Nat → Int32} {i R : Int} (hr : ra G 1000021 = b) (hb : b < gB G) (hL : L ≤ 3584) (h0 : 0 ≤ i) (h1 : i + 7 ≤ L) (hR : Rel S σ h m R) (hRb : 0 ≤ R ∧ R < 2147483000) (hK : ∀ μ, Rel S μ h m (R + 1) → PW (xL b L (gB G) xs) G S μ 508 397468 1388 [(0, .ref 1000021), (1, .ref h), (2, .ref m), (3, .int (iI i))] []) : PW (xL b L (gB G) xs) G S σ 508 397468 1016 [(0, .ref 1000021), (1, .ref h), (2, .ref m), (3, .int (iI i))] [] := by
  refine PW.aload_n (eL dL_law_1016) rfl ?_
  refine PW.aload_n (eL dL_law_1017) rfl ?_
  refine PW.iload_n (eL dL_law_1018) rfl ?_
  refine PW.iconst (eL dL_law_1019) ?_
  refine PW.iadd (eL dL_law_1020) ?_
  refine PW.sld hr hb (by unfold inR; omega) (by omega) (by omega) dL_law_1021 ?_
  refine PW.aload_n (eL dL_law_1022) rfl ?_
  refine PW.iload_n (eL dL_law_1023) rfl ?_
  refine PW.iconst (eL dL_law_1024) ?_
  refine PW.iadd (eL dL_law_1025) ?_
  refine PW.sld hr hb (by unfold inR; omega) (by omega) (by omega) dL_law_1026 ?_
  refine PW.callVg (pr_row hR hRb (sc_R _ _) (sc_R _ _)) cv_X11_row lk_L_119 hR.1.1 (eL dL_law_1027) rfl rfl rfl (okC_mk rfl (Nat.le_of_ble_eq_true rfl) (Nat.le_of_ble_eq_true rfl) (Nat.le_of_ble_eq_true rfl) lawC lawS) (fun r S' τ1027 hq => ?_)
  obtain ⟨hS, v, rfl, hq2⟩ := hq
  have hS2 := hS.symm
  subst hS2
  refine PW.aload_n (eL dL_law_1030) rfl ?_
  refine PW.aload_n (eL dL_law_1031) rfl ?_
  refine PW.iload_n (eL dL_law_1032) rfl ?_
  refine PW.iconst (eL dL_law_1033) ?_
  refine PW.iadd (eL dL_law_1034) ?_
  refine PW.sld hr hb (by unfold inR; omega) (by omega) (by omega) dL_law_1035 ?_
  refine PW.aload_n (eL dL_law_1036) rfl ?_
  refine PW.iload_n (eL dL_law_1037) rfl ?_
  refine PW.iconst (eL dL_law_1038) ?_
  refine PW.iadd (eL dL_law_1039) ?_
  refine PW.sld hr hb (by unfold inR; omega) (by omega) (by omega) dL_law_1040 ?_
  refine PW.callVg (hq2) cv_X12_row lk_L_122 hR.2.1.1 (eL dL_law_1041) rfl rfl rfl (okC_mk rfl (Nat.le_of_ble_eq_true rfl) (Nat.le_of_ble_eq_true rfl) (Nat.le_of_ble_eq_true rfl) lawC lawS) (fun r S' τ1041 hq => ?_)
  obtain ⟨hS, rfl, hRel⟩ := hq
  have hS3 := hS.symm
  subst hS3
  refine PW.icmpS 1388 (eL dL_law_1044) (by decide) ?_
  exact hK _ hRel
set_option maxRecDepth 20000 in
theorem law_25 {G : GT} {S : Shp} {σ : Sto} {b L h m : Nat} {xs : Nat → Int32} {i R : Int} (hr : ra G 1000021 = b) (hb : b < gB G) (hL : L ≤ 3584) (h0 : 0 ≤ i) (h1 : i + 7 ≤ L) (hR : Rel S σ h m R) (hRb : 0 ≤ R ∧ R < 2147483000) (hK : ∀ μ, Rel S μ h m (R + 1) → PW (xL b L (gB G) xs) G S μ 508 397468 1388 [(0, .ref 1000021), (1, .ref h), (2, .ref m), (3, .int (iI i))] []) : PW (xL b L (gB G) xs) G S σ 508 397468 1049 [(0, .ref 1000021), (1, .ref h), (2, .ref m), (3, .int (iI i))] [] := by
  refine PW.aload_n (eL dL_law_1049) rfl ?_
  refine PW.aload_n (eL dL_law_1050) rfl ?_
  refine PW.iload_n (eL dL_law_1051) rfl ?_
  refine PW.iconst (eL dL_law_1052) ?_
  refine PW.iadd (eL dL_law_1053) ?_
  refine PW.sld hr hb (by unfold inR; omega) (by omega) (by omega) dL_law_1054 ?_
  refine PW.aload_n (eL dL_law_1055) rfl ?_
  refine PW.iload_n (eL dL_law_1056) rfl ?_
  refine PW.iconst (eL dL_law_1057) ?_
  refine PW.iadd (eL dL_law_1058) ?_
  refine PW.sld hr hb (by unfold inR; omega) (by omega) (by omega) dL_law_1059 ?_
  refine PW.aload_n (eL dL_law_1060) rfl ?_
  refine PW.iload_n (eL dL_law_1061) rfl ?_
  refine PW.iconst (eL dL_law_1062) ?_
  refine PW.iadd (eL dL_law_1063) ?_
  refine PW.sld hr hb (by unfold inR; omega) (by omega) (by omega) dL_law_1064 ?_
  refine PW.callVg (pr_sure hR hRb (sc_R _ _) (sc_R _ _) (sc_R _ _)) cv_X11_sure lk_L_123 hR.1.1 (eL dL_law_1065) rfl rfl rfl (okC_mk rfl (Nat.le_of_ble_eq_true rfl) (Nat.le_of_ble_eq_true rfl) (Nat.le_of_ble_eq_true rfl) lawC lawS) (fun r S' τ1065 hq => ?_)
  obtain ⟨hS, v, rfl, hq2⟩ := hq
  have hS2 := hS.symm
  subst hS2
  refine PW.aload_n (eL dL_law_1068) rfl ?_
  refine PW.aload_n (eL dL_law_1069) rfl ?_
  refine PW.iload_n (eL dL_law_1070) rfl ?_
  refine PW.iconst (eL dL_law_1071) ?_
  refine PW.iadd (eL dL_law_1072) ?_
  refine PW.sld hr hb (by unfold inR; omega) (by omega) (by omega) dL_law_1073 ?_
  refine PW.aload_n (eL dL_law_1074) rfl ?_
  refine PW.iload_n (eL dL_law_1075) rfl ?_
  refine PW.iconst (eL dL_law_1076) ?_
  refine PW.iadd (eL dL_law_1077) ?_
  refine PW.sld hr hb (by unfold inR; omega) (by omega) (by omega) dL_law_1078 ?_
  refine PW.aload_n (eL dL_law_1079) rfl ?_
  refine PW.iload_n (eL dL_law_1080) rfl ?_
  refine PW.iconst (eL dL_law_1081) ?_
  refine PW.iadd (eL dL_law_1082) ?_
  refine PW.sld hr hb (by unfold inR; omega) (by omega) (by omega) dL_law_1083 ?_
  refine PW.callVg (hq2) cv_X12_sure lk_L_126 hR.2.1.1 (eL dL_law_1084) rfl rfl rfl (okC_mk rfl (Nat.le_of_ble_eq_true rfl) (Nat.le_of_ble_eq_true rfl) (Nat.le_of_ble_eq_true rfl) lawC lawS) (fun r S' τ1084 hq => ?_)
  obtain ⟨hS, rfl, hRel⟩ := hq
  have hS3 := hS.symm
  subst hS3
  refine PW.icmpS 1388 (eL dL_law_1087) (by decide) ?_
  exact hK _ hRel
set_option maxRecDepth 20000 in
theorem law_26 {G : GT} {S : Shp} {σ : Sto} {b L h m : Nat} {xs : Nat → Int32} {i R : Int} (hr : ra G 1000021 = b) (hb : b < gB G) (hL : L ≤ 3584) (h0 : 0 ≤ i) (h1 : i + 7 ≤ L) (hR : Rel S σ h m R) (hRb : 0 ≤ R ∧ R < 2147483000) (hK : ∀ μ, Rel S μ h m (R + 1) → PW (xL b L (gB G) xs) G S μ 508 397468 1388 [(0, .ref 1000021), (1, .ref h), (2, .ref m), (3, .int (iI i))] []) : PW (xL b L (gB G) xs) G S σ 508 397468 1092 [(0, .ref 1000021), (1, .ref h), (2, .ref m), (3, .int (iI i))] [] := by
  refine PW.aload_n (eL dL_law_1092) rfl ?_
  refine PW.callVg (pr_broken hR hRb) cv_X11_broken lk_L_127 hR.1.1 (eL dL_law_1093) rfl rfl rfl (okC_mk rfl (Nat.le_of_ble_eq_true rfl) (Nat.le_of_ble_eq_true rfl) (Nat.le_of_ble_eq_true rfl) lawC lawS) (fun r S' τ1093 hq => ?_)
  obtain ⟨hS, v, rfl, hq2⟩ := hq
  have hS2 := hS.symm
  subst hS2
  refine PW.aload_n (eL dL_law_1096) rfl ?_
  refine PW.callVg (hq2) cv_X12_broken lk_L_130 hR.2.1.1 (eL dL_law_1097) rfl rfl rfl (okC_mk rfl (Nat.le_of_ble_eq_true rfl) (Nat.le_of_ble_eq_true rfl) (Nat.le_of_ble_eq_true rfl) lawC lawS) (fun r S' τ1097 hq => ?_)
  obtain ⟨hS, rfl, hRel⟩ := hq
  have hS3 := hS.symm
  subst hS3
  refine PW.icmpS 1388 (eL dL_law_1100) (by decide) ?_
  exact hK _ hRel
set_option maxRecDepth 20000 in
theorem law_27 {G : GT} {S : Shp} {σ : Sto} {b L h m : Nat} {xs : Nat → Int32} {i R : Int} (hr : ra G 1000021 = b) (hb : b < gB G) (hL : L ≤ 3584) (h0 : 0 ≤ i) (h1 : i + 7 ≤ L) (hR : Rel S σ h m R) (hRb : 0 ≤ R ∧ R < 2147483000) (hK : ∀ μ, Rel S μ h m (R + 1) → PW (xL b L (gB G) xs) G S μ 508 397468 1388 [(0, .ref 1000021), (1, .ref h), (2, .ref m), (3, .int (iI i))] []) : PW (xL b L (gB G) xs) G S σ 508 397468 1105 [(0, .ref 1000021), (1, .ref h), (2, .ref m), (3, .int (iI i))] [] := by
  refine PW.aload_n (eL dL_law_1105) rfl ?_
  refine PW.aload_n (eL dL_law_1106) rfl ?_
  refine PW.iload_n (eL dL_law_1107) rfl ?_
  refine PW.iconst (eL dL_law_1108) ?_
  refine PW.iadd (eL dL_law_1109) ?_
  refine PW.sld hr hb (by unfold inR; omega) (by omega) (by omega) dL_law_1110 ?_
  refine PW.aload_n (eL dL_law_1111) rfl ?_
  refine PW.iload_n (eL dL_law_1112) rfl ?_
  refine PW.iconst (eL dL_law_1113) ?_
  refine PW.iadd (eL dL_law_1114) ?_
  refine PW.sld hr hb (by unfold inR; omega) (by omega) (by omega) dL_law_1115 ?_
  refine PW.aload_n (eL dL_law_1116) rfl ?_
  refine PW.iload_n (eL dL_law_1117) rfl ?_
  refine PW.iconst (eL dL_law_1118) ?_
  refine PW.iadd (eL dL_law_1119) ?_
  refine PW.sld hr hb (by unfold inR; omega) (by omega) (by omega) dL_law_1120 ?_
  refine PW.aload_n (eL dL_law_1121) rfl ?_
  refine PW.iload_n (eL dL_law_1122) rfl ?_
  refine PW.iconst (eL dL_law_1123) ?_
  refine PW.iadd (eL dL_law_1124) ?_
  refine PW.sld hr hb (by unfold inR; omega) (by omega) (by omega) dL_law_1125 ?_
  refine PW.aload_n (eL dL_law_1126) rfl ?_
  refine PW.iload_n (eL dL_law_1127) rfl ?_
  refine PW.iconst (eL dL_law_1128) ?_
  refine PW.iadd (eL dL_law_1129) ?_
  refine PW.sld hr hb (by unfold inR; omega) (by omega) (by omega) dL_law_1130 ?_
  refine PW.callVg (pr_draw hR hRb (sc_R _ _) (sc_R _ _) (sc_R _ _) (sc_R _ _) (sc_R _ _)) cv_X11_draw lk_L_131 hR.1.1 (eL dL_law_1131) rfl rfl rfl (okC_mk rfl (Nat.le_of_ble_eq_true rfl) (Nat.le_of_ble_eq_true rfl) (Nat.le_of_ble_eq_true rfl) lawC lawS) (fun r S' τ1131 hq => ?_)
  obtain ⟨hS, v, rfl, hq2⟩ := hq
  have hS2 := hS.symm
  subst hS2
  refine PW.aload_n (eL dL_law_1134) rfl ?_
  refine PW.aload_n (eL dL_law_1135) rfl ?_
  refine PW.iload_n (eL dL_law_1136) rfl ?_
  refine PW.iconst (eL dL_law_1137) ?_
  refine PW.iadd (eL dL_law_1138) ?_
  refine PW.sld hr hb (by unfold inR; omega) (by omega) (by omega) dL_law_1139 ?_
  refine PW.aload_n (eL dL_law_1140) rfl ?_
  refine PW.iload_n (eL dL_law_1141) rfl ?_
  refine PW.iconst (eL dL_law_1142) ?_
  refine PW.iadd (eL dL_law_1143) ?_
  refine PW.sld hr hb (by unfold inR; omega) (by omega) (by omega) dL_law_1144 ?_
  refine PW.aload_n (eL dL_law_1145) rfl ?_
  refine PW.iload_n (eL dL_law_1146) rfl ?_
  refine PW.iconst (eL dL_law_1147) ?_
  refine PW.iadd (eL dL_law_1148) ?_
  refine PW.sld hr hb (by unfold inR; omega) (by omega) (by omega) dL_law_1149 ?_
  refine PW.aload_n (eL dL_law_1150) rfl ?_
  refine PW.iload_n (eL dL_law_1151) rfl ?_
  refine PW.iconst (eL dL_law_1152) ?_
  refine PW.iadd (eL dL_law_1153) ?_
  refine PW.sld hr hb (by unfold inR; omega) (by omega) (by omega) dL_law_1154 ?_
  refine PW.aload_n (eL dL_law_1155) rfl ?_
  refine PW.iload_n (eL dL_law_1156) rfl ?_
  refine PW.iconst (eL dL_law_1157) ?_
  refine PW.iadd (eL dL_law_1158) ?_
  refine PW.sld hr hb (by unfold inR; omega) (by omega) (by omega) dL_law_1159 ?_
  refine PW.callVg (hq2) cv_X12_draw lk_L_135 hR.2.1.1 (eL dL_law_1160) rfl rfl rfl (okC_mk rfl (Nat.le_of_ble_eq_true rfl) (Nat.le_of_ble_eq_true rfl) (Nat.le_of_ble_eq_true rfl) lawC lawS) (fun r S' τ1160 hq => ?_)
  obtain ⟨hS, rfl, hRel⟩ := hq
  have hS3 := hS.symm
  subst hS3
  refine PW.icmpS 1388 (eL dL_law_1163) (by decide) ?_
  exact hK _ hRel
set_option maxRecDepth 20000 in
theorem law_28 {G : GT} {S : Shp} {σ : Sto} {b L h m : Nat} {xs : Nat → Int32} {i R : Int} (hr : ra G 1000021 = b) (hb : b < gB G) (hL : L ≤ 3584) (h0 : 0 ≤ i) (h1 : i + 7 ≤ L) (hR : Rel S σ h m R) (hRb : 0 ≤ R ∧ R < 2147483000) (hK : ∀ μ, Rel S μ h m (R + 1) → PW (xL b L (gB G) xs) G S μ 508 397468 1388 [(0, .ref 1000021), (1, .ref h), (2, .ref m), (3, .int (iI i))] []) : PW (xL b L (gB G) xs) G S σ 508 397468 1168 [(0, .ref 1000021), (1, .ref h), (2, .ref m), (3, .int (iI i))] [] := by
  refine PW.aload_n (eL dL_law_1168) rfl ?_
  refine PW.aload_n (eL dL_law_1169) rfl ?_
  refine PW.iload_n (eL dL_law_1170) rfl ?_
  refine PW.iconst (eL dL_law_1171) ?_
  refine PW.iadd (eL dL_law_1172) ?_
  refine PW.sld hr hb (by unfold inR; omega) (by omega) (by omega) dL_law_1173 ?_
  refine PW.aload_n (eL dL_law_1174) rfl ?_
  refine PW.iload_n (eL dL_law_1175) rfl ?_
  refine PW.iconst (eL dL_law_1176) ?_
  refine PW.iadd (eL dL_law_1177) ?_
  refine PW.sld hr hb (by unfold inR; omega) (by omega) (by omega) dL_law_1178 ?_
  refine PW.aload_n (eL dL_law_1179) rfl ?_
  refine PW.iload_n (eL dL_law_1180) rfl ?_
  refine PW.iconst (eL dL_law_1181) ?_
  refine PW.iadd (eL dL_law_1182) ?_
  refine PW.sld hr hb (by unfold inR; omega) (by omega) (by omega) dL_law_1183 ?_
  refine PW.aload_n (eL dL_law_1184) rfl ?_
  refine PW.iload_n (eL dL_law_1185) rfl ?_
  refine PW.iconst (eL dL_law_1186) ?_
  refine PW.iadd (eL dL_law_1187) ?_
  refine PW.sld hr hb (by unfold inR; omega) (by omega) (by omega) dL_law_1188 ?_
  refine PW.aload_n (eL dL_law_1189) rfl ?_
  refine PW.iload_n (eL dL_law_1190) rfl ?_
  refine PW.iconst (eL dL_law_1191) ?_
  refine PW.iadd (eL dL_law_1192) ?_
  refine PW.sld hr hb (by unfold inR; omega) (by omega) (by omega) dL_law_1193 ?_
  refine PW.aload_n (eL dL_law_1194) rfl ?_
  refine PW.iload_n (eL dL_law_1195) rfl ?_
  refine PW.bipush (by decide) (eL dL_law_1196) ?_
  refine PW.iadd (eL dL_law_1198) ?_
  refine PW.sld hr hb (by unfold inR; omega) (by omega) (by omega) dL_law_1199 ?_
  refine PW.callVg (pr_maybe hR hRb (sc_R _ _) (sc_R _ _) (sc_R _ _) (sc_R _ _) (sc_R _ _) (sc_R _ _)) cv_X11_maybe lk_L_136 hR.1.1 (eL dL_law_1200) rfl rfl rfl (okC_mk rfl (Nat.le_of_ble_eq_true rfl) (Nat.le_of_ble_eq_true rfl) (Nat.le_of_ble_eq_true rfl) lawC lawS) (fun r S' τ1200 hq => ?_)
  obtain ⟨hS, v, rfl, hq2⟩ := hq
  have hS2 := hS.symm
  subst hS2
  refine PW.aload_n (eL dL_law_1203) rfl ?_
  refine PW.aload_n (eL dL_law_1204) rfl ?_
  refine PW.iload_n (eL dL_law_1205) rfl ?_
  refine PW.iconst (eL dL_law_1206) ?_
  refine PW.iadd (eL dL_law_1207) ?_
  refine PW.sld hr hb (by unfold inR; omega) (by omega) (by omega) dL_law_1208 ?_
  refine PW.aload_n (eL dL_law_1209) rfl ?_
  refine PW.iload_n (eL dL_law_1210) rfl ?_
  refine PW.iconst (eL dL_law_1211) ?_
  refine PW.iadd (eL dL_law_1212) ?_
  refine PW.sld hr hb (by unfold inR; omega) (by omega) (by omega) dL_law_1213 ?_
  refine PW.aload_n (eL dL_law_1214) rfl ?_
  refine PW.iload_n (eL dL_law_1215) rfl ?_
  refine PW.iconst (eL dL_law_1216) ?_
  refine PW.iadd (eL dL_law_1217) ?_
  refine PW.sld hr hb (by unfold inR; omega) (by omega) (by omega) dL_law_1218 ?_
  refine PW.aload_n (eL dL_law_1219) rfl ?_
  refine PW.iload_n (eL dL_law_1220) rfl ?_
  refine PW.iconst (eL dL_law_1221) ?_
  refine PW.iadd (eL dL_law_1222) ?_
  refine PW.sld hr hb (by unfold inR; omega) (by omega) (by omega) dL_law_1223 ?_
  refine PW.aload_n (eL dL_law_1224) rfl ?_
  refine PW.iload_n (eL dL_law_1225) rfl ?_
  refine PW.iconst (eL dL_law_1226) ?_
  refine PW.iadd (eL dL_law_1227) ?_
  refine PW.sld hr hb (by unfold inR; omega) (by omega) (by omega) dL_law_1228 ?_
  refine PW.aload_n (eL dL_law_1229) rfl ?_
  refine PW.iload_n (eL dL_law_1230) rfl ?_
  refine PW.bipush (by decide) (eL dL_law_1231) ?_
  refine PW.iadd (eL dL_law_1233) ?_
  refine PW.sld hr hb (by unfold inR; omega) (by omega) (by omega) dL_law_1234 ?_
  refine PW.callVg (hq2) cv_X12_maybe lk_L_139 hR.2.1.1 (eL dL_law_1235) rfl rfl rfl (okC_mk rfl (Nat.le_of_ble_eq_true rfl) (Nat.le_of_ble_eq_true rfl) (Nat.le_of_ble_eq_true rfl) lawC lawS) (fun r S' τ1235 hq => ?_)
  obtain ⟨hS, rfl, hRel⟩ := hq
  have hS3 := hS.symm
  subst hS3
  refine PW.icmpS 1388 (eL dL_law_1238) (by decide) ?_
  exact hK _ hRel
set_option maxRecDepth 20000 in
theorem law_29 {G : GT} {S : Shp} {σ : Sto} {b L h m : Nat} {xs : Nat → Int32} {i R : Int} (hr : ra G 1000021 = b) (hb : b < gB G) (hL : L ≤ 3584) (h0 : 0 ≤ i) (h1 : i + 7 ≤ L) (hR : Rel S σ h m R) (hRb : 0 ≤ R ∧ R < 2147483000) (hK : ∀ μ, Rel S μ h m (R + 1) → PW (xL b L (gB G) xs) G S μ 508 397468 1388 [(0, .ref 1000021), (1, .ref h), (2, .ref m), (3, .int (iI i))] []) : PW (xL b L (gB G) xs) G S σ 508 397468 1243 [(0, .ref 1000021), (1, .ref h), (2, .ref m), (3, .int (iI i))] [] := by
  refine PW.aload_n (eL dL_law_1243) rfl ?_
  refine PW.callVg (pr_never hR hRb) cv_X11_never lk_L_140 hR.1.1 (eL dL_law_1244) rfl rfl rfl (okC_mk rfl (Nat.le_of_ble_eq_true rfl) (Nat.le_of_ble_eq_true rfl) (Nat.le_of_ble_eq_true rfl) lawC lawS) (fun r S' τ1244 hq => ?_)
  obtain ⟨hS, v, rfl, hq2⟩ := hq
  have hS2 := hS.symm
  subst hS2
  refine PW.aload_n (eL dL_law_1247) rfl ?_
  refine PW.callVg (hq2) cv_X12_never lk_L_143 hR.2.1.1 (eL dL_law_1248) rfl rfl rfl (okC_mk rfl (Nat.le_of_ble_eq_true rfl) (Nat.le_of_ble_eq_true rfl) (Nat.le_of_ble_eq_true rfl) lawC lawS) (fun r S' τ1248 hq => ?_)
  obtain ⟨hS, rfl, hRel⟩ := hq
  have hS3 := hS.symm
  subst hS3
  refine PW.icmpS 1388 (eL dL_law_1251) (by decide) ?_
  exact hK _ hRel
set_option maxRecDepth 20000 in
theorem law_30 {G : GT} {S : Shp} {σ : Sto} {b L h m : Nat} {xs : Nat → Int32} {i R : Int} (hr : ra G 1000021 = b) (hb : b < gB G) (hL : L ≤ 3584) (h0 : 0 ≤ i) (h1 : i + 7 ≤ L) (hR : Rel S σ h m R) (hRb : 0 ≤ R ∧ R < 2147483000) (hK : ∀ μ, Rel S μ h m (R + 1) → PW (xL b L (gB G) xs) G S μ 508 397468 1388 [(0, .ref 1000021), (1, .ref h), (2, .ref m), (3, .int (iI i))] []) : PW (xL b L (gB G) xs) G S σ 508 397468 1256 [(0, .ref 1000021), (1, .ref h), (2, .ref m), (3, .int (iI i))] [] := by
  refine PW.aload_n (eL dL_law_1256) rfl ?_
  refine PW.aload_n (eL dL_law_1257) rfl ?_
  refine PW.iload_n (eL dL_law_1258) rfl ?_
  refine PW.iconst (eL dL_law_1259) ?_
  refine PW.iadd (eL dL_law_1260) ?_
  refine PW.sld hr hb (by unfold inR; omega) (by omega) (by omega) dL_law_1261 ?_
  refine PW.callVg (pr_stories hR hRb (sc_R _ _)) cv_X11_stories lk_L_144 hR.1.1 (eL dL_law_1262) rfl rfl rfl (okC_mk rfl (Nat.le_of_ble_eq_true rfl) (Nat.le_of_ble_eq_true rfl) (Nat.le_of_ble_eq_true rfl) lawC lawS) (fun r S' τ1262 hq => ?_)
  obtain ⟨hS, v, rfl, hq2⟩ := hq
  have hS2 := hS.symm
  subst hS2
  refine PW.aload_n (eL dL_law_1265) rfl ?_
  refine PW.aload_n (eL dL_law_1266) rfl ?_
  refine PW.iload_n (eL dL_law_1267) rfl ?_
  refine PW.iconst (eL dL_law_1268) ?_
  refine PW.iadd (eL dL_law_1269) ?_
  refine PW.sld hr hb (by unfold inR; omega) (by omega) (by omega) dL_law_1270 ?_
  refine PW.callVg (hq2) cv_X12_stories lk_L_147 hR.2.1.1 (eL dL_law_1271) rfl rfl rfl (okC_mk rfl (Nat.le_of_ble_eq_true rfl) (Nat.le_of_ble_eq_true rfl) (Nat.le_of_ble_eq_true rfl) lawC lawS) (fun r S' τ1271 hq => ?_)
  obtain ⟨hS, rfl, hRel⟩ := hq
  have hS3 := hS.symm
  subst hS3
  refine PW.icmpS 1388 (eL dL_law_1274) (by decide) ?_
  exact hK _ hRel
set_option maxRecDepth 20000 in
theorem law_31 {G : GT} {S : Shp} {σ : Sto} {b L h m : Nat} {xs : Nat → Int32} {i R : Int} (hr : ra G 1000021 = b) (hb : b < gB G) (hL : L ≤ 3584) (h0 : 0 ≤ i) (h1 : i + 7 ≤ L) (hR : Rel S σ h m R) (hRb : 0 ≤ R ∧ R < 2147483000) (hK : ∀ μ, Rel S μ h m (R + 1) → PW (xL b L (gB G) xs) G S μ 508 397468 1388 [(0, .ref 1000021), (1, .ref h), (2, .ref m), (3, .int (iI i))] []) : PW (xL b L (gB G) xs) G S σ 508 397468 1279 [(0, .ref 1000021), (1, .ref h), (2, .ref m), (3, .int (iI i))] [] := by
  refine PW.aload_n (eL dL_law_1279) rfl ?_
  refine PW.aload_n (eL dL_law_1280) rfl ?_
  refine PW.iload_n (eL dL_law_1281) rfl ?_
  refine PW.iconst (eL dL_law_1282) ?_
  refine PW.iadd (eL dL_law_1283) ?_
  refine PW.sld hr hb (by unfold inR; omega) (by omega) (by omega) dL_law_1284 ?_
  refine PW.aload_n (eL dL_law_1285) rfl ?_
  refine PW.iload_n (eL dL_law_1286) rfl ?_
  refine PW.iconst (eL dL_law_1287) ?_
  refine PW.iadd (eL dL_law_1288) ?_
  refine PW.sld hr hb (by unfold inR; omega) (by omega) (by omega) dL_law_1289 ?_
  refine PW.aload_n (eL dL_law_1290) rfl ?_
  refine PW.iload_n (eL dL_law_1291) rfl ?_
  refine PW.iconst (eL dL_law_1292) ?_
  refine PW.iadd (eL dL_law_1293) ?_
  refine PW.sld hr hb (by unfold inR; omega) (by omega) (by omega) dL_law_1294 ?_
  refine PW.callVg (pr_story hR hRb (sc_R _ _) (sc_R _ _) (sc_R _ _)) cv_X11_story lk_L_148 hR.1.1 (eL dL_law_1295) rfl rfl rfl (okC_mk rfl (Nat.le_of_ble_eq_true rfl) (Nat.le_of_ble_eq_true rfl) (Nat.le_of_ble_eq_true rfl) lawC lawS) (fun r S' τ1295 hq => ?_)
  obtain ⟨hS, v, rfl, hq2⟩ := hq
  have hS2 := hS.symm
  subst hS2
  refine PW.aload_n (eL dL_law_1298) rfl ?_
  refine PW.aload_n (eL dL_law_1299) rfl ?_
  refine PW.iload_n (eL dL_law_1300) rfl ?_
  refine PW.iconst (eL dL_law_1301) ?_
  refine PW.iadd (eL dL_law_1302) ?_
  refine PW.sld hr hb (by unfold inR; omega) (by omega) (by omega) dL_law_1303 ?_
  refine PW.aload_n (eL dL_law_1304) rfl ?_
  refine PW.iload_n (eL dL_law_1305) rfl ?_
  refine PW.iconst (eL dL_law_1306) ?_
  refine PW.iadd (eL dL_law_1307) ?_
  refine PW.sld hr hb (by unfold inR; omega) (by omega) (by omega) dL_law_1308 ?_
  refine PW.aload_n (eL dL_law_1309) rfl ?_
  refine PW.iload_n (eL dL_law_1310) rfl ?_
  refine PW.iconst (eL dL_law_1311) ?_
  refine PW.iadd (eL dL_law_1312) ?_
  refine PW.sld hr hb (by unfold inR; omega) (by omega) (by omega) dL_law_1313 ?_
  refine PW.callVg (hq2) cv_X12_story lk_L_151 hR.2.1.1 (eL dL_law_1314) rfl rfl rfl (okC_mk rfl (Nat.le_of_ble_eq_true rfl) (Nat.le_of_ble_eq_true rfl) (Nat.le_of_ble_eq_true rfl) lawC lawS) (fun r S' τ1314 hq => ?_)
  obtain ⟨hS, rfl, hRel⟩ := hq
  have hS3 := hS.symm
  subst hS3
  refine PW.icmpS 1388 (eL dL_law_1317) (by decide) ?_
  exact hK _ hRel
set_option maxRecDepth 20000 in
theorem law_32 {G : GT} {S : Shp} {σ : Sto} {b L h m : Nat} {xs : Nat → Int32} {i R : Int} (hr : ra G 1000021 = b) (hb : b < gB G) (hL : L ≤ 3584) (h0 : 0 ≤ i) (h1 : i + 7 ≤ L) (hR : Rel S σ h m R) (hRb : 0 ≤ R ∧ R < 2147483000) (hK : ∀ μ, Rel S μ h m (R + 1) → PW (xL b L (gB G) xs) G S μ 508 397468 1388 [(0, .ref 1000021), (1, .ref h), (2, .ref m), (3, .int (iI i))] []) : PW (xL b L (gB G) xs) G S σ 508 397468 1322 [(0, .ref 1000021), (1, .ref h), (2, .ref m), (3, .int (iI i))] [] := by
  refine PW.aload_n (eL dL_law_1322) rfl ?_
  refine PW.aload_n (eL dL_law_1323) rfl ?_
  refine PW.iload_n (eL dL_law_1324) rfl ?_
  refine PW.iconst (eL dL_law_1325) ?_
  refine PW.iadd (eL dL_law_1326) ?_
  refine PW.sld hr hb (by unfold inR; omega) (by omega) (by omega) dL_law_1327 ?_
  refine PW.aload_n (eL dL_law_1328) rfl ?_
  refine PW.iload_n (eL dL_law_1329) rfl ?_
  refine PW.iconst (eL dL_law_1330) ?_
  refine PW.iadd (eL dL_law_1331) ?_
  refine PW.sld hr hb (by unfold inR; omega) (by omega) (by omega) dL_law_1332 ?_
  refine PW.callVg (pr_next hR hRb (sc_R _ _) (sc_R _ _)) cv_X11_next lk_L_152 hR.1.1 (eL dL_law_1333) rfl rfl rfl (okC_mk rfl (Nat.le_of_ble_eq_true rfl) (Nat.le_of_ble_eq_true rfl) (Nat.le_of_ble_eq_true rfl) lawC lawS) (fun r S' τ1333 hq => ?_)
  obtain ⟨hS, v, rfl, hq2⟩ := hq
  have hS2 := hS.symm
  subst hS2
  refine PW.aload_n (eL dL_law_1336) rfl ?_
  refine PW.aload_n (eL dL_law_1337) rfl ?_
  refine PW.iload_n (eL dL_law_1338) rfl ?_
  refine PW.iconst (eL dL_law_1339) ?_
  refine PW.iadd (eL dL_law_1340) ?_
  refine PW.sld hr hb (by unfold inR; omega) (by omega) (by omega) dL_law_1341 ?_
  refine PW.aload_n (eL dL_law_1342) rfl ?_
  refine PW.iload_n (eL dL_law_1343) rfl ?_
  refine PW.iconst (eL dL_law_1344) ?_
  refine PW.iadd (eL dL_law_1345) ?_
  refine PW.sld hr hb (by unfold inR; omega) (by omega) (by omega) dL_law_1346 ?_
  refine PW.callVg (hq2) cv_X12_next lk_L_155 hR.2.1.1 (eL dL_law_1347) rfl rfl rfl (okC_mk rfl (Nat.le_of_ble_eq_true rfl) (Nat.le_of_ble_eq_true rfl) (Nat.le_of_ble_eq_true rfl) lawC lawS) (fun r S' τ1347 hq => ?_)
  obtain ⟨hS, rfl, hRel⟩ := hq
  have hS3 := hS.symm
  subst hS3
  refine PW.icmpS 1388 (eL dL_law_1350) (by decide) ?_
  exact hK _ hRel
set_option maxRecDepth 20000 in
theorem law_33 {G : GT} {S : Shp} {σ : Sto} {b L h m : Nat} {xs : Nat → Int32} {i R : Int} (hr : ra G 1000021 = b) (hb : b < gB G) (hL : L ≤ 3584) (h0 : 0 ≤ i) (h1 : i + 7 ≤ L) (hR : Rel S σ h m R) (hRb : 0 ≤ R ∧ R < 2147483000) (hK : ∀ μ, Rel S μ h m (R + 1) → PW (xL b L (gB G) xs) G S μ 508 397468 1388 [(0, .ref 1000021), (1, .ref h), (2, .ref m), (3, .int (iI i))] []) : PW (xL b L (gB G) xs) G S σ 508 397468 1355 [(0, .ref 1000021), (1, .ref h), (2, .ref m), (3, .int (iI i))] [] := by
  refine PW.aload_n (eL dL_law_1355) rfl ?_
  refine PW.aload_n (eL dL_law_1356) rfl ?_
  refine PW.iload_n (eL dL_law_1357) rfl ?_
  refine PW.iconst (eL dL_law_1358) ?_
  refine PW.iadd (eL dL_law_1359) ?_
  refine PW.sld hr hb (by unfold inR; omega) (by omega) (by omega) dL_law_1360 ?_
  refine PW.aload_n (eL dL_law_1361) rfl ?_
  refine PW.iload_n (eL dL_law_1362) rfl ?_
  refine PW.iconst (eL dL_law_1363) ?_
  refine PW.iadd (eL dL_law_1364) ?_
  refine PW.sld hr hb (by unfold inR; omega) (by omega) (by omega) dL_law_1365 ?_
  refine PW.callVg (pr_take hR hRb (sc_R _ _) (sc_R _ _)) cv_X11_take lk_L_156 hR.1.1 (eL dL_law_1366) rfl rfl rfl (okC_mk rfl (Nat.le_of_ble_eq_true rfl) (Nat.le_of_ble_eq_true rfl) (Nat.le_of_ble_eq_true rfl) lawC lawS) (fun r S' τ1366 hq => ?_)
  obtain ⟨hS, v, rfl, hq2⟩ := hq
  have hS2 := hS.symm
  subst hS2
  refine PW.aload_n (eL dL_law_1369) rfl ?_
  refine PW.aload_n (eL dL_law_1370) rfl ?_
  refine PW.iload_n (eL dL_law_1371) rfl ?_
  refine PW.iconst (eL dL_law_1372) ?_
  refine PW.iadd (eL dL_law_1373) ?_
  refine PW.sld hr hb (by unfold inR; omega) (by omega) (by omega) dL_law_1374 ?_
  refine PW.aload_n (eL dL_law_1375) rfl ?_
  refine PW.iload_n (eL dL_law_1376) rfl ?_
  refine PW.iconst (eL dL_law_1377) ?_
  refine PW.iadd (eL dL_law_1378) ?_
  refine PW.sld hr hb (by unfold inR; omega) (by omega) (by omega) dL_law_1379 ?_
  refine PW.callVg (hq2) cv_X12_take lk_L_159 hR.2.1.1 (eL dL_law_1380) rfl rfl rfl (okC_mk rfl (Nat.le_of_ble_eq_true rfl) (Nat.le_of_ble_eq_true rfl) (Nat.le_of_ble_eq_true rfl) lawC lawS) (fun r S' τ1380 hq => ?_)
  obtain ⟨hS, rfl, hRel⟩ := hq
  have hS3 := hS.symm
  subst hS3
  refine PW.icmpS 1388 (eL dL_law_1383) (by decide) ?_
  exact hK _ hRel

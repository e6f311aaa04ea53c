theorem ws_val : Cond.fieldLink RJ0 9 "java/lang/String" "value" "[B" ∈ gtbl := gt_8 (List.mem_of_getElem? (i := 137) (by decide +kernel)) (by decide +kernel)
theorem ws_cod : Cond.fieldLink RJ0 15 "java/lang/String" "coder" "B" ∈ gtbl := gt_8 (List.mem_of_getElem? (i := 138) (by decide +kernel)) (by decide +kernel)
theorem ws_com : Cond.fieldLink RJ0 38 "java/lang/String" "COMPACT_STRINGS" "Z" ∈ gtbl := gt_3 (List.mem_of_getElem? (i := 213) (by decide +kernel)) (by decide +kernel)
theorem ws_sio : Cond.fieldLink RJ0 1053 "jdk/internal/util/Preconditions" "SIOOBE_FORMATTER" "Ljava/util/function/BiFunction;" ∈ gtbl := gt_3 (List.mem_of_getElem? (i := 229) (by decide +kernel)) (by decide +kernel)
section PWS
variable {x : FX} {G : GT} {S : Shp} {σ : Sto} {k n pc : Nat} {l : LV} {st : List Value} {own : String} {idx : Nat}
/-- a text's place: its object stands at 1000004 + k0, its bytes at 1000012 + k0 -/
theorem PW.ldcX (k0 : Nat) (hk : k0 < 8) (hx : x.1.1.cls = (ownK k0).1) (hi : (ownK k0).2.1 = idx) (hd : decode x.1.2.1 pc = .ok (.ldc idx, 2)) (kk : PW x G S σ k n (pc + 2) l (.ref (1000004 + k0) :: st)) : PW x G S σ k n pc l st := by
  intro p e s m args below meth c H locs ls C hP hS hl
  have hE : Ext G s s.heap := C.2.2.2.2.2.2.2.2.1.2.1
  subst hi
  exact va_ldcS C.1 C.2.1 (hx ▸ C.2.2.2.1) (hE.2.2.1 k0 hk) hd (kk p e s m args below meth c H locs ls C hP hS hl)
theorem PW.getsC (hx : x.1.1.cls = RJ0) (hd : decode x.1.2.1 pc = .ok (.getstatic 38, 3)) (kk : PW x G S σ k n (pc + 3) l (.int (iI 1) :: st)) : PW x G S σ k n pc l st := by
  intro p e s m args below meth c H locs ls C hP hS hl
  have hE : Ext G s s.heap := C.2.2.2.2.2.2.2.2.1.2.1
  exact va_gets C.1 C.2.1 hE.2.2.2.1 hS (hx ▸ C.2.2.2.1) (C.2.2.2.2.1 _ ws_com) (fun _ h => h) hd (kk p e s m args below meth c H locs ls C hP hS hl)
theorem PW.getsF (hx : x.1.1.cls = RJ0) (hd : decode x.1.2.1 pc = .ok (.getstatic 1053, 3)) (k1 : PW x G S σ k n (pc + 3) l (.null :: st)) (k2 : PW x G S σ k n (pc + 3) l (.ref 1000020 :: st)) : PW x G S σ k n pc l st := by
  intro p e s m args below meth c H locs ls C hP hS hl
  have hE : Ext G s s.heap := C.2.2.2.2.2.2.2.2.1.2.1
  rcases hE.2.2.2.2 with h | h
  · exact va_gets C.1 C.2.1 h hS (hx ▸ C.2.2.2.1) (C.2.2.2.2.1 _ ws_sio) (fun _ h => h) hd (k1 p e s m args below meth c H locs ls C hP hS hl)
  · exact va_gets C.1 C.2.1 h hS (hx ▸ C.2.2.2.1) (C.2.2.2.2.1 _ ws_sio) (fun _ h => h) hd (k2 p e s m args below meth c H locs ls C hP hS hl)
theorem PW.getSV (k0 : Nat) (hk : k0 < 8) (hx : x.1.1.cls = RJ0) (hd : decode x.1.2.1 pc = .ok (.getfield 9, 3)) (kk : PW x G S σ k n (pc + 3) l (.ref (1000012 + k0) :: st)) : PW x G S σ k n pc l (.ref (1000004 + k0) :: st) := by
  intro p e s m args below meth c H locs ls C hP hS hl
  have hE : Ext G s s.heap := C.2.2.2.2.2.2.2.2.1.2.1
  exact vk_getf C.1 C.2.1 (hE.2.1.1 k0 hk).2.2.1 hS (hx ▸ C.2.2.2.1) (C.2.2.2.2.1 _ ws_val) (fun _ h => h) hd (kk p e s m args below meth c H locs ls C hP hS hl)
theorem PW.getSC (k0 : Nat) (hk : k0 < 8) (hx : x.1.1.cls = RJ0) (hd : decode x.1.2.1 pc = .ok (.getfield 15, 3)) (kk : PW x G S σ k n (pc + 3) l (.int (iI 0) :: st)) : PW x G S σ k n pc l (.ref (1000004 + k0) :: st) := by
  intro p e s m args below meth c H locs ls C hP hS hl
  have hE : Ext G s s.heap := C.2.2.2.2.2.2.2.2.1.2.1
  exact vk_getf C.1 C.2.1 (hE.2.1.1 k0 hk).2.1 hS (hx ▸ C.2.2.2.1) (C.2.2.2.2.1 _ ws_cod) (fun _ h => h) hd (kk p e s m args below meth c H locs ls C hP hS hl)
def lenF (k0 : Nat) : Int := ((lenK.getD k0 0 : Nat) : Int)
def chrF (k0 : Nat) (i : Int) : Int := ((bytK.getD k0 []).getD i.toNat 0).toInt
theorem PW.alenS (k0 : Nat) (hk : k0 < 8) (hd : decode x.1.2.1 pc = .ok (.arraylength, 1)) (kk : PW x G S σ k n (pc + 1) l (.int (iI (lenF k0)) :: st)) : PW x G S σ k n pc l (.ref (1000012 + k0) :: st) := by
  intro p e s m args below meth c H locs ls C hP hS hl
  have hE : Ext G s s.heap := C.2.2.2.2.2.2.2.2.1.2.1
  obtain ⟨cell, q1, q2, q3, q4, q5, q6, q7⟩ := (hE.2.1.1 k0 hk).2.2.2.kept hS.2.1
  exact W.alen (n := iI (lenF k0)) C.1 C.2.1 (a := ra G (1000012 + k0)) q1 q2 q5 rfl rfl hd (kk p e s m args below meth c H locs ls C hP hS hl)
theorem PW.baloadS (k0 : Nat) {i : Int} (hk : k0 < 8) (hi : inR i) (h0 : 0 ≤ i) (h1 : i < lenF k0) (hd : decode x.1.2.1 pc = .ok (.baload, 1)) (kk : PW x G S σ k n (pc + 1) l (.int (iI (chrF k0 i)) :: st)) : PW x G S σ k n pc l (.int (iI i) :: .ref (1000012 + k0) :: st) := by
  intro p e s m args below meth c H locs ls C hP hS hl
  have hE : Ext G s s.heap := C.2.2.2.2.2.2.2.2.1.2.1
  obtain ⟨cell, q1, q2, q3, q4, q5, q6, q7⟩ := (hE.2.1.1 k0 hk).2.2.2.kept hS.2.1
  have hix := iI_ix hi h0
  unfold lenF at h1
  refine W.bald (v := .int (iI (chrF k0 i))) C.1 C.2.1 (a := ra G (1000012 + k0)) q1 q2 q3 (j := iI i) ?_ ?_ rfl rfl hd (kk p e s m args below meth c H locs ls C hP hS hl)
  · intro h
    rcases h with h | h
    · exact nn_z0 hi h0 h
    · rw [hix] at h
      omega
  · rw [hix, q6 _ (by omega)]
    rw [show iI (chrF k0 i) = (bytK.getD k0 []).getD i.toNat 0 from iI_of _]
theorem PW.i2cI {a : Int} (ha : 0 ≤ a ∧ a < 65536) (hd : decode x.1.2.1 pc = .ok (.i2c, 1)) (kk : PW x G S σ k n (pc + 1) l (.int (iI a) :: st)) : PW x G S σ k n pc l (.int (iI a) :: st) := by
  refine PW.i2c ?_ hd kk
  apply Int32.toInt_inj.mp
  have e : (iI a).toUInt32 = UInt32.ofNat a.toNat := by
    apply UInt32.toBitVec_inj.mp
    show BitVec.ofInt 32 a = BitVec.ofNat 32 a.toNat
    rw [show a = ((a.toNat : Nat) : Int) by omega]
    rfl
  rw [e]
  have e2 : UInt32.ofNat a.toNat % 65536 = UInt32.ofNat a.toNat := by
    apply UInt32.toNat_inj.mp
    rw [UInt32.toNat_mod, UInt32.toNat_ofNat_of_lt' (by show a.toNat < 4294967296; omega)]
    show a.toNat % 65536 = a.toNat
    omega
  rw [e2, ← e]
  rfl
theorem PW.callVX {y : MY} {d mc ms np : Nat} {as : List Value} {Q : Option Value → Shp → Sto → Prop} {stk : List Value} (k0 : Nat) (hk : k0 < 8)
    (hM : PMet G y d mc ms (.ref (1000004 + k0) :: as) S σ Q) (hc : CalV y np) (hlk : Lnk own idx y) (hd : decode x.1.2.1 pc = .ok (.invokevirtual idx, 3)) (hx : x.1.1.cls = own) (hcl : y.1.cls = "java/lang/String") (hstk : stk = as.reverse ++ .ref (1000004 + k0) :: st) (hok : okC x y d k n mc ms st np as = true)
    (kk : ∀ (r : Option Value) (S' : Shp) (σ' : Sto), Q r S' σ' → PW x G S' σ' (k + mc) (n + ms) (pc + 3) l (r.toList ++ st)) : PW x G S σ k n pc l stk := by
  obtain ⟨hnp, hcat, hR, hf⟩ := okC_spec hok
  intro p e s m args below meth c H locs ls C hP hS hl
  have hE : Ext G s s.heap := C.2.2.2.2.2.2.2.2.1.2.1
  subst hstk
  subst hx
  have hts : ∀ w ∈ gtbl, w.before args s = true := C.2.2.2.2.1
  have hrc := vk_recv hE.2.1 hk hS
  rw [← hcl] at hrc
  have hfix : CallFix p m c x.1.2.1 x.1.2.2.1 s args gtbl x.1.1.cls := ⟨C.1, C.2.1, C.2.2.1, C.2.2.2.1, hts⟩
  have hpre : PreV s H y.1.cls (ra G (1000004 + k0)) (fun v U => v = ((Value.ref (1000004 + k0) :: as).map (rv G)).toArray ∧ SF G U ∧ HW G S σ U.heap) (as.map (rv G)) :=
    ⟨Pc_blind, hrc, fun U hU hW => ⟨by rw [List.map_cons]; rfl, C.2.2.2.2.2.2.2.2.1.warm hS hU hW, by rw [hU]; exact hP⟩⟩
  have hst : (as.reverse ++ Value.ref (1000004 + k0) :: st).map (rv G) = (as.map (rv G)).reverse ++ .ref (ra G (1000004 + k0)) :: st.map (rv G) := by
    rw [List.map_append, List.map_cons, List.map_reverse]
    rfl
  rw [hst]
  rcases hlk with hlk | ⟨host, hlk⟩
  · have cw : CallW x.2.1 s args x.1.1.cls y.1.cls idx y.1 y.2.1 y.2.2.1 y.2.2.2 (Cond.code y.1 y.2.1 y.2.2.1 y.2.2.2 :: gtbl) (rmd d mc ms) mc ms np := ⟨callB_of np hts (gt_in hc.1.1) rfl rfl rfl (hts _ hc.1.2.1) (hts _ hlk) hc.1.2.2 hR, hts _ hc.2.1, hts _ hc.2.2⟩
    exact PW.back C hS hl (va_runV hfix hM cw hpre rfl (by rw [List.length_map]; exact hnp) hl.1 rfl (lv_room (sum_cat hcat)) hd hf) kk
  · have cw : va_CN x.2.1 s args x.1.1.cls idx y.1 host y.2.1 y.2.2.1 y.2.2.2 (Cond.code y.1 y.2.1 y.2.2.1 y.2.2.2 :: gtbl) (rmd d mc ms) mc ms np := va_cnB np hts (gt_in hc.1.1) rfl rfl rfl (C.2.2.2.2.2.2.2.2.1.2.2.1 _ hlk rfl) (hts _ hc.1.2.1) hc.1.2.2 hR
    exact PW.back C hS hl (va_runVN hfix hM ⟨cw, hts _ hc.2.1, hts _ hc.2.2⟩ hpre rfl (by rw [List.length_map]; exact hnp) hl.1 rfl (lv_room (sum_cat hcat)) hd hf) kk
theorem PW.callVXr {y : MY} {d np : Nat} {as : List Value} {stk : List Value} {r0 : Value} {σ1 : Sto} (k0 : Nat) (hk : k0 < 8)
    (hM : PMet G y d 0 0 (.ref (1000004 + k0) :: as) S σ (isP (some r0) S σ1)) (hc : CalV y np) (hlk : Lnk own idx y) (hd : decode x.1.2.1 pc = .ok (.invokevirtual idx, 3)) (hx : x.1.1.cls = own) (hcl : y.1.cls = "java/lang/String") (hstk : stk = as.reverse ++ .ref (1000004 + k0) :: st) (hok : okC x y d k n 0 0 st np as = true)
    (kk : PW x G S σ1 k n (pc + 3) l (r0 :: st)) : PW x G S σ k n pc l stk := by
  refine PW.callVX k0 hk hM hc hlk hd hx hcl hstk hok fun r S' σ' h => ?_
  obtain ⟨rfl, rfl, rfl⟩ := h
  exact kk
end PWS
theorem chr_b : ∀ k0 : Fin 8, ∀ i : Fin 5, (i.val : Int) < lenF k0.val → 97 ≤ chrF k0.val (i.val : Int) ∧ chrF k0.val (i.val : Int) ≤ 122 := by decide +kernel
theorem len_b : ∀ k0 : Fin 8, 1 ≤ lenF k0.val ∧ lenF k0.val ≤ 5 := by decide +kernel
theorem chrF_b {k0 : Nat} {i : Int} (hk : k0 < 8) (h0 : 0 ≤ i) (h1 : i < lenF k0) : 97 ≤ chrF k0 i ∧ chrF k0 i ≤ 122 := by
  have hl := (len_b ⟨k0, hk⟩).2
  dsimp only at hl
  have h := chr_b ⟨k0, hk⟩ ⟨i.toNat, by omega⟩ (by show ((i.toNat : Nat) : Int) < lenF k0; omega)
  dsimp only at h
  rw [show ((i.toNat : Nat) : Int) = i by omega] at h
  exact h
theorem lenF_b {k0 : Nat} (hk : k0 < 8) : 1 ≤ lenF k0 ∧ lenF k0 ≤ 5 := len_b ⟨k0, hk⟩
theorem and255 : ∀ v : Fin 256, bAnd (v.val : Int) 255 = (v.val : Int) := by decide +kernel
theorem shr0 : ∀ v : Fin 8, bShr (v.val : Int) 0 = (v.val : Int) := by decide +kernel
theorem c_J0_coder {G : GT} {S : Shp} {σ : Sto} {k0 : Nat} (hk : k0 < 8) : PMet G mJ0_coder_7d493 0 0 0 [.ref (1000004 + k0)] S σ (isP (some (.int (iI 0))) S σ) := by
  refine PMet.of [(0, .ref (1000004 + k0))] (by decide +kernel) rfl (Nat.le_of_ble_eq_true rfl) ?_
  refine PW.getsC rfl dJ0_coder_7d493_0 ?_
  refine PW.if_eq 13 dJ0_coder_7d493_3 (by decide) (by first | assumption | (unfold inR; omega)) (fun h3 => ?_) (fun h3 => ?_)
  · exact absurd h3 (by decide)
  · refine PW.aload_n dJ0_coder_7d493_6 rfl ?_
    refine PW.getSC k0 hk rfl dJ0_coder_7d493_7 ?_
    refine PW.goto 14 dJ0_coder_7d493_10 (by decide) ?_
    exact PW.iret rfl rfl dJ0_coder_7d493_14 ⟨rfl, rfl, rfl⟩
theorem c_J0_isLatin1 {G : GT} {S : Shp} {σ : Sto} {k0 : Nat} (hk : k0 < 8) : PMet G mJ0_isLatin1_aae02 0 0 0 [.ref (1000004 + k0)] S σ (isP (some (.int (iI 1))) S σ) := by
  refine PMet.of [(0, .ref (1000004 + k0))] (by decide +kernel) rfl (Nat.le_of_ble_eq_true rfl) ?_
  refine PW.getsC rfl dJ0_isLatin1_aae02_0 ?_
  refine PW.if_eq 17 dJ0_isLatin1_aae02_3 (by decide) (by first | assumption | (unfold inR; omega)) (fun h3 => ?_) (fun h3 => ?_)
  · exact absurd h3 (by decide)
  · refine PW.aload_n dJ0_isLatin1_aae02_6 rfl ?_
    refine PW.getSC k0 hk rfl dJ0_isLatin1_aae02_7 ?_
    refine PW.if_ne 17 dJ0_isLatin1_aae02_10 (by decide) (by first | assumption | (unfold inR; omega)) (fun h10 => ?_) (fun h10 => ?_)
    · exact absurd rfl h10
    · refine PW.iconst dJ0_isLatin1_aae02_13 ?_
      refine PW.goto 18 dJ0_isLatin1_aae02_14 (by decide) ?_
      exact PW.iret rfl rfl dJ0_isLatin1_aae02_18 ⟨rfl, rfl, rfl⟩
theorem c_J0_length {G : GT} {S : Shp} {σ : Sto} {k0 : Nat} (hk : k0 < 8) : PMet G mJ0_length_8abf5 1 0 0 [.ref (1000004 + k0)] S σ (isP (some (.int (iI (lenF k0)))) S σ) := by
  have hb := lenF_b hk
  have hs := shr0 ⟨(lenF k0).toNat, by omega⟩
  dsimp only at hs
  rw [show (((lenF k0).toNat : Nat) : Int) = lenF k0 by omega] at hs
  refine PMet.of [(0, .ref (1000004 + k0))] (by decide +kernel) rfl (Nat.le_of_ble_eq_true rfl) ?_
  refine PW.aload_n dJ0_length_8abf5_0 rfl ?_
  refine PW.getSV k0 hk rfl dJ0_length_8abf5_1 ?_
  refine PW.alenS k0 hk dJ0_length_8abf5_4 ?_
  refine PW.aload_n dJ0_length_8abf5_5 rfl ?_
  refine PW.callVXr k0 hk (c_J0_coder hk) cv_J0_coder_7d493 lk_J0_335 dJ0_length_8abf5_6 rfl rfl rfl rfl ?_
  refine PW.ishr dJ0_length_8abf5_9 ?_
  exact PW.iret rfl rfl dJ0_length_8abf5_10 ⟨ret_eq hs, rfl, rfl⟩
theorem c_J3_checkIndex_N {G : GT} {S : Shp} {σ : Sto} {i n : Int} (hi : 0 ≤ i ∧ i < n) (hn : n ≤ 1000) : PMet G mJ3_checkIndex_8e157 0 0 0 [.int (iI i), .int (iI n), .null] S σ (isP (some (.int (iI i))) S σ) := by
  refine PMet.of [(0, .int (iI (i))), (1, .int (iI (n))), (2, .null)] (by decide +kernel) rfl (Nat.le_of_ble_eq_true rfl) ?_
  refine PW.iload_n dJ3_checkIndex_8e157_0 rfl ?_
  refine PW.if_lt 9 dJ3_checkIndex_8e157_1 (by decide) (by first | assumption | (unfold inR; omega)) (fun h1 => ?_) (fun h1 => ?_)
  · exfalso; omega
  · refine PW.iload_n dJ3_checkIndex_8e157_4 rfl ?_
    refine PW.iload_n dJ3_checkIndex_8e157_5 rfl ?_
    refine PW.icmp_lt 16 dJ3_checkIndex_8e157_6 (by decide) (by first | assumption | (unfold inR; omega)) (by first | assumption | (unfold inR; omega)) (fun h6 => ?_) (fun h6 => ?_)
    · refine PW.iload_n dJ3_checkIndex_8e157_16 rfl ?_
      exact PW.iret rfl rfl dJ3_checkIndex_8e157_17 ⟨rfl, rfl, rfl⟩
    · exfalso; omega
theorem c_J3_checkIndex_R {G : GT} {S : Shp} {σ : Sto} {i n : Int} (hi : 0 ≤ i ∧ i < n) (hn : n ≤ 1000) : PMet G mJ3_checkIndex_8e157 0 0 0 [.int (iI i), .int (iI n), .ref 1000020] S σ (isP (some (.int (iI i))) S σ) := by
  refine PMet.of [(0, .int (iI (i))), (1, .int (iI (n))), (2, .ref 1000020)] (by decide +kernel) rfl (Nat.le_of_ble_eq_true rfl) ?_
  refine PW.iload_n dJ3_checkIndex_8e157_0 rfl ?_
  refine PW.if_lt 9 dJ3_checkIndex_8e157_1 (by decide) (by first | assumption | (unfold inR; omega)) (fun h1 => ?_) (fun h1 => ?_)
  · exfalso; omega
  · refine PW.iload_n dJ3_checkIndex_8e157_4 rfl ?_
    refine PW.iload_n dJ3_checkIndex_8e157_5 rfl ?_
    refine PW.icmp_lt 16 dJ3_checkIndex_8e157_6 (by decide) (by first | assumption | (unfold inR; omega)) (by first | assumption | (unfold inR; omega)) (fun h6 => ?_) (fun h6 => ?_)
    · refine PW.iload_n dJ3_checkIndex_8e157_16 rfl ?_
      exact PW.iret rfl rfl dJ3_checkIndex_8e157_17 ⟨rfl, rfl, rfl⟩
    · exfalso; omega
theorem c_J0_checkIndex {G : GT} {S : Shp} {σ : Sto} {i n : Int} (hi : 0 ≤ i ∧ i < n) (hn : n ≤ 1000) : PMet G mJ0_checkIndex_df160 1 0 0 [.int (iI i), .int (iI n)] S σ (isP none S σ) := by
  refine PMet.of [(0, .int (iI (i))), (1, .int (iI (n)))] (by decide +kernel) rfl (Nat.le_of_ble_eq_true rfl) ?_
  refine PW.iload_n dJ0_checkIndex_df160_0 rfl ?_
  refine PW.iload_n dJ0_checkIndex_df160_1 rfl ?_
  refine PW.getsF rfl dJ0_checkIndex_df160_2 ?_ ?_
  · refine PW.callSr (c_J3_checkIndex_N hi hn) cs_J3_checkIndex_8e157 lk_J0_1059 dJ0_checkIndex_df160_5 rfl rfl rfl ?_
    refine PW.pop rfl dJ0_checkIndex_df160_8 ?_
    exact PW.vret rfl dJ0_checkIndex_df160_9 ⟨rfl, rfl, rfl⟩
  · refine PW.callSr (c_J3_checkIndex_R hi hn) cs_J3_checkIndex_8e157 lk_J0_1059 dJ0_checkIndex_df160_5 rfl rfl rfl ?_
    refine PW.pop rfl dJ0_checkIndex_df160_8 ?_
    exact PW.vret rfl dJ0_checkIndex_df160_9 ⟨rfl, rfl, rfl⟩
theorem chr_nar0 : ∀ k0 : Fin 8, ∀ i : Fin 5, (i.val : Int) < lenF k0.val → narrow .char (.int (iI (chrF k0.val (i.val : Int)))) = .int (iI (chrF k0.val (i.val : Int))) := by decide +kernel
theorem chr_nar {k0 : Nat} {i : Int} (hk : k0 < 8) (h0 : 0 ≤ i) (h1 : i < lenF k0) : narrow .char (.int (iI (chrF k0 i))) = .int (iI (chrF k0 i)) := by
  have hl := (len_b ⟨k0, hk⟩).2
  dsimp only at hl
  have h := chr_nar0 ⟨k0, hk⟩ ⟨i.toNat, by omega⟩ (by show ((i.toNat : Nat) : Int) < lenF k0; omega)
  dsimp only at h
  rw [show ((i.toNat : Nat) : Int) = i by omega] at h
  exact h
theorem c_J1_charAt {G : GT} {S : Shp} {σ : Sto} {k0 : Nat} {i : Int} (hk : k0 < 8) (hi : 0 ≤ i ∧ i < lenF k0) : PMet G mJ1_charAt_3b067 2 0 0 [.ref (1000012 + k0), .int (iI i)] S σ (isP (some (.int (iI (chrF k0 i)))) S σ) := by
  have hb := lenF_b hk
  have hc := chrF_b hk hi.1 hi.2
  have ha := and255 ⟨(chrF k0 i).toNat, by omega⟩
  dsimp only at ha
  rw [show (((chrF k0 i).toNat : Nat) : Int) = chrF k0 i by omega] at ha
  refine PMet.of [(0, .ref (1000012 + k0)), (1, .int (iI (i)))] (by decide +kernel) rfl (Nat.le_of_ble_eq_true rfl) ?_
  refine PW.iload_n dJ1_charAt_3b067_0 rfl ?_
  refine PW.aload_n dJ1_charAt_3b067_1 rfl ?_
  refine PW.alenS k0 hk dJ1_charAt_3b067_2 ?_
  refine PW.callSv (c_J0_checkIndex (by omega) (by omega)) cs_J0_checkIndex_df160 lk_J1_9 dJ1_charAt_3b067_3 rfl rfl rfl ?_
  refine PW.aload_n dJ1_charAt_3b067_6 rfl ?_
  refine PW.iload_n dJ1_charAt_3b067_7 rfl ?_
  refine PW.baloadS k0 hk (by unfold inR; omega) (by omega) (by omega) dJ1_charAt_3b067_8 ?_
  refine PW.sipush (by decide) dJ1_charAt_3b067_9 ?_
  refine PW.iand dJ1_charAt_3b067_12 ?_
  refine PW.top (chrF k0 i) ha ?_
  refine PW.i2cI (by omega) dJ1_charAt_3b067_13 ?_
  refine PW.iret rfl ?_ dJ1_charAt_3b067_14 ⟨rfl, rfl, rfl⟩
  rcases chr_nar hk hi.1 hi.2 with h
  exact h
theorem c_J0_charAt {G : GT} {S : Shp} {σ : Sto} {k0 : Nat} {i : Int} (hk : k0 < 8) (hi : 0 ≤ i ∧ i < lenF k0) : PMet G mJ0_charAt_5068e 3 0 0 [.ref (1000004 + k0), .int (iI i)] S σ (isP (some (.int (iI (chrF k0 i)))) S σ) := by
  refine PMet.of [(0, .ref (1000004 + k0)), (1, .int (iI (i)))] (by decide +kernel) rfl (Nat.le_of_ble_eq_true rfl) ?_
  refine PW.aload_n dJ0_charAt_5068e_0 rfl ?_
  refine PW.callVXr k0 hk (c_J0_isLatin1 hk) cv_J0_isLatin1_aae02 lk_J0_492 dJ0_charAt_5068e_1 rfl rfl rfl rfl ?_
  refine PW.if_eq 16 dJ0_charAt_5068e_4 (by decide) (by first | assumption | (unfold inR; omega)) (fun h4 => ?_) (fun h4 => ?_)
  · exact absurd h4 (by decide)
  · refine PW.aload_n dJ0_charAt_5068e_7 rfl ?_
    refine PW.getSV k0 hk rfl dJ0_charAt_5068e_8 ?_
    refine PW.iload_n dJ0_charAt_5068e_11 rfl ?_
    refine PW.callSr (c_J1_charAt hk hi) cs_J1_charAt_3b067 lk_J0_495 dJ0_charAt_5068e_12 rfl rfl rfl ?_
    exact PW.iret rfl (chr_nar hk hi.1 hi.2) dJ0_charAt_5068e_15 ⟨rfl, rfl, rfl⟩

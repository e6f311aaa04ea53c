theorem arr_prim {s : State} {args : Array Value} {ty : FieldType} (h : (Cond.arrayClass ty).before args s = true) : ∃ cA : ClassId, ArrOfT s cA ty ∧ s.vm.findClass ("[" ++ ty.toString) = some cA := by
  obtain ⟨cA, kA, comp, h1, h2, h3⟩ := Cond.arrayClass_spec h
  exact ⟨cA, fun n z => ⟨fun k h => (by cases h), kA, h2, comp, h3⟩, h1⟩
theorem arr_obj {s : State} {args : Array Value} {C : String} (h : (Cond.arrayOver (.object C)).before args s = true) : ∃ cA : ClassId, ArrOfT s cA (.object C) ∧ va_RA s cA (.object C) := by
  obtain ⟨comp, cA, kA, h1, h2, h3, h4, h5⟩ := Cond.arrayOver_spec h
  exact ⟨cA, fun n z => ⟨fun k h => (by cases h), kA, h3, comp, h4⟩, kA, comp, h3, h4, h1, h5⟩
theorem tab_el : ∀ k, k < 4 → ∀ j, j < (tabK k).length → Cond.eq (.elem (.static "HillLand$Kinds" (nmT k) "[I") (.int (Int32.ofNat j))) (.int ((tabK k).getD j 0)) ∈ flatC (Jvm.Cond.and given_1 narrow_1) := by decide +kernel
theorem tab_ar : ∀ k, k < 4 → Cond.arrayOf (.static "HillLand$Kinds" (nmT k) "[I") .int ∈ flatC (Jvm.Cond.and given_1 narrow_1) := by decide +kernel
theorem tab_le : ∀ k, k < 4 → Cond.eq (.length (.static "HillLand$Kinds" (nmT k) "[I")) (.int (Int32.ofNat (tabK k).length)) ∈ flatC (Jvm.Cond.and given_1 narrow_1) := by decide +kernel
theorem kin_l : ∀ k, k < 4 → Cond.laysStatic "HillLand$Kinds" (nmT k) "[I" ∈ lw_tbl := by
  intro k hk
  rcases (show k = 0 ∨ k = 1 ∨ k = 2 ∨ k = 3 by omega) with rfl | rfl | rfl | rfl
  · exact lwm_2 (List.mem_of_getElem? (i := 98) (by decide +kernel))
  · exact lwm_3 (List.mem_of_getElem? (i := 186) (by decide +kernel))
  · exact lwm_2 (List.mem_of_getElem? (i := 103) (by decide +kernel))
  · exact lwm_2 (List.mem_of_getElem? (i := 105) (by decide +kernel))
theorem start_G {p : Program} {e : Env} {s : State} {m : MethodId} {below : List Frame} {meth : Method} {c : Code} {b L : Nat} {xs : Nat → Int32} (G : GT) (hg : s.heap.size = gB G) (hra : ra G 1000021 = b) (C0 : lw_At p s m meth c b L xs) (hSF : SF G s) : W p G.1 e room_1 s m #[Value.ref b] below meth c s.heap [] 0 0 (lw_Z below #[Value.ref b] s) (entryFrame m ([Value.ref b] : List Value).toArray 20) := by
  obtain ⟨hx, hb, hr, hml, hown, hts, hX, hbl, hlocks, hgv⟩ := id C0
  have hgt : ∀ w ∈ gtbl, w.before #[Value.ref b] s = true := fun w hw => hts w (List.mem_filter.mp hw).1
  have CX : Cx (xL b (gB G)) G p s m #[Value.ref b] meth c := ⟨hx, hb, hml, hown, hgt, hr, hlocks, fun h => absurd (show yL_law.name = "<init>" from h) (by decide), hSF, by rw [hg]; exact Nat.le_refl _⟩
  have e0 : rl G [(0, .ref 1000021)] = [(0, Value.ref b)] := by
    show [(0, Value.ref (ra G 1000021))] = _
    rw [hra]
  have hl2 := lv_entry [Value.ref b] (n := 20) (Nat.le_of_ble_eq_true rfl)
  rw [lg_entry_eq]
  have k := law_run (G := G) (S := (0, fun _ => sA 0 0)) (σ := fun _ => zF) (b := b) rfl p e s m #[Value.ref b] below meth c s.heap [] _ CX ⟨(fun k q h => by simp [wsl] at h), hg, Nat.zero_le _⟩ va_S.rf (by rw [e0]; exact hl2)
  intro T hT X
  obtain ⟨t, a1, a2⟩ := k T hT X
  exact ⟨t, a1, a2 ⟨rfl, hg⟩⟩
theorem i32_rt (v : Int32) : Int32.ofBitVec (BitVec.ofNat 32 v.toBitVec.toNat) = v := by
  rw [BitVec.ofNat_toNat, BitVec.setWidth_eq]
  rfl
set_option maxRecDepth 20000 in
theorem whole_start {p : Program} {e : Env} {s : State} {m : MethodId} {below : List Frame} {meth : Method} {c : Code} (l : Launch) (hflags : l.flags = flags0) {b L : Nat} {xs : Nat → Int32} (hL : L ≤ 260) (C0 : lw_At p s m meth c b L xs) : W p l e room_1 s m #[Value.ref b] below meth c s.heap [] 0 0 (lw_Z below #[Value.ref b] s) (entryFrame m ([Value.ref b] : List Value).toArray 20) := by
  obtain ⟨hx, hb, hr, hml, hown, hts, hX, hbl, hlocks, hgv⟩ := id C0
  have hs := flat_of_before _ hgv
  have hgt : ∀ w ∈ gtbl, w.before #[Value.ref b] s = true := fun w hw => hts w (List.mem_filter.mp hw).1
  have hA : ∀ a : Nat, a < s.heap.size → ¬ (fun q : Nat => s.heap.size ≤ q) a := fun a h => Nat.not_le.mpr h
  have hT0 : ∀ k : Nat, ∃ t : Nat, k < 4 → va_Z "HillLand$Kinds" (nmT k) "[I" (.ref t) (fun q : Nat => s.heap.size ≤ q) s s.heap ∧ va_T .int t (tabK k).length (fun j => .int ((tabK k).getD j 0)) (fun q : Nat => s.heap.size ≤ q) s s.heap := by
    intro k
    by_cases hk : k < 4
    · obtain ⟨t, h1, h2⟩ := va_Tof (f := fun j => .int ((tabK k).getD j 0)) (N := (tabK k).length) (by rcases (show k = 0 ∨ k = 1 ∨ k = 2 ∨ k = 3 by omega) with rfl | rfl | rfl | rfl <;> decide) (hs _ (tab_ar k hk)) (va_eqt (hs _ (tab_le k hk))) (fun j hj => va_eqt (hs _ (tab_el k hk j hj))) hA
      exact ⟨t, fun _ => ⟨va_Zref (hts _ (kin_l k hk)) (hts _ (lwm_1 (List.mem_of_getElem? (i := 13) (by decide +kernel)))) h1 hA, h2⟩⟩
    · exact ⟨0, fun h => absurd h hk⟩
  obtain ⟨tq, hT⟩ := Classical.axiomOfChoice hT0
  have h12 : ∀ c : Nat, ∃ z : ClassId × (Nat → Nat), ∀ q, cls[c]? = some q → u_Kn s q.1 q.2.1 q.2.2 z.1 z.2 := by
    intro c
    match c with
    | 0 =>
      obtain ⟨cC, iS, h⟩ := u_known hgt iw_X0 (hgt _ ki_X0)
      exact ⟨(cC, iS), fun q hq => by cases hq; exact h⟩
    | 1 =>
      obtain ⟨cC, iS, h⟩ := u_known hgt iw_X1 (hgt _ ki_X1)
      exact ⟨(cC, iS), fun q hq => by cases hq; exact h⟩
    | 2 =>
      obtain ⟨cC, iS, h⟩ := u_known hgt iw_X2 (hgt _ ki_X2)
      exact ⟨(cC, iS), fun q hq => by cases hq; exact h⟩
    | 3 =>
      obtain ⟨cC, iS, h⟩ := u_known hgt iw_X3 (hgt _ ki_X3)
      exact ⟨(cC, iS), fun q hq => by cases hq; exact h⟩
    | 4 =>
      obtain ⟨cC, iS, h⟩ := u_known hgt iw_X4 (hgt _ ki_X4)
      exact ⟨(cC, iS), fun q hq => by cases hq; exact h⟩
    | 5 =>
      obtain ⟨cC, iS, h⟩ := u_known hgt iw_X6 (hgt _ ki_X6)
      exact ⟨(cC, iS), fun q hq => by cases hq; exact h⟩
    | 6 =>
      obtain ⟨cC, iS, h⟩ := u_known hgt iw_X7 (hgt _ ki_X7)
      exact ⟨(cC, iS), fun q hq => by cases hq; exact h⟩
    | 7 =>
      obtain ⟨cC, iS, h⟩ := u_known hgt iw_X8 (hgt _ ki_X8)
      exact ⟨(cC, iS), fun q hq => by cases hq; exact h⟩
    | 8 =>
      obtain ⟨cC, iS, h⟩ := u_known hgt iw_X9 (hgt _ ki_X9)
      exact ⟨(cC, iS), fun q hq => by cases hq; exact h⟩
    | 9 =>
      obtain ⟨cC, iS, h⟩ := u_known hgt iw_X10 (hgt _ ki_X10)
      exact ⟨(cC, iS), fun q hq => by cases hq; exact h⟩
    | 10 =>
      obtain ⟨cC, iS, h⟩ := u_known hgt iw_X11 (hgt _ ki_X11)
      exact ⟨(cC, iS), fun q hq => by cases hq; exact h⟩
    | c + 11 => exact ⟨(0, fun _ => 0), fun q hq => by simp [cls] at hq⟩
  obtain ⟨D, hD⟩ := Classical.axiomOfChoice h12
  obtain ⟨c0, a0, b0⟩ := arr_prim (ty := .int) (hgt _ ka_int)
  obtain ⟨c2, a2, b2⟩ := arr_prim (ty := .boolean) (hgt _ ka_boolean)
  obtain ⟨c3, a3, b3⟩ := arr_obj (C := "HillLand$Tale") (hts _ (lwm_1 (List.mem_of_getElem? (i := 40) (by decide +kernel))))
  obtain ⟨c5, a5, b5⟩ := arr_obj (C := "HillLand$Column") (hts _ (lwm_1 (List.mem_of_getElem? (i := 94) (by decide +kernel))))
  have key : ∀ G : GT, G = (l, (fun k => (D k).1, fun k => (D k).2), (fun k => if k = 0 then c0 else if k = 1 then c0 else if k = 2 then c2 else if k = 3 then c3 else if k = 4 then c3 else c5), s.heap.size, (fun j => if j < 4 then tq j else if j = 21 then b else if j = 22 then L else (xs (j - 23)).toBitVec.toNat)) → SF G s ∧ ra G 1000021 = b := by
    intro G hG
    have r0 : ∀ j, 1000000 ≤ j → ra G j = G.2.2.2.2 (j - 1000000) := fun j hj => by
      unfold ra
      rw [if_neg (by omega)]
    have gE : G.2.2.2.2 = (fun j => if j < 4 then tq j else if j = 21 then b else if j = 22 then L else (xs (j - 23)).toBitVec.toNat) := by rw [hG]
    have gA : AA G = (fun q : Nat => s.heap.size ≤ q) := by rw [hG]; rfl
    have rT : ∀ k, k < 4 → ra G (1000000 + k) = tq k := fun k hk => by
      rw [r0 _ (by omega), gE]
      dsimp only
      rw [if_pos (by omega)]
      exact congrArg tq (by omega)
    have r21 : ra G 1000021 = b := by
      rw [r0 _ (by omega), gE]
      rfl
    have eL : scL G = L := by
      unfold scL
      rw [gE]
      rfl
    have eX : ∀ j, scX G j = xs j := fun j => by
      unfold scX
      rw [gE]
      dsimp only
      rw [if_neg (by omega), if_neg (by omega), if_neg (by omega), show 23 + j - 23 = j by omega]
      exact i32_rt _
    refine ⟨⟨⟨fun c q hq => ?_, fun k q hq => ?_⟩, ⟨fun k hk => ?_, ?_, ?_⟩, ⟨fun w hw hn => ?_, va_AO.of (A := #[Value.ref b]) (hts (.arrayOver (.object "HillLand$Tale")) (lwm_1 (List.mem_of_getElem? (i := 40) (by decide +kernel)))), va_AO.of (A := #[Value.ref b]) (hts (.arrayOver (.object "HillLand$Tale")) (lwm_1 (List.mem_of_getElem? (i := 40) (by decide +kernel)))), va_AO.of (A := #[Value.ref b]) (hts (.arrayOver (.object "HillLand$Column")) (lwm_1 (List.mem_of_getElem? (i := 94) (by decide +kernel))))⟩⟩, r21⟩
    · rw [hG]
      exact hD c q hq
    · rw [hG] at hq
      match k, hq with
      | 0, hq =>
        have e := Option.some.inj (show some (c0, FieldType.int) = some q from hq)
        subst e
        exact ⟨a0, b0⟩
      | 1, hq =>
        have e := Option.some.inj (show some (c0, FieldType.int) = some q from hq)
        subst e
        exact ⟨a0, b0⟩
      | 2, hq =>
        have e := Option.some.inj (show some (c2, FieldType.boolean) = some q from hq)
        subst e
        exact ⟨a2, b2⟩
      | 3, hq =>
        have e := Option.some.inj (show some (c3, FieldType.object "HillLand$Tale") = some q from hq)
        subst e
        exact ⟨a3, b3⟩
      | 4, hq =>
        have e := Option.some.inj (show some (c3, FieldType.object "HillLand$Tale") = some q from hq)
        subst e
        exact ⟨a3, b3⟩
      | 5, hq =>
        have e := Option.some.inj (show some (c5, FieldType.object "HillLand$Column") = some q from hq)
        subst e
        exact ⟨a5, b5⟩
      | k + 6, hq => simp [tys] at hq
    · rw [rT k hk, gA]
      exact hT k hk
    · rw [eL]
      exact hL
    · rw [eL, gA, r21]
      obtain ⟨scr, x1, x2, x3, x4, x5⟩ := hX
      exact ⟨scr, x1, x2, x3, Nat.le_of_eq x4.symm, by rw [x4], fun j hj => by show scr.slots[j]? = some (Value.int (scX G j)); rw [eX j]; exact x5 j hj, Nat.not_le.mpr hbl⟩
    · exact va_Nw.of (by cases w <;> first | rfl | (simp [isNest] at hn; done)) (hts w hw)
  obtain ⟨k1, k2⟩ := key _ rfl
  exact start_G _ rfl k2 C0 k1

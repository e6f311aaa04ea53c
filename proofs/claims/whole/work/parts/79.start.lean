theorem arr_prim {s : State} {args : Array Value} {ty : FieldType} (h : (Cond.arrayClass ty).before args s = true) : ∃ cA : ClassId, ArrOfT s cA ty ∧ s.vm.findClass ("[" ++ ty.toString) = some cA := by
  obtain ⟨cA, kA, comp, h1, h2, h3⟩ := Cond.arrayClass_spec h
  exact ⟨cA, fun n z => ⟨fun k h => (by cases h), kA, h2, comp, h3⟩, h1⟩
theorem arr_obj {s : State} {args : Array Value} {C : String} (h : (Cond.arrayOver (.object C)).before args s = true) : ∃ cA : ClassId, ArrOfT s cA (.object C) ∧ va_RA s cA (.object C) := by
  obtain ⟨comp, cA, kA, h1, h2, h3, h4, h5⟩ := Cond.arrayOver_spec h
  exact ⟨cA, fun n z => ⟨fun k h => (by cases h), kA, h3, comp, h4⟩, kA, comp, h3, h4, h1, h5⟩
theorem tab_el : ∀ k, k < 4 → ∀ j, j < (tabK k).length → Cond.eq (.elem (.static "HillLand$Kinds" (nmT k) "[I") (.int (Int32.ofNat j))) (.int ((tabK k).getD j 0)) ∈ flatC (Jvm.Cond.and given_1 narrow_1) := by decide +kernel
theorem tab_ar : ∀ k, k < 4 → Cond.arrayOf (.static "HillLand$Kinds" (nmT k) "[I") .int ∈ flatC (Jvm.Cond.and given_1 narrow_1) := by decide +kernel
theorem tab_le : ∀ k, k < 4 → Cond.eq (.length (.static "HillLand$Kinds" (nmT k) "[I")) (.int (Int32.ofNat (tabK k).length)) ∈ flatC (Jvm.Cond.and given_1 narrow_1) := by decide +kernel
def tmS (i : Nat) : Term := .string (ownK i).1 (ownK i).2.1
theorem str_ex : ∀ i, i < 8 → Cond.exactly (tmS i) "java/lang/String" ∈ flatC (Jvm.Cond.and given_1 narrow_1) := by decide +kernel
theorem str_co : ∀ i, i < 8 → Cond.eq (.field (tmS i) "java/lang/String" "coder" "B") (.int 0) ∈ flatC (Jvm.Cond.and given_1 narrow_1) := by decide +kernel
theorem str_ar : ∀ i, i < 8 → Cond.arrayOf (.field (tmS i) "java/lang/String" "value" "[B") .byte ∈ flatC (Jvm.Cond.and given_1 narrow_1) := by decide +kernel
theorem str_le : ∀ i, i < 8 → Cond.eq (.length (.field (tmS i) "java/lang/String" "value" "[B")) (.int (Int32.ofNat (lenK.getD i 0))) ∈ flatC (Jvm.Cond.and given_1 narrow_1) := by decide +kernel
theorem str_el : ∀ i, i < 8 → ∀ j, j < lenK.getD i 0 → Cond.eq (.elem (.field (tmS i) "java/lang/String" "value" "[B") (.int (Int32.ofNat j))) (.int ((bytK.getD i []).getD j 0)) ∈ flatC (Jvm.Cond.and given_1 narrow_1) := by decide +kernel
theorem str_ne : ∀ i, i < 8 → ∀ j, j < 8 → i ≠ j → Cond.not (Cond.eq (tmS i) (tmS j)) ∈ flatC (Jvm.Cond.and given_1 narrow_1) ∨ Cond.not (Cond.eq (tmS j) (tmS i)) ∈ flatC (Jvm.Cond.and given_1 narrow_1) := by decide +kernel
theorem cs_eq : Cond.eq (.static "java/lang/String" "COMPACT_STRINGS" "Z") (.int 1) ∈ flatC (Jvm.Cond.and given_1 narrow_1) := by decide +kernel
theorem sf_is : Cond.isRef (.static "jdk/internal/util/Preconditions" "SIOOBE_FORMATTER" "Ljava/util/function/BiFunction;") ∈ flatC (Jvm.Cond.and given_1 narrow_1) := by decide +kernel
theorem kin_l : ∀ k, k < 4 → Cond.laysStatic "HillLand$Kinds" (nmT k) "[I" ∈ lw_tbl := by
  intro k hk
  rcases (show k = 0 ∨ k = 1 ∨ k = 2 ∨ k = 3 by omega) with rfl | rfl | rfl | rfl
  · exact lwm_2 (List.mem_of_getElem? (i := 103) (by decide +kernel))
  · exact lwm_4 (List.mem_of_getElem? (i := 138) (by decide +kernel))
  · exact lwm_2 (List.mem_of_getElem? (i := 108) (by decide +kernel))
  · exact lwm_2 (List.mem_of_getElem? (i := 110) (by decide +kernel))
theorem str_r : ∀ k, k < 8 → Cond.stringRef (ownK k).1 (ownK k).2.1 (ownK k).2.2 ∈ lw_tbl := by
  intro k hk
  rcases (show k = 0 ∨ k = 1 ∨ k = 2 ∨ k = 3 ∨ k = 4 ∨ k = 5 ∨ k = 6 ∨ k = 7 by omega) with rfl | rfl | rfl | rfl | rfl | rfl | rfl | rfl
  · exact lwm_3 (List.mem_of_getElem? (i := 195) (by decide +kernel))
  · exact lwm_3 (List.mem_of_getElem? (i := 196) (by decide +kernel))
  · exact lwm_3 (List.mem_of_getElem? (i := 197) (by decide +kernel))
  · exact lwm_3 (List.mem_of_getElem? (i := 198) (by decide +kernel))
  · exact lwm_3 (List.mem_of_getElem? (i := 199) (by decide +kernel))
  · exact lwm_3 (List.mem_of_getElem? (i := 200) (by decide +kernel))
  · exact lwm_4 (List.mem_of_getElem? (i := 30) (by decide +kernel))
  · exact lwm_4 (List.mem_of_getElem? (i := 31) (by decide +kernel))
theorem start_G {p : Program} {e : Env} {s : State} {m : MethodId} {below : List Frame} {meth : Method} {c : Code} {b L : Nat} {xs : Nat → Int32} (G : GT) (hL : L ≤ 3584) (hg : s.heap.size = gB G) (hra : ra G 1000021 = b) (C0 : lw_At p s m meth c b L xs) (hSF : SF G s) : W p G.1 e room_1 s m #[Value.ref b] below meth c s.heap [] 0 0 (lw_Z below #[Value.ref b] s) (entryFrame m ([Value.ref b] : List Value).toArray 4) := by
  obtain ⟨hx, hb, hr, hml, hown, hts, hX, hbl, hlocks, hgv⟩ := id C0
  have hgt : ∀ w ∈ gtbl, w.before #[Value.ref b] s = true := fun w hw => hts w (List.mem_filter.mp hw).1
  have CX : Cx (xL b L (gB G) xs) G p s m #[Value.ref b] meth c := ⟨hx, hb, hml, hown, hgt, hr, hlocks, fun h => absurd (show yL_law.name = "<init>" from h) (by decide), hSF, by rw [hg]; exact Nat.le_refl _⟩
  have e0 : rl G [(0, .ref 1000021)] = [(0, Value.ref b)] := by
    show [(0, Value.ref (ra G 1000021))] = _
    rw [hra]
  have hl2 := lv_entry [Value.ref b] (n := 4) (Nat.le_of_ble_eq_true rfl)
  rw [lg_entry_eq]
  have k := law_run (G := G) (S := (0, fun _ => sA 0 0)) (σ := fun _ => zF) (xs := xs) hra (by rw [← hg]; exact hbl) hL rfl p e s m #[Value.ref b] below meth c s.heap [] _ CX ⟨(fun k q h => by simp [wsl] at h), hg, Nat.zero_le _⟩ va_S.rf (by rw [e0]; exact hl2)
  intro T hT X
  obtain ⟨t, a1, a2⟩ := k T hT X
  exact ⟨t, a1, a2 ⟨hX, rfl, hg⟩⟩
set_option maxRecDepth 20000 in
theorem whole_start {p : Program} {e : Env} {s : State} {m : MethodId} {below : List Frame} {meth : Method} {c : Code} (l : Launch) (hflags : l.flags = flags0) {b L : Nat} {xs : Nat → Int32} (hL : L ≤ 3584) (C0 : lw_At p s m meth c b L xs) : W p l e room_1 s m #[Value.ref b] below meth c s.heap [] 0 0 (lw_Z below #[Value.ref b] s) (entryFrame m ([Value.ref b] : List Value).toArray 4) := by
  obtain ⟨hx, hb, hr, hml, hown, hts, hX, hbl, hlocks, hgv⟩ := id C0
  have hs := flat_of_before _ hgv
  have hgt : ∀ w ∈ gtbl, w.before #[Value.ref b] s = true := fun w hw => hts w (List.mem_filter.mp hw).1
  have hA : ∀ a : Nat, a < s.heap.size → ¬ (fun q : Nat => s.heap.size ≤ q) a := fun a h => Nat.not_le.mpr h
  have hT0 : ∀ k : Nat, ∃ t : Nat, k < 4 → va_Z "HillLand$Kinds" (nmT k) "[I" (.ref t) (fun q : Nat => s.heap.size ≤ q) s s.heap ∧ va_T .int t (tabK k).length (fun j => .int ((tabK k).getD j 0)) (fun q : Nat => s.heap.size ≤ q) s s.heap := by
    intro k
    by_cases hk : k < 4
    · obtain ⟨t, h1, h2⟩ := va_Tof (f := fun j => .int ((tabK k).getD j 0)) (N := (tabK k).length) (by rcases (show k = 0 ∨ k = 1 ∨ k = 2 ∨ k = 3 by omega) with rfl | rfl | rfl | rfl <;> decide) (hs _ (tab_ar k hk)) (va_eqt (hs _ (tab_le k hk))) (fun j hj => va_eqt (hs _ (tab_el k hk j hj))) hA
      exact ⟨t, fun _ => ⟨va_Zref (hts _ (kin_l k hk)) (hts _ (lwm_1 (List.mem_of_getElem? (i := 14) (by decide +kernel)))) h1 hA, h2⟩⟩
    · exact ⟨0, fun h => absurd h hk⟩
  obtain ⟨tq, hT⟩ := Classical.axiomOfChoice hT0
  obtain ⟨adK, adV, hV, hV2⟩ := vk_Sof (tm := tmS) (N := 8) (len := lenK) (byt := bytK) (by decide) (fun i hi => hs _ (str_ex i hi)) (fun i hi => hs _ (str_co i hi)) (fun i hi => hs _ (str_ar i hi)) (fun i hi => hs _ (str_le i hi)) (fun i hi j hj => hs _ (str_el i hi j hj)) (fun i j hi hj hn => (str_ne i hi j hj hn).imp (hs _) (hs _)) hA
  have hCS := va_Zof (v := .int 1) (hts _ (lwm_3 (List.mem_of_getElem? (i := 214) (by decide +kernel)))) (hts _ (lwm_1 (List.mem_of_getElem? (i := 16) (by decide +kernel)))) (va_eqt (hs _ cs_eq)) hA
  have hSF := va_Zqof (hts _ (lwm_3 (List.mem_of_getElem? (i := 230) (by decide +kernel)))) (hts _ (lwm_1 (List.mem_of_getElem? (i := 18) (by decide +kernel)))) (hs _ sf_is) hA
  obtain ⟨q20, hq20⟩ : ∃ q : Nat, va_Z "jdk/internal/util/Preconditions" "SIOOBE_FORMATTER" "Ljava/util/function/BiFunction;" .null (fun q : Nat => s.heap.size ≤ q) s s.heap ∨ va_Z "jdk/internal/util/Preconditions" "SIOOBE_FORMATTER" "Ljava/util/function/BiFunction;" (.ref q) (fun q : Nat => s.heap.size ≤ q) s s.heap := by
    rcases hSF with h | ⟨t, h⟩
    · exact ⟨0, Or.inl h⟩
    · exact ⟨t, Or.inr h⟩
  have h12 : ∀ c : Nat, ∃ z : ClassId × (Nat → Nat), ∀ q, cls[c]? = some q → u_Kn s q.1 q.2.1 q.2.2 z.1 z.2 := by
    intro c
    match c with
    | 0 =>
      obtain ⟨cC, iS, h⟩ := u_known hgt iw_X0 (hgt _ ki_X0)
      exact ⟨(cC, iS), fun q hq => by cases hq; exact h⟩
    | 1 =>
      obtain ⟨cC, iS, h⟩ := u_known hgt iw_X1 (hgt _ ki_X1)
      exact ⟨(cC, iS), fun q hq => by cases hq; exact h⟩
    | 2 =>
      obtain ⟨cC, iS, h⟩ := u_known hgt iw_X2 (hgt _ ki_X2)
      exact ⟨(cC, iS), fun q hq => by cases hq; exact h⟩
    | 3 =>
      obtain ⟨cC, iS, h⟩ := u_known hgt iw_X3 (hgt _ ki_X3)
      exact ⟨(cC, iS), fun q hq => by cases hq; exact h⟩
    | 4 =>
      obtain ⟨cC, iS, h⟩ := u_known hgt iw_X4 (hgt _ ki_X4)
      exact ⟨(cC, iS), fun q hq => by cases hq; exact h⟩
    | 5 =>
      obtain ⟨cC, iS, h⟩ := u_known hgt iw_X6 (hgt _ ki_X6)
      exact ⟨(cC, iS), fun q hq => by cases hq; exact h⟩
    | 6 =>
      obtain ⟨cC, iS, h⟩ := u_known hgt iw_X7 (hgt _ ki_X7)
      exact ⟨(cC, iS), fun q hq => by cases hq; exact h⟩
    | 7 =>
      obtain ⟨cC, iS, h⟩ := u_known hgt iw_X8 (hgt _ ki_X8)
      exact ⟨(cC, iS), fun q hq => by cases hq; exact h⟩
    | 8 =>
      obtain ⟨cC, iS, h⟩ := u_known hgt iw_X9 (hgt _ ki_X9)
      exact ⟨(cC, iS), fun q hq => by cases hq; exact h⟩
    | 9 =>
      obtain ⟨cC, iS, h⟩ := u_known hgt iw_X10 (hgt _ ki_X10)
      exact ⟨(cC, iS), fun q hq => by cases hq; exact h⟩
    | 10 =>
      obtain ⟨cC, iS, h⟩ := u_known hgt iw_X11 (hgt _ ki_X11)
      exact ⟨(cC, iS), fun q hq => by cases hq; exact h⟩
    | 11 =>
      obtain ⟨cC, iS, h⟩ := u_known hgt iw_X12 (hgt _ ki_X12)
      exact ⟨(cC, iS), fun q hq => by cases hq; exact h⟩
    | c + 12 => exact ⟨(0, fun _ => 0), fun q hq => by simp [cls] at hq⟩
  obtain ⟨D, hD⟩ := Classical.axiomOfChoice h12
  obtain ⟨c0, a0, b0⟩ := arr_prim (ty := .int) (hgt _ ka_int)
  obtain ⟨c1, a1, b1⟩ := arr_prim (ty := .byte) (hgt _ ka_byte)
  obtain ⟨c2, a2, b2⟩ := arr_prim (ty := .boolean) (hgt _ ka_boolean)
  obtain ⟨c3, a3, b3⟩ := arr_obj (C := "HillLand$Tale") (hts _ (lwm_1 (List.mem_of_getElem? (i := 45) (by decide +kernel))))
  obtain ⟨c4, a4, b4⟩ := arr_obj (C := "HillLand$Tale") (hts _ (lwm_1 (List.mem_of_getElem? (i := 45) (by decide +kernel))))
  obtain ⟨c5, a5, b5⟩ := arr_obj (C := "HillLand$Column") (hts _ (lwm_1 (List.mem_of_getElem? (i := 99) (by decide +kernel))))
  have key : ∀ G : GT, G = (l, (fun k => (D k).1, fun k => (D k).2), (fun k => if k = 0 then c0 else if k = 1 then c1 else if k = 2 then c2 else if k = 3 then c3 else if k = 4 then c4 else c5), s.heap.size, (fun j => if j < 4 then tq j else if j < 12 then adK (j - 4) else if j < 20 then adV (j - 12) else if j = 20 then q20 else b)) → SF G s ∧ ra G 1000021 = b := by
    intro G hG
    have r0 : ∀ j, 1000000 ≤ j → ra G j = G.2.2.2.2 (j - 1000000) := fun j hj => by
      unfold ra
      rw [if_neg (by omega)]
    have gE : G.2.2.2.2 = (fun j => if j < 4 then tq j else if j < 12 then adK (j - 4) else if j < 20 then adV (j - 12) else if j = 20 then q20 else b) := by rw [hG]
    have gA : AA G = (fun q : Nat => s.heap.size ≤ q) := by rw [hG]; rfl
    have rT : ∀ k, k < 4 → ra G (1000000 + k) = tq k := fun k hk => by
      rw [r0 _ (by omega), gE]
      dsimp only
      rw [if_pos (by omega)]
      exact congrArg tq (by omega)
    have rK : ∀ k, k < 8 → ra G (1000004 + k) = adK k := fun k hk => by
      rw [r0 _ (by omega), gE]
      dsimp only
      rw [if_neg (by omega), if_pos (by omega)]
      exact congrArg adK (by omega)
    have rV : ∀ k, k < 8 → ra G (1000012 + k) = adV k := fun k hk => by
      rw [r0 _ (by omega), gE]
      dsimp only
      rw [if_neg (by omega), if_neg (by omega), if_pos (by omega)]
      exact congrArg adV (by omega)
    have r20 : ra G 1000020 = q20 := by
      rw [r0 _ (by omega), gE]
      rfl
    refine ⟨⟨⟨fun c q hq => ?_, fun k q hq => ?_⟩, ⟨fun k hk => ?_, ?_, fun k hk => ?_, ?_, ?_⟩, ⟨fun w hw hn => ?_, va_AO.of (A := #[Value.ref b]) (hts (.arrayOver (.object "HillLand$Tale")) (lwm_1 (List.mem_of_getElem? (i := 45) (by decide +kernel)))), va_AO.of (A := #[Value.ref b]) (hts (.arrayOver (.object "HillLand$Tale")) (lwm_1 (List.mem_of_getElem? (i := 45) (by decide +kernel)))), va_AO.of (A := #[Value.ref b]) (hts (.arrayOver (.object "HillLand$Column")) (lwm_1 (List.mem_of_getElem? (i := 99) (by decide +kernel))))⟩⟩, ?_⟩
    · rw [hG]
      exact hD c q hq
    · rw [hG] at hq
      match k, hq with
      | 0, hq =>
        have e := Option.some.inj (show some (c0, FieldType.int) = some q from hq)
        subst e
        exact ⟨a0, b0⟩
      | 1, hq =>
        have e := Option.some.inj (show some (c1, FieldType.byte) = some q from hq)
        subst e
        exact ⟨a1, b1⟩
      | 2, hq =>
        have e := Option.some.inj (show some (c2, FieldType.boolean) = some q from hq)
        subst e
        exact ⟨a2, b2⟩
      | 3, hq =>
        have e := Option.some.inj (show some (c3, FieldType.object "HillLand$Tale") = some q from hq)
        subst e
        exact ⟨a3, b3⟩
      | 4, hq =>
        have e := Option.some.inj (show some (c4, FieldType.object "HillLand$Tale") = some q from hq)
        subst e
        exact ⟨a4, b4⟩
      | 5, hq =>
        have e := Option.some.inj (show some (c5, FieldType.object "HillLand$Column") = some q from hq)
        subst e
        exact ⟨a5, b5⟩
      | k + 6, hq => simp [tys] at hq
    · rw [rT k hk, gA]
      exact hT k hk
    · rw [gA]
      refine ⟨fun i hi => ?_, fun i j hi hj q => ?_⟩
      · dsimp only
        rw [rK i hi, rV i hi]
        exact hV.1 i hi
      · dsimp only at q
        rw [rK i hi, rK j hj] at q
        exact hV.2 i j hi hj q
    · rw [rK k hk]
      exact vk_R.of (hts _ (str_r k hk)) (hV2 k hk)
    · rw [gA]
      exact hCS
    · rw [gA, r20]
      exact hq20
    · exact va_Nw.of (by cases w <;> first | rfl | (simp [isNest] at hn; done)) (hts w hw)
    · rw [r0 _ (by omega), gE]
      rfl
  obtain ⟨k1, k2⟩ := key _ rfl
  exact start_G _ hL rfl k2 C0 k1

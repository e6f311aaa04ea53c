-- ===== arraycopy over int arrays =====
def cpF (f g : Int → Int) (sp dp n : Int) : Int → Int := fun j => if dp ≤ j ∧ j < dp + n then f (sp + (j - dp)) else g j
theorem nn_z {z : Int} (h : inR z) (h0 : 0 ≤ z) : ¬ iI z < 0 := by
  rw [iI_0, iI_lt h inR_0]
  omega
section PWD
variable {x : FX} {G : GT} {S : Shp} {σ : Sto} {k n pc : Nat} {l : LV} {st : List Value}
theorem PW.copyI {a0 a n0 n1 idx : Nat} {sp dp m0 : Int} {own : String} (hlk : Cond.methodLink own idx arraycopyName ∈ gtbl) (hx : x.1.1.cls = own) (hA0 : At S a0 (sA 0 n0)) (hA : At S a (sA 0 n1))
    (r1 : inR sp) (r2 : inR dp) (r3 : inR m0) (h1 : 0 ≤ sp) (h2 : 0 ≤ dp) (h3 : 0 ≤ m0) (h4 : sp + m0 ≤ n0) (h5 : dp + m0 ≤ n1) (hcat : (st.map fun v => v.category).sum ≤ 8) (hR : 1 ≤ x.2.1.frames ∧ 40 ≤ x.2.1.locals) (hd : decode x.1.2.1 pc = .ok (.invokestatic idx, 3))
    (kk : PW x G S (upS σ a (cpF (σ a0) (σ a) sp dp m0)) k n (pc + 3) l st) : PW x G S σ k n pc l (.int (iI m0) :: .int (iI dp) :: .ref a :: .int (iI sp) :: .ref a0 :: st) := by
  intro p e s m args below meth c H locs ls C hP hS hl
  obtain ⟨hs0, ha0⟩ := hA0
  obtain ⟨hs, ha⟩ := hA
  subst hx
  have hts : ∀ w ∈ gtbl, w.before args s = true := C.2.2.2.2.1
  have hK : va_K G.2.1 cls (tys G) s := C.2.2.2.2.2.2.2.2.1.1
  have e0 := wsl_at (G := G) (S := S) (σ := σ) ha0
  rw [hs0, rse_arr] at e0
  have e1 := wsl_at (G := G) (S := S) (σ := σ) ha
  rw [hs, rse_arr] at e1
  have hr0 : rv G (.ref a0) = .ref (gB G + a0) := by show Value.ref (ra G a0) = _; rw [hP.lt ha0]
  have hr : rv G (.ref a) = .ref (gB G + a) := by show Value.ref (ra G a) = _; rw [hP.lt ha]
  show W p G.1 e x.2.1 s m args below meth c H locs k n (x.2.2 below args s) (F0 m pc ls (.int (iI m0) :: .int (iI dp) :: rv G (.ref a) :: .int (iI sp) :: rv G (.ref a0) :: st.map (rv G)))
  rw [hr0, hr]
  have hc0 : H[gB G + a0]? = some (arrV (G.2.2.1 0) n0 (fun j => .int (iI (σ a0 (j : Int))))) := hP.1 a0 _ e0
  have hc1 : H[gB G + a]? = some (arrV (G.2.2.1 0) n1 (fun j => .int (iI (σ a (j : Int))))) := hP.1 a _ e1
  obtain ⟨-, k0, hk0, cm0, hkk0⟩ := arr_at hK (t := 0) rfl n0 (fun j => .int (iI (σ a0 (j : Int))))
  have ix1 : (iI sp).toNatClampNeg = sp.toNat := iI_ix r1 h1
  have ix2 : (iI dp).toNatClampNeg = dp.toNat := iI_ix r2 h2
  have ix3 : (iI m0).toNatClampNeg = m0.toNat := iI_ix r3 h3
  intro T hT X
  obtain ⟨vm', X', step⟩ := X.arraycopy C.1 C.2.2.2.1 (hts _ hlk) (hts _ lc_nat) (hts _ lc_st) (hts _ lc_in) (src := gB G + a0) (dst := gB G + a) (cs := arrV (G.2.2.1 0) n0 (fun j => .int (iI (σ a0 (j : Int))))) (cd := arrV (G.2.2.1 0) n1 (fun j => .int (iI (σ a (j : Int))))) (srcPos := iI sp) (destPos := iI dp) (n := iI m0) (by rw [hT]; exact hc0) (by rw [hT]; exact hc1)
    (fun _ h => by cases h) (fun _ h => by cases h) (fun h => by cases h) (fun h => by cases h) hk0 hk0 hkk0 hkk0 (by simp [refKind]) (nn_z r1 h1) (nn_z r2 h2) (nn_z r3 h3)
    (by rw [iI_toInt r1, iI_toInt r3, arrV_size]; omega)
    (by rw [iI_toInt r2, iI_toInt r3, arrV_size]; omega)
    (fun vm₁ _ i hi => by
      have e : (arrV (G.2.2.1 0) n0 (fun j => Value.int (iI (σ a0 (j : Int))))).slots.getD ((iI sp).toNatClampNeg + i) .null = .int (iI (σ a0 (((iI sp).toNatClampNeg + i : Nat) : Int))) := by
        rw [Array.getD_eq_getD_getElem?, arrV_read _ _ (by rw [ix1]; rw [ix3] at hi; omega)]
        rfl
      refine ⟨?_, ?_⟩
      · rw [e]
        rfl
      · rw [e]
        exact trivial)
    (g := F0 m pc ls (.int (iI m0) :: .int (iI dp) :: .ref (gB G + a) :: .int (iI sp) :: .ref (gB G + a0) :: st.map (rv G))) rfl (by rw [C.2.2.1]; exact hl.1) (rest := st.map (rv G)) rfl (by rw [C.2.1]; exact hd) hR.1 (by
      have h9 := sum_cat (G := G) hcat
      have h8 : nativeFrameWords "java/lang/System" "arraycopy" 5 + 11 ≤ 32 := by decide +kernel
      have h7 := hR.2
      show 2 * 0 + _ + _ ≤ _
      omega)
  have ec : copied (arrV (G.2.2.1 0) n0 (fun j => Value.int (iI (σ a0 (j : Int))))) (arrV (G.2.2.1 0) n1 (fun j => Value.int (iI (σ a (j : Int))))) (iI sp) (iI dp) (iI m0) = arrV (G.2.2.1 0) n1 (fun j => .int (iI (cpF (σ a0) (σ a) sp dp m0 (j : Int)))) := by
    have h6 : (iI sp).toNatClampNeg + (iI m0).toNatClampNeg ≤ n0 := by rw [ix1, ix3]; omega
    refine (va_copied (fun z : Int32 => Value.int z) (G.2.2.1 0) (G.2.2.1 0) (fun j : Nat => iI (σ a0 (j : Int))) (fun j : Nat => iI (σ a (j : Int))) (n1 := n1) (dp := (iI dp).toNatClampNeg) h6).trans ?_
    congr 1
    funext j
    rw [ix1, ix2, ix3]
    by_cases hj : dp.toNat ≤ j ∧ j < dp.toNat + m0.toNat
    · simp only [va_cpy, cpF, if_pos hj]
      rw [if_pos (by omega), show (((sp.toNat + (j - dp.toNat) : Nat)) : Int) = sp + ((j : Int) - dp) by omega]
    · simp only [va_cpy, cpF, if_neg hj]
      rw [if_neg (by omega)]
  rw [ec] at X' step
  have hlt : gB G + a < H.size := (Array.getElem?_eq_some_iff.mp hc1).1
  have hheap : ((T.setVm vm').setCell (gB G + a) (arrV (G.2.2.1 0) n1 (fun j => .int (iI (cpF (σ a0) (σ a) sp dp m0 (j : Int)))))).heap = H.setIfInBounds (gB G + a) (arrV (G.2.2.1 0) n1 (fun j => .int (iI (cpF (σ a0) (σ a) sp dp m0 (j : Int))))) := by rw [← hT]; rfl
  generalize hnew : arrV (G.2.2.1 0) n1 (fun j => Value.int (iI (cpF (σ a0) (σ a) sp dp m0 (j : Int)))) = new at X' step hheap
  have oq : ∀ q : Nat, q ≠ gB G + a → (H.setIfInBounds (gB G + a) new)[q]? = H[q]? := fun q hq => by simp [Array.getElem?_setIfInBounds, Ne.symm hq]
  have hz : (H.setIfInBounds (gB G + a) new).size = H.size := by simp
  have hW : HW G S (upS σ a (cpF (σ a0) (σ a) sp dp m0)) (H.setIfInBounds (gB G + a) new) := by
    refine hP.set ha hz oq ?_ rfl (fun b hb => ⟨rfl, upS_ne hb⟩)
    rw [hs, rse_arr, upS_same]
    show (H.setIfInBounds (gB G + a) new)[gB G + a]? = some (arrV (G.2.2.1 0) n1 (fun j => .int (iI (cpF (σ a0) (σ a) sp dp m0 (j : Int)))))
    rw [hnew]
    simp [Array.getElem?_setIfInBounds, hlt]
  obtain ⟨t, a1, b1⟩ := kk p e s m args below meth c _ _ ls C hW ⟨by rw [hz]; exact hS.1, fun q g1 g2 => by
      rw [oq q (fun e => g2 (by rw [e]; exact HW.free))]
      exact hS.2.1 q g1 g2, fun q hq => by
      rcases List.mem_append.mp hq with h | h
      · exact hS.2.2 q h
      · obtain ⟨z, -, hz⟩ := List.mem_map.mp h
        rw [← hz]
        exact HW.free⟩ hl _ hheap X'
  exact ⟨t, step t a1, b1⟩
end PWD

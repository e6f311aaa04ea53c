def IsTxt (S : Shp) (a : Nat) : Prop := At S a (sO 9 [fR (a + 1), fR (a + 2), fI, fI, fI, fI]) ∧ At S (a + 1) (sA 0 300) ∧ At S (a + 2) (sA 0 5)
def bsOk (B : Int → Int) (z : Int) : Prop := (0 ≤ z ∧ z ≤ 300) ∧ ∀ i, 0 ≤ i → i < z → 0 ≤ B i ∧ B i ≤ 255
theorem c_X10_size {G : GT} {S : Shp} {σ : Sto} {a : Nat} (hA : IsTxt S a) : PMet G mX10_size 0 0 0 [.ref a] S σ (isP (some (.int (iI (σ a 2)))) S (σ)) := by
  obtain ⟨hA0, hA1, hA2⟩ := id hA
  refine PMet.of [(0, .ref a)] (by decide +kernel) rfl (Nat.le_of_ble_eq_true rfl) ?_
  refine PW.aload_n dX10_size_0 rfl ?_
  refine PW.getI 2 fl_X10_20 rfl (by assumption) rfl rfl dX10_size_1 ?_
  exact PW.iret rfl rfl dX10_size_4 ⟨rfl, rfl, rfl⟩

theorem tlF_cg {f f' : Int → Int} {n : Int} {c : Int → Int} : ∀ {k : Nat}, (∀ q p : Int, 0 ≤ q → q < k → 0 ≤ p → p ≤ 5 → f' (7 * q + p) = f (7 * q + p)) → tlF f' n c k = tlF f n c k
  | 0, _ => rfl
  | k + 1, h => by
    have ih := tlF_cg (f := f) (f' := f') (n := n) (c := c) (k := k) (fun q p q0 q1 p0 p1 => h q p q0 (by omega) p0 p1)
    have e : ∀ p : Int, 0 ≤ p → p ≤ 5 → f' (7 * (k : Int) + p) = f (7 * (k : Int) + p) := fun p p0 p1 => h k p (by omega) (by omega) p0 p1
    have e0 := e 0 (by omega) (by omega)
    rw [Int.add_zero] at e0
    have e1 := e 1 (by omega) (by omega)
    have e2 := e 2 (by omega) (by omega)
    have e3 := e 3 (by omega) (by omega)
    have e4 := e 4 (by omega) (by omega)
    have e5 := e 5 (by omega) (by omega)
    simp only [tlF]
    unfold evR
    rw [ih, e0, show 7 * (k : Int) + 1 + 0 = 7 * k + 1 by omega, show 7 * (k : Int) + 1 + 1 = 7 * k + 2 by omega, show 7 * (k : Int) + 1 + 2 = 7 * k + 3 by omega, show 7 * (k : Int) + 1 + 3 = 7 * k + 4 by omega, show 7 * (k : Int) + 1 + 4 = 7 * k + 5 by omega, e1, e2, e3, e4, e5]
theorem tlF_lo {f : Int → Int} {n : Int} {c : Int → Int} {i v : Int} {k : Nat} : tlF (up1 f (7 * i + 6) v) n c k = tlF f n c k := tlF_cg fun q p q0 q1 p0 p1 => up1_ne (by omega)

theorem up1_same (f : Int → Int) (i x : Int) : up1 f i x i = x := by simp [up1]
theorem up1_ne {f : Int → Int} {i x j : Int} (h : j ≠ i) : up1 f i x j = f j := by simp [up1, h]
theorem up1_up1 (f : Int → Int) (i x y : Int) : up1 (up1 f i x) i y = up1 f i y := by
  funext j
  unfold up1
  split <;> simp_all
theorem bg_st (σ : Sto) (a : Nat) (m v : Int) (h : Int → Int) : upS (upS (upS σ a (up1 (σ a) 6 m)) (a + 6) h) a (up1 ((upS (upS σ a (up1 (σ a) 6 m)) (a + 6) h) a) 6 v) = upS (upS σ a (up1 (σ a) 6 v)) (a + 6) h := by
  rw [upS_ne (show a ≠ a + 6 by omega), upS_same, up1_up1]
  funext q
  unfold upS
  try dsimp only
  by_cases q1 : q = a + 6
  · rw [if_neg (by omega), if_pos q1, if_pos q1]
  · rw [if_neg q1]
    by_cases q2 : q = a
    · rw [if_pos q2]
      first | rw [if_neg q1, if_pos q2] | rw [if_pos q2]
    · rw [if_neg q2, if_neg q2, if_neg q2, if_neg q1]
theorem up1_self (f : Int → Int) (i : Int) : up1 f i (f i) = f := by
  funext j
  unfold up1
  split <;> simp_all
-- (not here: weigh_in)
-- (not here: weigh_out)
-- (not here: c_X3_weigh)
-- (not here: begin_in)
-- (not here: begin_out)
-- (not here: c_X3_begin)
-- (not here: goOn_loop)
-- (not here: c_X3_goOn)

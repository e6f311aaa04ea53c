theorem evR_row {f g : Int → Int} {i j : Int} (h : ∀ p, 0 ≤ p → p ≤ 5 → g (7 * j + p) = f (7 * i + p)) (n : Int) (c : Int → Int) : evR g j n c = evR f i n c := by
  have h0 := h 0 (by omega) (by omega)
  have h1 := h 1 (by omega) (by omega)
  have h2 := h 2 (by omega) (by omega)
  have h3 := h 3 (by omega) (by omega)
  have h4 := h 4 (by omega) (by omega)
  have h5 := h 5 (by omega) (by omega)
  rw [Int.add_zero, Int.add_zero] at h0
  have n1 : ∀ q : Int, 7 * q + 1 + 0 = 7 * q + 1 := fun q => by omega
  have n2 : ∀ q : Int, 7 * q + 1 + 1 = 7 * q + 2 := fun q => by omega
  have n3 : ∀ q : Int, 7 * q + 1 + 2 = 7 * q + 3 := fun q => by omega
  have n4 : ∀ q : Int, 7 * q + 1 + 3 = 7 * q + 4 := fun q => by omega
  have n5 : ∀ q : Int, 7 * q + 1 + 4 = 7 * q + 5 := fun q => by omega
  unfold evR
  rw [n1, n2, n3, n4, n5, n1, n2, n3, n4, n5, h0, h1, h2, h3, h4, h5]
theorem adF_at {f : Int → Int} {n k a b c d e p : Int} (p0 : 0 ≤ p) (p1 : p < 7) : adF f n k a b c d e (7 * n + p) = rowF k a b c d e p := by
  unfold adF
  rw [if_pos (by omega), show 7 * n + p - 7 * n = p by omega]
theorem adF_a0 {f : Int → Int} {n k a b c d e : Int} : adF f n k a b c d e (7 * n) = k := by
  have h := adF_at (f := f) (n := n) (k := k) (a := a) (b := b) (c := c) (d := d) (e := e) (p := 0) (by omega) (by omega)
  rw [Int.add_zero] at h
  rw [h]
  rfl
theorem adF_ne {f : Int → Int} {n k a b c d e j : Int} (h : j < 7 * n ∨ 7 * n + 7 ≤ j) : adF f n k a b c d e j = f j := by
  unfold adF
  rw [if_neg (by omega)]
theorem rw_1 (k a b c d e : Int) : rowF k a b c d e 1 = a := rfl
theorem rw_2 (k a b c d e : Int) : rowF k a b c d e 2 = b := rfl
theorem rw_3 (k a b c d e : Int) : rowF k a b c d e 3 = if 2 < xT 0 k then c else 0 := rfl
theorem rw_4 (k a b c d e : Int) : rowF k a b c d e 4 = if 3 < xT 0 k then d else 0 := rfl
theorem rw_5 (k a b c d e : Int) : rowF k a b c d e 5 = if 4 < xT 0 k then e else 0 := rfl
theorem rw_6 (k a b c d e : Int) : rowF k a b c d e 6 = 0 := rfl
theorem xT0_4 {k : Int} (h : 0 ≤ k ∧ k ≤ 4) : xT 0 k ≤ 4 := by
  rcases (show k = 0 ∨ k = 1 ∨ k = 2 ∨ k = 3 ∨ k = 4 by omega) with rfl | rfl | rfl | rfl | rfl <;> decide
/-- a row of an event of four numbers at most, as it is told -/
def rwOk (f : Int → Int) (i : Int) : Prop := f (7 * i) ≤ 4 ∧ (¬ 2 < xT 0 (f (7 * i)) → f (7 * i + 3) = 0) ∧ (¬ 3 < xT 0 (f (7 * i)) → f (7 * i + 4) = 0) ∧ f (7 * i + 5) = 0
theorem rwOk_new {f : Int → Int} {n k a b c d : Int} (hk : 0 ≤ k ∧ k ≤ 4) : rwOk (adF f n k a b c d 0) n := by
  have hx := xT0_4 hk
  unfold rwOk
  rw [adF_a0, adF_at (p := 3) (by omega) (by omega), adF_at (p := 4) (by omega) (by omega), adF_at (p := 5) (by omega) (by omega), rw_3, rw_4, rw_5]
  exact ⟨hk.2, fun q => if_neg q, fun q => if_neg q, if_neg (by omega)⟩
theorem rwOk_old {f : Int → Int} {n k a b c d i : Int} (h : rwOk f i) (hi : i < n) : rwOk (adF f n k a b c d 0) i := by
  unfold rwOk
  rw [adF_ne (by omega), adF_ne (by omega), adF_ne (by omega), adF_ne (by omega)]
  exact h
theorem row_cp {f F : Int → Int} {i : Int} (h : rwOk f i) : ∀ p, 0 ≤ p → p ≤ 5 → adF F i (f (7 * i)) (f (7 * i + 1)) (f (7 * i + 2)) (f (7 * i + 3)) (f (7 * i + 4)) 0 (7 * i + p) = f (7 * i + p) := by
  intro p p0 p1
  obtain ⟨h1, h2, h3, h4⟩ := h
  rcases (show p = 0 ∨ p = 1 ∨ p = 2 ∨ p = 3 ∨ p = 4 ∨ p = 5 by omega) with rfl | rfl | rfl | rfl | rfl | rfl
  · rw [Int.add_zero]
    exact adF_a0
  · rw [adF_at (by omega) (by omega), rw_1]
  · rw [adF_at (by omega) (by omega), rw_2]
  · rw [adF_at (by omega) (by omega), rw_3]
    split
    · rfl
    · next q => exact (h2 q).symm
  · rw [adF_at (by omega) (by omega), rw_4]
    split
    · rfl
    · next q => exact (h3 q).symm
  · rw [adF_at (by omega) (by omega), rw_5, h4]
    split <;> rfl
theorem okEv_cp {f : Int → Int} {i : Int} (hE : evOk f i) (h : rwOk f i) : okEv (f (7 * i)) (f (7 * i + 1)) (f (7 * i + 2)) (f (7 * i + 3)) (f (7 * i + 4)) 0 := by
  have hk := hE.k
  obtain ⟨⟨-, h5, s0, s1, s2, s3, -⟩, -, -⟩ := hE
  have hx := xT0_4 ⟨hk.1, h.1⟩
  have h4 := h.1
  rw [show 7 * i + 1 + 0 = 7 * i + 1 by omega] at s0
  rw [show 7 * i + 1 + 1 = 7 * i + 2 by omega] at s1
  rw [show 7 * i + 1 + 2 = 7 * i + 3 by omega] at s2
  rw [show 7 * i + 1 + 3 = 7 * i + 4 by omega] at s3
  refine ⟨hk, fun q => ?_, s0, s1, s2, s3, Or.inl ?_⟩
  · have := q.1
    omega
  · omega
/-- how many a story has of what may be, and which is its first -/
def mny (s : Int) : Int := if s = 0 then 0 else if s < 3 then 1 else 2
def onE (s : Int) : Int := if s = 1 ∨ s = 3 then 0 else 1
theorem st_tb : ∀ m : Fin 3, ∀ s : Fin 5, (s.val : Int) < nSN m.val → lenN m.val s.val = mny s.val ∧ (0 < mny s.val → (pthN m.val s.val).getD 0 (-1) = onE s.val) ∧ (1 < mny s.val → (pthN m.val s.val).getD 1 (-1) = 1 - onE s.val) ∧ mny s.val ≤ m.val := by decide +kernel
theorem nS_3 : nS 0 = 1 ∧ nS 1 = 2 ∧ nS 2 = 5 := by decide +kernel
theorem mny_b (s : Int) : 0 ≤ mny s ∧ mny s ≤ 2 := by
  unfold mny
  split
  · omega
  · split <;> omega
theorem onE_b (s : Int) : 0 ≤ onE s ∧ onE s ≤ 1 := by
  unfold onE
  split <;> omega
theorem st_f {m s : Int} (hm : 0 ≤ m ∧ m ≤ 2) (h0 : 0 ≤ s) (hs : s < nS m) : s < 5 ∧ lnE m s = mny s ∧ prt m s 0 = (if mny s = 0 then -1 else onE s) ∧ prt m s 1 = (if mny s < 2 then -1 else 1 - onE s) ∧ prt m s 2 = -1 ∧ mny s ≤ m := by
  have h5 : nS m ≤ 5 := by
    rcases (show m = 0 ∨ m = 1 ∨ m = 2 by omega) with rfl | rfl | rfl
    · rw [nS_3.1]; decide
    · rw [nS_3.2.1]; decide
    · rw [nS_3.2.2]; decide
  have h := st_tb ⟨m.toNat, by omega⟩ ⟨s.toNat, by omega⟩ (by show ((s.toNat : Nat) : Int) < nS m; omega)
  dsimp only at h
  rw [show ((s.toNat : Nat) : Int) = s by omega, show ((m.toNat : Nat) : Int) = m by omega] at h
  obtain ⟨h1, h2, h3, h4⟩ := h
  have hl : lnE m s = mny s := h1
  have mb := mny_b s
  refine ⟨by omega, hl, ?_, ?_, ?_, h4⟩
  · unfold prt
    rw [hl]
    by_cases q : mny s = 0
    · rw [if_pos q, if_neg (by omega)]
    · rw [if_neg q, if_pos (by omega)]
      exact h2 (by omega)
  · unfold prt
    rw [hl]
    by_cases q : mny s < 2
    · rw [if_pos q, if_neg (by omega)]
    · rw [if_neg q, if_pos (by omega)]
      exact h3 (by omega)
  · unfold prt
    rw [hl, if_neg (by omega)]
/-- the j-th of a story's -/
def pj (s j : Int) : Int := if j = 0 then onE s else 1 - onE s
theorem pj_b (s j : Int) : 0 ≤ pj s j ∧ pj s j ≤ 1 := by
  have := onE_b s
  unfold pj
  split <;> omega
theorem pth_tk {m s j : Int} (hm : 0 ≤ m ∧ m ≤ 2) (h0 : 0 ≤ s) (hs : s < nS m) (j0 : 0 ≤ j) (j1 : j < mny s) : (pth m s).take (j + 1).toNat = (pth m s).take j.toNat ++ [pj s j] ∧ 0 ≤ pj s j ∧ pj s j < m := by
  obtain ⟨h5, hl, p0, p1, -, hmy⟩ := st_f hm h0 hs
  have mb := mny_b s
  have hlen : ((pth m s).length : Int) = mny s := hl
  have hjl : j.toNat < (pth m s).length := by omega
  have e : (pth m s).getD j.toNat (-1) = pj s j := by
    by_cases q : j = 0
    · subst q
      unfold prt at p0
      rw [hl, if_pos (by omega), if_neg (by omega)] at p0
      unfold pj
      rw [if_pos rfl]
      exact p0
    · have : j = 1 := by omega
      subst this
      unfold prt at p1
      rw [hl, if_pos (by omega), if_neg (by omega)] at p1
      unfold pj
      rw [if_neg (by omega)]
      exact p1
  have eg : (pth m s)[j.toNat] = pj s j := by
    rw [← e, List.getD_eq_getElem?_getD, List.getElem?_eq_getElem hjl]
    rfl
  refine ⟨?_, ?_⟩
  · rw [show (j + 1).toNat = j.toNat + 1 by omega, List.take_succ, List.getElem?_eq_getElem hjl, eg]
    rfl
  · have hb := prt_b (m := m) (s := 0) (j := j) (by omega) j0 s.toNat (by omega) (by rw [show ((s.toNat : Nat) : Int) = s by omega]; omega)
    rw [show ((s.toNat : Nat) : Int) = s by omega] at hb
    unfold prt at hb
    rw [if_pos (by omega), e] at hb
    exact hb
theorem pth_all {m s : Int} (hm : 0 ≤ m ∧ m ≤ 2) (h0 : 0 ≤ s) (hs : s < nS m) : (pth m s).take (mny s).toNat = pth m s := by
  have hl := (st_f hm h0 hs).2.1
  have hlen : ((pth m s).length : Int) = mny s := hl
  exact List.take_of_length_le (by omega)
/-- all stories fit when nothing is known -/
theorem uP_0 (n : Int) (f : Int → Int) (m : Int) (g sg : Int → Int) (s : Int) : uP n f m g sg 0 s = 0 := rfl
theorem ftC_all {u : Int → Int} (h : ∀ s, u s = 0) {i : Int} (hi : 0 ≤ i) : ftC u i = i := by
  have key : ∀ k : Nat, ftC u (k : Int) = k := by
    intro k
    induction k with
    | zero => rfl
    | succ k ih =>
      rw [show ((k + 1 : Nat) : Int) = (k : Int) + 1 by omega, ftC_s u (by omega), ih, b01_t (h _)]
  have := key i.toNat
  rw [show ((i.toNat : Nat) : Int) = i by omega] at this
  exact this
theorem smF_1 (F : Int → Int) : smF F 1 = F 0 := by
  have h := smF_s F (i := 0) (Int.le_refl 0)
  rw [smF_0, Int.zero_add, Int.zero_add] at h
  exact h
/-- a story fits when the skin in its land is of the bed -/
theorem uP_1 {n m c b s : Int} {f g sg0 : Int → Int} : uP n f m g (sgF sg0 0 0 c b 0 0) 1 s = 0 ↔ sbF (colS g c (tlF f c zF n.toNat) (pth m s)) = b := by
  have e0 : ∀ j : Int, 5 * (0 : Int) + j = j := fun j => by omega
  have hm : metS (sgF sg0 0 0 c b 0 0) 0 (lndS g (ldT f n) m s) ↔ sbF (colS g c (tlF f c zF n.toNat) (pth m s)) = b := by
    have a := sgF_at (f := sg0) (n := 0) (k := 0) (c := c) (b := b) (p := 0) (q := 0)
    obtain ⟨a0, a1, a2, a3, a4⟩ := a
    unfold metS metP
    rw [a0, a1, a2]
    constructor
    · rintro (h | h | h | h | h)
      · exact h.2
      · exact absurd h.1 (by decide)
      · exact absurd h.1 (by decide)
      · exact absurd h.1 (by decide)
      · exact absurd h.1 (by decide)
    · exact fun h => Or.inl ⟨rfl, h⟩
  have hu : uP n f m g (sgF sg0 0 0 c b 0 0) 1 s = b01 (¬ metS (sgF sg0 0 0 c b 0 0) 0 (lndS g (ldT f n) m s)) := by
    show umC _ _ 1 = _
    unfold umC
    exact smF_1 _
  rw [hu, ← hm]
  by_cases q : metS (sgF sg0 0 0 c b 0 0) 0 (lndS g (ldT f n) m s)
  · rw [b01_f (fun x => x q)]
    exact ⟨fun _ => q, fun _ => rfl⟩
  · rw [b01_t q]
    exact ⟨fun x => by omega, fun x => absurd x q⟩
/-- the numbers of what may be, as the law keeps them, and as they are told -/
def mgOk (K A B C D g : Int → Int) (q : Int) : Prop := okEv (K q) (A q) (B q) (C q) (D q) 0 ∧ ∀ p, 0 ≤ p → p ≤ 5 → g (7 * q + p) = rowF (K q) (A q) (B q) (C q) (D q) 0 p
theorem tl_ad {F : Int → Int} {n k a b c d y : Int} {C : Int → Int} (hn : 0 ≤ n) : tlF (adF F n k a b c d 0) y C (n + 1).toNat = evR (adF F n k a b c d 0) n y (tlF F y C n.toNat) := by
  rw [show (n + 1).toNat = n.toNat + 1 by omega]
  simp only [tlF]
  rw [show ((n.toNat : Nat) : Int) = n by omega, tlF_cg (f := F) (f' := adF F n k a b c d 0) (k := n.toNat) (fun q p q0 q1 p0 p1 => adF_ne (by omega))]
theorem st_step {F f g K A B C D : Int → Int} {base m s j y : Int} (hb : 0 ≤ base) (hm : 0 ≤ m ∧ m ≤ 2) (h0 : 0 ≤ s) (hs : s < nS m) (j0 : 0 ≤ j) (j1 : j < mny s) (hg : mgOk K A B C D g (pj s j)) (h : tlF F y zF (base + j).toNat = colS g y (tlF f y zF base.toNat) ((pth m s).take j.toNat)) : tlF (adF F (base + j) (K (pj s j)) (A (pj s j)) (B (pj s j)) (C (pj s j)) (D (pj s j)) 0) y zF (base + (j + 1)).toNat = colS g y (tlF f y zF base.toNat) ((pth m s).take (j + 1).toNat) := by
  rw [show base + (j + 1) = base + j + 1 by omega, tl_ad (by omega), h, (pth_tk hm h0 hs j0 j1).1, colS_app]
  exact evR_row (fun p p0 p1 => by rw [adF_at p0 (by omega)]; exact (hg.2 p p0 p1).symm) _ _

/-- what is broken between those that are placed and those that are to come -/
def xF (w : Int → Int) (n s : Int) : Int := smF (fun p => if inS s p then crF w n s p else 0) n
def ctF (n s : Int) : Int := smF (fun q => b01 (¬ inS s q)) n
theorem crF_or {w : Int → Int} {n s b p : Int} (hn : 0 ≤ n) (hb : 0 ≤ b ∧ b < n) (h : ¬ inS s b) : crF w n (orS s b) p = crF w n s p - w (8 * b + p) := by
  have e1 : crF w n (orS s b) p = smF (fun q => (if inS s q then 0 else w (8 * q + p)) + (- (if q = b then w (8 * b + p) else 0))) n := smF_congr fun q q0 q1 => by
    have hq := inS_orS (s := s) (b := b) (c := q) hb.1 q0
    by_cases h1 : q = b
    · rw [if_pos (hq.mpr (Or.inr h1)), if_pos h1, h1, if_neg h]
      omega
    · rw [if_neg h1]
      by_cases h2 : inS s q
      · rw [if_pos (hq.mpr (Or.inl h2)), if_pos h2]
        rfl
      · rw [if_neg (fun r => (hq.mp r).elim h2 h1), if_neg h2]
        omega
  have e2 := smF_add2 (fun q => if inS s q then 0 else w (8 * q + p)) (fun q => - (if q = b then w (8 * b + p) else 0)) n.toNat
  have e3 := smF_neg (fun q => if q = b then w (8 * b + p) else 0) n.toNat
  have e4 := smF_one (w (8 * b + p)) b n.toNat
  rw [show ((n.toNat : Nat) : Int) = n by omega] at e2 e3 e4
  rw [e1, e2, e3, e4, if_pos hb]
  show crF w n s p + _ = _
  omega
theorem xF_or {w : Int → Int} {n s b : Int} (hn : 0 ≤ n ∧ n ≤ 8) (hb : 0 ≤ b ∧ b < n) (h : ¬ inS s b) (hd : w (8 * b + b) = 0) : xF w n (orS s b) = xF w n s - brF w n s b + crF w n s b := by
  have e1 : xF w n (orS s b) = smF (fun p => ((if inS s p then crF w n s p else 0) + (- (if inS s p then w (8 * b + p) else 0))) + (if p = b then crF w n s b else 0)) n := smF_congr fun p p0 p1 => by
    have hq := inS_orS (s := s) (b := b) (c := p) hb.1 p0
    rw [crF_or hn.1 hb h]
    by_cases h1 : p = b
    · rw [if_pos (hq.mpr (Or.inr h1)), if_pos h1, h1, if_neg h, if_neg h, hd]
      omega
    · rw [if_neg h1]
      by_cases h2 : inS s p
      · rw [if_pos (hq.mpr (Or.inl h2)), if_pos h2, if_pos h2]
        omega
      · rw [if_neg (fun r => (hq.mp r).elim h2 h1), if_neg h2, if_neg h2]
        omega
  have e2 := smF_add2 (fun p => (if inS s p then crF w n s p else 0) + (- (if inS s p then w (8 * b + p) else 0))) (fun p => if p = b then crF w n s b else 0) n.toNat
  have e3 := smF_add2 (fun p => if inS s p then crF w n s p else 0) (fun p => - (if inS s p then w (8 * b + p) else 0)) n.toNat
  have e4 := smF_neg (fun p => if inS s p then w (8 * b + p) else 0) n.toNat
  have e5 := smF_one (crF w n s b) b n.toNat
  rw [show ((n.toNat : Nat) : Int) = n by omega] at e2 e3 e4 e5
  rw [e1, e2, e3, e4, e5, if_pos hb]
  show xF w n s + - brF w n s b + _ = _
  omega
theorem ctF_or {n s b : Int} (hn : 0 ≤ n) (hb : 0 ≤ b ∧ b < n) (h : ¬ inS s b) : ctF n (orS s b) = ctF n s - 1 := by
  have e1 : ctF n (orS s b) = smF (fun q => b01 (¬ inS s q) + (- (if q = b then 1 else 0))) n := smF_congr fun q q0 q1 => by
    have hq := inS_orS (s := s) (b := b) (c := q) hb.1 q0
    by_cases h1 : q = b
    · rw [if_pos h1, b01_f (fun r => r (hq.mpr (Or.inr h1))), h1, b01_t h]
      rfl
    · rw [if_neg h1]
      by_cases h2 : inS s q
      · rw [b01_f (fun r => r (hq.mpr (Or.inl h2))), b01_f (fun r => r h2)]
        rfl
      · rw [b01_t (show ¬ inS (orS s b) q from fun r => (hq.mp r).elim h2 h1), b01_t (show ¬ inS s q from h2)]
        rfl
  have e2 := smF_add2 (fun q => b01 (¬ inS s q)) (fun q => - (if q = b then 1 else 0)) n.toNat
  have e3 := smF_neg (fun q => if q = b then 1 else 0) n.toNat
  have e4 := smF_one 1 b n.toNat
  rw [show ((n.toNat : Nat) : Int) = n by omega] at e2 e3 e4
  rw [e1, e2, e3, e4, if_pos hb]
  rfl
theorem xF_0 {w : Int → Int} {n s : Int} (hw : wOk w) (hn : 0 ≤ n ∧ n ≤ 8) : 0 ≤ xF w n s := by
  have := smF_b (f := fun p => if inS s p then crF w n s p else 0) (lo := 0) (hi := 19008) hn.1 (fun p p0 p1 => by
    try dsimp only
    split
    · exact crF_b hw hn ⟨p0, by omega⟩
    · omega)
  unfold xF
  omega
theorem free_b : ∀ n : Fin 9, ∀ s : Fin 256, s.val < 2 ^ n.val - 1 → ∃ b : Fin 8, b.val < n.val ∧ s.val.testBit b.val = false := by decide +kernel
theorem free_at {n s : Int} (hn : 0 ≤ n ∧ n ≤ 8) (hs : 0 ≤ s ∧ s < fullS n) : ∃ b : Int, (0 ≤ b ∧ b < n) ∧ ¬ inS s b := by
  have hf := fullS_b hn
  have h2 : (fullS n) = ((2 ^ n.toNat : Nat) : Int) - 1 := rfl
  obtain ⟨b, b0, b1⟩ := free_b ⟨n.toNat, by omega⟩ ⟨s.toNat, by omega⟩ (by (try dsimp only); omega)
  refine ⟨(b.val : Int), ⟨by omega, by dsimp only at b0; omega⟩, ?_⟩
  show ¬ s.toNat.testBit ((b.val : Int)).toNat = true
  rw [show ((b.val : Int)).toNat = b.val by omega]
  dsimp only at b1
  rw [b1]
  decide
theorem mnB_at {P : Int → Prop} [DecidablePred P] {g : Int → Int} : ∀ {k : Nat} {b : Int}, 0 ≤ b → b < k → P b → mnB P g k ≤ g b
  | 0, b, b0, b1, _ => by omega
  | k + 1, b, b0, b1, hb => by
    simp only [mnB]
    by_cases e : b = k
    · subst e
      rw [if_pos hb]
      omega
    · have ih := mnB_at (P := P) (g := g) (k := k) b0 (by omega) hb
      split <;> omega
theorem mnB_ex {P : Int → Prop} [DecidablePred P] {g : Int → Int} : ∀ {k : Nat}, mnB P g k < 1000000 → ∃ b : Int, (0 ≤ b ∧ b < k) ∧ P b ∧ mnB P g k = g b
  | 0, h => absurd h (show ¬ (1000000 : Int) < 1000000 by omega)
  | k + 1, h => by
    simp only [mnB] at h ⊢
    by_cases hp : P (k : Int)
    · rw [if_pos hp] at h ⊢
      by_cases h2 : mnB P g k ≤ g k
      · rw [Int.min_eq_left h2] at h ⊢
        obtain ⟨b, b0, b1, b2⟩ := mnB_ex h
        exact ⟨b, by omega, b1, b2⟩
      · rw [Int.min_eq_right (by omega)]
        exact ⟨k, by omega, hp, rfl⟩
    · rw [if_neg hp] at h ⊢
      obtain ⟨b, b0, b1, b2⟩ := mnB_ex h
      exact ⟨b, by omega, b1, b2⟩
theorem mnB_shift {P : Int → Prop} [DecidablePred P] {g g' : Int → Int} {x : Int} {k : Nat} (hx : 0 ≤ x) (h : ∀ b : Int, 0 ≤ b → b < k → P b → g' b = g b + x) {b : Int} (hb : 0 ≤ b ∧ b < k) (hp : P b) (hs : g' b < 1000000) : mnB P g' k = mnB P g k + x := by
  have a1 := mnB_at (g := g') hb.1 hb.2 hp
  obtain ⟨c, c0, c1, c2⟩ := mnB_ex (P := P) (g := g') (k := k) (by omega)
  have e := h c c0.1 c0.2 c1
  have a2 := mnB_at (g := g) c0.1 c0.2 c1
  obtain ⟨d, d0, d1, d2⟩ := mnB_ex (P := P) (g := g) (k := k) (by omega)
  have e2 := h d d0.1 d0.2 d1
  have a3 := mnB_at (g := g') d0.1 d0.2 d1
  omega
/-- some bed may come next -/
theorem alw_at {n ah be s : Int} (hn : 2 ≤ n ∧ n ≤ 8) (hah : ah = -1 ∧ be = -1 ∨ (0 ≤ ah ∧ ah < n) ∧ (0 ≤ be ∧ be < n)) (hne : 0 ≤ ah → ah ≠ be) (hs : 0 ≤ s ∧ s < fullS n) : ∃ b : Int, (0 ≤ b ∧ b < n) ∧ alw ah be s b := by
  by_cases h0 : 0 ≤ ah ∧ ¬ inS s ah
  · exact ⟨ah, by omega, h0.2, fun r => hne h0.1 r.1⟩
  · obtain ⟨b, b0, b1⟩ := free_at ⟨by omega, hn.2⟩ hs
    refine ⟨b, b0, b1, fun r => ?_⟩
    by_cases h1 : 0 ≤ ah
    · exact h0 ⟨h1, r.2⟩
    · omega
/-- the two ways of counting what is broken -/
theorem dp_shift {w fM : Int → Int} {n ah be : Int} (hw : wOk w) (hd : ∀ a, 0 ≤ a → a < 8 → w (8 * a + a) = 0) (hn : 2 ≤ n ∧ n ≤ 8) (hah : ah = -1 ∧ be = -1 ∨ (0 ≤ ah ∧ ah < n) ∧ (0 ≤ be ∧ be < n)) (hne : 0 ≤ ah → ah ≠ be) (hM : dpM w n ah be fM 0) {fC : Int → Int} (hC : dpOk w n ah be fC 0) : ∀ (k : Nat) (s : Int), 0 ≤ s → s ≤ fullS n → fullS n - s ≤ k → fC s = fM s + xF w n s ∧ 0 ≤ fC s ∧ fC s ≤ 19008 * ctF n s := by
  have hfb := fullS_b (n := n) (by omega)
  have full : ∀ b, 0 ≤ b → b < n → inS (fullS n) b := fun b b0 b1 => by
    have key : ∀ n : Fin 9, ∀ b : Fin 8, b.val < n.val → (2 ^ n.val - 1).testBit b.val = true := by decide +kernel
    have := key ⟨n.toNat, by omega⟩ ⟨b.toNat, by omega⟩ (by (try dsimp only); omega)
    show (fullS n).toNat.testBit b.toNat = true
    rw [show (fullS n).toNat = 2 ^ n.toNat - 1 by unfold fullS; omega]
    exact this
  have hfull : fC (fullS n) = fM (fullS n) + xF w n (fullS n) ∧ 0 ≤ fC (fullS n) ∧ fC (fullS n) ≤ 19008 * ctF n (fullS n) := by
    have z := smF_zero n.toNat
    rw [show ((n.toNat : Nat) : Int) = n by omega] at z
    have e1 : xF w n (fullS n) = 0 := by
      rw [show xF w n (fullS n) = smF (fun _ => 0) n from smF_congr fun p p0 p1 => by
        rw [if_pos (full p p0 p1)]
        rw [show crF w n (fullS n) p = smF (fun _ => 0) n from smF_congr fun q q0 q1 => if_pos (full q q0 q1)]
        exact z]
      exact z
    have e2 : ctF n (fullS n) = 0 := by
      rw [show ctF n (fullS n) = smF (fun _ => 0) n from smF_congr fun p p0 p1 => b01_f (fun r => r (full p p0 p1))]
      exact z
    rw [hC.1, hM.1, e1, e2]
    decide
  intro k
  induction k with
  | zero =>
    intro s h0 h1 h2
    rw [show s = fullS n by omega]
    exact hfull
  | succ k ih =>
    intro s h0 h1 h2
    by_cases e : s = fullS n
    · rw [e]
      exact hfull
    · have hs : 0 ≤ s ∧ s < fullS n := by omega
      have nx : ∀ b, 0 ≤ b → b < n → ¬ inS s b → fC (orS s b) = fM (orS s b) + xF w n (orS s b) ∧ 0 ≤ fC (orS s b) ∧ fC (orS s b) ≤ 19008 * ctF n (orS s b) := fun b b0 b1 hb => by
        have g1 := orS_gt h0 b0 hb
        have g2 := orS_le (s := s) (b := b) (n := n) ⟨h0, h1⟩ ⟨b0, b1⟩
        exact ih (orS s b) (by omega) g2.2 (by omega)
      have hctb : ctF n s ≤ n := (smF_01 (P := fun q => ¬ inS s q) (by omega)).2
      obtain ⟨b, b0, b1⟩ := alw_at hn hah hne hs
      have hnb := nx b b0.1 b0.2 b1.1
      rw [ctF_or (by omega) b0 b1.1] at hnb
      have hbr := brF_b hw (n := n) (s := s) (b := b) (by omega) (by omega)
      have eC := hC.2 s h0 hs.2
      have eM := hM.2 s h0 hs.2
      unfold dqE at eC
      unfold dqM at eM
      have sh := mnB_shift (P := fun b => alw ah be s b) (g := fun b => crF w n s b + fM (orS s b)) (g' := fun b => brF w n s b + fC (orS s b)) (x := xF w n s) (k := n.toNat) (xF_0 hw (by omega)) (fun c c0 c1 hc => by
        have hnc := nx c c0 (by omega) hc.1
        have hx := xF_or (w := w) (n := n) (s := s) (b := c) (by omega) ⟨c0, by omega⟩ hc.1 (hd c c0 (by omega))
        try dsimp only
        omega) (b := b) ⟨b0.1, by omega⟩ b1 (by (try dsimp only); omega)
      have le := mnB_at (P := fun b => alw ah be s b) (g := fun b => brF w n s b + fC (orS s b)) (k := n.toNat) b0.1 (by omega) b1
      have ge := mnB_ge (P := fun b => alw ah be s b) (g := fun b => brF w n s b + fC (orS s b)) (k := n.toNat) (fun c c0 c1 hc => by
        have hnc := nx c c0 (by omega) hc.1
        have := brF_b hw (n := n) (s := s) (b := c) (by omega) (by omega)
        try dsimp only
        omega)
      try dsimp only at le
      rw [eC, eM, sh]
      refine ⟨rfl, by rw [← sh]; exact ge, ?_⟩
      rw [← sh]
      omega
theorem dpR_s (w : Int → Int) (n ah be : Int) (k : Nat) (s : Int) : dpR w n ah be (k + 1) s = if s = fullS n then 0 else mnB (fun b => alw ah be s b) (fun b => brF w n s b + dpR w n ah be k (orS s b)) n.toNat := rfl
theorem dqF_ok {w : Int → Int} {n ah be : Int} (hn : 0 ≤ n ∧ n ≤ 8) : dpOk w n ah be (dqF w n ah be) 0 := by
  have hfb := fullS_b hn
  have st : ∀ (k j : Nat) (s : Int), 0 ≤ s → s ≤ fullS n → fullS n - s < k → fullS n - s < j → dpR w n ah be k s = dpR w n ah be j s := by
    intro k
    induction k with
    | zero => intro j s h0 h1 h2 h3; omega
    | succ k ih =>
      intro j s h0 h1 h2 h3
      cases j with
      | zero => omega
      | succ j =>
        rw [dpR_s, dpR_s]
        by_cases e : s = fullS n
        · rw [if_pos e, if_pos e]
        · rw [if_neg e, if_neg e]
          refine mnB_congr fun b b0 b1 hb => ?_
          have g1 := orS_gt h0 b0 hb.1
          have g2 := orS_le (s := s) (b := b) (n := n) ⟨h0, h1⟩ ⟨b0, by omega⟩
          rw [ih j (orS s b) (by omega) g2.2 (by omega) (by omega)]
  refine ⟨?_, fun s s0 s1 => ?_⟩
  · exact (dpR_s w n ah be 255 (fullS n)).trans (if_pos rfl)
  · refine ((dpR_s w n ah be 255 s).trans (if_neg (by omega))).trans ?_
    refine mnB_congr fun b b0 b1 hb => ?_
    have g1 := orS_gt s0 b0 hb.1
    have g2 := orS_le (s := s) (b := b) (n := n) ⟨s0, by omega⟩ ⟨b0, by omega⟩
    show _ + dpR w n ah be 255 (orS s b) = _ + dpR w n ah be 256 (orS s b)
    rw [st 255 256 (orS s b) (by omega) g2.2 (by omega) (by omega)]
theorem dp_sh {w fM : Int → Int} {n ah be : Int} (hw : wOk w) (hd : ∀ a, 0 ≤ a → a < 8 → w (8 * a + a) = 0) (hn : 2 ≤ n ∧ n ≤ 8) (hah : ah = -1 ∧ be = -1 ∨ (0 ≤ ah ∧ ah < n) ∧ (0 ≤ be ∧ be < n)) (hne : 0 ≤ ah → ah ≠ be) (hM : dpM w n ah be fM 0) {s : Int} (h0 : 0 ≤ s) (h1 : s ≤ fullS n) : dqF w n ah be s = fM s + xF w n s ∧ 0 ≤ dqF w n ah be s ∧ dqF w n ah be s ≤ 152064 := by
  have hfb := fullS_b (n := n) (by omega)
  have h := dp_shift hw hd hn hah hne hM (dqF_ok (by omega)) 256 s h0 h1 (by omega)
  have hctb : ctF n s ≤ n := (smF_01 (P := fun q => ¬ inS s q) (by omega)).2
  omega
theorem xF_e {w : Int → Int} {n : Int} (hn : 0 ≤ n) : xF w n 0 = 0 := by
  have z := smF_zero n.toNat
  rw [show ((n.toNat : Nat) : Int) = n by omega] at z
  rw [show xF w n 0 = smF (fun _ => 0) n from smF_congr fun p p0 p1 => if_neg (by show ¬ (0 : Nat).testBit p.toNat = true; rw [Nat.zero_testBit]; decide)]
  exact z
/-- the bed that comes next, by both ways of counting -/
theorem fob_at {w fM : Int → Int} {n s : Int} (hw : wOk w) (hd : ∀ a, 0 ≤ a → a < 8 → w (8 * a + a) = 0) (hn : 2 ≤ n ∧ n ≤ 8) (hM : dpM w n (-1) (-1) fM 0) (hs : 0 ≤ s ∧ s < fullS n) : (0 ≤ fobF w n (dqG w n) s ∧ fobF w n (dqG w n) s < n) ∧ (¬ inS s (fobF w n (dqG w n) s) ∧ crF w n s (fobF w n (dqG w n) s) + fM (orS s (fobF w n (dqG w n) s)) = fM s) ∧ ∀ b, 0 ≤ b → b < fobF w n (dqG w n) s → inS s b ∨ ¬ crF w n s b + fM (orS s b) = fM s := by
  have sh := fun {q : Int} (q0 : 0 ≤ q) (q1 : q ≤ fullS n) => dp_sh hw hd hn (Or.inl ⟨rfl, rfl⟩) (fun r => by omega) hM q0 q1
  have eqv : ∀ b, 0 ≤ b → b < n → ¬ inS s b → (brF w n s b + dqG w n (orS s b) = dqG w n s ↔ crF w n s b + fM (orS s b) = fM s) := fun b b0 b1 hb => by
    have g2 := orS_le (s := s) (b := b) (n := n) ⟨hs.1, by omega⟩ ⟨b0, b1⟩
    have a1 := (sh g2.1 g2.2).1
    have a2 := (sh hs.1 (show s ≤ fullS n by omega)).1
    have a3 := xF_or (w := w) (n := n) (s := s) (b := b) (by omega) ⟨b0, b1⟩ hb (hd b b0 (by omega))
    unfold dqG
    omega
  have hex : ∃ b : Int, (0 ≤ b ∧ b < n) ∧ ¬ inS s b ∧ brF w n s b + dqG w n (orS s b) = dqG w n s := by
    have a2 := sh hs.1 (show s ≤ fullS n by omega)
    have e := (dqF_ok (w := w) (n := n) (ah := -1) (be := -1) (by omega)).2 s hs.1 hs.2
    unfold dqE at e
    obtain ⟨b, b0, b1, b2⟩ := mnB_ex (P := fun b => alw (-1) (-1) s b) (g := fun b => brF w n s b + dqF w n (-1) (-1) (orS s b)) (k := n.toNat) (by rw [← e]; omega)
    exact ⟨b, by omega, b1.1, by unfold dqG; rw [e, b2]⟩
  obtain ⟨b, b0, b1, b2⟩ := hex
  have hne : ¬ firI (fun b => decide (¬ inS s b ∧ brF w n s b + dqG w n (orS s b) = dqG w n s)) n.toNat = -1 := fun q => by
    have := of_decide_eq_false ((firI_spec (P := fun b => decide (¬ inS s b ∧ brF w n s b + dqG w n (orS s b) = dqG w n s)) (n := n.toNat)).1 q b b0.1 (by omega))
    exact this ⟨b1, b2⟩
  have hf : fobF w n (dqG w n) s = firI (fun b => decide (¬ inS s b ∧ brF w n s b + dqG w n (orS s b) = dqG w n s)) n.toNat := if_neg hne
  have hb := fobF_b (w := w) (n := n) (s := s) (f := dqG w n) (by omega)
  have sp := (firI_spec (P := fun b => decide (¬ inS s b ∧ brF w n s b + dqG w n (orS s b) = dqG w n s)) (n := n.toNat)).2 hne
  rw [← hf] at sp
  have s1 := of_decide_eq_true sp.1
  refine ⟨hb, ⟨s1.1, (eqv _ hb.1 hb.2 s1.1).mp s1.2⟩, fun c c0 c1 => ?_⟩
  have s2 := of_decide_eq_false (sp.2 c c0 c1)
  by_cases hc : inS s c
  · exact Or.inl hc
  · exact Or.inr fun q => s2 ⟨hc, (eqv c c0 (by omega) hc).mpr q⟩
theorem rwS_ct {w fM : Int → Int} {n : Int} (hw : wOk w) (hd : ∀ a, 0 ≤ a → a < 8 → w (8 * a + a) = 0) (hn : 2 ≤ n ∧ n ≤ 8) (hM : dpM w n (-1) (-1) fM 0) : ∀ k : Nat, (k : Int) ≤ n → ctF n (rwS w n (dqG w n) k) = n - k ∧ ((k : Int) < n → rwS w n (dqG w n) k < fullS n)
  | 0, _ => by
    have hfb := fullS_b (n := n) (by omega)
    have f2 : fullS n ≠ 0 := by
      unfold fullS
      have : 2 ^ 1 ≤ 2 ^ n.toNat := Nat.pow_le_pow_right (by decide) (by omega)
      omega
    refine ⟨?_, fun _ => by show (0 : Int) < fullS n; omega⟩
    show ctF n 0 = _
    have key : ∀ k : Nat, smF (fun q => b01 (¬ inS 0 q)) k = k := by
      intro k
      induction k with
      | zero => rfl
      | succ k ih =>
        rw [show ((k + 1 : Nat) : Int) = (k : Int) + 1 by omega, smF_s _ (by omega), ih, b01_t (by show ¬ (0 : Nat).testBit _ = true; rw [Nat.zero_testBit]; decide)]
    have := key n.toNat
    rw [show ((n.toNat : Nat) : Int) = n by omega] at this
    unfold ctF
    omega
  | k + 1, hk => by
    obtain ⟨h1, h2⟩ := rwS_ct hw hd hn hM k (by omega)
    have hb := rwS_b (w := w) (f := dqG w n) (n := n) (by omega) k
    have hf := fob_at hw hd hn hM ⟨hb.1, h2 (by omega)⟩
    have hc := ctF_or (by omega) hf.1 hf.2.1.1
    have hb2 := rwS_b (w := w) (f := dqG w n) (n := n) (by omega) (k + 1)
    have e : ctF n (rwS w n (dqG w n) (k + 1)) = n - ((k + 1 : Nat) : Int) := by
      show ctF n (orS _ _) = _
      omega
    refine ⟨e, fun hk2 => ?_⟩
    refine Classical.byContradiction fun q => ?_
    have hfull : rwS w n (dqG w n) (k + 1) = fullS n := by omega
    have z := smF_zero n.toNat
    rw [show ((n.toNat : Nat) : Int) = n by omega] at z
    have : ctF n (fullS n) = 0 := by
      rw [show ctF n (fullS n) = smF (fun _ => 0) n from smF_congr fun p p0 p1 => b01_f (fun r => r (by
        have key : ∀ n : Fin 9, ∀ b : Fin 8, b.val < n.val → (2 ^ n.val - 1).testBit b.val = true := by decide +kernel
        have := key ⟨n.toNat, by omega⟩ ⟨p.toNat, by omega⟩ (by (try dsimp only); omega)
        show (fullS n).toNat.testBit p.toNat = true
        rw [show (fullS n).toNat = 2 ^ n.toNat - 1 by unfold fullS; omega]
        exact this))]
      exact z
    rw [hfull, this] at e
    omega
/-- the least of all is the lesser of both ways -/
theorem mnB_min {P P1 P2 : Int → Prop} [DecidablePred P] [DecidablePred P1] [DecidablePred P2] {g g1 g2 : Int → Int} : ∀ {k : Nat}, (∀ i : Int, 0 ≤ i → i < k → (P i ↔ P1 i ∨ P2 i) ∧ (P1 i → P2 i → g i = min (g1 i) (g2 i)) ∧ (P1 i → ¬ P2 i → g i = g1 i) ∧ (¬ P1 i → P2 i → g i = g2 i)) → mnB P g k = min (mnB P1 g1 k) (mnB P2 g2 k)
  | 0, _ => by show (1000000 : Int) = min 1000000 1000000; decide
  | k + 1, h => by
    have ih := mnB_min (k := k) (fun i i0 i1 => h i i0 (by omega))
    obtain ⟨h1, h2, h3, h4⟩ := h (k : Int) (by omega) (by omega)
    simp only [mnB]
    rw [ih]
    by_cases q1 : P1 (k : Int)
    · rw [if_pos (h1.mpr (Or.inl q1)), if_pos q1]
      by_cases q2 : P2 (k : Int)
      · rw [if_pos q2, h2 q1 q2]
        omega
      · rw [if_neg q2, h3 q1 q2]
        omega
    · rw [if_neg q1]
      by_cases q2 : P2 (k : Int)
      · rw [if_pos (h1.mpr (Or.inr q2)), if_pos q2, h4 q1 q2]
        omega
      · rw [if_neg (fun r => (h1.mp r).elim q1 q2), if_neg q2]
theorem dq_in {w : Int → Int} {n a b : Int} (hn : 2 ≤ n ∧ n ≤ 8) (ha : 0 ≤ a ∧ a < n) : ∀ (k : Nat) (s : Int), 0 ≤ s → s ≤ fullS n → fullS n - s ≤ k → inS s a → dqF w n a b s = dqG w n s := by
  have o1 := dqF_ok (w := w) (n := n) (ah := a) (be := b) (by omega)
  have o2 := dqF_ok (w := w) (n := n) (ah := -1) (be := -1) (by omega)
  intro k
  induction k with
  | zero =>
    intro s h0 h1 h2 h3
    rw [show s = fullS n by omega]
    unfold dqG
    rw [o1.1, o2.1]
  | succ k ih =>
    intro s h0 h1 h2 h3
    by_cases e : s = fullS n
    · rw [e]
      unfold dqG
      rw [o1.1, o2.1]
    · have e1 := o1.2 s h0 (by omega)
      have e2 := o2.2 s h0 (by omega)
      unfold dqE at e1 e2
      unfold dqG
      rw [e1, e2]
      have hm := mnB_min (P := fun c => alw a b s c) (P1 := fun c => alw (-1) (-1) s c) (P2 := fun c => alw (-1) (-1) s c) (g := fun c => brF w n s c + dqF w n a b (orS s c)) (g1 := fun c => brF w n s c + dqF w n (-1) (-1) (orS s c)) (g2 := fun c => brF w n s c + dqF w n (-1) (-1) (orS s c)) (k := n.toNat) (fun c c0 c1 => by
        have hiff : alw a b s c ↔ alw (-1) (-1) s c := ⟨fun r => ⟨r.1, fun q => by omega⟩, fun r => ⟨r.1, fun q => q.2 h3⟩⟩
        refine ⟨⟨fun r => Or.inl (hiff.mp r), fun r => hiff.mpr (r.elim id id)⟩, fun q1 q2 => ?_, fun q1 q2 => absurd q1 q2, fun q1 q2 => absurd q2 q1⟩
        have g1 := orS_gt h0 c0 q1.1
        have g2 := orS_le (s := s) (b := c) (n := n) ⟨h0, h1⟩ ⟨c0, by omega⟩
        have := ih (orS s c) (by omega) g2.2 (by omega) ((inS_orS c0 ha.1).mpr (Or.inl h3))
        unfold dqG at this
        try dsimp only
        rw [this]
        omega)
      rw [hm]
      omega
theorem dq_two {w : Int → Int} {n a b : Int} (hn : 2 ≤ n ∧ n ≤ 8) (ha : 0 ≤ a ∧ a < n) (hb : 0 ≤ b ∧ b < n) (hab : ¬ a = b) : ∀ (k : Nat) (s : Int), 0 ≤ s → s ≤ fullS n → fullS n - s ≤ k → ¬ inS s a → ¬ inS s b → dqG w n s = min (dqF w n a b s) (dqF w n b a s) := by
  have o1 := dqF_ok (w := w) (n := n) (ah := a) (be := b) (by omega)
  have o3 := dqF_ok (w := w) (n := n) (ah := b) (be := a) (by omega)
  have o2 := dqF_ok (w := w) (n := n) (ah := -1) (be := -1) (by omega)
  intro k
  induction k with
  | zero =>
    intro s h0 h1 h2 h3 h4
    rw [show s = fullS n by omega]
    unfold dqG
    rw [o1.1, o2.1, o3.1]
    decide
  | succ k ih =>
    intro s h0 h1 h2 h3 h4
    by_cases e : s = fullS n
    · rw [e]
      unfold dqG
      rw [o1.1, o2.1, o3.1]
      decide
    · have e1 := o1.2 s h0 (by omega)
      have e2 := o2.2 s h0 (by omega)
      have e3 := o3.2 s h0 (by omega)
      unfold dqE at e1 e2 e3
      unfold dqG
      rw [e1, e2, e3]
      refine mnB_min fun c c0 c1 => ⟨⟨fun r => ?_, fun r => ⟨r.elim (fun q => q.1) (fun q => q.1), fun q => by omega⟩⟩, fun q1 q2 => ?_, fun q1 q2 => ?_, fun q1 q2 => ?_⟩
      · by_cases hc : c = b
        · exact Or.inr ⟨r.1, fun q => hab (q.1.symm.trans hc)⟩
        · exact Or.inl ⟨r.1, fun q => hc q.1⟩
      · have g1 := orS_gt h0 c0 q1.1
        have g2 := orS_le (s := s) (b := c) (n := n) ⟨h0, h1⟩ ⟨c0, by omega⟩
        have hca : ¬ c = a := fun q => q2.2 ⟨q, h4⟩
        have hcb : ¬ c = b := fun q => q1.2 ⟨q, h3⟩
        have := ih (orS s c) (by omega) g2.2 (by omega) (fun r => ((inS_orS c0 ha.1).mp r).elim h3 (fun q => hca q.symm)) (fun r => ((inS_orS c0 hb.1).mp r).elim h4 (fun q => hcb q.symm))
        unfold dqG at this
        try dsimp only
        rw [this]
        omega
      · have g1 := orS_gt h0 c0 q1.1
        have g2 := orS_le (s := s) (b := c) (n := n) ⟨h0, h1⟩ ⟨c0, by omega⟩
        have hca : c = a := Classical.byContradiction fun q => q2 ⟨q1.1, fun r => q r.1⟩
        have := dq_in (w := w) (b := b) hn ha 256 (orS s c) g2.1 g2.2 (by have := fullS_b (n := n) (by omega); omega) ((inS_orS c0 ha.1).mpr (Or.inr hca.symm))
        unfold dqG at this
        try dsimp only
        rw [this]
      · have g1 := orS_gt h0 c0 q2.1
        have g2 := orS_le (s := s) (b := c) (n := n) ⟨h0, h1⟩ ⟨c0, by omega⟩
        have hcb : c = b := Classical.byContradiction fun q => q1 ⟨q2.1, fun r => q r.1⟩
        have := dq_in (w := w) (b := a) hn hb 256 (orS s c) g2.1 g2.2 (by have := fullS_b (n := n) (by omega); omega) ((inS_orS c0 hb.1).mpr (Or.inr hcb.symm))
        unfold dqG at this
        try dsimp only
        rw [this]

theorem dqF_b {w : Int → Int} (hw : wOk w) {n ah be : Int} (hn : 0 ≤ n ∧ n ≤ 8) : ∀ (k : Nat) (s : Int), 0 ≤ s → s ≤ fullS n → 0 ≤ dpR w n ah be k s ∧ dpR w n ah be k s ≤ 1000000
  | 0, _, _, _ => by simp [dpR]
  | k + 1, s, h0, h1 => by
    simp only [dpR]
    split
    · omega
    · refine ⟨mnB_ge fun b b0 b1 hb => ?_, mnB_le _ _ _⟩
      have g2 := orS_le (s := s) (b := b) (n := n) ⟨h0, h1⟩ ⟨b0, by omega⟩
      have g3 := dqF_b hw (ah := ah) (be := be) hn k (orS s b) g2.1 g2.2
      have g4 := brF_b hw (n := n) (s := s) (b := b) hn ⟨b0, by omega⟩
      try dsimp only
      omega
def dqG (w : Int → Int) (n : Int) : Int → Int := dqF w n (-1) (-1)
-- (not here: c_X0_leastQuarrel)
-- (not here: fob_loop)
-- (not here: c_X0_firstOfBest)
theorem inR8 {v : Int} (h : -1 ≤ v ∧ v ≤ 300) : inR v := by unfold inR; omega
-- (not here: row_loop)
-- (not here: c_X0_bedInRow)
-- (not here: c_X0_surely)
-- (not here: brk_in)
-- (not here: brk_out)
-- (not here: c_X0_brokenBy)

theorem bey : ∀ w : Fin 15, ∀ l : Fin 5, ∀ z : Fin 80, (fbF ((w.val : Int) - 7) ((l.val : Int) - 2) ≤ (z.val : Int) - 40 ∧ (z.val : Int) - 40 ≤ lbF ((w.val : Int) - 7) ((l.val : Int) - 2)) ↔ 4 * ((w.val : Int) - 7) ≤ ((l.val : Int) - 2) * ((z.val : Int) - 40) := by decide +kernel
theorem bey_at {w l z : Int} (hw : -7 ≤ w ∧ w ≤ 7) (hl : -2 ≤ l ∧ l ≤ 2) (hz : -40 ≤ z ∧ z ≤ 39) : (fbF w l ≤ z ∧ z ≤ lbF w l) ↔ 4 * w ≤ l * z := by
  have h := bey ⟨(w + 7).toNat, by omega⟩ ⟨(l + 2).toNat, by omega⟩ ⟨(z + 40).toNat, by omega⟩
  dsimp only at h
  rw [show (((w + 7).toNat : Nat) : Int) - 7 = w by omega, show (((l + 2).toNat : Nat) : Int) - 2 = l by omega, show (((z + 40).toNat : Nat) : Int) - 40 = z by omega] at h
  exact h
theorem irem_nn {a b : Int} (h0 : 0 ≤ a) (ha : inR a) (hb : inR b) : a - tdv a b * b = a % b := by
  rw [tdv_nn h0 ha hb, Int.emod_def, Int.mul_comm]
/-- one column is another one now -/
def ptF (C : Int → Int) (b : Int) (F : Int → Int) : Int → Int := fun j => if b ≤ j ∧ j < b + 80 then F (j - b) else C j
abbrev evG (k : Int) (g : Int → Int) (c : Int) (col : Int → Int) : Int → Int := evC k (g 0) (g 1) (g 2) (g 3) (g 4) c col
abbrev okG (k : Int) (g : Int → Int) : Prop := okEv k (g 0) (g 1) (g 2) (g 3) (g 4)
def rsF (k : Int) (g : Int → Int) (c : Int) : Int := if k = 1 then slF (g 0) (g 1) (c % 8) (c / 8) else frF (g 1) (g 2) (g 3) (soF (g 0) (c % 8) (c / 8))
theorem rsF_b {k c : Int} {g : Int → Int} (hk : k = 1 ∨ k = 2) (ho : okG k g) (hc : 0 ≤ c ∧ c ≤ 63) : -3500 ≤ rsF k g c ∧ rsF k g c ≤ 3500 := by
  unfold rsF
  rcases hk with rfl | rfl
  · rw [if_pos rfl]
    have h := ok_1 ho
    exact slF_b (by omega) (by omega) (by omega) (by omega)
  · rw [if_neg (by decide)]
    have h := ok_2 ho
    have hs := soF_b (ax := g 0) hc
    have := frF_b (h := g 1) (l := g 2) (s := g 3) (st := soF (g 0) (c % 8) (c / 8)) (by omega) (by omega) (by omega) (by omega)
    omega
theorem evG_12 {k c i : Int} {g C : Int → Int} {L : Int} (hk : k = 1 ∨ k = 2) (hi : 0 ≤ i ∧ i < 80) : gtV C L c (i - 40 - rsF k g c) = evG k g c (clV C L c) i := by
  have e : evG k g c (clV C L c) i = mvF (clV C L c) (-40) 39 (rsF k g c) i := by
    unfold evG evC rsF
    rcases hk with rfl | rfl
    · rw [if_neg (by decide), if_pos rfl, if_pos rfl]
    · rw [if_neg (by decide), if_neg (by decide), if_pos rfl, if_neg (by decide)]
  rw [e]
  unfold gtV mvF clV
  rw [if_pos (show 0 ≤ i ∧ i < 80 ∧ -40 ≤ i - 40 ∧ i - 40 ≤ 39 by omega)]
  by_cases h1 : i - 40 - rsF k g c < -40
  · rw [if_pos h1, if_pos h1]
  · rw [if_neg h1, if_neg h1]
    by_cases h2 : 39 < i - 40 - rsF k g c
    · rw [if_pos h2, if_pos h2]
    · rw [if_neg h2, if_neg h2]
      congr 1
      omega
theorem evG_3 {c i : Int} {g C : Int → Int} {L : Int} (ho : okG 3 g) (hc : 0 ≤ c ∧ c ≤ 63) (hi : 0 ≤ i ∧ i < 80) : evG 3 g c (clV C L c) i = if 4 * g 1 ≤ 4 * soF (g 0) (c % 8) (c / 8) + g 3 * (i - 40) then gtV C L c (i - 40 - g 2) else gtV C L c (i - 40) := by
  have h := ok_3 ho
  have hs := soF_b (ax := g 0) hc
  have hb := bey_at (w := g 1 - soF (g 0) (c % 8) (c / 8)) (l := g 3) (z := i - 40) (by omega) (by omega) (by omega)
  unfold evG evC
  rw [if_neg (by decide), if_neg (by decide), if_neg (by decide), if_pos rfl]
  unfold gtV mvF clV
  by_cases q : 4 * g 1 ≤ 4 * soF (g 0) (c % 8) (c / 8) + g 3 * (i - 40)
  · have q2 := hb.mpr (by omega)
    rw [if_pos q, if_pos ⟨hi.1, hi.2, q2.1, q2.2⟩]
    by_cases h1 : i - 40 - g 2 < -40
    · rw [if_pos h1, if_pos h1]
    · rw [if_neg h1, if_neg h1]
      by_cases h2 : 39 < i - 40 - g 2
      · rw [if_pos h2, if_pos h2]
      · rw [if_neg h2, if_neg h2]
        congr 1
        omega
  · rw [if_neg q, if_neg (fun r => q (by have := hb.mp ⟨r.2.2.1, r.2.2.2⟩; omega)), if_neg (by omega), if_neg (by omega)]
    congr 1
    omega
/-- the first so many columns of a land as an event makes them -/
def evL (C : Int → Int) (L k : Int) (g : Int → Int) (n : Int) : Int → Int := fun j => if 5120 * L ≤ j ∧ j < 5120 * L + 80 * n then evG k g ((j - 5120 * L) / 80) (clV C L ((j - 5120 * L) / 80)) ((j - 5120 * L) % 80) else C j
theorem evL_0 (C : Int → Int) (L k : Int) (g : Int → Int) : evL C L k g 0 = C := by
  funext j
  unfold evL
  rw [if_neg (by omega)]
theorem evL_s {C : Int → Int} {L k c : Int} {g : Int → Int} (hc : 0 ≤ c ∧ c ≤ 63) : ptF (evL C L k g c) (5120 * L + 80 * c) (evG k g c (clV (evL C L k g c) L c)) = evL C L k g (c + 1) := by
  have he : eq8 (clV (evL C L k g c) L c) (clV C L c) := by
    intro i i0 i1
    unfold clV evL
    rw [if_neg (by omega)]
  funext j
  unfold ptF
  by_cases h : 5120 * L + 80 * c ≤ j ∧ j < 5120 * L + 80 * c + 80
  · rw [if_pos h]
    refine (evC_eq he _ _ _ _ _ _ _ _ (by omega) (by omega)).trans ?_
    unfold evL
    rw [if_pos (by omega), show (j - 5120 * L) / 80 = c by omega, show (j - 5120 * L) % 80 = j - (5120 * L + 80 * c) by omega]
  · rw [if_neg h]
    unfold evL
    by_cases h2 : 5120 * L ≤ j ∧ j < 5120 * L + 80 * c
    · rw [if_pos h2, if_pos (by omega)]
    · rw [if_neg h2, if_neg (by omega)]
theorem evL_at {C : Int → Int} {L k c : Int} {g : Int → Int} (hc : 0 ≤ c ∧ c ≤ 63) : eq8 (clV (evL C L k g 64) L c) (evG k g c (clV C L c)) := by
  intro i i0 i1
  show evL C L k g 64 (5120 * L + 80 * c + i) = _
  unfold evL
  rw [if_pos (by omega), show (5120 * L + 80 * c + i - 5120 * L) / 80 = c by omega, show (5120 * L + 80 * c + i - 5120 * L) % 80 = i by omega]
theorem evL_ok {C : Int → Int} {L k : Int} {g : Int → Int} {n : Int} (hC : cOk C 15360) (hL : 0 ≤ L ∧ L ≤ 2) (hn : n ≤ 64) (ho : okG k g) : cOk (evL C L k g n) 15360 := by
  intro j j0 j1
  unfold evL
  split
  · exact evC_ok (clV_ok hC hL (by omega)) ho _ (by omega) (by omega)
  · exact hC j j0 j1
theorem evL_ne {C : Int → Int} {L k : Int} {g : Int → Int} {j : Int} (h : j < 5120 * L ∨ 5120 * L + 5120 ≤ j) : evL C L k g 64 j = C j := by
  unfold evL
  rw [if_neg (by omega)]

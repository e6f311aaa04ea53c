theorem dqF_b {w : Int → Int} (hw : wOk w) {n ah be : Int} (hn : 0 ≤ n ∧ n ≤ 8) : ∀ (k : Nat) (s : Int), 0 ≤ s → s ≤ fullS n → 0 ≤ dpR w n ah be k s ∧ dpR w n ah be k s ≤ 1000000
  | 0, _, _, _ => by simp [dpR]
  | k + 1, s, h0, h1 => by
    simp only [dpR]
    split
    · omega
    · refine ⟨mnB_ge fun b b0 b1 hb => ?_, mnB_le _ _ _⟩
      have g2 := orS_le (s := s) (b := b) (n := n) ⟨h0, h1⟩ ⟨b0, by omega⟩
      have g3 := dqF_b hw (ah := ah) (be := be) hn k (orS s b) g2.1 g2.2
      have g4 := brF_b hw (n := n) (s := s) (b := b) hn ⟨b0, by omega⟩
      try dsimp only
      omega
def dqG (w : Int → Int) (n : Int) : Int → Int := dqF w n (-1) (-1)
theorem c_X0_leastQuarrel {G : GT} {S : Shp} {σ : Sto} {a : Nat} {n : Int} (hA : IsAge S a) (hw : wOk (σ (a + 1))) (hn : 2 ≤ n ∧ n ≤ 8) : PMet G mX0_leastQuarrel 4 0 0 [.ref a, .int (iI n)] S σ (fun r S' σ' => S' = S ∧ r = some (.int (iI (dqG (σ (a + 1)) n 0))) ∧ ∃ f : Int → Int, σ' = upS σ (a + 2) f) := by
  obtain ⟨hA0, hA1, hA2⟩ := id hA
  refine PMet.of [(0, .ref a), (1, .int (iI (n)))] (by decide +kernel) rfl (Nat.le_of_ble_eq_true rfl) ?_
  refine PW.aload_n dX0_leastQuarrel_0 rfl ?_
  refine PW.iload_n dX0_leastQuarrel_1 rfl ?_
  refine PW.iconst dX0_leastQuarrel_2 ?_
  refine PW.iconst dX0_leastQuarrel_3 ?_
  refine PW.callVg (c_X0_quarrelWith hA hw hn (Or.inl ⟨rfl, rfl⟩)) cv_X0_quarrelWith lk_X0_40 (by first | assumption | exact And.left (by assumption)) dX0_leastQuarrel_4 rfl rfl rfl rfl (fun r S' σ' hq => ?_)
  obtain ⟨rfl, rfl, f, rfl, hf⟩ := hq
  exact PW.iret rfl rfl dX0_leastQuarrel_7 ⟨rfl, rfl, f, rfl⟩
theorem fob_loop {G : GT} {S : Shp} {σ : Sto} {a : Nat} {n s : Int} {Q : Option Value → Shp → Sto → Prop} (hA : IsAge S a) (hw : wOk (σ (a + 1))) (hn : 2 ≤ n ∧ n ≤ 8) (hr : ∀ q, 0 ≤ q → q ≤ fullS n → 0 ≤ σ (a + 2) q ∧ σ (a + 2) q ≤ 1000000) (hs : 0 ≤ s ∧ s ≤ fullS n) (hQ : Q (some (.int (iI (fobF (σ (a + 1)) n (σ (a + 2)) s)))) S σ) : ∀ (t : Nat) (i : Int), 0 ≤ i → i ≤ n → n - i < t → (∀ j, 0 ≤ j → j < i → (fun b => decide (¬ inS s b ∧ brF (σ (a + 1)) n s b + σ (a + 2) (orS s b) = σ (a + 2) s)) j = false) → PW (fm G mX0_firstOfBest 3 0 0 Q) G S (σ) 0 0 2 [(0, .ref a), (1, .int (iI (n))), (2, .int (iI (s))), (3, .int (iI (i)))] [] := by
  obtain ⟨hA0, hA1, hA2⟩ := id hA
  have hfb := fullS_b (n := n) (by omega)
  intro t
  induction t with
  | zero => intro i h1 h2 h3 g1; omega
  | succ t ih =>
    intro i h1 h2 h3 g1
    refine PW.iload_n dX0_firstOfBest_2 rfl ?_
    refine PW.iload_n dX0_firstOfBest_3 rfl ?_
    refine PW.icmp_ge 54 dX0_firstOfBest_4 (by decide) (by first | assumption | (unfold inR; omega)) (by first | assumption | (unfold inR; omega)) (fun h4 => ?_) (fun h4 => ?_)
    · refine PW.iconst dX0_firstOfBest_54 ?_
      refine PW.iret rfl rfl dX0_firstOfBest_55 ?_
      have e : firI (fun b => decide (¬ inS s b ∧ brF (σ (a + 1)) n s b + σ (a + 2) (orS s b) = σ (a + 2) s)) n.toNat = -1 := firI_none (fun j q1 q2 => g1 j q1 (by omega))
      unfold fobF at hQ
      rw [if_pos e] at hQ
      exact hQ
    · refine PW.iload_n dX0_firstOfBest_7 rfl ?_
      refine PW.iload_n dX0_firstOfBest_8 rfl ?_
      refine PW.callSr (c_X0_isIn (by omega) (by omega)) cs_X0_isIn lk_X0_47 dX0_firstOfBest_9 rfl rfl rfl ?_
      refine PW.if_neB 48 dX0_firstOfBest_12 (by decide) (fun h12 => ?_) (fun h12 => ?_)
      · refine PW.iinc [(0, _), (1, _), (2, _), (3, _)] dX0_firstOfBest_48 rfl rfl (Nat.le_of_ble_eq_true rfl) ?_
        refine PW.goto 2 dX0_firstOfBest_51 (by decide) ?_
        refine ih (i + 1) (by omega) (by omega) (by omega) (fun j q1 q2 => ?_)
        by_cases hj : j = i
        · subst hj
          exact decide_eq_false (fun q => by first | exact q.1 (by assumption) | exact absurd q.2 (by assumption))
        · exact g1 j q1 (by omega)
      · have bb := brF_b hw (n := n) (s := s) (b := i) (by omega) (by omega)
        have g2 := orS_le (s := s) (b := i) (n := n) hs ⟨h1, by omega⟩
        have g3 := hr _ g2.1 g2.2
        have g4 := hr s hs.1 hs.2
        refine PW.aload_n dX0_firstOfBest_15 rfl ?_
        refine PW.iload_n dX0_firstOfBest_16 rfl ?_
        refine PW.iload_n dX0_firstOfBest_17 rfl ?_
        refine PW.iload_n dX0_firstOfBest_18 rfl ?_
        refine PW.callVr (c_X0_breach (by assumption) (by assumption) (by omega) (by omega) (by omega)) cv_X0_breach lk_X0_51 (by first | assumption | exact And.left (by assumption)) dX0_firstOfBest_19 rfl rfl rfl rfl ?_
        refine PW.aload_n dX0_firstOfBest_22 rfl ?_
        refine PW.getR fl_X0_15 rfl (by assumption) rfl dX0_firstOfBest_23 ?_
        refine PW.iload_n dX0_firstOfBest_26 rfl ?_
        refine PW.iconst dX0_firstOfBest_27 ?_
        refine PW.iload_n dX0_firstOfBest_28 rfl ?_
        refine PW.ishl dX0_firstOfBest_29 ?_
        refine PW.ior dX0_firstOfBest_30 ?_
        refine PW.top (orS s i) (orS_eq (by omega) (by omega)) ?_
        refine PW.callSr (c_X11_get (by assumption) (by first | assumption | (unfold inR; omega)) (by decide)) cs_X11_get lk_X0_22 dX0_firstOfBest_31 rfl rfl rfl ?_
        refine PW.top (σ (a + 2) (orS s i)) (by unfold gI; rw [if_pos (by omega)]) ?_
        refine PW.iadd dX0_firstOfBest_34 ?_
        refine PW.aload_n dX0_firstOfBest_35 rfl ?_
        refine PW.getR fl_X0_15 rfl (by assumption) rfl dX0_firstOfBest_36 ?_
        refine PW.iload_n dX0_firstOfBest_39 rfl ?_
        refine PW.callSr (c_X11_get (by assumption) (by first | assumption | (unfold inR; omega)) (by decide)) cs_X11_get lk_X0_22 dX0_firstOfBest_40 rfl rfl rfl ?_
        refine PW.top (σ (a + 2) s) (by unfold gI; rw [if_pos (by omega)]) ?_
        refine PW.icmp_ne 48 dX0_firstOfBest_43 (by decide) (by first | assumption | (unfold inR; omega)) (by first | assumption | (unfold inR; omega)) (fun h43 => ?_) (fun h43 => ?_)
        · refine PW.iinc [(0, _), (1, _), (2, _), (3, _)] dX0_firstOfBest_48 rfl rfl (Nat.le_of_ble_eq_true rfl) ?_
          refine PW.goto 2 dX0_firstOfBest_51 (by decide) ?_
          refine ih (i + 1) (by omega) (by omega) (by omega) (fun j q1 q2 => ?_)
          by_cases hj : j = i
          · subst hj
            exact decide_eq_false (fun q => by first | exact q.1 (by assumption) | exact absurd q.2 (by assumption))
          · exact g1 j q1 (by omega)
        · refine PW.iload_n dX0_firstOfBest_46 rfl ?_
          refine PW.iret rfl rfl dX0_firstOfBest_47 ?_
          have e : firI (fun b => decide (¬ inS s b ∧ brF (σ (a + 1)) n s b + σ (a + 2) (orS s b) = σ (a + 2) s)) n.toNat = i := firI_hit h1 (decide_eq_true ⟨by assumption, by assumption⟩) g1 (by omega)
          unfold fobF at hQ
          rw [if_neg (by rw [e]; omega), e] at hQ
          exact hQ
theorem c_X0_firstOfBest {G : GT} {S : Shp} {σ : Sto} {a : Nat} {n s : Int} (hA : IsAge S a) (hw : wOk (σ (a + 1))) (hn : 2 ≤ n ∧ n ≤ 8) (hr : ∀ q, 0 ≤ q → q ≤ fullS n → 0 ≤ σ (a + 2) q ∧ σ (a + 2) q ≤ 1000000) (hs : 0 ≤ s ∧ s ≤ fullS n) : PMet G mX0_firstOfBest 3 0 0 [.ref a, .int (iI n), .int (iI s)] S σ (isP (some (.int (iI (fobF (σ (a + 1)) n (σ (a + 2)) s)))) S σ) := by
  refine PMet.of [(0, .ref a), (1, .int (iI (n))), (2, .int (iI (s)))] (by decide +kernel) rfl (Nat.le_of_ble_eq_true rfl) ?_
  refine PW.iconst dX0_firstOfBest_0 ?_
  refine PW.istore_n [(0, _), (1, _), (2, _), (3, _)] dX0_firstOfBest_1 rfl (Nat.le_of_ble_eq_true rfl) ?_
  exact fob_loop hA hw hn hr hs ⟨rfl, rfl, rfl⟩ 9 0 (by omega) (by omega) (by omega) (fun j q1 q2 => by omega)
theorem inR8 {v : Int} (h : -1 ≤ v ∧ v ≤ 300) : inR v := by unfold inR; omega
theorem row_loop {G : GT} {S : Shp} {σ : Sto} {a : Nat} {n k : Int} {f : Int → Int} {Q : Option Value → Shp → Sto → Prop} (hA : IsAge S a) (hw : wOk (σ (a + 1))) (hn : 2 ≤ n ∧ n ≤ 8) (hk : 0 ≤ k ∧ k < n) (hf : ∀ s, 0 ≤ s → s ≤ fullS n → f s = dqG (σ (a + 1)) n s) (hQ : Q (some (.int (iI (rowB (σ (a + 1)) n (dqG (σ (a + 1)) n) k)))) S (upS σ (a + 2) f)) : ∀ (t : Nat) (i : Int) (v : Int), 0 ≤ i → i ≤ k + 1 → k + 1 - i < t → (v = if i = 0 then -1 else rowB (σ (a + 1)) n (dqG (σ (a + 1)) n) (i - 1)) → PW (fm G mX0_bedInRow 4 0 0 Q) G S (upS σ (a + 2) f) 0 0 16 [(0, .ref a), (1, .int (iI (n))), (2, .int (iI (k))), (3, .int (iI (rwS (σ (a + 1)) n (dqG (σ (a + 1)) n) i.toNat))), (4, .int (iI (v))), (5, .int (iI (i)))] [] := by
  obtain ⟨hA0, hA1, hA2⟩ := id hA
  have hfb := fullS_b (n := n) (by omega)
  intro t
  induction t with
  | zero => intro i v h1 h2 h3 g1; omega
  | succ t ih =>
    intro i v h1 h2 h3 g1
    have e1 : (upS σ (a + 2) f) (a + 1) = σ (a + 1) := upS_ne (by omega)
    have e2 : (upS σ (a + 2) f) (a + 2) = f := upS_same _ _ _
    have rb := rwS_b (w := σ (a + 1)) (f := dqG (σ (a + 1)) n) (n := n) (by omega) i.toNat
    have fb := fobF_b (w := σ (a + 1)) (n := n) (s := rwS (σ (a + 1)) n (dqG (σ (a + 1)) n) i.toNat) (f := dqG (σ (a + 1)) n) (by omega)
    refine PW.iload dX0_bedInRow_16 rfl ?_
    refine PW.iload_n dX0_bedInRow_18 rfl ?_
    refine PW.icmp_gt 49 dX0_bedInRow_19 (by decide) (by first | assumption | (unfold inR; omega)) (by first | assumption | (unfold inR; omega)) (fun h19 => ?_) (fun h19 => ?_)
    · have hi : i = k + 1 := by omega
      subst hi
      rw [if_neg (by omega), show k + 1 - 1 = k by omega] at g1
      subst g1
      refine PW.iload dX0_bedInRow_49 rfl ?_
      exact PW.iret rfl rfl dX0_bedInRow_51 hQ
    · refine PW.iload dX0_bedInRow_22 rfl ?_
      refine PW.iload_n dX0_bedInRow_24 rfl ?_
      refine PW.icmp_ge 49 dX0_bedInRow_25 (by decide) (by first | assumption | (unfold inR; omega)) (by first | assumption | (unfold inR; omega)) (fun h25 => ?_) (fun h25 => ?_)
      · have hi : i = k + 1 := by omega
        subst hi
        rw [if_neg (by omega), show k + 1 - 1 = k by omega] at g1
        subst g1
        refine PW.iload dX0_bedInRow_49 rfl ?_
        exact PW.iret rfl rfl dX0_bedInRow_51 hQ
      · refine PW.aload_n dX0_bedInRow_28 rfl ?_
        refine PW.iload_n dX0_bedInRow_29 rfl ?_
        refine PW.iload_n dX0_bedInRow_30 rfl ?_
        refine PW.callVr (c_X0_firstOfBest hA (by rw [e1]; exact hw) hn (by rw [e2]; exact fun q q0 q1 => by rw [hf q q0 q1]; exact dqF_b hw (by omega) _ _ q0 q1) (by omega)) cv_X0_firstOfBest lk_X0_44 (by first | assumption | exact And.left (by assumption)) dX0_bedInRow_31 rfl rfl rfl rfl ?_
        refine PW.top (rowB (σ (a + 1)) n (dqG (σ (a + 1)) n) i) (by
          rw [e1, e2]
          exact fobF_congr (by omega) hf rb) ?_
        refine PW.istore [(0, _), (1, _), (2, _), (3, _), (4, _), (5, _)] dX0_bedInRow_34 rfl (Nat.le_of_ble_eq_true rfl) ?_
        refine PW.iload_n dX0_bedInRow_36 rfl ?_
        refine PW.iconst dX0_bedInRow_37 ?_
        refine PW.iload dX0_bedInRow_38 rfl ?_
        refine PW.ishl dX0_bedInRow_40 ?_
        refine PW.ior dX0_bedInRow_41 ?_
        refine PW.top (rwS (σ (a + 1)) n (dqG (σ (a + 1)) n) (i + 1).toNat) (by rw [rwS_s _ _ _ h1]; exact orS_eq (by omega) (by unfold rowB; omega)) ?_
        refine PW.istore_n [(0, _), (1, _), (2, _), (3, _), (4, _), (5, _)] dX0_bedInRow_42 rfl (Nat.le_of_ble_eq_true rfl) ?_
        refine PW.iinc [(0, _), (1, _), (2, _), (3, _), (4, _), (5, _)] dX0_bedInRow_43 rfl rfl (Nat.le_of_ble_eq_true rfl) ?_
        refine PW.goto 16 dX0_bedInRow_46 (by decide) ?_
        exact ih (i + 1) _ (by omega) (by omega) (by omega) (by rw [if_neg (by omega), show i + 1 - 1 = i by omega])
theorem c_X0_bedInRow {G : GT} {S : Shp} {σ : Sto} {a : Nat} {n k : Int} (hA : IsAge S a) (hw : wOk (σ (a + 1))) (hn : 2 ≤ n ∧ n ≤ 8) (hk : 0 ≤ k ∧ k < n) : PMet G mX0_bedInRow 4 0 0 [.ref a, .int (iI n), .int (iI k)] S σ (fun r S' σ' => S' = S ∧ r = some (.int (iI (rowB (σ (a + 1)) n (dqG (σ (a + 1)) n) k))) ∧ ∃ f : Int → Int, σ' = upS σ (a + 2) f) := by
  obtain ⟨hA0, hA1, hA2⟩ := id hA
  refine PMet.of [(0, .ref a), (1, .int (iI (n))), (2, .int (iI (k)))] (by decide +kernel) rfl (Nat.le_of_ble_eq_true rfl) ?_
  refine PW.aload_n dX0_bedInRow_0 rfl ?_
  refine PW.iload_n dX0_bedInRow_1 rfl ?_
  refine PW.iconst dX0_bedInRow_2 ?_
  refine PW.iconst dX0_bedInRow_3 ?_
  refine PW.callVg (c_X0_quarrelWith hA hw hn (Or.inl ⟨rfl, rfl⟩)) cv_X0_quarrelWith lk_X0_40 (by first | assumption | exact And.left (by assumption)) dX0_bedInRow_4 rfl rfl rfl rfl (fun r S' σ' hq => ?_)
  obtain ⟨rfl, rfl, f, rfl, hf⟩ := hq
  refine PW.pop rfl dX0_bedInRow_7 ?_
  refine PW.iconst dX0_bedInRow_8 ?_
  refine PW.istore_n [(0, _), (1, _), (2, _), (3, _)] dX0_bedInRow_9 rfl (Nat.le_of_ble_eq_true rfl) ?_
  refine PW.iconst dX0_bedInRow_10 ?_
  refine PW.istore [(0, _), (1, _), (2, _), (3, _), (4, _)] dX0_bedInRow_11 rfl (Nat.le_of_ble_eq_true rfl) ?_
  refine PW.iconst dX0_bedInRow_13 ?_
  refine PW.istore [(0, _), (1, _), (2, _), (3, _), (4, _), (5, _)] dX0_bedInRow_14 rfl (Nat.le_of_ble_eq_true rfl) ?_
  exact row_loop hA hw hn hk hf ⟨rfl, rfl, f, rfl⟩ 9 0 (-1) (by omega) (by omega) (by omega) rfl
theorem c_X0_surely {G : GT} {S : Shp} {σ : Sto} {a : Nat} {n b c : Int} (hA : IsAge S a) (hw : wOk (σ (a + 1))) (hn : 2 ≤ n ∧ n ≤ 8) (hb : 0 ≤ b ∧ b < n) (hc : 0 ≤ c ∧ c < n) : PMet G mX0_surely 4 0 0 [.ref a, .int (iI n), .int (iI c), .int (iI b)] S σ (fun r S' σ' => S' = S ∧ r = some (.int (iI (if dqG (σ (a + 1)) n 0 < dqF (σ (a + 1)) n b c 0 then 1 else if dqG (σ (a + 1)) n 0 < dqF (σ (a + 1)) n c b 0 then 2 else 0))) ∧ ∃ f : Int → Int, σ' = upS σ (a + 2) f) := by
  obtain ⟨hA0, hA1, hA2⟩ := id hA
  have hfb := fullS_b (n := n) (by omega)
  have b1 := dqF_b hw (n := n) (ah := -1) (be := -1) (by omega) 256 0 (by omega) (by omega)
  have b2 := dqF_b hw (n := n) (ah := b) (be := c) (by omega) 256 0 (by omega) (by omega)
  have b3 := dqF_b hw (n := n) (ah := c) (be := b) (by omega) 256 0 (by omega) (by omega)
  refine PMet.of [(0, .ref a), (1, .int (iI (n))), (2, .int (iI (c))), (3, .int (iI (b)))] (by decide +kernel) rfl (Nat.le_of_ble_eq_true rfl) ?_
  refine PW.aload_n dX0_surely_0 rfl ?_
  refine PW.iload_n dX0_surely_1 rfl ?_
  refine PW.iconst dX0_surely_2 ?_
  refine PW.iconst dX0_surely_3 ?_
  refine PW.callVg (c_X0_quarrelWith hA hw hn (Or.inl ⟨rfl, rfl⟩)) cv_X0_quarrelWith lk_X0_40 (by first | assumption | exact And.left (by assumption)) dX0_surely_4 rfl rfl rfl rfl (fun r S' σ' hq => ?_)
  obtain ⟨rfl, rfl, f, rfl, hf⟩ := hq
  refine PW.istore [(0, _), (1, _), (2, _), (3, _), (4, _)] dX0_surely_7 rfl (Nat.le_of_ble_eq_true rfl) ?_
  refine PW.aload_n dX0_surely_9 rfl ?_
  refine PW.iload_n dX0_surely_10 rfl ?_
  refine PW.iload_n dX0_surely_11 rfl ?_
  refine PW.iload_n dX0_surely_12 rfl ?_
  refine PW.callVg (c_X0_quarrelWith hA (by rw [upS_ne (by omega)]; exact hw) hn (Or.inr ⟨hb, hc⟩)) cv_X0_quarrelWith lk_X0_40 (by first | assumption | exact And.left (by assumption)) dX0_surely_13 rfl rfl rfl rfl (fun r S' σ' hq => ?_)
  obtain ⟨rfl, rfl, f2, rfl, hf2⟩ := hq
  rw [upS_upS, upS_ne (show a + 1 ≠ a + 2 by omega)]
  refine PW.iload dX0_surely_16 rfl ?_
  refine PW.icmp_le 23 dX0_surely_18 (by decide) (by first | (unfold inR; omega) | (unfold inR dqF; omega) | (unfold inR dqG dqF; omega)) (by first | (unfold inR; omega) | (unfold inR dqF; omega) | (unfold inR dqG dqF; omega)) (fun h18 => ?_) (fun h18 => ?_)
  · refine PW.aload_n dX0_surely_23 rfl ?_
    refine PW.iload_n dX0_surely_24 rfl ?_
    refine PW.iload_n dX0_surely_25 rfl ?_
    refine PW.iload_n dX0_surely_26 rfl ?_
    refine PW.callVg (c_X0_quarrelWith hA (by rw [upS_ne (by omega)]; exact hw) hn (Or.inr ⟨hc, hb⟩)) cv_X0_quarrelWith lk_X0_40 (by first | assumption | exact And.left (by assumption)) dX0_surely_27 rfl rfl rfl rfl (fun r S' σ' hq => ?_)
    obtain ⟨rfl, rfl, f3, rfl, hf3⟩ := hq
    rw [upS_upS, upS_ne (show a + 1 ≠ a + 2 by omega)]
    refine PW.iload dX0_surely_30 rfl ?_
    refine PW.icmp_le 39 dX0_surely_32 (by decide) (by first | (unfold inR; omega) | (unfold inR dqF; omega) | (unfold inR dqG dqF; omega)) (by first | (unfold inR; omega) | (unfold inR dqF; omega) | (unfold inR dqG dqF; omega)) (fun h32 => ?_) (fun h32 => ?_)
    · refine PW.iconst dX0_surely_39 ?_
      refine PW.iret rfl rfl dX0_surely_40 ⟨rfl, ret_eq ?_, _, rfl⟩
      unfold dqG
      first
        | rw [if_pos (by assumption)]
        | (rw [if_neg (by assumption), if_neg (by assumption)])
        | (rw [if_neg (by assumption), if_pos (by assumption)])
        | (rw [if_pos (by omega)])
        | (rw [if_neg (by omega), if_neg (by omega)])
        | (rw [if_neg (by omega), if_pos (by omega)])
    · refine PW.iconst dX0_surely_35 ?_
      refine PW.goto 40 dX0_surely_36 (by decide) ?_
      refine PW.iret rfl rfl dX0_surely_40 ⟨rfl, ret_eq ?_, _, rfl⟩
      unfold dqG
      first
        | rw [if_pos (by assumption)]
        | (rw [if_neg (by assumption), if_neg (by assumption)])
        | (rw [if_neg (by assumption), if_pos (by assumption)])
        | (rw [if_pos (by omega)])
        | (rw [if_neg (by omega), if_neg (by omega)])
        | (rw [if_neg (by omega), if_pos (by omega)])
  · refine PW.iconst dX0_surely_21 ?_
    refine PW.iret rfl rfl dX0_surely_22 ⟨rfl, ret_eq ?_, _, rfl⟩
    unfold dqG
    first
      | rw [if_pos (by assumption)]
      | (rw [if_neg (by assumption), if_neg (by assumption)])
      | (rw [if_neg (by assumption), if_pos (by assumption)])
      | (rw [if_pos (by omega)])
      | (rw [if_neg (by omega), if_neg (by omega)])
      | (rw [if_neg (by omega), if_pos (by omega)])
theorem brk_in {G : GT} {S : Shp} {σ : Sto} {a b : Nat} {p : Int} {Q : Option Value → Shp → Sto → Prop} (hA : IsAge S a) (hw : wOk (σ (a + 1))) (hB : IsTale S b) (hT : taOk σ b) (hp : 0 ≤ p ∧ p < 8) (hK : PW (fm G mX0_brokenBy 4 0 0 Q) G S σ 0 0 66 [(0, .ref a), (1, .ref b), (2, .int (iI (smF (fun p => smF (fun q => if bkP (σ (a + 1)) (birF (σ (b + 1)) (σ b 2)) p q then σ (a + 1) (8 * p + q) else 0) 8) (p + 1)))), (3, .int (iI p)), (4, .int (iI 8))] []) : ∀ (t : Nat) (i : Int), 0 ≤ i → i ≤ 8 → 8 - i < t → PW (fm G mX0_brokenBy 4 0 0 Q) G S (σ) 0 0 19 [(0, .ref a), (1, .ref b), (2, .int (iI (smF (fun p => smF (fun q => if bkP (σ (a + 1)) (birF (σ (b + 1)) (σ b 2)) p q then σ (a + 1) (8 * p + q) else 0) 8) p + smF (fun q => if bkP (σ (a + 1)) (birF (σ (b + 1)) (σ b 2)) p q then σ (a + 1) (8 * p + q) else 0) i))), (3, .int (iI (p))), (4, .int (iI (i)))] [] := by
  obtain ⟨hA0, hA1, hA2⟩ := id hA
  obtain ⟨hB0, hB1, hB2⟩ := id hB
  have bf : ∀ x y : Int, 0 ≤ x → x < 8 → 0 ≤ y → y ≤ 8 → 0 ≤ smF (fun q => if bkP (σ (a + 1)) (birF (σ (b + 1)) (σ b 2)) x q then σ (a + 1) (8 * x + q) else 0) y ∧ smF (fun q => if bkP (σ (a + 1)) (birF (σ (b + 1)) (σ b 2)) x q then σ (a + 1) (8 * x + q) else 0) y ≤ 19008 := fun x y x0 x1 y0 y1 => by
    have := smF_b (f := (fun q => if bkP (σ (a + 1)) (birF (σ (b + 1)) (σ b 2)) x q then σ (a + 1) (8 * x + q) else 0)) (lo := 0) (hi := 2376) y0 (fun q q0 q1 => by
      try dsimp only
      split
      · exact hw _ (by omega) (by omega)
      · omega)
    omega
  have bo : ∀ x : Int, 0 ≤ x → x ≤ 8 → 0 ≤ smF (fun p => smF (fun q => if bkP (σ (a + 1)) (birF (σ (b + 1)) (σ b 2)) p q then σ (a + 1) (8 * p + q) else 0) 8) x ∧ smF (fun p => smF (fun q => if bkP (σ (a + 1)) (birF (σ (b + 1)) (σ b 2)) p q then σ (a + 1) (8 * p + q) else 0) 8) x ≤ 160000 := fun x x0 x1 => by
    have := smF_b (f := (fun p => smF (fun q => if bkP (σ (a + 1)) (birF (σ (b + 1)) (σ b 2)) p q then σ (a + 1) (8 * p + q) else 0) 8)) (lo := 0) (hi := 19008) x0 (fun q q0 q1 => bf q 8 q0 (by omega) (by omega) (by omega))
    omega
  intro t
  induction t with
  | zero => intro i h1 h2 h3; omega
  | succ t ih =>
    intro i h1 h2 h3
    have r1 := birF_b (σ (b + 1)) p hT.1
    have r2 := birF_b (σ (b + 1)) i hT.1
    have s1 := bo p (by omega) (by omega)
    have s2 := bf p i (by omega) (by omega) (by omega) (by omega)
    refine PW.iload dX0_brokenBy_19 rfl ?_
    refine PW.bipush (by decide) dX0_brokenBy_21 ?_
    refine PW.icmp_ge 66 dX0_brokenBy_23 (by decide) (by first | assumption | (unfold inR; omega)) (by first | assumption | (unfold inR; omega)) (fun h23 => ?_) (fun h23 => ?_)
    · have hi : i = 8 := by omega
      subst hi
      rw [smF_s _ hp.1] at hK
      exact hK
    · refine PW.aload_n dX0_brokenBy_26 rfl ?_
      refine PW.iload dX0_brokenBy_27 rfl ?_
      refine PW.callVr (c_X8_birthOf hB hT (by unfold inR; omega)) cv_X8_birthOf lk_X0_30 (by first | assumption | exact And.left (by assumption)) dX0_brokenBy_29 rfl rfl rfl rfl ?_
      refine PW.iconst dX0_brokenBy_32 ?_
      refine PW.icmp_eq 60 dX0_brokenBy_33 (by decide) (by first | assumption | (unfold inR; omega)) (by first | assumption | (unfold inR; omega)) (fun h33 => ?_) (fun h33 => ?_)
      · refine PW.iinc [(0, _), (1, _), (2, _), (3, _), (4, _)] dX0_brokenBy_60 rfl rfl (Nat.le_of_ble_eq_true rfl) ?_
        refine PW.goto 19 dX0_brokenBy_63 (by decide) ?_
        have e2 := ih (i + 1) (by omega) (by omega) (by omega)
        rw [smF_s (fun q => if bkP (σ (a + 1)) (birF (σ (b + 1)) (σ b 2)) p q then σ (a + 1) (8 * p + q) else 0) h1] at e2
        first
          | (rw [if_pos ⟨by assumption, by omega⟩, ← Int.add_assoc] at e2; exact e2)
          | (rw [if_neg (fun q => by first | exact q.1 (by assumption) | (have q2 := q.2; omega)), Int.add_zero] at e2; exact e2)
      · refine PW.aload_n dX0_brokenBy_36 rfl ?_
        refine PW.iload_n dX0_brokenBy_37 rfl ?_
        refine PW.callVr (c_X8_birthOf hB hT (by unfold inR; omega)) cv_X8_birthOf lk_X0_30 (by first | assumption | exact And.left (by assumption)) dX0_brokenBy_38 rfl rfl rfl rfl ?_
        refine PW.aload_n dX0_brokenBy_41 rfl ?_
        refine PW.iload dX0_brokenBy_42 rfl ?_
        refine PW.callVr (c_X8_birthOf hB hT (by unfold inR; omega)) cv_X8_birthOf lk_X0_30 (by first | assumption | exact And.left (by assumption)) dX0_brokenBy_44 rfl rfl rfl rfl ?_
        refine PW.icmp_le 60 dX0_brokenBy_47 (by decide) (by first | assumption | (unfold inR; omega)) (by first | assumption | (unfold inR; omega)) (fun h47 => ?_) (fun h47 => ?_)
        · refine PW.iinc [(0, _), (1, _), (2, _), (3, _), (4, _)] dX0_brokenBy_60 rfl rfl (Nat.le_of_ble_eq_true rfl) ?_
          refine PW.goto 19 dX0_brokenBy_63 (by decide) ?_
          have e2 := ih (i + 1) (by omega) (by omega) (by omega)
          rw [smF_s (fun q => if bkP (σ (a + 1)) (birF (σ (b + 1)) (σ b 2)) p q then σ (a + 1) (8 * p + q) else 0) h1] at e2
          first
            | (rw [if_pos ⟨by assumption, by omega⟩, ← Int.add_assoc] at e2; exact e2)
            | (rw [if_neg (fun q => by first | exact q.1 (by assumption) | (have q2 := q.2; omega)), Int.add_zero] at e2; exact e2)
        · refine PW.iload_n dX0_brokenBy_50 rfl ?_
          refine PW.aload_n dX0_brokenBy_51 rfl ?_
          refine PW.iload_n dX0_brokenBy_52 rfl ?_
          refine PW.iload dX0_brokenBy_53 rfl ?_
          refine PW.callVr (c_X0_weight (by assumption) (by omega) (by omega)) cv_X0_weight lk_X0_36 (by first | assumption | exact And.left (by assumption)) dX0_brokenBy_55 rfl rfl rfl rfl ?_
          refine PW.iadd dX0_brokenBy_58 ?_
          refine PW.istore_n [(0, _), (1, _), (2, _), (3, _), (4, _)] dX0_brokenBy_59 rfl (Nat.le_of_ble_eq_true rfl) ?_
          refine PW.iinc [(0, _), (1, _), (2, _), (3, _), (4, _)] dX0_brokenBy_60 rfl rfl (Nat.le_of_ble_eq_true rfl) ?_
          refine PW.goto 19 dX0_brokenBy_63 (by decide) ?_
          have e2 := ih (i + 1) (by omega) (by omega) (by omega)
          rw [smF_s (fun q => if bkP (σ (a + 1)) (birF (σ (b + 1)) (σ b 2)) p q then σ (a + 1) (8 * p + q) else 0) h1] at e2
          first
            | (rw [if_pos ⟨by assumption, by omega⟩, ← Int.add_assoc] at e2; exact e2)
            | (rw [if_neg (fun q => by first | exact q.1 (by assumption) | (have q2 := q.2; omega)), Int.add_zero] at e2; exact e2)
theorem brk_out {G : GT} {S : Shp} {σ : Sto} {a b : Nat} {Q : Option Value → Shp → Sto → Prop} (hA : IsAge S a) (hw : wOk (σ (a + 1))) (hB : IsTale S b) (hT : taOk σ b) (hQ : Q (some (.int (iI (bkF (σ (a + 1)) (birF (σ (b + 1)) (σ b 2)))))) S σ) : ∀ (t : Nat) (i : Int), 0 ≤ i → i ≤ 8 → 8 - i < t → PW (fm G mX0_brokenBy 4 0 0 Q) G S (σ) 0 0 10 [(0, .ref a), (1, .ref b), (2, .int (iI (smF (fun p => smF (fun q => if bkP (σ (a + 1)) (birF (σ (b + 1)) (σ b 2)) p q then σ (a + 1) (8 * p + q) else 0) 8) i))), (3, .int (iI (i)))] [] := by
  obtain ⟨hA0, hA1, hA2⟩ := id hA
  obtain ⟨hB0, hB1, hB2⟩ := id hB
  intro t
  induction t with
  | zero => intro i h1 h2 h3; omega
  | succ t ih =>
    intro i h1 h2 h3
    refine PW.iload_n dX0_brokenBy_10 rfl ?_
    refine PW.bipush (by decide) dX0_brokenBy_11 ?_
    refine PW.icmp_ge 72 dX0_brokenBy_13 (by decide) (by first | assumption | (unfold inR; omega)) (by first | assumption | (unfold inR; omega)) (fun h13 => ?_) (fun h13 => ?_)
    · refine PW.iload_n dX0_brokenBy_72 rfl ?_
      have hi : i = 8 := by omega
      subst hi
      exact PW.iret rfl rfl dX0_brokenBy_73 hQ
    · refine PW.iconst dX0_brokenBy_16 ?_
      refine PW.istore [(0, _), (1, _), (2, _), (3, _), (4, _)] dX0_brokenBy_17 rfl (Nat.le_of_ble_eq_true rfl) ?_
      refine PW.st σ rfl ?_
      have kk : PW (fm G mX0_brokenBy 4 0 0 Q) G S σ 0 0 66 [(0, .ref a), (1, .ref b), (2, .int (iI (smF (fun p => smF (fun q => if bkP (σ (a + 1)) (birF (σ (b + 1)) (σ b 2)) p q then σ (a + 1) (8 * p + q) else 0) 8) (i + 1)))), (3, .int (iI i)), (4, .int (iI 8))] [] := by
        refine PW.take 4 ?_
        refine PW.iinc [(0, _), (1, _), (2, _), (3, _)] dX0_brokenBy_66 rfl rfl (Nat.le_of_ble_eq_true rfl) ?_
        refine PW.goto 10 dX0_brokenBy_69 (by decide) ?_
        exact ih (i + 1) (by omega) (by omega) (by omega)
      have e := brk_in hA hw hB hT ⟨h1, by omega⟩ kk 9 0 (by omega) (by omega) (by omega)
      rw [smF_0, Int.add_zero] at e
      exact e
theorem c_X0_brokenBy {G : GT} {S : Shp} {σ : Sto} {a b : Nat} (hA : IsAge S a) (hw : wOk (σ (a + 1))) (hB : IsTale S b) (hT : taOk σ b) : PMet G mX0_brokenBy 4 0 0 [.ref a, .ref b] S σ (isP (some (.int (iI (bkF (σ (a + 1)) (birF (σ (b + 1)) (σ b 2)))))) S σ) := by
  refine PMet.of [(0, .ref a), (1, .ref b)] (by decide +kernel) rfl (Nat.le_of_ble_eq_true rfl) ?_
  refine PW.aload_n dX0_brokenBy_0 rfl ?_
  refine PW.ifnonnull 6 dX0_brokenBy_1 (by decide) ?_
  refine PW.iconst dX0_brokenBy_6 ?_
  refine PW.istore_n [(0, _), (1, _), (2, _)] dX0_brokenBy_7 rfl (Nat.le_of_ble_eq_true rfl) ?_
  refine PW.iconst dX0_brokenBy_8 ?_
  refine PW.istore_n [(0, _), (1, _), (2, _), (3, _)] dX0_brokenBy_9 rfl (Nat.le_of_ble_eq_true rfl) ?_
  exact brk_out hA hw hB hT ⟨rfl, rfl, rfl⟩ 9 0 (by omega) (by omega) (by omega)

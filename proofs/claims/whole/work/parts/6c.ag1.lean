theorem smF_add2 (f g : Int → Int) : ∀ k : Nat, smF (fun q => f q + g q) k = smF f k + smF g k
  | 0 => rfl
  | k + 1 => by
    rw [show ((k + 1 : Nat) : Int) = (k : Int) + 1 by omega, smF_s _ (by omega), smF_s _ (by omega), smF_s _ (by omega), smF_add2 f g k]
    omega
theorem smF_neg (f : Int → Int) : ∀ k : Nat, smF (fun q => - f q) k = - smF f k
  | 0 => rfl
  | k + 1 => by
    rw [show ((k + 1 : Nat) : Int) = (k : Int) + 1 by omega, smF_s _ (by omega), smF_s _ (by omega), smF_neg f k]
    omega
theorem smF_one (v a : Int) : ∀ k : Nat, smF (fun q => if q = a then v else 0) k = if 0 ≤ a ∧ a < k then v else 0
  | 0 => by rw [if_neg (by omega)]; rfl
  | k + 1 => by
    rw [show ((k + 1 : Nat) : Int) = (k : Int) + 1 by omega, smF_s _ (by omega), smF_one v a k]
    by_cases h : (k : Int) = a
    · rw [if_pos h, if_neg (by omega), if_pos (by omega)]
      omega
    · rw [if_neg h]
      by_cases h2 : 0 ≤ a ∧ a < (k : Int)
      · rw [if_pos h2, if_pos (by omega)]
        omega
      · rw [if_neg h2, if_neg (by omega)]
        rfl
theorem smF_zero : ∀ k : Nat, smF (fun _ => 0) k = 0
  | 0 => rfl
  | k + 1 => by
    rw [show ((k + 1 : Nat) : Int) = (k : Int) + 1 by omega, smF_s _ (by omega), smF_zero k]
    rfl
/-- a place of the model's claims in a pair of beds -/
abbrev pairW (O N W : Int → Int) (a b : Int) : Int → Int := fun c => if O c = a ∧ N c = b then W c else 0
def mAg (τ : Sto) (m : Nat) (w : Int → Int) (n : Int) : Prop := τ m 29 = n ∧ (0 ≤ n ∧ n ≤ 24) ∧ (∀ c, 0 ≤ c → c < n → (0 ≤ τ (m + 21) c ∧ τ (m + 21) c < 8) ∧ (0 ≤ τ (m + 22) c ∧ τ (m + 22) c < 8) ∧ ¬ τ (m + 21) c = τ (m + 22) c ∧ (1 ≤ τ (m + 23) c ∧ τ (m + 23) c ≤ 99)) ∧ ∀ a b, 0 ≤ a → a < 8 → 0 ≤ b → b < 8 → w (8 * a + b) = smF (pairW (τ (m + 21)) (τ (m + 22)) (τ (m + 23)) a b) n
theorem mAg_congr {σ τ : Sto} {m : Nat} {w : Int → Int} {n : Int} (e0 : τ m 29 = σ m 29) (e1 : τ (m + 21) = σ (m + 21)) (e2 : τ (m + 22) = σ (m + 22)) (e3 : τ (m + 23) = σ (m + 23)) (h : mAg σ m w n) : mAg τ m w n := by
  unfold mAg
  rw [e0, e1, e2, e3]
  exact h
/-- what a bed breaks when it comes ahead of those that are to come -/
def crF (w : Int → Int) (n s b : Int) : Int := smF (fun q => if inS s q then 0 else w (8 * q + b)) n
theorem cost_eq {O N W w : Int → Int} {n s b : Int} (hn : 0 ≤ n ∧ n ≤ 8) (hb : 0 ≤ b ∧ b < 8) : ∀ k : Nat, (∀ c : Int, 0 ≤ c → c < k → 0 ≤ O c ∧ O c < 8) → (∀ q, 0 ≤ q → q < 8 → w (8 * q + b) = smF (pairW O N W q b) k) → smF (fun c => if N c = b ∧ O c < n ∧ ¬ inS s (O c) then W c else 0) k = crF w n s b := by
  have key : ∀ k : Nat, (∀ c : Int, 0 ≤ c → c < k → 0 ≤ O c ∧ O c < 8) → smF (fun c => if N c = b ∧ O c < n ∧ ¬ inS s (O c) then W c else 0) k = smF (fun q => if inS s q then 0 else smF (pairW O N W q b) k) n := by
    intro k
    induction k with
    | zero =>
      intro _
      have h := smF_zero n.toNat
      rw [show ((n.toNat : Nat) : Int) = n by omega] at h
      rw [show smF (fun q => if inS s q then 0 else smF (pairW O N W q b) ((0 : Nat) : Int)) n = smF (fun _ => 0) n from smF_congr fun q _ _ => by split <;> rfl, h]
      rfl
    | succ k ih =>
      intro hO
      have hk := hO (k : Int) (by omega) (by omega)
      rw [show ((k + 1 : Nat) : Int) = (k : Int) + 1 by omega, smF_s _ (by omega), ih (fun c c0 c1 => hO c c0 (by omega))]
      have e1 : smF (fun q => if inS s q then 0 else smF (pairW O N W q b) ((k : Int) + 1)) n = smF (fun q => (if inS s q then 0 else smF (pairW O N W q b) k) + (if q = O k then (if N k = b ∧ ¬ inS s (O k) then W k else 0) else 0)) n := smF_congr fun q q0 q1 => by
        rw [smF_s _ (by omega)]
        by_cases hq : q = O (k : Int)
        · rw [if_pos hq, hq]
          by_cases hs : inS s (O (k : Int))
          · rw [if_pos hs, if_pos hs, if_neg (fun r => r.2 hs)]
            rfl
          · rw [if_neg hs, if_neg hs]
            congr 1
            by_cases hN : N (k : Int) = b
            · rw [if_pos ⟨hN, hs⟩]
              exact if_pos ⟨rfl, hN⟩
            · rw [if_neg (fun r => hN r.1)]
              exact if_neg (fun r => hN r.2)
        · rw [if_neg hq]
          by_cases hs : inS s q
          · rw [if_pos hs, if_pos hs]
            rfl
          · rw [if_neg hs, if_neg hs]
            congr 1
            exact if_neg (fun r => hq r.1.symm)
      have e2 := smF_add2 (fun q => if inS s q then 0 else smF (pairW O N W q b) k) (fun q => if q = O k then (if N k = b ∧ ¬ inS s (O k) then W k else 0) else 0) n.toNat
      have e3 := smF_one (if N k = b ∧ ¬ inS s (O k) then W k else 0) (O k) n.toNat
      rw [show ((n.toNat : Nat) : Int) = n by omega] at e2 e3
      rw [e1, e2, e3]
      congr 1
      by_cases hl : O (k : Int) < n
      · rw [if_pos (show 0 ≤ O (k : Int) ∧ O (k : Int) < n from ⟨hk.1, hl⟩)]
        by_cases hN : N (k : Int) = b ∧ ¬ inS s (O k)
        · rw [if_pos (show N (k : Int) = b ∧ O (k : Int) < n ∧ ¬ inS s (O k) from ⟨hN.1, hl, hN.2⟩), if_pos hN]
        · rw [if_neg (show ¬ (N (k : Int) = b ∧ O (k : Int) < n ∧ ¬ inS s (O k)) from fun r => hN ⟨r.1, r.2.2⟩), if_neg hN]
      · rw [if_neg (show ¬ (N (k : Int) = b ∧ O (k : Int) < n ∧ ¬ inS s (O k)) from fun r => hl r.2.1), if_neg (show ¬ (0 ≤ O (k : Int) ∧ O (k : Int) < n) from fun r => hl r.2)]
  intro k hO hw
  rw [key k hO]
  unfold crF
  exact smF_congr fun q q0 q1 => by rw [hw q q0 (by omega)]
theorem crF_b {w : Int → Int} (h : wOk w) {n s b : Int} (hn : 0 ≤ n ∧ n ≤ 8) (hb : 0 ≤ b ∧ b < 8) : 0 ≤ crF w n s b ∧ crF w n s b ≤ 19008 := by
  have := smF_b (f := fun q => if inS s q then 0 else w (8 * q + b)) (lo := 0) (hi := 2376) hn.1 (fun q q0 q1 => by
    try dsimp only
    split
    · omega
    · exact h _ (by omega) (by omega))
  unfold crF
  omega
theorem pair_0 {O N W : Int → Int} : ∀ k : Nat, (∀ c : Int, 0 ≤ c → c < k → 1 ≤ W c ∧ W c ≤ 99) → ∀ a b, 0 ≤ smF (pairW O N W a b) k ∧ smF (pairW O N W a b) k ≤ 99 * k := by
  intro k h a b
  have := smF_b (f := pairW O N W a b) (lo := 0) (hi := 99) (i := (k : Int)) (by omega) (fun c c0 c1 => by
    have := h c c0 c1
    show 0 ≤ (if O c = a ∧ N c = b then W c else 0) ∧ (if O c = a ∧ N c = b then W c else 0) ≤ 99
    split <;> omega)
  omega
theorem mAg_w {τ : Sto} {m : Nat} {w : Int → Int} {n : Int} (h : mAg τ m w n) : wOk w ∧ ∀ a, 0 ≤ a → a < 8 → w (8 * a + a) = 0 := by
  obtain ⟨h0, h1, h2, h3⟩ := h
  refine ⟨fun j j0 j1 => ?_, fun a a0 a1 => ?_⟩
  · have e := h3 (j / 8) (j % 8) (by omega) (by omega) (by omega) (by omega)
    rw [show 8 * (j / 8) + j % 8 = j by omega] at e
    have := pair_0 (O := τ (m + 21)) (N := τ (m + 22)) (W := τ (m + 23)) n.toNat (fun c c0 c1 => (h2 c c0 (by omega)).2.2.2) (j / 8) (j % 8)
    rw [show ((n.toNat : Nat) : Int) = n by omega] at this
    omega
  · rw [h3 a a a0 a1 a0 a1]
    have h4 := smF_zero n.toNat
    rw [show ((n.toNat : Nat) : Int) = n by omega] at h4
    rw [show smF (pairW (τ (m + 21)) (τ (m + 22)) (τ (m + 23)) a a) n = smF (fun _ => 0) n from smF_congr fun c c0 c1 => if_neg (fun r => (h2 c c0 c1).2.2.1 (r.1.trans r.2.symm))]
    exact h4
theorem mAg_ad {σ τ : Sto} {m : Nat} {w : Int → Int} {n a b v : Int} (h : mAg σ m w n) (hn : n < 24) (hab : (0 ≤ a ∧ a < 8) ∧ (0 ≤ b ∧ b < 8) ∧ ¬ a = b ∧ (1 ≤ v ∧ v ≤ 99)) (e0 : τ m 29 = n + 1) (e1 : τ (m + 21) = up1 (σ (m + 21)) n a) (e2 : τ (m + 22) = up1 (σ (m + 22)) n b) (e3 : τ (m + 23) = up1 (σ (m + 23)) n v) : mAg τ m (up1 w (8 * a + b) (w (8 * a + b) + v)) (n + 1) := by
  obtain ⟨h0, h1, h2, h3⟩ := h
  refine ⟨e0, by omega, fun c c0 c1 => ?_, fun p q p0 p1 q0 q1 => ?_⟩
  · rw [e1, e2, e3]
    by_cases hc : c = n
    · rw [hc, up1_same, up1_same, up1_same]
      exact hab
    · rw [up1_ne hc, up1_ne hc, up1_ne hc]
      exact h2 c c0 (by omega)
  · rw [e1, e2, e3, smF_s _ (by omega)]
    have e4 : smF (pairW (up1 (σ (m + 21)) n a) (up1 (σ (m + 22)) n b) (up1 (σ (m + 23)) n v) p q) n = smF (pairW (σ (m + 21)) (σ (m + 22)) (σ (m + 23)) p q) n := smF_congr fun c c0 c1 => by
      show (if up1 _ n a c = p ∧ up1 _ n b c = q then up1 _ n v c else 0) = _
      rw [up1_ne (by omega), up1_ne (by omega), up1_ne (by omega)]
    rw [e4]
    show _ = _ + (if up1 _ n a n = p ∧ up1 _ n b n = q then up1 _ n v n else 0)
    rw [up1_same, up1_same, up1_same]
    by_cases hq : 8 * p + q = 8 * a + b
    · rw [hq, up1_same, if_pos (by omega), ← h3 p q p0 p1 q0 q1, hq]
    · rw [up1_ne hq, if_neg (by omega), ← h3 p q p0 p1 q0 q1, Int.add_zero]
theorem c_X12_claim {G : GT} {S : Shp} {σ : Sto} {m : Nat} {a b v : Int} {w : Int → Int} {cn : Int} (hA : IsMod S m) (hg : mAg σ m w cn) (ra : inR a) (rb : inR b) (rv : inR v) : PMet G mX12_claim 1 0 0 [.ref m, .int (iI a), .int (iI b), .int (iI v)] S σ (fun r S' τ => S' = S ∧ r = some (.int (iI (if ¬ ((0 ≤ a ∧ a < 8) ∧ (0 ≤ b ∧ b < 8) ∧ ¬ a = b ∧ (1 ≤ v ∧ v ≤ 99)) then -100002 else if 24 ≤ cn then -100004 else cn))) ∧ (∀ q, q < m ∨ (m < q ∧ q < m + 21) ∨ m + 23 < q → τ q = σ q) ∧ (∀ j, j ≠ 29 → τ m j = σ m j) ∧ mAg τ m (if ((0 ≤ a ∧ a < 8) ∧ (0 ≤ b ∧ b < 8) ∧ ¬ a = b ∧ (1 ≤ v ∧ v ≤ 99)) ∧ cn < 24 then up1 w (8 * a + b) (w (8 * a + b) + v) else w) (if ((0 ≤ a ∧ a < 8) ∧ (0 ≤ b ∧ b < 8) ∧ ¬ a = b ∧ (1 ≤ v ∧ v ≤ 99)) ∧ cn < 24 then cn + 1 else cn)) := by
  obtain ⟨hM0, hM1, hM2, hM3, hM4, hM5, hM6, hM7, hM8, hM9, hM10, hM11, hM12, hM13, hM14, hM15, hM16, hM17, hM18, hM19, hM20, hM21, hM22, hM23, hM24, hM25, hM26, hM27, hM28, hM29, hM30, hM31, hM32, hM33, hM34⟩ := id hA
  have hgn := hg.1
  have hgb := hg.2.1
  have hgc := hg.2.2.1
  refine PMet.of [(0, .ref m), (1, .int (iI (a))), (2, .int (iI (b))), (3, .int (iI (v)))] (by decide +kernel) rfl (Nat.le_of_ble_eq_true rfl) ?_
  refine PW.iload_n dX12_claim_0 rfl ?_
  refine PW.i2l (by first | assumption | (unfold inR; omega)) dX12_claim_1 ?_
  refine PW.lconst (z := 0) rfl dX12_claim_2 ?_
  refine PW.ldc2 (7) kc_X12_298 rfl rfl dX12_claim_3 ?_
  refine PW.callSr (c_X12_in (inL_R ra) (by unfold inL; omega) (by unfold inL; omega)) cs_X12_in lk_X12_134 dX12_claim_6 rfl rfl rfl ?_
  refine PW.if_eqB 41 dX12_claim_9 (by decide) (fun h9 => ?_) (fun h9 => ?_)
  · refine PW.ldc (-100002) kc_X12_195 rfl rfl dX12_claim_41 ?_
    exact PW.iret rfl rfl dX12_claim_43 ⟨rfl, ret_eq (if_pos (by omega)).symm, fun _ _ => rfl, fun _ _ => rfl, by rw [if_neg (by omega), if_neg (by omega)]; exact hg⟩
  · refine PW.iload_n dX12_claim_12 rfl ?_
    refine PW.i2l (by first | assumption | (unfold inR; omega)) dX12_claim_13 ?_
    refine PW.lconst (z := 0) rfl dX12_claim_14 ?_
    refine PW.ldc2 (7) kc_X12_298 rfl rfl dX12_claim_15 ?_
    refine PW.callSr (c_X12_in (inL_R rb) (by unfold inL; omega) (by unfold inL; omega)) cs_X12_in lk_X12_134 dX12_claim_18 rfl rfl rfl ?_
    refine PW.if_eqB 41 dX12_claim_21 (by decide) (fun h21 => ?_) (fun h21 => ?_)
    · refine PW.ldc (-100002) kc_X12_195 rfl rfl dX12_claim_41 ?_
      exact PW.iret rfl rfl dX12_claim_43 ⟨rfl, ret_eq (if_pos (by omega)).symm, fun _ _ => rfl, fun _ _ => rfl, by rw [if_neg (by omega), if_neg (by omega)]; exact hg⟩
    · refine PW.iload_n dX12_claim_24 rfl ?_
      refine PW.iload_n dX12_claim_25 rfl ?_
      refine PW.icmp_eq 41 dX12_claim_26 (by decide) (by first | assumption | (unfold inR; omega)) (by first | assumption | (unfold inR; omega)) (fun h26 => ?_) (fun h26 => ?_)
      · refine PW.ldc (-100002) kc_X12_195 rfl rfl dX12_claim_41 ?_
        exact PW.iret rfl rfl dX12_claim_43 ⟨rfl, ret_eq (if_pos (by omega)).symm, fun _ _ => rfl, fun _ _ => rfl, by rw [if_neg (by omega), if_neg (by omega)]; exact hg⟩
      · refine PW.iload_n dX12_claim_29 rfl ?_
        refine PW.i2l (by first | assumption | (unfold inR; omega)) dX12_claim_30 ?_
        refine PW.lconst (z := 1) rfl dX12_claim_31 ?_
        refine PW.ldc2 (99) kc_X12_368 rfl rfl dX12_claim_32 ?_
        refine PW.callSr (c_X12_in (inL_R rv) (by unfold inL; omega) (by unfold inL; omega)) cs_X12_in lk_X12_134 dX12_claim_35 rfl rfl rfl ?_
        refine PW.if_neB 44 dX12_claim_38 (by decide) (fun h38 => ?_) (fun h38 => ?_)
        · refine PW.aload_n dX12_claim_44 rfl ?_
          refine PW.getI 29 fl_X12_230 rfl (by assumption) rfl rfl dX12_claim_45 ?_
          refine PW.top (cn) (by exact hgn) ?_
          refine PW.bipush (by decide) dX12_claim_48 ?_
          refine PW.icmp_ne 56 dX12_claim_50 (by decide) (by first | assumption | (unfold inR; omega)) (by first | assumption | (unfold inR; omega)) (fun h50 => ?_) (fun h50 => ?_)
          · refine PW.aload_n dX12_claim_56 rfl ?_
            refine PW.getR fl_X12_76 rfl (by assumption) rfl dX12_claim_57 ?_
            refine PW.aload_n dX12_claim_60 rfl ?_
            refine PW.getI 29 fl_X12_230 rfl (by assumption) rfl rfl dX12_claim_61 ?_
            refine PW.top (cn) (by exact hgn) ?_
            refine PW.iload_n dX12_claim_64 rfl ?_
            refine PW.iastore (by assumption) (by first | assumption | (unfold inR; omega)) (by omega) (by omega) dX12_claim_65 ?_
            refine PW.aload_n dX12_claim_66 rfl ?_
            refine PW.getR fl_X12_79 rfl (by assumption) rfl dX12_claim_67 ?_
            refine PW.aload_n dX12_claim_70 rfl ?_
            refine PW.getI 29 fl_X12_230 rfl (by assumption) rfl rfl dX12_claim_71 ?_
            refine PW.top (cn) (by rw [upS_ne (by omega)]; exact hgn) ?_
            refine PW.iload_n dX12_claim_74 rfl ?_
            refine PW.iastore (by assumption) (by first | assumption | (unfold inR; omega)) (by omega) (by omega) dX12_claim_75 ?_
            refine PW.aload_n dX12_claim_76 rfl ?_
            refine PW.getR fl_X12_82 rfl (by assumption) rfl dX12_claim_77 ?_
            refine PW.aload_n dX12_claim_80 rfl ?_
            refine PW.getI 29 fl_X12_230 rfl (by assumption) rfl rfl dX12_claim_81 ?_
            refine PW.top (cn) (by rw [upS_ne (by omega), upS_ne (by omega)]; exact hgn) ?_
            refine PW.iload_n dX12_claim_84 rfl ?_
            refine PW.iastore (by assumption) (by first | assumption | (unfold inR; omega)) (by omega) (by omega) dX12_claim_85 ?_
            refine PW.aload_n dX12_claim_86 rfl ?_
            refine PW.dup rfl dX12_claim_87 ?_
            refine PW.getI 29 fl_X12_230 rfl (by assumption) rfl rfl dX12_claim_88 ?_
            refine PW.top (cn) (by rw [upS_ne (by omega), upS_ne (by omega), upS_ne (by omega)]; exact hgn) ?_
            refine PW.iconst dX12_claim_91 ?_
            refine PW.iadd dX12_claim_92 ?_
            refine PW.putI 29 fl_X12_230 rfl (fun h => absurd h (by decide)) (by assumption) rfl rfl rfl rfl dX12_claim_93 ?_
            refine PW.aload_n dX12_claim_96 rfl ?_
            refine PW.getI 29 fl_X12_230 rfl (by assumption) rfl rfl dX12_claim_97 ?_
            refine PW.top (cn + 1) (by rw [upS_same, up1_same]) ?_
            refine PW.iconst dX12_claim_100 ?_
            refine PW.isub dX12_claim_101 ?_
            refine PW.iret rfl rfl dX12_claim_102 ⟨rfl, ret_eq (Eq.symm ((if_neg (by omega)).trans ((if_neg (by omega)).trans (by omega)))), fun q hq => ?_, fun j hj => ?_, ?_⟩
            · rw [upS_ne (by omega), upS_ne (by omega), upS_ne (by omega), upS_ne (by omega)]
            · rw [upS_same, up1_ne hj, upS_ne (by omega), upS_ne (by omega), upS_ne (by omega)]
            · rw [if_pos (by omega), if_pos (by omega)]
              refine mAg_ad hg (by omega) (by omega) (by rw [upS_same, up1_same]) ?_ ?_ ?_
              · rw [upS_ne (by omega), upS_ne (by omega), upS_ne (by omega), upS_same]
              · rw [upS_ne (by omega), upS_ne (by omega), upS_same, upS_ne (by omega)]
              · rw [upS_ne (by omega), upS_same, upS_ne (by omega), upS_ne (by omega)]
          · refine PW.ldc (-100004) kc_X12_196 rfl rfl dX12_claim_53 ?_
            exact PW.iret rfl rfl dX12_claim_55 ⟨rfl, ret_eq (Eq.symm ((if_neg (by omega)).trans (if_pos (by omega)))), fun _ _ => rfl, fun _ _ => rfl, by rw [if_neg (by omega), if_neg (by omega)]; exact hg⟩
        · refine PW.ldc (-100002) kc_X12_195 rfl rfl dX12_claim_41 ?_
          exact PW.iret rfl rfl dX12_claim_43 ⟨rfl, ret_eq (if_pos (by omega)).symm, fun _ _ => rfl, fun _ _ => rfl, by rw [if_neg (by omega), if_neg (by omega)]; exact hg⟩
theorem mo_cost_loop {G : GT} {S : Shp} {σ : Sto} {m : Nat} {n s b : Int} {w : Int → Int} {cn : Int} {Q : Option Value → Shp → Sto → Prop} (hA : IsMod S m) (hg : mAg σ m w cn) (hn : 0 ≤ n ∧ n ≤ 8) (hs : 0 ≤ s ∧ s < 256) (hb : 0 ≤ b ∧ b < 8) (hQ : Q (some (.int (iI (smF (fun c => if σ (m + 22) c = b ∧ σ (m + 21) c < n ∧ ¬ inS s (σ (m + 21) c) then σ (m + 23) c else 0) cn)))) S σ) : ∀ (t : Nat) (i : Int), 0 ≤ i → i ≤ cn → cn - i < t → PW (fm G mX12_costOf 0 0 0 Q) G S (σ) 0 0 6 [(0, .ref m), (1, .int (iI (n))), (2, .int (iI (s))), (3, .int (iI (b))), (4, .int (iI (smF (fun c => if σ (m + 22) c = b ∧ σ (m + 21) c < n ∧ ¬ inS s (σ (m + 21) c) then σ (m + 23) c else 0) i))), (5, .int (iI (i)))] [] := by
  obtain ⟨hM0, hM1, hM2, hM3, hM4, hM5, hM6, hM7, hM8, hM9, hM10, hM11, hM12, hM13, hM14, hM15, hM16, hM17, hM18, hM19, hM20, hM21, hM22, hM23, hM24, hM25, hM26, hM27, hM28, hM29, hM30, hM31, hM32, hM33, hM34⟩ := id hA
  have hgn := hg.1
  have hgb := hg.2.1
  have hgc := hg.2.2.1
  intro t
  induction t with
  | zero => intro i h1 h2 h3; omega
  | succ t ih =>
    intro i h1 h2 h3
    have hx := smF_b (f := (fun c => if σ (m + 22) c = b ∧ σ (m + 21) c < n ∧ ¬ inS s (σ (m + 21) c) then σ (m + 23) c else 0)) (lo := 0) (hi := 99) h1 (fun c c0 c1 => by
      have := (hgc c c0 (by omega)).2.2.2
      try dsimp only
      split <;> omega)
    refine PW.iload dX12_costOf_6 rfl ?_
    refine PW.aload_n dX12_costOf_8 rfl ?_
    refine PW.getI 29 fl_X12_230 rfl (by assumption) rfl rfl dX12_costOf_9 ?_
    refine PW.top (cn) (by exact hgn) ?_
    refine PW.icmp_ge 85 dX12_costOf_12 (by decide) (by first | assumption | (unfold inR; omega)) (by first | assumption | (unfold inR; omega)) (fun h12 => ?_) (fun h12 => ?_)
    · refine PW.iload dX12_costOf_85 rfl ?_
      have hi : i = cn := by omega
      subst hi
      exact PW.iret rfl rfl dX12_costOf_87 hQ
    · refine PW.aload_n dX12_costOf_15 rfl ?_
      refine PW.getR fl_X12_79 rfl (by assumption) rfl dX12_costOf_16 ?_
      refine PW.iload dX12_costOf_19 rfl ?_
      have hci := hgc i h1 (by omega)
      refine PW.iaload (by assumption) (by unfold inR; omega) (by omega) (by omega) dX12_costOf_21 ?_
      refine PW.top (σ (m + 22) i) (by rfl) ?_
      refine PW.iload_n dX12_costOf_22 rfl ?_
      refine PW.icmp_ne 55 dX12_costOf_23 (by decide) (by first | assumption | (unfold inR; omega)) (by first | assumption | (unfold inR; omega)) (fun h23 => ?_) (fun h23 => ?_)
      · refine PW.iconst dX12_costOf_55 ?_
        refine PW.istore [(0, _), (1, _), (2, _), (3, _), (4, _), (5, _), (6, _)] dX12_costOf_56 rfl (Nat.le_of_ble_eq_true rfl) ?_
        refine PW.iload dX12_costOf_58 rfl ?_
        refine PW.iload dX12_costOf_60 rfl ?_
        refine PW.if_eq 75 dX12_costOf_62 (by decide) (by first | assumption | (unfold inR; omega)) (fun h62 => ?_) (fun h62 => ?_)
        · refine PW.iconst dX12_costOf_75 ?_
          refine PW.iadd dX12_costOf_76 ?_
          refine PW.istore [(0, _), (1, _), (2, _), (3, _), (4, _), (5, _), (6, _)] dX12_costOf_77 rfl (Nat.le_of_ble_eq_true rfl) ?_
          refine PW.iinc [(0, _), (1, _), (2, _), (3, _), (4, _), (5, _), (6, _)] dX12_costOf_79 rfl rfl (Nat.le_of_ble_eq_true rfl) ?_
          refine PW.goto 6 dX12_costOf_82 (by decide) ?_
          refine PW.take 6 ?_
          have e := ih (i + 1) (by omega) (by omega) (by omega)
          rw [smF_s _ h1] at e
          first
            | (exfalso; omega)
            | (rw [if_pos (show σ (m + 22) i = b ∧ σ (m + 21) i < n ∧ ¬ inS s (σ (m + 21) i) from ⟨by assumption, by omega, by assumption⟩)] at e
               exact e)
            | (rw [if_neg (show ¬ (σ (m + 22) i = b ∧ σ (m + 21) i < n ∧ ¬ inS s (σ (m + 21) i)) from fun r => by first | exact r.2.2 (by assumption) | (have := r.1; have := r.2.1; omega))] at e
               exact e)
        · refine PW.aload_n dX12_costOf_65 rfl ?_
          refine PW.getR fl_X12_82 rfl (by assumption) rfl dX12_costOf_66 ?_
          refine PW.iload dX12_costOf_69 rfl ?_
          refine PW.iaload (by assumption) (by first | assumption | (unfold inR; omega)) (by omega) (by omega) dX12_costOf_71 ?_
          refine PW.goto 76 dX12_costOf_72 (by decide) ?_
          refine PW.iadd dX12_costOf_76 ?_
          refine PW.istore [(0, _), (1, _), (2, _), (3, _), (4, _), (5, _), (6, _)] dX12_costOf_77 rfl (Nat.le_of_ble_eq_true rfl) ?_
          refine PW.iinc [(0, _), (1, _), (2, _), (3, _), (4, _), (5, _), (6, _)] dX12_costOf_79 rfl rfl (Nat.le_of_ble_eq_true rfl) ?_
          refine PW.goto 6 dX12_costOf_82 (by decide) ?_
          refine PW.take 6 ?_
          have e := ih (i + 1) (by omega) (by omega) (by omega)
          rw [smF_s _ h1] at e
          first
            | (exfalso; omega)
            | (rw [if_pos (show σ (m + 22) i = b ∧ σ (m + 21) i < n ∧ ¬ inS s (σ (m + 21) i) from ⟨by assumption, by omega, by assumption⟩)] at e
               exact e)
            | (rw [if_neg (show ¬ (σ (m + 22) i = b ∧ σ (m + 21) i < n ∧ ¬ inS s (σ (m + 21) i)) from fun r => by first | exact r.2.2 (by assumption) | (have := r.1; have := r.2.1; omega))] at e
               exact e)
      · refine PW.aload_n dX12_costOf_26 rfl ?_
        refine PW.getR fl_X12_76 rfl (by assumption) rfl dX12_costOf_27 ?_
        refine PW.iload dX12_costOf_30 rfl ?_
        refine PW.iaload (by assumption) (by first | assumption | (unfold inR; omega)) (by omega) (by omega) dX12_costOf_32 ?_
        refine PW.iload_n dX12_costOf_33 rfl ?_
        refine PW.icmp_ge 55 dX12_costOf_34 (by decide) (by first | assumption | (unfold inR; omega)) (by first | assumption | (unfold inR; omega)) (fun h34 => ?_) (fun h34 => ?_)
        · refine PW.iconst dX12_costOf_55 ?_
          refine PW.istore [(0, _), (1, _), (2, _), (3, _), (4, _), (5, _), (6, _)] dX12_costOf_56 rfl (Nat.le_of_ble_eq_true rfl) ?_
          refine PW.iload dX12_costOf_58 rfl ?_
          refine PW.iload dX12_costOf_60 rfl ?_
          refine PW.if_eq 75 dX12_costOf_62 (by decide) (by first | assumption | (unfold inR; omega)) (fun h62 => ?_) (fun h62 => ?_)
          · refine PW.iconst dX12_costOf_75 ?_
            refine PW.iadd dX12_costOf_76 ?_
            refine PW.istore [(0, _), (1, _), (2, _), (3, _), (4, _), (5, _), (6, _)] dX12_costOf_77 rfl (Nat.le_of_ble_eq_true rfl) ?_
            refine PW.iinc [(0, _), (1, _), (2, _), (3, _), (4, _), (5, _), (6, _)] dX12_costOf_79 rfl rfl (Nat.le_of_ble_eq_true rfl) ?_
            refine PW.goto 6 dX12_costOf_82 (by decide) ?_
            refine PW.take 6 ?_
            have e := ih (i + 1) (by omega) (by omega) (by omega)
            rw [smF_s _ h1] at e
            first
              | (exfalso; omega)
              | (rw [if_pos (show σ (m + 22) i = b ∧ σ (m + 21) i < n ∧ ¬ inS s (σ (m + 21) i) from ⟨by assumption, by omega, by assumption⟩)] at e
                 exact e)
              | (rw [if_neg (show ¬ (σ (m + 22) i = b ∧ σ (m + 21) i < n ∧ ¬ inS s (σ (m + 21) i)) from fun r => by first | exact r.2.2 (by assumption) | (have := r.1; have := r.2.1; omega))] at e
                 exact e)
          · refine PW.aload_n dX12_costOf_65 rfl ?_
            refine PW.getR fl_X12_82 rfl (by assumption) rfl dX12_costOf_66 ?_
            refine PW.iload dX12_costOf_69 rfl ?_
            refine PW.iaload (by assumption) (by first | assumption | (unfold inR; omega)) (by omega) (by omega) dX12_costOf_71 ?_
            refine PW.goto 76 dX12_costOf_72 (by decide) ?_
            refine PW.iadd dX12_costOf_76 ?_
            refine PW.istore [(0, _), (1, _), (2, _), (3, _), (4, _), (5, _), (6, _)] dX12_costOf_77 rfl (Nat.le_of_ble_eq_true rfl) ?_
            refine PW.iinc [(0, _), (1, _), (2, _), (3, _), (4, _), (5, _), (6, _)] dX12_costOf_79 rfl rfl (Nat.le_of_ble_eq_true rfl) ?_
            refine PW.goto 6 dX12_costOf_82 (by decide) ?_
            refine PW.take 6 ?_
            have e := ih (i + 1) (by omega) (by omega) (by omega)
            rw [smF_s _ h1] at e
            first
              | (exfalso; omega)
              | (rw [if_pos (show σ (m + 22) i = b ∧ σ (m + 21) i < n ∧ ¬ inS s (σ (m + 21) i) from ⟨by assumption, by omega, by assumption⟩)] at e
                 exact e)
              | (rw [if_neg (show ¬ (σ (m + 22) i = b ∧ σ (m + 21) i < n ∧ ¬ inS s (σ (m + 21) i)) from fun r => by first | exact r.2.2 (by assumption) | (have := r.1; have := r.2.1; omega))] at e
                 exact e)
        · refine PW.iload_n dX12_costOf_37 rfl ?_
          refine PW.aload_n dX12_costOf_38 rfl ?_
          refine PW.getR fl_X12_76 rfl (by assumption) rfl dX12_costOf_39 ?_
          refine PW.iload dX12_costOf_42 rfl ?_
          refine PW.iaload (by assumption) (by first | assumption | (unfold inR; omega)) (by omega) (by omega) dX12_costOf_44 ?_
          refine PW.ishr dX12_costOf_45 ?_
          refine PW.iconst dX12_costOf_46 ?_
          refine PW.iand dX12_costOf_47 ?_
          refine PW.top (b01 (inS s (σ (m + 21) i))) (inS_eq hs hci.1) ?_
          refine PW.if_neB 55 dX12_costOf_48 (by decide) (fun h48 => ?_) (fun h48 => ?_)
          · refine PW.iconst dX12_costOf_55 ?_
            refine PW.istore [(0, _), (1, _), (2, _), (3, _), (4, _), (5, _), (6, _)] dX12_costOf_56 rfl (Nat.le_of_ble_eq_true rfl) ?_
            refine PW.iload dX12_costOf_58 rfl ?_
            refine PW.iload dX12_costOf_60 rfl ?_
            refine PW.if_eq 75 dX12_costOf_62 (by decide) (by first | assumption | (unfold inR; omega)) (fun h62 => ?_) (fun h62 => ?_)
            · refine PW.iconst dX12_costOf_75 ?_
              refine PW.iadd dX12_costOf_76 ?_
              refine PW.istore [(0, _), (1, _), (2, _), (3, _), (4, _), (5, _), (6, _)] dX12_costOf_77 rfl (Nat.le_of_ble_eq_true rfl) ?_
              refine PW.iinc [(0, _), (1, _), (2, _), (3, _), (4, _), (5, _), (6, _)] dX12_costOf_79 rfl rfl (Nat.le_of_ble_eq_true rfl) ?_
              refine PW.goto 6 dX12_costOf_82 (by decide) ?_
              refine PW.take 6 ?_
              have e := ih (i + 1) (by omega) (by omega) (by omega)
              rw [smF_s _ h1] at e
              first
                | (exfalso; omega)
                | (rw [if_pos (show σ (m + 22) i = b ∧ σ (m + 21) i < n ∧ ¬ inS s (σ (m + 21) i) from ⟨by assumption, by omega, by assumption⟩)] at e
                   exact e)
                | (rw [if_neg (show ¬ (σ (m + 22) i = b ∧ σ (m + 21) i < n ∧ ¬ inS s (σ (m + 21) i)) from fun r => by first | exact r.2.2 (by assumption) | (have := r.1; have := r.2.1; omega))] at e
                   exact e)
            · refine PW.aload_n dX12_costOf_65 rfl ?_
              refine PW.getR fl_X12_82 rfl (by assumption) rfl dX12_costOf_66 ?_
              refine PW.iload dX12_costOf_69 rfl ?_
              refine PW.iaload (by assumption) (by first | assumption | (unfold inR; omega)) (by omega) (by omega) dX12_costOf_71 ?_
              refine PW.goto 76 dX12_costOf_72 (by decide) ?_
              refine PW.iadd dX12_costOf_76 ?_
              refine PW.istore [(0, _), (1, _), (2, _), (3, _), (4, _), (5, _), (6, _)] dX12_costOf_77 rfl (Nat.le_of_ble_eq_true rfl) ?_
              refine PW.iinc [(0, _), (1, _), (2, _), (3, _), (4, _), (5, _), (6, _)] dX12_costOf_79 rfl rfl (Nat.le_of_ble_eq_true rfl) ?_
              refine PW.goto 6 dX12_costOf_82 (by decide) ?_
              refine PW.take 6 ?_
              have e := ih (i + 1) (by omega) (by omega) (by omega)
              rw [smF_s _ h1] at e
              first
                | (exfalso; omega)
                | (rw [if_pos (show σ (m + 22) i = b ∧ σ (m + 21) i < n ∧ ¬ inS s (σ (m + 21) i) from ⟨by assumption, by omega, by assumption⟩)] at e
                   exact e)
                | (rw [if_neg (show ¬ (σ (m + 22) i = b ∧ σ (m + 21) i < n ∧ ¬ inS s (σ (m + 21) i)) from fun r => by first | exact r.2.2 (by assumption) | (have := r.1; have := r.2.1; omega))] at e
                   exact e)
          · refine PW.iconst dX12_costOf_51 ?_
            refine PW.goto 56 dX12_costOf_52 (by decide) ?_
            refine PW.istore [(0, _), (1, _), (2, _), (3, _), (4, _), (5, _), (6, _)] dX12_costOf_56 rfl (Nat.le_of_ble_eq_true rfl) ?_
            refine PW.iload dX12_costOf_58 rfl ?_
            refine PW.iload dX12_costOf_60 rfl ?_
            refine PW.if_eq 75 dX12_costOf_62 (by decide) (by first | assumption | (unfold inR; omega)) (fun h62 => ?_) (fun h62 => ?_)
            · refine PW.iconst dX12_costOf_75 ?_
              refine PW.iadd dX12_costOf_76 ?_
              refine PW.istore [(0, _), (1, _), (2, _), (3, _), (4, _), (5, _), (6, _)] dX12_costOf_77 rfl (Nat.le_of_ble_eq_true rfl) ?_
              refine PW.iinc [(0, _), (1, _), (2, _), (3, _), (4, _), (5, _), (6, _)] dX12_costOf_79 rfl rfl (Nat.le_of_ble_eq_true rfl) ?_
              refine PW.goto 6 dX12_costOf_82 (by decide) ?_
              refine PW.take 6 ?_
              have e := ih (i + 1) (by omega) (by omega) (by omega)
              rw [smF_s _ h1] at e
              first
                | (exfalso; omega)
                | (rw [if_pos (show σ (m + 22) i = b ∧ σ (m + 21) i < n ∧ ¬ inS s (σ (m + 21) i) from ⟨by assumption, by omega, by assumption⟩)] at e
                   exact e)
                | (rw [if_neg (show ¬ (σ (m + 22) i = b ∧ σ (m + 21) i < n ∧ ¬ inS s (σ (m + 21) i)) from fun r => by first | exact r.2.2 (by assumption) | (have := r.1; have := r.2.1; omega))] at e
                   exact e)
            · refine PW.aload_n dX12_costOf_65 rfl ?_
              refine PW.getR fl_X12_82 rfl (by assumption) rfl dX12_costOf_66 ?_
              refine PW.iload dX12_costOf_69 rfl ?_
              refine PW.iaload (by assumption) (by first | assumption | (unfold inR; omega)) (by omega) (by omega) dX12_costOf_71 ?_
              refine PW.goto 76 dX12_costOf_72 (by decide) ?_
              refine PW.iadd dX12_costOf_76 ?_
              refine PW.istore [(0, _), (1, _), (2, _), (3, _), (4, _), (5, _), (6, _)] dX12_costOf_77 rfl (Nat.le_of_ble_eq_true rfl) ?_
              refine PW.iinc [(0, _), (1, _), (2, _), (3, _), (4, _), (5, _), (6, _)] dX12_costOf_79 rfl rfl (Nat.le_of_ble_eq_true rfl) ?_
              refine PW.goto 6 dX12_costOf_82 (by decide) ?_
              refine PW.take 6 ?_
              have e := ih (i + 1) (by omega) (by omega) (by omega)
              rw [smF_s _ h1] at e
              first
                | (exfalso; omega)
                | (rw [if_pos (show σ (m + 22) i = b ∧ σ (m + 21) i < n ∧ ¬ inS s (σ (m + 21) i) from ⟨by assumption, by omega, by assumption⟩)] at e
                   exact e)
                | (rw [if_neg (show ¬ (σ (m + 22) i = b ∧ σ (m + 21) i < n ∧ ¬ inS s (σ (m + 21) i)) from fun r => by first | exact r.2.2 (by assumption) | (have := r.1; have := r.2.1; omega))] at e
                   exact e)
theorem c_X12_costOf {G : GT} {S : Shp} {σ : Sto} {m : Nat} {n s b : Int} {w : Int → Int} {cn : Int} (hA : IsMod S m) (hg : mAg σ m w cn) (hn : 0 ≤ n ∧ n ≤ 8) (hs : 0 ≤ s ∧ s < 256) (hb : 0 ≤ b ∧ b < 8) : PMet G mX12_costOf 0 0 0 [.ref m, .int (iI n), .int (iI s), .int (iI b)] S σ (isP (some (.int (iI (crF w n s b)))) S σ) := by
  have hgb := hg.2.1
  have hce := cost_eq (O := σ (m + 21)) (N := σ (m + 22)) (W := σ (m + 23)) (w := w) (s := s) hn hb cn.toNat (fun c c0 c1 => (hg.2.2.1 c c0 (by omega)).1) (fun q q0 q1 => by rw [show ((cn.toNat : Nat) : Int) = cn by omega]; exact hg.2.2.2 q b q0 q1 hb.1 hb.2)
  rw [show ((cn.toNat : Nat) : Int) = cn by omega] at hce
  refine PMet.of [(0, .ref m), (1, .int (iI (n))), (2, .int (iI (s))), (3, .int (iI (b)))] (by decide +kernel) rfl (Nat.le_of_ble_eq_true rfl) ?_
  refine PW.iconst dX12_costOf_0 ?_
  refine PW.istore [(0, _), (1, _), (2, _), (3, _), (4, _)] dX12_costOf_1 rfl (Nat.le_of_ble_eq_true rfl) ?_
  refine PW.iconst dX12_costOf_3 ?_
  refine PW.istore [(0, _), (1, _), (2, _), (3, _), (4, _), (5, _)] dX12_costOf_4 rfl (Nat.le_of_ble_eq_true rfl) ?_
  exact mo_cost_loop hA hg hn hs hb ⟨by rw [hce], rfl, rfl⟩ 26 0 (by omega) (by omega) (by omega)
def dqM (w : Int → Int) (n ah be : Int) (f : Int → Int) (s : Int) : Prop := f s = mnB (fun b => alw ah be s b) (fun b => crF w n s b + f (orS s b)) n.toNat
def dpM (w : Int → Int) (n ah be : Int) (f : Int → Int) (lo : Int) : Prop := f (fullS n) = 0 ∧ ∀ s, lo ≤ s → s < fullS n → dqM w n ah be f s

/-- how many of the first i stories fit -/
def ftC (u : Int → Int) (i : Int) : Int := smF (fun q => b01 (u q = 0)) i
theorem ftC_s (u : Int → Int) {i : Int} (h : 0 ≤ i) : ftC u (i + 1) = ftC u i + b01 (u i = 0) := smF_s _ h
theorem ftC_b (u : Int → Int) {i : Int} (h : 0 ≤ i) : 0 ≤ ftC u i ∧ ftC u i ≤ i := smF_01 h
theorem ftC_mono (u : Int → Int) {i : Int} (h : 0 ≤ i) : ∀ k : Nat, ftC u i ≤ ftC u (i + k)
  | 0 => by simp
  | k + 1 => by
    have ih := ftC_mono u h k
    have e := ftC_s u (i := i + k) (by omega)
    have b := b01_b (u (i + k) = 0)
    rw [show i + ((k + 1 : Nat) : Int) = i + k + 1 by omega]
    omega
theorem ftC_lt (u : Int → Int) {i j : Int} (h : 0 ≤ i) (hj : i < j) (hu : u i = 0) : ftC u i < ftC u j := by
  have e := ftC_s u h
  rw [b01_t hu] at e
  have m := ftC_mono u (i := i + 1) (by omega) (j - (i + 1)).toNat
  rw [show i + 1 + (((j - (i + 1)).toNat : Nat) : Int) = j by omega] at m
  omega
/-- each place below the number of those that fit is that of one -/
theorem ftC_at (u : Int → Int) : ∀ {n : Nat} {k : Int}, 0 ≤ k → k < ftC u n → ∃ s : Int, 0 ≤ s ∧ s < n ∧ u s = 0 ∧ ftC u s = k
  | 0, k, h0, h1 => by
    rw [show ftC u ((0 : Nat) : Int) = 0 from rfl] at h1
    omega
  | n + 1, k, h0, h1 => by
    have e := ftC_s u (i := (n : Int)) (by omega)
    rw [show ((n + 1 : Nat) : Int) = (n : Int) + 1 by omega] at h1
    by_cases hk : k < ftC u n
    · obtain ⟨s, s0, s1, s2, s3⟩ := ftC_at u h0 hk
      exact ⟨s, s0, by omega, s2, s3⟩
    · by_cases hu : u n = 0
      · rw [b01_t hu] at e
        exact ⟨n, by omega, by omega, hu, by omega⟩
      · rw [b01_f hu] at e
        omega
theorem ftC_congr {u v : Int → Int} {i : Int} (h : ∀ q, 0 ≤ q → q < i → u q = v q) : ftC u i = ftC v i := smF_congr fun q q0 q1 => by rw [h q q0 q1]
def gaFr (σ τ : Sto) (a : Nat) : Prop := (∀ b, b ≠ a → b ≠ a + 6 → τ b = σ b) ∧ ∀ j, j ≠ 9 → τ a j = σ a j
/-- the stories that fit are gathered in f -/
def ftG (u f : Int → Int) (n : Int) : Prop := ∀ s, 0 ≤ s → s < n → u s = 0 → f (ftC u s) = s
theorem gat_loop {G : GT} {S : Shp} {σ : Sto} {a : Nat} {z : Int} {Q : Option Value → Shp → Sto → Prop} (hA : IsTel S a) (hz : σ a 8 = z) (hz1 : 0 ≤ z ∧ z ≤ 65) (hu : ∀ q, 0 ≤ q → q < z → inR (σ (a + 5) q)) (hQ : ∀ τ : Sto, gaFr σ τ a → τ a 9 = ftC (σ (a + 5)) z → ftG (σ (a + 5)) (τ (a + 6)) z → Q none S τ) : ∀ (t : Nat) (i : Int) (τ : Sto), 0 ≤ i → i ≤ z → z - i < t → gaFr σ τ a → τ a 9 = ftC (σ (a + 5)) i → ftG (σ (a + 5)) (τ (a + 6)) i → PW (fm G mX9_gather 2 0 0 Q) G S (τ) 0 0 7 [(0, .ref a), (1, .int (iI (i)))] [] := by
  obtain ⟨hA0, hA1, hA2, hA3, hA4, hA5, hA6, hA7, hA8⟩ := id hA
  intro t
  induction t with
  | zero => intro i τ h1 h2 h3 g1 g2 g3; omega
  | succ t ih =>
    intro i τ h1 h2 h3 g1 g2 g3
    have e8 : τ a 8 = z := by rw [g1.2 8 (by decide)]; exact hz
    have e5 : τ (a + 5) = σ (a + 5) := g1.1 _ (by omega) (by omega)
    have fb := ftC_b (σ (a + 5)) h1
    refine PW.iload_n dX9_gather_7 rfl ?_
    refine PW.aload_n dX9_gather_8 rfl ?_
    refine PW.getI 8 fl_X9_42 rfl (by assumption) rfl rfl dX9_gather_9 ?_
    refine PW.top z e8 ?_
    refine PW.icmp_ge 57 dX9_gather_12 (by decide) (by first | assumption | (unfold inR; omega)) (by first | assumption | (unfold inR; omega)) (fun h12 => ?_) (fun h12 => ?_)
    · have hi : i = z := by omega
      subst hi
      exact PW.vret rfl dX9_gather_57 (hQ τ g1 g2 g3)
    · have hui := hu i h1 (by omega)
      refine PW.aload_n dX9_gather_15 rfl ?_
      refine PW.getR fl_X9_24 rfl (by assumption) rfl dX9_gather_16 ?_
      refine PW.iload_n dX9_gather_19 rfl ?_
      refine PW.callSr (c_X11_get (by assumption) (by first | assumption | (unfold inR; omega)) (by decide)) cs_X11_get lk_X9_59 dX9_gather_20 rfl rfl rfl ?_
      refine PW.top (σ (a + 5) i) (by unfold gI; rw [if_pos (by omega), e5]) ?_
      refine PW.if_eq 29 dX9_gather_23 (by decide) (by first | assumption | (unfold inR; omega)) (fun h23 => ?_) (fun h23 => ?_)
      · refine PW.aload_n dX9_gather_29 rfl ?_
        refine PW.getR fl_X9_27 rfl (by assumption) rfl dX9_gather_30 ?_
        refine PW.aload_n dX9_gather_33 rfl ?_
        refine PW.getI 9 fl_X9_46 rfl (by assumption) rfl rfl dX9_gather_34 ?_
        refine PW.top (ftC (σ (a + 5)) i) g2 ?_
        refine PW.iload_n dX9_gather_37 rfl ?_
        refine PW.callSv (c_X11_put (by assumption) (by unfold inR; omega) (by decide)) cs_X11_put lk_X9_110 dX9_gather_38 rfl rfl rfl ?_
        refine PW.aload_n dX9_gather_41 rfl ?_
        refine PW.dup rfl dX9_gather_42 ?_
        refine PW.getI 9 fl_X9_46 rfl (by assumption) rfl rfl dX9_gather_43 ?_
        refine PW.top (ftC (σ (a + 5)) i) (by rw [if_pos (by omega), upS_ne (by omega)]; exact g2) ?_
        refine PW.iconst dX9_gather_46 ?_
        refine PW.iadd dX9_gather_47 ?_
        refine PW.putI 9 fl_X9_46 rfl (fun h => absurd h (by decide)) (by assumption) rfl rfl rfl rfl dX9_gather_48 ?_
        refine PW.iinc [(0, _), (1, _)] dX9_gather_51 rfl rfl (Nat.le_of_ble_eq_true rfl) ?_
        refine PW.goto 7 dX9_gather_54 (by decide) ?_
        have es := ftC_s (σ (a + 5)) h1
        first
          | (rw [b01_t (by assumption)] at es
             refine ih (i + 1) _ (by omega) (by omega) (by omega) ⟨fun b b0 b1 => ?_, fun j hj => ?_⟩ ?_ (fun s s0 s1 s2 => ?_)
             · rw [if_pos (by omega), upS_ne b0, upS_ne b1]
               exact g1.1 b b0 b1
             · rw [if_pos (by omega), upS_same, up1_ne hj, upS_ne (by omega)]
               exact g1.2 j hj
             · rw [if_pos (by omega), upS_same, up1_same]
               omega
             · rw [if_pos (by omega), upS_ne (by omega), upS_same]
               by_cases e : s = i
               · subst e
                 rw [up1_same]
               · have := ftC_lt (σ (a + 5)) s0 (show s < i by omega) s2
                 rw [up1_ne (by omega)]
                 exact g3 s s0 (by omega) s2)
          | (rw [b01_f (by assumption), Int.add_zero] at es
             refine ih (i + 1) τ (by omega) (by omega) (by omega) g1 (by rw [es]; exact g2) (fun s s0 s1 s2 => ?_)
             by_cases e : s = i
             · subst e
               exact absurd s2 (by assumption)
             · exact g3 s s0 (by omega) s2)
      · refine PW.goto 51 dX9_gather_26 (by decide) ?_
        refine PW.iinc [(0, _), (1, _)] dX9_gather_51 rfl rfl (Nat.le_of_ble_eq_true rfl) ?_
        refine PW.goto 7 dX9_gather_54 (by decide) ?_
        have es := ftC_s (σ (a + 5)) h1
        first
          | (rw [b01_t (by assumption)] at es
             refine ih (i + 1) _ (by omega) (by omega) (by omega) ⟨fun b b0 b1 => ?_, fun j hj => ?_⟩ ?_ (fun s s0 s1 s2 => ?_)
             · rw [if_pos (by omega), upS_ne b0, upS_ne b1]
               exact g1.1 b b0 b1
             · rw [if_pos (by omega), upS_same, up1_ne hj, upS_ne (by omega)]
               exact g1.2 j hj
             · rw [if_pos (by omega), upS_same, up1_same]
               omega
             · rw [if_pos (by omega), upS_ne (by omega), upS_same]
               by_cases e : s = i
               · subst e
                 rw [up1_same]
               · have := ftC_lt (σ (a + 5)) s0 (show s < i by omega) s2
                 rw [up1_ne (by omega)]
                 exact g3 s s0 (by omega) s2)
          | (rw [b01_f (by assumption), Int.add_zero] at es
             refine ih (i + 1) τ (by omega) (by omega) (by omega) g1 (by rw [es]; exact g2) (fun s s0 s1 s2 => ?_)
             by_cases e : s = i
             · subst e
               exact absurd s2 (by assumption)
             · exact g3 s s0 (by omega) s2)
theorem c_X9_gather {G : GT} {S : Shp} {σ : Sto} {a : Nat} {z : Int} (hA : IsTel S a) (hz : σ a 8 = z) (hz1 : 0 ≤ z ∧ z ≤ 65) (hu : ∀ q, 0 ≤ q → q < z → inR (σ (a + 5) q)) : PMet G mX9_gather 2 0 0 [.ref a] S σ (fun r S' σ' => r = none ∧ S' = S ∧ gaFr σ σ' a ∧ σ' a 9 = ftC (σ (a + 5)) z ∧ ftG (σ (a + 5)) (σ' (a + 6)) z) := by
  obtain ⟨hA0, hA1, hA2, hA3, hA4, hA5, hA6, hA7, hA8⟩ := id hA
  refine PMet.of [(0, .ref a)] (by decide +kernel) rfl (Nat.le_of_ble_eq_true rfl) ?_
  refine PW.aload_n dX9_gather_0 rfl ?_
  refine PW.iconst dX9_gather_1 ?_
  refine PW.putI 9 fl_X9_46 rfl (fun h => absurd h (by decide)) (by assumption) rfl rfl rfl rfl dX9_gather_2 ?_
  refine PW.iconst dX9_gather_5 ?_
  refine PW.istore_n [(0, _), (1, _)] dX9_gather_6 rfl (Nat.le_of_ble_eq_true rfl) ?_
  refine gat_loop hA hz hz1 hu (fun τ p1 p2 p3 => ⟨rfl, rfl, p1, p2, p3⟩) 66 0 _ (by omega) (by omega) (by omega) ⟨fun b b0 b1 => upS_ne b0, fun j hj => ?_⟩ ?_ (fun s s0 s1 => by omega)
  · rw [upS_same, up1_ne hj]
  · rw [upS_same, up1_same]
    rfl
/-- the j-th event of a story, or -1 -/
def prt (m s j : Int) : Int := if 0 ≤ j ∧ j < lnE m s then (pth m s).getD j.toNat (-1) else -1
theorem tb_L {m s : Int} (hm : 0 ≤ m ∧ m ≤ 4) (h1 : 1 ≤ s) (hs : s < nS m) : lnE m s = lnE m (bef m s) + 1 := by
  have h := (tb_A hm h1 hs).2.2
  unfold pth at h
  unfold lnE lenN
  rw [h, List.length_append]
  rfl
theorem lnE_pos {m s : Int} (hm : 0 ≤ m ∧ m ≤ 4) (h0 : 0 ≤ s) (h : 0 < lnE m s) : 1 ≤ s := by
  by_cases e : s = 0
  · subst e
    have := (tb_C hm).2.2.2.2.1
    unfold pth at this
    unfold lnE lenN at h
    rw [this] at h
    simp at h
  · omega
theorem prt_0 {m s j : Int} (hm : 0 ≤ m ∧ m ≤ 4) (h1 : 1 ≤ s) (hs : s < nS m) (hj : 0 ≤ j ∧ j < lnE m s) : prt m s j = if j = lnE m s - 1 then adE m s else prt m (bef m s) j := by
  have h := (tb_A hm h1 hs).2.2
  have hl := tb_L hm h1 hs
  have hl2 : ((pth m (bef m s)).length : Int) = lnE m (bef m s) := rfl
  unfold prt
  rw [if_pos hj, h]
  by_cases e : j = lnE m s - 1
  · rw [if_pos e, List.getD_eq_getElem?_getD, List.getElem?_append_right (by omega), show j.toNat - (pth m (bef m s)).length = 0 by omega]
    rfl
  · rw [if_neg e, if_pos (by omega), List.getD_eq_getElem?_getD, List.getElem?_append_left (by omega), List.getD_eq_getElem?_getD]
theorem prt_b {m s j : Int} (hm : 0 ≤ m ∧ m ≤ 4) (hj : 0 ≤ j) : ∀ (k : Nat), (k : Int) < nS m → j < lnE m (k : Int) → 0 ≤ prt m (k : Int) j ∧ prt m (k : Int) j < m := by
  intro k
  induction k using Nat.strongRecOn with
  | _ k ih =>
    intro hk hl
    have h1 := lnE_pos hm (s := (k : Int)) (by omega) (by omega)
    have ta := tb_A hm h1 hk
    have tl := tb_L hm h1 hk
    rw [prt_0 hm h1 hk ⟨hj, hl⟩]
    split
    · exact ta.2.1
    · have e := ih (bef m k).toNat (by omega) (by omega)
      rw [show (((bef m k).toNat : Nat) : Int) = bef m k by omega] at e
      exact e (by omega)

theorem part_loop {G : GT} {S : Shp} {σ : Sto} {a : Nat} {m s j : Int} {Q : Option Value → Shp → Sto → Prop} (hA : IsTel S a) (ht : telTab σ a m) (hm : 0 ≤ m ∧ m ≤ 4) (hs : 0 ≤ s ∧ s < nS m) (hj : 0 ≤ j ∧ j < lnE m s) (hQ : Q (some (.int (iI (prt m s j)))) S σ) : ∀ (t : Nat) (i : Int) (f : Int), j ≤ i → i ≤ 3 → i - j + 1 < t → (0 ≤ f ∧ f < nS m) → lnE m f = i + 1 → prt m f j = prt m s j → PW (fm G mX9_part 2 0 0 Q) G S (σ) 0 0 25 [(0, .ref a), (1, .int (iI (s))), (2, .int (iI (j))), (3, .int (iI (f))), (4, .int (iI (i)))] [] := by
  obtain ⟨hA0, hA1, hA2, hA3, hA4, hA5, hA6, hA7, hA8⟩ := id hA
  have nb := nS_b hm
  intro t
  induction t with
  | zero => intro i f h1 h2 h3 g1 g2 g3; omega
  | succ t ih =>
    intro i f h1 h2 h3 g1 g2 g3
    have f1 := lnE_pos hm g1.1 (by omega)
    have ta := tb_A hm f1 g1.2
    have tl := tb_L hm f1 g1.2
    have pr := prt_0 (j := j) hm f1 g1.2 (by omega)
    have row := ht.2 f g1.1 g1.2
    refine PW.iload dX9_part_25 rfl ?_
    refine PW.iload_n dX9_part_27 rfl ?_
    refine PW.icmp_le 46 dX9_part_28 (by decide) (by first | assumption | (unfold inR; omega)) (by first | assumption | (unfold inR; omega)) (fun h28 => ?_) (fun h28 => ?_)
    · refine PW.aload_n dX9_part_46 rfl ?_
      refine PW.getR fl_X9_15 rfl (by assumption) rfl dX9_part_47 ?_
      refine PW.iload_n dX9_part_50 rfl ?_
      refine PW.callSr (c_X11_get (by assumption) (by first | assumption | (unfold inR; omega)) (by decide)) cs_X11_get lk_X9_59 dX9_part_51 rfl rfl rfl ?_
      have hi : i = j := by omega
      subst hi
      rw [if_pos (by omega)] at pr
      refine PW.top (prt m s i) ?_ (PW.iret rfl rfl dX9_part_54 hQ)
      unfold gI
      rw [if_pos (by omega), row.2.1, ← pr]
      exact g3
    · refine PW.aload_n dX9_part_31 rfl ?_
      refine PW.getR fl_X9_9 rfl (by assumption) rfl dX9_part_32 ?_
      refine PW.iload_n dX9_part_35 rfl ?_
      refine PW.callSr (c_X11_get (by assumption) (by first | assumption | (unfold inR; omega)) (by decide)) cs_X11_get lk_X9_59 dX9_part_36 rfl rfl rfl ?_
      refine PW.top (bef m f) (by unfold gI; rw [if_pos (by omega)]; exact row.1) ?_
      refine PW.istore_n [(0, _), (1, _), (2, _), (3, _), (4, _)] dX9_part_39 rfl (Nat.le_of_ble_eq_true rfl) ?_
      refine PW.iinc [(0, _), (1, _), (2, _), (3, _), (4, _)] dX9_part_40 rfl rfl (Nat.le_of_ble_eq_true rfl) ?_
      refine PW.goto 25 dX9_part_43 (by decide) ?_
      refine ih (i + -1) (bef m f) (by omega) (by omega) (by omega) (by omega) (by omega) ?_
      rw [if_neg (by omega)] at pr
      rw [← pr]
      exact g3
theorem c_X9_part {G : GT} {S : Shp} {σ : Sto} {a : Nat} {m s j : Int} (hA : IsTel S a) (ht : telTab σ a m) (hm : 0 ≤ m ∧ m ≤ 4) (hs : 0 ≤ s ∧ s < nS m) (rj : inR j) : PMet G mX9_part 2 0 0 [.ref a, .int (iI s), .int (iI j)] S σ (isP (some (.int (iI (prt m s j)))) S σ) := by
  obtain ⟨hA0, hA1, hA2, hA3, hA4, hA5, hA6, hA7, hA8⟩ := id hA
  have nb := nS_b hm
  have row := ht.2 s hs.1 hs.2
  have l4 := (tb_B hm hs.1 hs.2).2.1
  have l0 := lnE_0 m s
  refine PMet.of [(0, .ref a), (1, .int (iI (s))), (2, .int (iI (j)))] (by decide +kernel) rfl (Nat.le_of_ble_eq_true rfl) ?_
  refine PW.iload_n dX9_part_0 rfl ?_
  refine PW.aload_n dX9_part_1 rfl ?_
  refine PW.iload_n dX9_part_2 rfl ?_
  refine PW.callVr (c_X9_length (by assumption) (by omega)) cv_X9_length lk_X9_63 (by first | assumption | exact And.left (by assumption)) dX9_part_3 rfl rfl rfl rfl ?_
  refine PW.top (lnE m s) row.2.2.2 ?_
  refine PW.callSr (c_X11_isBelow (by first | assumption | (unfold inR; omega)) (by first | assumption | (unfold inR; omega))) cs_X11_isBelow lk_X9_67 dX9_part_6 rfl rfl rfl ?_
  refine PW.if_neB 14 dX9_part_9 (by decide) (fun h9 => ?_) (fun h9 => ?_)
  · refine PW.iload_n dX9_part_14 rfl ?_
    refine PW.istore_n [(0, _), (1, _), (2, _), (3, _)] dX9_part_15 rfl (Nat.le_of_ble_eq_true rfl) ?_
    refine PW.aload_n dX9_part_16 rfl ?_
    refine PW.iload_n dX9_part_17 rfl ?_
    refine PW.callVr (c_X9_length (by assumption) (by omega)) cv_X9_length lk_X9_63 (by first | assumption | exact And.left (by assumption)) dX9_part_18 rfl rfl rfl rfl ?_
    refine PW.top (lnE m s) row.2.2.2 ?_
    refine PW.iconst dX9_part_21 ?_
    refine PW.isub dX9_part_22 ?_
    refine PW.istore [(0, _), (1, _), (2, _), (3, _), (4, _)] dX9_part_23 rfl (Nat.le_of_ble_eq_true rfl) ?_
    exact part_loop hA ht hm hs (by omega) ⟨rfl, rfl, rfl⟩ 5 _ s (by omega) (by omega) (by omega) hs (by omega) rfl
  · refine PW.iconst dX9_part_12 ?_
    exact PW.iret rfl rfl dX9_part_13 ⟨ret_eq (by unfold prt; rw [if_neg (by omega)]), rfl, rfl⟩
theorem c_X9_looked {G : GT} {S : Shp} {σ : Sto} {a : Nat} {i : Int} (hA : IsTel S a) (hi : 0 ≤ i ∧ i ≤ 64) : PMet G mX9_looked 1 0 0 [.ref a, .int (iI i)] S σ (isP (some (.ref (cA (a + 7) i))) S σ) := by
  obtain ⟨hA0, hA1, hA2, hA3, hA4, hA5, hA6, hA7, hA8⟩ := id hA
  have hA70 := hA7.1
  refine PMet.of [(0, .ref a), (1, .int (iI (i)))] (by decide +kernel) rfl (Nat.le_of_ble_eq_true rfl) ?_
  refine PW.aload_n dX9_looked_0 rfl ?_
  refine PW.getR fl_X9_35 rfl (by assumption) rfl dX9_looked_1 ?_
  refine PW.iload_n dX9_looked_4 rfl ?_
  refine PW.callVr (c_X2_of hA7 (by decide) (by omega) (by omega)) cv_X2_of lk_X9_114 (by first | assumption | exact And.left (by assumption)) dX9_looked_5 rfl rfl rfl rfl ?_
  exact PW.aret rfl dX9_looked_8 (⟨rfl, rfl, rfl⟩)
theorem c_X9_look {G : GT} {S : Shp} {σ : Sto} {a L M : Nat} {m n : Int} (hA : IsTel S a) (hL : IsCols S L 64) (hlc : colsOk σ L 64) (hM : IsTale S M) (hMt : taOk σ M) (hMm : σ M 2 = m) (hm : 0 ≤ m ∧ m ≤ 4) (ht : telTab σ a m) (hn : 0 ≤ n ∧ n ≤ 63) (hRL : a + 141 ≤ L ∨ L + 132 ≤ a) (hRM : a + 141 ≤ M ∨ M + 3 ≤ a) (hc1 : colsOk σ (a + 7) 65) : PMet G mX9_look 6 0 0 [.ref a, .ref L, .ref M, .int (iI n)] S σ (fun r S' σ' => r = none ∧ S' = S ∧ colFr σ σ' (a + 7) ∧ colsOk σ' (a + 7) 65 ∧ ∀ s, 0 ≤ s → s < nS m → eq8 (σ' (cA (a + 7) s + 1)) (colS (σ (M + 1)) n (σ (cA L n + 1)) (pth m s))) := by
  obtain ⟨hA0, hA1, hA2, hA3, hA4, hA5, hA6, hA7, hA8⟩ := id hA
  refine PMet.of [(0, .ref a), (1, .ref L), (2, .ref M), (3, .int (iI (n)))] (by decide +kernel) rfl (Nat.le_of_ble_eq_true rfl) ?_
  refine PW.aload_n dX9_look_0 rfl ?_
  refine PW.ifnull dX9_look_1 ?_
  refine PW.aload_n dX9_look_4 rfl ?_
  refine PW.aload_n dX9_look_5 rfl ?_
  refine PW.getR fl_X9_35 rfl (by assumption) rfl dX9_look_6 ?_
  refine PW.aload_n dX9_look_9 rfl ?_
  refine PW.aload_n dX9_look_10 rfl ?_
  refine PW.iload_n dX9_look_11 rfl ?_
  refine PW.callVg (c_X9_tellColumn hA hA7 hL hlc hM hMt hMm hm ht hn (by omega) (by omega) (by omega) hc1) cv_X9_tellColumn lk_X9_88 (by first | assumption | exact And.left (by assumption)) dX9_look_12 rfl rfl rfl rfl (fun r S' σ' hq => ?_)
  obtain ⟨rfl, rfl, p1, p2, p3⟩ := hq
  exact PW.vret rfl dX9_look_15 ⟨rfl, rfl, p1, p2, p3⟩

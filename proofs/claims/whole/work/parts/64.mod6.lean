def swN (N : Int → Int) (i j p : Int) : Int → Int := fun q => if 5 * i ≤ q ∧ q < 5 * i + p then N (q - 5 * i + 5 * j) else if 5 * j ≤ q ∧ q < 5 * j + p then N (q - 5 * j + 5 * i) else N q
def sw1 (K : Int → Int) (i j : Int) : Int → Int := up1 (up1 K i (K j)) j (K i)
theorem swN_0 (N : Int → Int) (i j : Int) : swN N i j 0 = N := by
  funext q
  unfold swN
  rw [if_neg (by omega), if_neg (by omega)]
theorem swN_s {N : Int → Int} {i j p : Int} (hp : 0 ≤ p ∧ p < 5) (hij : i ≠ j) : up1 (up1 (swN N i j p) (5 * i + p) (N (5 * j + p))) (5 * j + p) (N (5 * i + p)) = swN N i j (p + 1) := by
  funext q
  by_cases h1 : q = 5 * j + p
  · subst h1
    rw [up1_same]
    unfold swN
    rw [if_neg (by omega), if_pos (by omega)]
    congr 1
    omega
  · rw [up1_ne h1]
    by_cases h2 : q = 5 * i + p
    · subst h2
      rw [up1_same]
      unfold swN
      rw [if_pos (by omega)]
      congr 1
      omega
    · rw [up1_ne h2]
      unfold swN
      by_cases h3 : 5 * i ≤ q ∧ q < 5 * i + p
      · rw [if_pos h3, if_pos (show 5 * i ≤ q ∧ q < 5 * i + (p + 1) by omega)]
      · rw [if_neg h3, if_neg (show ¬ (5 * i ≤ q ∧ q < 5 * i + (p + 1)) by omega)]
        by_cases h4 : 5 * j ≤ q ∧ q < 5 * j + p
        · rw [if_pos h4, if_pos (show 5 * j ≤ q ∧ q < 5 * j + (p + 1) by omega)]
        · rw [if_neg h4, if_neg (show ¬ (5 * j ≤ q ∧ q < 5 * j + (p + 1)) by omega)]
/-- the store behind the exchange of two events -/
def chS (σ : Sto) (m : Nat) (i j : Int) : Sto := upS (upS (upS σ (m + 3) (sw1 (σ (m + 3)) i j)) (m + 5) (sw1 (σ (m + 5)) i j)) (m + 4) (swN (σ (m + 4)) i j 5)
theorem chS_ev {σ : Sto} {m : Nat} {f : Int → Int} {n i : Int} (he : mEv σ m f n) (hi : 0 ≤ i ∧ i + 1 < n) : mEv (chS σ m i (i + 1)) m (exF f i) n := by
  obtain ⟨e0, e1, e2, e3⟩ := he
  have k0 : chS σ m i (i + 1) m = σ m := by unfold chS; rw [upS_ne (by omega), upS_ne (by omega), upS_ne (by omega)]
  have k3 : chS σ m i (i + 1) (m + 3) = sw1 (σ (m + 3)) i (i + 1) := by unfold chS; rw [upS_ne (by omega), upS_ne (by omega), upS_same]
  have k4 : chS σ m i (i + 1) (m + 4) = swN (σ (m + 4)) i (i + 1) 5 := by unfold chS; rw [upS_same]
  have k5 : chS σ m i (i + 1) (m + 5) = sw1 (σ (m + 5)) i (i + 1) := by unfold chS; rw [upS_ne (by omega), upS_same]
  have ev : ∀ q, 0 ≤ q → q < n → ∃ q', (0 ≤ q' ∧ q' < n) ∧ q' = (if q = i then i + 1 else if q = i + 1 then i else q) := fun q q0 q1 => by
    refine ⟨_, ?_, rfl⟩
    split
    · omega
    · split <;> omega
  refine ⟨by rw [k0]; exact e0, e1, fun q q0 q1 => ?_, fun q q0 q1 => ?_⟩
  · obtain ⟨q', hq', hqe⟩ := ev q q0 q1
    obtain ⟨a1, a2, a3⟩ := e2 q' hq'.1 hq'.2
    have x0 := exF_at f i (q := q) (p := 0) (by omega) (by omega)
    rw [Int.add_zero, Int.add_zero, ← hqe] at x0
    refine ⟨evOk_ex (by rw [← hqe]; exact a1), ?_, fun p p0 p1 => ?_⟩
    · rw [k3, x0, ← a2, hqe]
      unfold sw1
      by_cases h1 : q = i
      · rw [if_pos h1, h1, up1_ne (by omega), up1_same]
      · rw [if_neg h1]
        by_cases h2 : q = i + 1
        · rw [if_pos h2, h2, up1_same]
        · rw [if_neg h2, up1_ne h2, up1_ne h1]
    · have xp := exF_at f i (q := q) (p := 1 + p) (by omega) (by omega)
      rw [← hqe] at xp
      rw [k4, show 7 * q + 1 + p = 7 * q + (1 + p) by omega, xp, show 7 * q' + (1 + p) = 7 * q' + 1 + p by omega, ← a3 p p0 p1, hqe]
      unfold swN
      by_cases h1 : q = i
      · rw [if_pos h1, h1, if_pos (by omega)]
        congr 1
        omega
      · rw [if_neg h1, if_neg (by omega)]
        by_cases h2 : q = i + 1
        · rw [if_pos h2, h2, if_pos (by omega)]
          congr 1
          omega
        · rw [if_neg h2, if_neg (by omega)]
  · obtain ⟨q', hq', hqe⟩ := ev q q0 q1
    have xp := exF_at f i (q := q) (p := 6) (by omega) (by omega)
    rw [← hqe] at xp
    rw [k5, xp, ← e3 q' hq'.1 hq'.2, hqe]
    unfold sw1
    by_cases h1 : q = i
    · rw [if_pos h1, h1, up1_ne (by omega), up1_same]
    · rw [if_neg h1]
      by_cases h2 : q = i + 1
      · rw [if_pos h2, h2, up1_same]
      · rw [if_neg h2, up1_ne h2, up1_ne h1]
theorem mo_chg_loop {G : GT} {S : Shp} {σ : Sto} {m : Nat} {i j v w : Int} {Q : Option Value → Shp → Sto → Prop} (hA : IsMod S m) (hi : 0 ≤ i ∧ i ≤ 15) (hj : 0 ≤ j ∧ j ≤ 15) (hij : i ≠ j) (hl : ∀ q, 0 ≤ q → q ≤ 15 → (q = i ∨ q = j) → 0 ≤ σ (m + 5) q ∧ σ (m + 5) q ≤ 1) (hQ : Q none S (chS σ m i j)) : ∀ (t : Nat) (p : Int), 0 ≤ p → p ≤ 5 → 5 - p < t → PW (fm G mX12_change 0 0 0 Q) G S (upS (upS (upS σ (m + 3) (sw1 (σ (m + 3)) i j)) (m + 5) (sw1 (σ (m + 5)) i j)) (m + 4) (swN (σ (m + 4)) i j p)) 0 0 57 [(0, .ref m), (1, .int (iI (i))), (2, .int (iI (j))), (3, .int (iI (v))), (4, .int (iI (w))), (5, .int (iI (p)))] [] := by
  obtain ⟨hM0, hM1, hM2, hM3, hM4, hM5, hM6, hM7, hM8, hM9, hM10, hM11, hM12, hM13, hM14, hM15, hM16, hM17, hM18, hM19, hM20, hM21, hM22, hM23, hM24, hM25, hM26, hM27, hM28, hM29, hM30, hM31, hM32, hM33, hM34⟩ := id hA
  intro t
  induction t with
  | zero => intro p h1 h2 h3; omega
  | succ t ih =>
    intro p h1 h2 h3
    refine PW.iload dX12_change_57 rfl ?_
    refine PW.iconst dX12_change_59 ?_
    refine PW.icmp_ge 117 dX12_change_60 (by decide) (by first | assumption | (unfold inR; omega)) (by first | assumption | (unfold inR; omega)) (fun h60 => ?_) (fun h60 => ?_)
    · have hp : p = 5 := by omega
      subst hp
      exact PW.vret rfl dX12_change_117 hQ
    · refine PW.aload_n dX12_change_63 rfl ?_
      refine PW.getR fl_X12_20 rfl (by assumption) rfl dX12_change_64 ?_
      refine PW.iconst dX12_change_67 ?_
      refine PW.iload_n dX12_change_68 rfl ?_
      refine PW.imul dX12_change_69 ?_
      refine PW.iload dX12_change_70 rfl ?_
      refine PW.iadd dX12_change_72 ?_
      refine PW.iaload (by assumption) (by unfold inR; omega) (by omega) (by omega) dX12_change_73 ?_
      refine PW.top (σ (m + 4) (5 * i + p)) (by rw [upS_same]; unfold swN; rw [if_neg (by omega), if_neg (by omega)]) ?_
      refine PW.istore [(0, _), (1, _), (2, _), (3, _), (4, _), (5, _), (6, _)] dX12_change_74 rfl (Nat.le_of_ble_eq_true rfl) ?_
      refine PW.aload_n dX12_change_76 rfl ?_
      refine PW.getR fl_X12_20 rfl (by assumption) rfl dX12_change_77 ?_
      refine PW.iconst dX12_change_80 ?_
      refine PW.iload_n dX12_change_81 rfl ?_
      refine PW.imul dX12_change_82 ?_
      refine PW.iload dX12_change_83 rfl ?_
      refine PW.iadd dX12_change_85 ?_
      refine PW.aload_n dX12_change_86 rfl ?_
      refine PW.getR fl_X12_20 rfl (by assumption) rfl dX12_change_87 ?_
      refine PW.iconst dX12_change_90 ?_
      refine PW.iload_n dX12_change_91 rfl ?_
      refine PW.imul dX12_change_92 ?_
      refine PW.iload dX12_change_93 rfl ?_
      refine PW.iadd dX12_change_95 ?_
      refine PW.iaload (by assumption) (by unfold inR; omega) (by omega) (by omega) dX12_change_96 ?_
      refine PW.top (σ (m + 4) (5 * j + p)) (by rw [upS_same]; unfold swN; rw [if_neg (by omega), if_neg (by omega)]) ?_
      refine PW.iastore (by assumption) (by first | assumption | (unfold inR; omega)) (by omega) (by omega) dX12_change_97 ?_
      refine PW.aload_n dX12_change_98 rfl ?_
      refine PW.getR fl_X12_20 rfl (by assumption) rfl dX12_change_99 ?_
      refine PW.iconst dX12_change_102 ?_
      refine PW.iload_n dX12_change_103 rfl ?_
      refine PW.imul dX12_change_104 ?_
      refine PW.iload dX12_change_105 rfl ?_
      refine PW.iadd dX12_change_107 ?_
      refine PW.iload dX12_change_108 rfl ?_
      refine PW.iastore (by assumption) (by first | assumption | (unfold inR; omega)) (by omega) (by omega) dX12_change_110 ?_
      refine PW.st (upS (upS (upS σ (m + 3) (sw1 (σ (m + 3)) i j)) (m + 5) (sw1 (σ (m + 5)) i j)) (m + 4) (swN (σ (m + 4)) i j (p + 1))) (by
        rw [upS_upS, upS_upS, upS_same, upS_same]
        exact congrArg (upS (upS (upS σ (m + 3) (sw1 (σ (m + 3)) i j)) (m + 5) (sw1 (σ (m + 5)) i j)) (m + 4)) (swN_s (by omega) hij)) ?_
      refine PW.iinc [(0, _), (1, _), (2, _), (3, _), (4, _), (5, _), (6, _)] dX12_change_111 rfl rfl (Nat.le_of_ble_eq_true rfl) ?_
      refine PW.goto 57 dX12_change_114 (by decide) ?_
      refine PW.take 6 ?_
      exact ih (p + 1) (by omega) (by omega) (by omega)
theorem c_X12_change {G : GT} {S : Shp} {σ : Sto} {m : Nat} {i j : Int} (hA : IsMod S m) (hi : 0 ≤ i ∧ i ≤ 15) (hj : 0 ≤ j ∧ j ≤ 15) (hij : i ≠ j) (hl : ∀ q, 0 ≤ q → q ≤ 15 → (q = i ∨ q = j) → 0 ≤ σ (m + 5) q ∧ σ (m + 5) q ≤ 1) : PMet G mX12_change 0 0 0 [.ref m, .int (iI i), .int (iI j)] S σ (isP none S (chS σ m i j)) := by
  obtain ⟨hM0, hM1, hM2, hM3, hM4, hM5, hM6, hM7, hM8, hM9, hM10, hM11, hM12, hM13, hM14, hM15, hM16, hM17, hM18, hM19, hM20, hM21, hM22, hM23, hM24, hM25, hM26, hM27, hM28, hM29, hM30, hM31, hM32, hM33, hM34⟩ := id hA
  have hl1 := hl i hi.1 hi.2 (Or.inl rfl)
  have hl2 := hl j hj.1 hj.2 (Or.inr rfl)
  have nb : ∀ v : Int, 0 ≤ v → v ≤ 1 → narrow .boolean (.int (iI v)) = .int (iI v) := fun v v0 v1 => by
    rcases (show v = 0 ∨ v = 1 by omega) with rfl | rfl <;> rfl
  refine PMet.of [(0, .ref m), (1, .int (iI (i))), (2, .int (iI (j)))] (by decide +kernel) rfl (Nat.le_of_ble_eq_true rfl) ?_
  refine PW.aload_n dX12_change_0 rfl ?_
  refine PW.getR fl_X12_16 rfl (by assumption) rfl dX12_change_1 ?_
  refine PW.iload_n dX12_change_4 rfl ?_
  refine PW.iaload (by assumption) (by first | assumption | (unfold inR; omega)) (by omega) (by omega) dX12_change_5 ?_
  refine PW.istore_n [(0, _), (1, _), (2, _), (3, _)] dX12_change_6 rfl (Nat.le_of_ble_eq_true rfl) ?_
  refine PW.aload_n dX12_change_7 rfl ?_
  refine PW.getR fl_X12_16 rfl (by assumption) rfl dX12_change_8 ?_
  refine PW.iload_n dX12_change_11 rfl ?_
  refine PW.aload_n dX12_change_12 rfl ?_
  refine PW.getR fl_X12_16 rfl (by assumption) rfl dX12_change_13 ?_
  refine PW.iload_n dX12_change_16 rfl ?_
  refine PW.iaload (by assumption) (by unfold inR; omega) (by omega) (by omega) dX12_change_17 ?_
  refine PW.top (σ (m + 3) j) rfl ?_
  refine PW.iastore (by assumption) (by first | assumption | (unfold inR; omega)) (by omega) (by omega) dX12_change_18 ?_
  refine PW.aload_n dX12_change_19 rfl ?_
  refine PW.getR fl_X12_16 rfl (by assumption) rfl dX12_change_20 ?_
  refine PW.iload_n dX12_change_23 rfl ?_
  refine PW.iload_n dX12_change_24 rfl ?_
  refine PW.iastore (by assumption) (by first | assumption | (unfold inR; omega)) (by omega) (by omega) dX12_change_25 ?_
  refine PW.aload_n dX12_change_26 rfl ?_
  refine PW.getR fl_X12_23 rfl (by assumption) rfl dX12_change_27 ?_
  refine PW.iload_n dX12_change_30 rfl ?_
  refine PW.zaload (by assumption) (by unfold inR; omega) (by omega) (by omega) dX12_change_31 ?_
  refine PW.top (σ (m + 5) i) (by rw [upS_ne (by omega), upS_ne (by omega)]) ?_
  refine PW.istore [(0, _), (1, _), (2, _), (3, _), (4, _)] dX12_change_32 rfl (Nat.le_of_ble_eq_true rfl) ?_
  refine PW.aload_n dX12_change_34 rfl ?_
  refine PW.getR fl_X12_23 rfl (by assumption) rfl dX12_change_35 ?_
  refine PW.iload_n dX12_change_38 rfl ?_
  refine PW.aload_n dX12_change_39 rfl ?_
  refine PW.getR fl_X12_23 rfl (by assumption) rfl dX12_change_40 ?_
  refine PW.iload_n dX12_change_43 rfl ?_
  refine PW.zaload (by assumption) (by unfold inR; omega) (by omega) (by omega) dX12_change_44 ?_
  refine PW.top (σ (m + 5) j) (by rw [upS_ne (by omega), upS_ne (by omega)]) ?_
  refine PW.zastore (by assumption) (by first | assumption | (unfold inR; omega)) (by omega) (by omega) (by first | exact nb _ hl1.1 hl1.2 | exact nb _ hl2.1 hl2.2) dX12_change_45 ?_
  refine PW.aload_n dX12_change_46 rfl ?_
  refine PW.getR fl_X12_23 rfl (by assumption) rfl dX12_change_47 ?_
  refine PW.iload_n dX12_change_50 rfl ?_
  refine PW.iload dX12_change_51 rfl ?_
  refine PW.zastore (by assumption) (by first | assumption | (unfold inR; omega)) (by omega) (by omega) (by first | exact nb _ hl1.1 hl1.2 | exact nb _ hl2.1 hl2.2) dX12_change_53 ?_
  refine PW.iconst dX12_change_54 ?_
  refine PW.istore [(0, _), (1, _), (2, _), (3, _), (4, _), (5, _)] dX12_change_55 rfl (Nat.le_of_ble_eq_true rfl) ?_
  refine PW.st (upS (upS (upS σ (m + 3) (sw1 (σ (m + 3)) i j)) (m + 5) (sw1 (σ (m + 5)) i j)) (m + 4) (swN (σ (m + 4)) i j 0)) ?_ ?_
  · rw [swN_0]
    unfold sw1
    simp only [upS_upS, upS_same]
    rw [upS_ne (show m + 5 ≠ m + 3 by omega)]
    have e4 : upS (upS (upS σ (m + 3) (up1 (up1 (σ (m + 3)) i (σ (m + 3) j)) j (σ (m + 3) i))) (m + 5) (up1 (up1 (σ (m + 5)) i (σ (m + 5) j)) j (σ (m + 5) i))) (m + 4) (σ (m + 4)) = upS (upS σ (m + 3) (up1 (up1 (σ (m + 3)) i (σ (m + 3) j)) j (σ (m + 3) i))) (m + 5) (up1 (up1 (σ (m + 5)) i (σ (m + 5) j)) j (σ (m + 5) i)) := by
      have := upS_self (upS (upS σ (m + 3) (up1 (up1 (σ (m + 3)) i (σ (m + 3) j)) j (σ (m + 3) i))) (m + 5) (up1 (up1 (σ (m + 5)) i (σ (m + 5) j)) j (σ (m + 5) i))) (m + 4)
      rw [upS_ne (show m + 4 ≠ m + 5 by omega), upS_ne (show m + 4 ≠ m + 3 by omega)] at this
      exact this
    rw [e4]
  · exact mo_chg_loop hA hi hj hij hl ⟨rfl, rfl, rfl⟩ 6 0 (by omega) (by omega) (by omega)
theorem ulF_pos (c e : Int → Int) : 0 < ulF c e ↔ ¬ likP c e := by
  have key : ∀ k : Nat, (smF (fun j => b01 (¬ c j = e j)) (k : Int) = 0 ↔ ∀ j : Int, 0 ≤ j → j < k → c j = e j) := by
    intro k
    induction k with
    | zero => exact ⟨fun _ j h0 h1 => by omega, fun _ => rfl⟩
    | succ k ih =>
      have hb := smF_01 (P := fun j => ¬ c j = e j) (i := (k : Int)) (by omega)
      rw [show ((k + 1 : Nat) : Int) = (k : Int) + 1 by omega, smF_s _ (by omega)]
      constructor
      · intro h j j0 j1
        have hb2 := b01_b (¬ c (k : Int) = e (k : Int))
        by_cases hj : j = k
        · subst hj
          refine Classical.byContradiction fun q => ?_
          rw [b01_t q] at h
          omega
        · exact ih.mp (by omega) j j0 (by omega)
      · intro h
        rw [ih.mpr (fun j j0 j1 => h j j0 (by omega)), b01_f (fun q => q (h k (by omega) (by omega)))]
        omega
  have hk := key 80
  have hb := ulF_b c e
  rw [likP_iff]
  constructor
  · intro h q
    have : ulF c e = 0 := hk.mpr (fun j j0 j1 => q j j0 (by omega))
    omega
  · intro h
    refine Classical.byContradiction fun q => h ?_
    have e0 : ulF c e = 0 := by omega
    exact fun j j0 j1 => hk.mp e0 j j0 (by omega)
theorem chS_ne {σ : Sto} {m b : Nat} {i j : Int} (h3 : b ≠ m + 3) (h4 : b ≠ m + 4) (h5 : b ≠ m + 5) : chS σ m i j b = σ b := by
  unfold chS
  rw [upS_ne h4, upS_ne h5, upS_ne h3]
theorem c_X12_swap {G : GT} {S : Shp} {σ : Sto} {m : Nat} {n i : Int} {f : Int → Int} (hA : IsMod S m) (hE : mCore σ m f n) (ri : inR i) : PMet G mX12_swap 6 0 0 [.ref m, .int (iI i)] S σ (fun r S' τ => S' = S ∧ r = some (.int (iI (if ¬ (0 ≤ i ∧ i < n - 1) then -100001 else smF (fun c => b01 (¬ likP (tlF (exF f i) c zF n.toNat) (tlF f c zF n.toNat))) 64))) ∧ eFr σ τ m ∧ mCore τ m (if (0 ≤ i ∧ i < n - 1) then exF f i else f) (n)) := by
  obtain ⟨hM0, hM1, hM2, hM3, hM4, hM5, hM6, hM7, hM8, hM9, hM10, hM11, hM12, hM13, hM14, hM15, hM16, hM17, hM18, hM19, hM20, hM21, hM22, hM23, hM24, hM25, hM26, hM27, hM28, hM29, hM30, hM31, hM32, hM33, hM34⟩ := id hA
  have hn := hE.1.1
  have hnb := hE.1.2.1
  have hcr : cOk ((upS σ (m + 1) (pfF (σ (m + 1)) (fun j => σ (m + 1) (j - 5120 * 2 + 5120 * 0)) (5120 * 2) (5120 * 2 + 5120))) (m + 1)) 15360 := by
    rw [upS_same]
    exact pfF_ok hE.2.1 (fun j j0 j1 => hE.2.1 _ (by omega) (by omega))
  refine PMet.of [(0, .ref m), (1, .int (iI (i)))] (by decide +kernel) rfl (Nat.le_of_ble_eq_true rfl) ?_
  refine PW.aload_n dX12_swap_0 rfl ?_
  refine PW.iload_n dX12_swap_1 rfl ?_
  refine PW.callVr (c_X12_noEvent hA hn hnb ri) cv_X12_noEvent lk_X12_201 (by first | assumption | exact And.left (by assumption)) dX12_swap_2 rfl rfl rfl rfl ?_
  refine PW.if_neB 18 dX12_swap_5 (by decide) (fun h5 => ?_) (fun h5 => ?_)
  · refine PW.ldc (-100001) kc_X12_204 rfl rfl dX12_swap_18 ?_
    exact PW.iret rfl rfl dX12_swap_20 ⟨rfl, ret_eq (by rw [if_pos (by omega)]), eFr.rfl' _ _, by rw [if_neg (by omega)]; exact hE⟩
  · refine PW.aload_n dX12_swap_8 rfl ?_
    refine PW.iload_n dX12_swap_9 rfl ?_
    refine PW.iconst dX12_swap_10 ?_
    refine PW.iadd dX12_swap_11 ?_
    refine PW.callVr (c_X12_noEvent (i := i + 1) hA hn hnb (by unfold inR; omega)) cv_X12_noEvent lk_X12_201 (by first | assumption | exact And.left (by assumption)) dX12_swap_12 rfl rfl rfl rfl ?_
    refine PW.if_eqB 21 dX12_swap_15 (by decide) (fun h15 => ?_) (fun h15 => ?_)
    · refine PW.aload_n dX12_swap_21 rfl ?_
      refine PW.iconst dX12_swap_22 ?_
      refine PW.iconst dX12_swap_23 ?_
      refine PW.callVv (c_X12_carry hA hE.2.1 (by omega) (by omega) (by omega)) cv_X12_carry lk_X12_214 (by first | assumption | exact And.left (by assumption)) dX12_swap_24 rfl rfl rfl rfl ?_
      refine PW.aload_n dX12_swap_27 rfl ?_
      refine PW.iload_n dX12_swap_28 rfl ?_
      refine PW.iload_n dX12_swap_29 rfl ?_
      refine PW.iconst dX12_swap_30 ?_
      refine PW.iadd dX12_swap_31 ?_
      refine PW.callVv (c_X12_change hA (by omega) (by omega) (by omega) (fun q q0 q1 q2 => by rw [upS_ne (by omega), hE.1.2.2.2 q (by omega) (by omega)]; have := (hE.1.2.2.1 q (by omega) (by omega)).1.2.2; omega)) cv_X12_change lk_X12_217 (by first | assumption | exact And.left (by assumption)) dX12_swap_32 rfl rfl rfl rfl ?_
      have he1 : mEv (upS σ (m + 1) (pfF (σ (m + 1)) (fun j => σ (m + 1) (j - 5120 * 2 + 5120 * 0)) (5120 * 2) (5120 * 2 + 5120))) m f n := mEv_congr hE.1 (by rw [upS_ne (by omega)]) (upS_ne (by omega)) (upS_ne (by omega)) (upS_ne (by omega))
      have he2 := chS_ev (i := i) he1 (by omega)
      refine PW.aload_n dX12_swap_35 rfl ?_
      refine PW.aload_n dX12_swap_36 rfl ?_
      refine PW.getI 2 fl_X12_184 rfl (by assumption) rfl rfl dX12_swap_37 ?_
      refine PW.top n (by rw [chS_ne (by omega) (by omega) (by omega), upS_ne (by omega)]; exact hn) ?_
      refine PW.callVg (c_X12_buildAll (f := exF f i) hA (by rw [chS_ne (by omega) (by omega) (by omega)]; exact hcr) (by omega) he2.2.2.1) cv_X12_buildAll lk_X12_119 (by first | assumption | exact And.left (by assumption)) dX12_swap_40 rfl rfl rfl rfl (fun r S' τ40 hq => ?_)
      obtain ⟨rfl, hS, hb⟩ := hq
      have hS2 := hS.symm
      subst hS2
      have hc := hb.core he2
      have hfr : eFr σ τ40 m := ⟨fun b hb' => by rw [hb.1 b (by omega) (by omega) (by omega), chS_ne (by omega) (by omega) (by omega), upS_ne (by omega)], fun j hj => by rw [hb.1 m (by omega) (by omega) (by omega), chS_ne (by omega) (by omega) (by omega), upS_ne (by omega)]⟩
      have h2 : ∀ c, 0 ≤ c → c ≤ 63 → eq8 (clV (τ40 (m + 1)) 2 c) (tlF f c zF n.toNat) := fun c c0 c1 z z0 z1 => by
        have := hE.2.2 c c0 c1 z z0 z1
        rw [← this]
        unfold clV
        rw [hb.2.2.2 _ (by omega), chS_ne (by omega) (by omega) (by omega), upS_same]
        unfold pfF
        rw [if_pos (by omega)]
        dsimp only
        congr 1
        omega
      refine PW.aload_n dX12_swap_43 rfl ?_
      refine PW.iconst dX12_swap_44 ?_
      refine PW.iconst dX12_swap_45 ?_
      refine PW.callVr (c_X12_unlikeColumns hA hc.2.1 (by omega) (by omega)) cv_X12_unlikeColumns lk_X12_220 (by first | assumption | exact And.left (by assumption)) dX12_swap_46 rfl rfl rfl rfl ?_
      refine PW.iret rfl rfl dX12_swap_49 ⟨rfl, ret_eq ?_, hfr, by rw [if_pos (by omega)]; exact hc⟩
      rw [if_neg (by omega)]
      refine smF_congr fun c c0 c1 => b01_congr ?_
      rw [likP_eq (hc.2.2 c c0 (by omega)) (h2 c c0 (by omega))]
    · refine PW.ldc (-100001) kc_X12_204 rfl rfl dX12_swap_18 ?_
      exact PW.iret rfl rfl dX12_swap_20 ⟨rfl, ret_eq (by rw [if_pos (by omega)]), eFr.rfl' _ _, by rw [if_neg (by omega)]; exact hE⟩
theorem mo_mloo_loop {G : GT} {S : Shp} {σ : Sto} {m : Nat} {n : Int} {f : Int → Int} {Q : Option Value → Shp → Sto → Prop} (hA : IsMod S m) (he : mEv σ m f n) (hQ : Q (some (.int (iI (looF f n)))) S σ) : ∀ (t : Nat) (i : Int), 0 ≤ i → i ≤ n → n - i < t → PW (fm G mX12_looseOnes 1 0 0 Q) G S (σ) 0 0 4 [(0, .ref m), (1, .int (iI (looF f i))), (2, .int (iI (i)))] [] := by
  obtain ⟨hM0, hM1, hM2, hM3, hM4, hM5, hM6, hM7, hM8, hM9, hM10, hM11, hM12, hM13, hM14, hM15, hM16, hM17, hM18, hM19, hM20, hM21, hM22, hM23, hM24, hM25, hM26, hM27, hM28, hM29, hM30, hM31, hM32, hM33, hM34⟩ := id hA
  have hn := he.1
  have hnb := he.2.1
  intro t
  induction t with
  | zero => intro i h1 h2 h3; omega
  | succ t ih =>
    intro i h1 h2 h3
    have hb := looF_b f i h1
    have hq := sumI_succ (fun j => b01 (¬ f (7 * j + 6) = 0)) h1
    refine PW.iload_n dX12_looseOnes_4 rfl ?_
    refine PW.aload_n dX12_looseOnes_5 rfl ?_
    refine PW.getI 2 fl_X12_184 rfl (by assumption) rfl rfl dX12_looseOnes_6 ?_
    refine PW.top n (by exact hn) ?_
    refine PW.icmp_ge 30 dX12_looseOnes_9 (by decide) (by first | assumption | (unfold inR; omega)) (by first | assumption | (unfold inR; omega)) (fun h9 => ?_) (fun h9 => ?_)
    · refine PW.iload_n dX12_looseOnes_30 rfl ?_
      have hi : i = n := by omega
      subst hi
      exact PW.iret rfl rfl dX12_looseOnes_31 hQ
    · refine PW.iload_n dX12_looseOnes_12 rfl ?_
      refine PW.aload_n dX12_looseOnes_13 rfl ?_
      refine PW.getR fl_X12_23 rfl (by assumption) rfl dX12_looseOnes_14 ?_
      refine PW.iload_n dX12_looseOnes_17 rfl ?_
      have hl := he.2.2.2 i h1 (by omega)
      have hl2 := (he.2.2.1 i h1 (by omega)).1.2.2
      refine PW.zaload (by assumption) (by unfold inR; omega) (by omega) (by omega) dX12_looseOnes_18 ?_
      refine PW.top (f (7 * i + 6)) hl ?_
      refine PW.callSr (c_X12_bit (by omega)) cs_X12_bit lk_X12_207 dX12_looseOnes_19 rfl rfl rfl ?_
      refine PW.iadd dX12_looseOnes_22 ?_
      refine PW.istore_n [(0, _), (1, _), (2, _)] dX12_looseOnes_23 rfl (Nat.le_of_ble_eq_true rfl) ?_
      refine PW.iinc [(0, _), (1, _), (2, _)] dX12_looseOnes_24 rfl rfl (Nat.le_of_ble_eq_true rfl) ?_
      refine PW.goto 4 dX12_looseOnes_27 (by decide) ?_
      have e := ih (i + 1) (by omega) (by omega) (by omega)
      unfold looF at e
      rw [hq] at e
      try dsimp only at e
      rw [show b01 (¬ f (7 * i + 6) = 0) = f (7 * i + 6) by unfold b01; split <;> omega] at e
      exact e
theorem c_X12_looseOnes {G : GT} {S : Shp} {σ : Sto} {m : Nat} {n : Int} {f : Int → Int} (hA : IsMod S m) (he : mEv σ m f n) : PMet G mX12_looseOnes 1 0 0 [.ref m] S σ (isP (some (.int (iI (looF f n)))) S σ) := by
  have hnb := he.2.1
  refine PMet.of [(0, .ref m)] (by decide +kernel) rfl (Nat.le_of_ble_eq_true rfl) ?_
  refine PW.iconst dX12_looseOnes_0 ?_
  refine PW.istore_n [(0, _), (1, _)] dX12_looseOnes_1 rfl (Nat.le_of_ble_eq_true rfl) ?_
  refine PW.iconst dX12_looseOnes_2 ?_
  refine PW.istore_n [(0, _), (1, _), (2, _)] dX12_looseOnes_3 rfl (Nat.le_of_ble_eq_true rfl) ?_
  exact mo_mloo_loop hA he ⟨rfl, rfl, rfl⟩ 17 0 (by omega) (by omega) (by omega)
theorem mo_myou_loop {G : GT} {S : Shp} {σ : Sto} {m : Nat} {n b : Int} {f : Int → Int} {Q : Option Value → Shp → Sto → Prop} (hA : IsMod S m) (he : mEv σ m f n) (rb : inR b) (hQ : Q (some (.int (iI (birF f n b)))) S σ) : ∀ (t : Nat) (i : Int), 0 ≤ i → i ≤ n → n - i < t → (∀ j, 0 ≤ j → j < i → (fun j => decide ((f (7 * j) = 0 ∨ f (7 * j) = 5) ∧ f (7 * j + 1 + 0) = b)) j = false) → PW (fm G mX12_youthOf 0 0 0 Q) G S (σ) 0 0 2 [(0, .ref m), (1, .int (iI (b))), (2, .int (iI (i)))] [] := by
  obtain ⟨hM0, hM1, hM2, hM3, hM4, hM5, hM6, hM7, hM8, hM9, hM10, hM11, hM12, hM13, hM14, hM15, hM16, hM17, hM18, hM19, hM20, hM21, hM22, hM23, hM24, hM25, hM26, hM27, hM28, hM29, hM30, hM31, hM32, hM33, hM34⟩ := id hA
  have hn := he.1
  have hnb := he.2.1
  intro t
  induction t with
  | zero => intro i h1 h2 h3 g1; omega
  | succ t ih =>
    intro i h1 h2 h3 g1
    refine PW.iload_n dX12_youthOf_2 rfl ?_
    refine PW.aload_n dX12_youthOf_3 rfl ?_
    refine PW.getI 2 fl_X12_184 rfl (by assumption) rfl rfl dX12_youthOf_4 ?_
    refine PW.top n (by exact hn) ?_
    refine PW.icmp_ge 49 dX12_youthOf_7 (by decide) (by first | assumption | (unfold inR; omega)) (by first | assumption | (unfold inR; omega)) (fun h7 => ?_) (fun h7 => ?_)
    · refine PW.iconst dX12_youthOf_49 ?_
      have e : birF f n b = -1 := firI_none (fun j q1 q2 => g1 j q1 (by omega))
      rw [e] at hQ
      exact PW.iret rfl rfl dX12_youthOf_50 hQ
    · refine PW.aload_n dX12_youthOf_10 rfl ?_
      refine PW.getR fl_X12_16 rfl (by assumption) rfl dX12_youthOf_11 ?_
      refine PW.iload_n dX12_youthOf_14 rfl ?_
      have hr := he.2.2.1 i h1 (by omega)
      have hk := hr.1.k
      refine PW.iaload (by assumption) (by unfold inR; omega) (by omega) (by omega) dX12_youthOf_15 ?_
      refine PW.top (f (7 * i)) hr.2.1 ?_
      refine PW.if_eq 29 dX12_youthOf_16 (by decide) (by first | assumption | (unfold inR; omega)) (fun h16 => ?_) (fun h16 => ?_)
      · refine PW.aload_n dX12_youthOf_29 rfl ?_
        refine PW.getR fl_X12_20 rfl (by assumption) rfl dX12_youthOf_30 ?_
        refine PW.iconst dX12_youthOf_33 ?_
        refine PW.iload_n dX12_youthOf_34 rfl ?_
        refine PW.imul dX12_youthOf_35 ?_
        have hv := hr.1.2.1 0 (by omega) (by omega)
        refine PW.iaload (by assumption) (by unfold inR; omega) (by omega) (by omega) dX12_youthOf_36 ?_
        refine PW.top (f (7 * i + 1 + 0)) (by rw [← hr.2.2 0 (by omega) (by omega), Int.add_zero]) ?_
        refine PW.iload_n dX12_youthOf_37 rfl ?_
        refine PW.icmp_ne 43 dX12_youthOf_38 (by decide) (by first | assumption | (unfold inR; omega)) (by first | assumption | (unfold inR; omega)) (fun h38 => ?_) (fun h38 => ?_)
        · refine PW.iinc [(0, _), (1, _), (2, _)] dX12_youthOf_43 rfl rfl (Nat.le_of_ble_eq_true rfl) ?_
          refine PW.goto 2 dX12_youthOf_46 (by decide) ?_
          refine ih (i + 1) (by omega) (by omega) (by omega) (fun j q1 q2 => ?_)
          by_cases hj : j = i
          · subst hj
            exact decide_eq_false (fun q => by obtain ⟨q3, q4⟩ := q; omega)
          · exact g1 j q1 (by omega)
        · refine PW.iload_n dX12_youthOf_41 rfl ?_
          have e : birF f n b = i := firI_hit h1 (decide_eq_true ⟨by omega, by assumption⟩) g1 (by omega)
          rw [e] at hQ
          exact PW.iret rfl rfl dX12_youthOf_42 hQ
      · refine PW.aload_n dX12_youthOf_19 rfl ?_
        refine PW.getR fl_X12_16 rfl (by assumption) rfl dX12_youthOf_20 ?_
        refine PW.iload_n dX12_youthOf_23 rfl ?_
        refine PW.iaload (by assumption) (by unfold inR; omega) (by omega) (by omega) dX12_youthOf_24 ?_
        refine PW.top (f (7 * i)) hr.2.1 ?_
        refine PW.iconst dX12_youthOf_25 ?_
        refine PW.icmp_ne 43 dX12_youthOf_26 (by decide) (by first | assumption | (unfold inR; omega)) (by first | assumption | (unfold inR; omega)) (fun h26 => ?_) (fun h26 => ?_)
        · refine PW.iinc [(0, _), (1, _), (2, _)] dX12_youthOf_43 rfl rfl (Nat.le_of_ble_eq_true rfl) ?_
          refine PW.goto 2 dX12_youthOf_46 (by decide) ?_
          refine ih (i + 1) (by omega) (by omega) (by omega) (fun j q1 q2 => ?_)
          by_cases hj : j = i
          · subst hj
            exact decide_eq_false (fun q => by obtain ⟨q3, q4⟩ := q; omega)
          · exact g1 j q1 (by omega)
        · refine PW.aload_n dX12_youthOf_29 rfl ?_
          refine PW.getR fl_X12_20 rfl (by assumption) rfl dX12_youthOf_30 ?_
          refine PW.iconst dX12_youthOf_33 ?_
          refine PW.iload_n dX12_youthOf_34 rfl ?_
          refine PW.imul dX12_youthOf_35 ?_
          have hv := hr.1.2.1 0 (by omega) (by omega)
          refine PW.iaload (by assumption) (by unfold inR; omega) (by omega) (by omega) dX12_youthOf_36 ?_
          refine PW.top (f (7 * i + 1 + 0)) (by rw [← hr.2.2 0 (by omega) (by omega), Int.add_zero]) ?_
          refine PW.iload_n dX12_youthOf_37 rfl ?_
          refine PW.icmp_ne 43 dX12_youthOf_38 (by decide) (by first | assumption | (unfold inR; omega)) (by first | assumption | (unfold inR; omega)) (fun h38 => ?_) (fun h38 => ?_)
          · refine PW.iinc [(0, _), (1, _), (2, _)] dX12_youthOf_43 rfl rfl (Nat.le_of_ble_eq_true rfl) ?_
            refine PW.goto 2 dX12_youthOf_46 (by decide) ?_
            refine ih (i + 1) (by omega) (by omega) (by omega) (fun j q1 q2 => ?_)
            by_cases hj : j = i
            · subst hj
              exact decide_eq_false (fun q => by obtain ⟨q3, q4⟩ := q; omega)
            · exact g1 j q1 (by omega)
          · refine PW.iload_n dX12_youthOf_41 rfl ?_
            have e : birF f n b = i := firI_hit h1 (decide_eq_true ⟨by omega, by assumption⟩) g1 (by omega)
            rw [e] at hQ
            exact PW.iret rfl rfl dX12_youthOf_42 hQ
theorem c_X12_youthOf {G : GT} {S : Shp} {σ : Sto} {m : Nat} {n b : Int} {f : Int → Int} (hA : IsMod S m) (he : mEv σ m f n) (rb : inR b) : PMet G mX12_youthOf 0 0 0 [.ref m, .int (iI b)] S σ (isP (some (.int (iI (birF f n b)))) S σ) := by
  have hnb := he.2.1
  refine PMet.of [(0, .ref m), (1, .int (iI (b)))] (by decide +kernel) rfl (Nat.le_of_ble_eq_true rfl) ?_
  refine PW.iconst dX12_youthOf_0 ?_
  refine PW.istore_n [(0, _), (1, _), (2, _)] dX12_youthOf_1 rfl (Nat.le_of_ble_eq_true rfl) ?_
  exact mo_myou_loop hA he rb ⟨rfl, rfl, rfl⟩ 17 0 (by omega) (by omega) (by omega) (fun j q1 q2 => by omega)
theorem c_X12_youth {G : GT} {S : Shp} {σ : Sto} {m : Nat} {n b : Int} {f : Int → Int} (hA : IsMod S m) (he : mEv σ m f n) (rb : inR b) : PMet G mX12_youth 1 0 0 [.ref m, .int (iI b)] S σ (isP (some (.int (iI (if ¬ (0 ≤ b ∧ b < 15) then -100002 else birF f n b)))) S σ) := by
  obtain ⟨hM0, hM1, hM2, hM3, hM4, hM5, hM6, hM7, hM8, hM9, hM10, hM11, hM12, hM13, hM14, hM15, hM16, hM17, hM18, hM19, hM20, hM21, hM22, hM23, hM24, hM25, hM26, hM27, hM28, hM29, hM30, hM31, hM32, hM33, hM34⟩ := id hA
  refine PMet.of [(0, .ref m), (1, .int (iI (b)))] (by decide +kernel) rfl (Nat.le_of_ble_eq_true rfl) ?_
  refine PW.iload_n dX12_youth_0 rfl ?_
  refine PW.i2l (by first | assumption | (unfold inR; omega)) dX12_youth_1 ?_
  refine PW.lconst (z := 0) rfl dX12_youth_2 ?_
  refine PW.ldc2 (14) kc_X12_330 rfl rfl dX12_youth_3 ?_
  refine PW.callSr (c_X12_in (inL_R rb) (by unfold inL; omega) (by unfold inL; omega)) cs_X12_in lk_X12_134 dX12_youth_6 rfl rfl rfl ?_
  refine PW.if_eqB 20 dX12_youth_9 (by decide) (fun h9 => ?_) (fun h9 => ?_)
  · refine PW.ldc (-100002) kc_X12_195 rfl rfl dX12_youth_20 ?_
    exact PW.iret rfl rfl dX12_youth_22 ⟨ret_eq (by first | rw [if_pos (by omega)] | rw [if_neg (by omega)]), rfl, rfl⟩
  · refine PW.aload_n dX12_youth_12 rfl ?_
    refine PW.iload_n dX12_youth_13 rfl ?_
    refine PW.callVr (c_X12_youthOf hA (by assumption) (by first | assumption | (unfold inR; omega))) cv_X12_youthOf lk_X12_332 (by first | assumption | exact And.left (by assumption)) dX12_youth_14 rfl rfl rfl rfl ?_
    refine PW.goto 22 dX12_youth_17 (by decide) ?_
    exact PW.iret rfl rfl dX12_youth_22 ⟨ret_eq (by first | rw [if_pos (by omega)] | rw [if_neg (by omega)]), rfl, rfl⟩
theorem c_X12_at {G : GT} {S : Shp} {σ : Sto} {m : Nat} {n x y z : Int} {f : Int → Int} (hA : IsMod S m) (hE : mCore σ m f n) (rx : inR x) (ry : inR y) (rz : inR z) : PMet G mX12_at 2 0 0 [.ref m, .int (iI x), .int (iI y), .int (iI z)] S σ (isP (some (.int (iI (if ¬ ((0 ≤ x ∧ x < 8) ∧ (0 ≤ y ∧ y < 8) ∧ (-40 ≤ z ∧ z ≤ 39)) then -100002 else tlF f (8 * y + x) zF n.toNat (z + 40))))) S σ) := by
  obtain ⟨hM0, hM1, hM2, hM3, hM4, hM5, hM6, hM7, hM8, hM9, hM10, hM11, hM12, hM13, hM14, hM15, hM16, hM17, hM18, hM19, hM20, hM21, hM22, hM23, hM24, hM25, hM26, hM27, hM28, hM29, hM30, hM31, hM32, hM33, hM34⟩ := id hA
  refine PMet.of [(0, .ref m), (1, .int (iI (x))), (2, .int (iI (y))), (3, .int (iI (z)))] (by decide +kernel) rfl (Nat.le_of_ble_eq_true rfl) ?_
  refine PW.iload_n dX12_at_0 rfl ?_
  refine PW.iload_n dX12_at_1 rfl ?_
  refine PW.callSr (c_X12_isPlace (by first | assumption | (unfold inR; omega)) (by first | assumption | (unfold inR; omega))) cs_X12_isPlace lk_X12_304 dX12_at_2 rfl rfl rfl ?_
  refine PW.if_eqB 30 dX12_at_5 (by decide) (fun h5 => ?_) (fun h5 => ?_)
  · refine PW.ldc (-100002) kc_X12_195 rfl rfl dX12_at_30 ?_
    first
      | exact PW.iret rfl rfl dX12_at_32 ⟨ret_eq (by rw [if_pos (by omega)]), rfl, rfl⟩
      | exact PW.iret rfl rfl dX12_at_32 ⟨ret_eq (by rw [if_neg (by omega), gtV_in (by omega)]; exact hd _ (by omega) (by omega)), rfl, rfl⟩
  · refine PW.iload_n dX12_at_8 rfl ?_
    refine PW.callSr (c_X12_isHeight (by first | assumption | (unfold inR; omega))) cs_X12_isHeight lk_X12_307 dX12_at_9 rfl rfl rfl ?_
    refine PW.if_eqB 30 dX12_at_12 (by decide) (fun h12 => ?_) (fun h12 => ?_)
    · refine PW.ldc (-100002) kc_X12_195 rfl rfl dX12_at_30 ?_
      first
        | exact PW.iret rfl rfl dX12_at_32 ⟨ret_eq (by rw [if_pos (by omega)]), rfl, rfl⟩
        | exact PW.iret rfl rfl dX12_at_32 ⟨ret_eq (by rw [if_neg (by omega), gtV_in (by omega)]; exact hd _ (by omega) (by omega)), rfl, rfl⟩
    · refine PW.aload_n dX12_at_15 rfl ?_
      refine PW.iconst dX12_at_16 ?_
      refine PW.bipush (by decide) dX12_at_17 ?_
      refine PW.iload_n dX12_at_19 rfl ?_
      refine PW.imul dX12_at_20 ?_
      refine PW.iload_n dX12_at_21 rfl ?_
      refine PW.iadd dX12_at_22 ?_
      refine PW.iload_n dX12_at_23 rfl ?_
      have hd := hE.2.2 (8 * y + x) (by omega) (by omega)
      refine PW.callVr (c_X12_get hA (by omega) (by omega) (by omega)) cv_X12_get lk_X12_127 (by first | assumption | exact And.left (by assumption)) dX12_at_24 rfl rfl rfl rfl ?_
      refine PW.goto 32 dX12_at_27 (by decide) ?_
      first
        | exact PW.iret rfl rfl dX12_at_32 ⟨ret_eq (by rw [if_pos (by omega)]), rfl, rfl⟩
        | exact PW.iret rfl rfl dX12_at_32 ⟨ret_eq (by rw [if_neg (by omega), gtV_in (by omega)]; exact hd _ (by omega) (by omega)), rfl, rfl⟩
theorem c_X12_skin {G : GT} {S : Shp} {σ : Sto} {m : Nat} {n x y w : Int} {f : Int → Int} (hA : IsMod S m) (hE : mCore σ m f n) (rx : inR x) (ry : inR y) (rw : inR w) : PMet G mX12_skin 3 0 0 [.ref m, .int (iI x), .int (iI y), .int (iI w)] S σ (isP (some (.int (iI (if ¬ ((0 ≤ x ∧ x < 8) ∧ (0 ≤ y ∧ y < 8) ∧ (0 ≤ w ∧ w ≤ 1)) then -100002 else if w = 0 then skF (tlF f (8 * y + x) zF n.toNat) else sbF (tlF f (8 * y + x) zF n.toNat))))) S σ) := by
  obtain ⟨hM0, hM1, hM2, hM3, hM4, hM5, hM6, hM7, hM8, hM9, hM10, hM11, hM12, hM13, hM14, hM15, hM16, hM17, hM18, hM19, hM20, hM21, hM22, hM23, hM24, hM25, hM26, hM27, hM28, hM29, hM30, hM31, hM32, hM33, hM34⟩ := id hA
  refine PMet.of [(0, .ref m), (1, .int (iI (x))), (2, .int (iI (y))), (3, .int (iI (w)))] (by decide +kernel) rfl (Nat.le_of_ble_eq_true rfl) ?_
  refine PW.iload_n dX12_skin_0 rfl ?_
  refine PW.iload_n dX12_skin_1 rfl ?_
  refine PW.callSr (c_X12_isPlace (by first | assumption | (unfold inR; omega)) (by first | assumption | (unfold inR; omega))) cs_X12_isPlace lk_X12_304 dX12_skin_2 rfl rfl rfl ?_
  refine PW.if_eqB 18 dX12_skin_5 (by decide) (fun h5 => ?_) (fun h5 => ?_)
  · refine PW.ldc (-100002) kc_X12_195 rfl rfl dX12_skin_18 ?_
    first
      | exact PW.iret rfl rfl dX12_skin_20 ⟨ret_eq (by rw [if_pos (by omega)]), rfl, rfl⟩
      | exact PW.iret rfl rfl dX12_skin_20 ⟨ret_eq (by rw [if_neg (by omega), if_pos (by omega), skF_eq hd]), rfl, rfl⟩
      | exact PW.iret rfl rfl dX12_skin_20 ⟨ret_eq (by rw [if_neg (by omega), if_neg (by omega), ← sbF_eq hd]; unfold sbF; rw [if_pos (by omega)]), rfl, rfl⟩
      | exact PW.iret rfl rfl dX12_skin_20 ⟨ret_eq (by rw [if_neg (by omega), if_neg (by omega), ← sbF_eq hd]; unfold sbF; rw [if_neg (by omega), gtV_in (by omega)]), rfl, rfl⟩
  · refine PW.iload_n dX12_skin_8 rfl ?_
    refine PW.i2l (by first | assumption | (unfold inR; omega)) dX12_skin_9 ?_
    refine PW.lconst (z := 0) rfl dX12_skin_10 ?_
    refine PW.lconst (z := 1) rfl dX12_skin_11 ?_
    refine PW.callSr (c_X12_in (by first | (unfold inL; omega) | exact inL_R (by assumption)) (by first | (unfold inL; omega) | exact inL_R (by assumption)) (by first | (unfold inL; omega) | exact inL_R (by assumption))) cs_X12_in lk_X12_134 dX12_skin_12 rfl rfl rfl ?_
    refine PW.if_neB 21 dX12_skin_15 (by decide) (fun h15 => ?_) (fun h15 => ?_)
    · refine PW.aload_n dX12_skin_21 rfl ?_
      refine PW.iconst dX12_skin_22 ?_
      refine PW.bipush (by decide) dX12_skin_23 ?_
      refine PW.iload_n dX12_skin_25 rfl ?_
      refine PW.imul dX12_skin_26 ?_
      refine PW.iload_n dX12_skin_27 rfl ?_
      refine PW.iadd dX12_skin_28 ?_
      have hd := hE.2.2 (8 * y + x) (by omega) (by omega)
      have hb := skF_b (clV (σ (m + 1)) 0 (8 * y + x))
      refine PW.callVr (c_X12_skinOf hA hE.2.1 (by omega) (by omega)) cv_X12_skinOf lk_X12_155 (by first | assumption | exact And.left (by assumption)) dX12_skin_29 rfl rfl rfl rfl ?_
      refine PW.istore [(0, _), (1, _), (2, _), (3, _), (4, _)] dX12_skin_32 rfl (Nat.le_of_ble_eq_true rfl) ?_
      refine PW.iload_n dX12_skin_34 rfl ?_
      refine PW.if_ne 43 dX12_skin_35 (by decide) (by first | assumption | (unfold inR; omega)) (fun h35 => ?_) (fun h35 => ?_)
      · refine PW.iload dX12_skin_43 rfl ?_
        refine PW.bipush (by decide) dX12_skin_45 ?_
        refine PW.icmp_ge 54 dX12_skin_47 (by decide) (by first | assumption | (unfold inR; omega)) (by first | assumption | (unfold inR; omega)) (fun h47 => ?_) (fun h47 => ?_)
        · refine PW.aload_n dX12_skin_54 rfl ?_
          refine PW.iconst dX12_skin_55 ?_
          refine PW.bipush (by decide) dX12_skin_56 ?_
          refine PW.iload_n dX12_skin_58 rfl ?_
          refine PW.imul dX12_skin_59 ?_
          refine PW.iload_n dX12_skin_60 rfl ?_
          refine PW.iadd dX12_skin_61 ?_
          refine PW.iload dX12_skin_62 rfl ?_
          refine PW.callVr (c_X12_get hA (by omega) (by omega) (by omega)) cv_X12_get lk_X12_127 (by first | assumption | exact And.left (by assumption)) dX12_skin_64 rfl rfl rfl rfl ?_
          first
            | exact PW.iret rfl rfl dX12_skin_67 ⟨ret_eq (by rw [if_pos (by omega)]), rfl, rfl⟩
            | exact PW.iret rfl rfl dX12_skin_67 ⟨ret_eq (by rw [if_neg (by omega), if_pos (by omega), skF_eq hd]), rfl, rfl⟩
            | exact PW.iret rfl rfl dX12_skin_67 ⟨ret_eq (by rw [if_neg (by omega), if_neg (by omega), ← sbF_eq hd]; unfold sbF; rw [if_pos (by omega)]), rfl, rfl⟩
            | exact PW.iret rfl rfl dX12_skin_67 ⟨ret_eq (by rw [if_neg (by omega), if_neg (by omega), ← sbF_eq hd]; unfold sbF; rw [if_neg (by omega), gtV_in (by omega)]), rfl, rfl⟩
        · refine PW.iconst dX12_skin_50 ?_
          refine PW.goto 67 dX12_skin_51 (by decide) ?_
          first
            | exact PW.iret rfl rfl dX12_skin_67 ⟨ret_eq (by rw [if_pos (by omega)]), rfl, rfl⟩
            | exact PW.iret rfl rfl dX12_skin_67 ⟨ret_eq (by rw [if_neg (by omega), if_pos (by omega), skF_eq hd]), rfl, rfl⟩
            | exact PW.iret rfl rfl dX12_skin_67 ⟨ret_eq (by rw [if_neg (by omega), if_neg (by omega), ← sbF_eq hd]; unfold sbF; rw [if_pos (by omega)]), rfl, rfl⟩
            | exact PW.iret rfl rfl dX12_skin_67 ⟨ret_eq (by rw [if_neg (by omega), if_neg (by omega), ← sbF_eq hd]; unfold sbF; rw [if_neg (by omega), gtV_in (by omega)]), rfl, rfl⟩
      · refine PW.iload dX12_skin_38 rfl ?_
        refine PW.goto 67 dX12_skin_40 (by decide) ?_
        first
          | exact PW.iret rfl rfl dX12_skin_67 ⟨ret_eq (by rw [if_pos (by omega)]), rfl, rfl⟩
          | exact PW.iret rfl rfl dX12_skin_67 ⟨ret_eq (by rw [if_neg (by omega), if_pos (by omega), skF_eq hd]), rfl, rfl⟩
          | exact PW.iret rfl rfl dX12_skin_67 ⟨ret_eq (by rw [if_neg (by omega), if_neg (by omega), ← sbF_eq hd]; unfold sbF; rw [if_pos (by omega)]), rfl, rfl⟩
          | exact PW.iret rfl rfl dX12_skin_67 ⟨ret_eq (by rw [if_neg (by omega), if_neg (by omega), ← sbF_eq hd]; unfold sbF; rw [if_neg (by omega), gtV_in (by omega)]), rfl, rfl⟩
    · refine PW.ldc (-100002) kc_X12_195 rfl rfl dX12_skin_18 ?_
      first
        | exact PW.iret rfl rfl dX12_skin_20 ⟨ret_eq (by rw [if_pos (by omega)]), rfl, rfl⟩
        | exact PW.iret rfl rfl dX12_skin_20 ⟨ret_eq (by rw [if_neg (by omega), if_pos (by omega), skF_eq hd]), rfl, rfl⟩
        | exact PW.iret rfl rfl dX12_skin_20 ⟨ret_eq (by rw [if_neg (by omega), if_neg (by omega), ← sbF_eq hd]; unfold sbF; rw [if_pos (by omega)]), rfl, rfl⟩
        | exact PW.iret rfl rfl dX12_skin_20 ⟨ret_eq (by rw [if_neg (by omega), if_neg (by omega), ← sbF_eq hd]; unfold sbF; rw [if_neg (by omega), gtV_in (by omega)]), rfl, rfl⟩
theorem mo_mtop_loop {G : GT} {S : Shp} {σ : Sto} {m : Nat} {b x y w c : Int} {Q : Option Value → Shp → Sto → Prop} (hA : IsMod S m) (hC : cOk (σ (m + 1)) 15360) (hc : 0 ≤ c ∧ c ≤ 63) (rb : inR b) (rw_ : inR w) (hQ : Q (some (.int (iI (if w = 0 then toF (clV (σ (m + 1)) 0 c) b else clF (clV (σ (m + 1)) 0 c) b)))) S σ) : ∀ (t : Nat) (i : Int), -40 ≤ i → i ≤ 40 → 40 - i < t → PW (fm G mX12_top 3 0 0 Q) G S (σ) 0 0 49 [(0, .ref m), (1, .int (iI (b))), (2, .int (iI (x))), (3, .int (iI (y))), (4, .int (iI (w))), (5, .int (iI (c))), (6, .int (iI (smF (fun j => b01 (clV (σ (m + 1)) 0 c j = b)) (i + 40)))), (7, .int (iI (i)))] [] := by
  obtain ⟨hM0, hM1, hM2, hM3, hM4, hM5, hM6, hM7, hM8, hM9, hM10, hM11, hM12, hM13, hM14, hM15, hM16, hM17, hM18, hM19, hM20, hM21, hM22, hM23, hM24, hM25, hM26, hM27, hM28, hM29, hM30, hM31, hM32, hM33, hM34⟩ := id hA
  intro t
  induction t with
  | zero => intro i h1 h2 h3; omega
  | succ t ih =>
    intro i h1 h2 h3
    have hb := smF_01 (P := fun j => clV (σ (m + 1)) 0 c j = b) (i := i + 40) (by omega)
    have hg := gtV_b hC (L := 0) (c := c) (z := i) (by omega) hc
    refine PW.iload dX12_top_49 rfl ?_
    refine PW.bipush (by decide) dX12_top_51 ?_
    refine PW.icmp_ge 88 dX12_top_53 (by decide) (by first | assumption | (unfold inR; omega)) (by first | assumption | (unfold inR; omega)) (fun h53 => ?_) (fun h53 => ?_)
    · refine PW.iload dX12_top_88 rfl ?_
      refine PW.if_ne 104 dX12_top_90 (by decide) (by first | assumption | (unfold inR; omega)) (fun h90 => ?_) (fun h90 => ?_)
      · refine PW.iload dX12_top_104 rfl ?_
        have hi : i = 40 := by omega
        subst hi
        first
          | (rw [if_pos (by omega)] at hQ
             exact PW.iret rfl rfl dX12_top_106 hQ)
          | (rw [if_neg (by omega)] at hQ
             exact PW.iret rfl rfl dX12_top_106 hQ)
      · refine PW.aload_n dX12_top_93 rfl ?_
        refine PW.iconst dX12_top_94 ?_
        refine PW.iload_n dX12_top_95 rfl ?_
        refine PW.iload dX12_top_96 rfl ?_
        refine PW.callVr (c_X12_topOf hA (by assumption) (by omega) (by omega) (by first | assumption | (unfold inR; omega))) cv_X12_topOf lk_X12_312 (by first | assumption | exact And.left (by assumption)) dX12_top_98 rfl rfl rfl rfl ?_
        refine PW.goto 106 dX12_top_101 (by decide) ?_
        have hi : i = 40 := by omega
        subst hi
        first
          | (rw [if_pos (by omega)] at hQ
             exact PW.iret rfl rfl dX12_top_106 hQ)
          | (rw [if_neg (by omega)] at hQ
             exact PW.iret rfl rfl dX12_top_106 hQ)
    · refine PW.iload dX12_top_56 rfl ?_
      refine PW.aload_n dX12_top_58 rfl ?_
      refine PW.iconst dX12_top_59 ?_
      refine PW.iload dX12_top_60 rfl ?_
      refine PW.iload dX12_top_62 rfl ?_
      refine PW.callVr (c_X12_get hA (by omega) (by omega) (by omega)) cv_X12_get lk_X12_127 (by first | assumption | exact And.left (by assumption)) dX12_top_64 rfl rfl rfl rfl ?_
      refine PW.iload_n dX12_top_67 rfl ?_
      refine PW.icmp_ne 75 dX12_top_68 (by decide) (by first | assumption | (unfold inR; omega)) (by first | assumption | (unfold inR; omega)) (fun h68 => ?_) (fun h68 => ?_)
      · refine PW.iconst dX12_top_75 ?_
        refine PW.callSr (c_X12_bit (by first | omega | exact b01_b _)) cs_X12_bit lk_X12_207 dX12_top_76 rfl rfl rfl ?_
        refine PW.iadd dX12_top_79 ?_
        refine PW.istore [(0, _), (1, _), (2, _), (3, _), (4, _), (5, _), (6, _), (7, _)] dX12_top_80 rfl (Nat.le_of_ble_eq_true rfl) ?_
        refine PW.iinc [(0, _), (1, _), (2, _), (3, _), (4, _), (5, _), (6, _), (7, _)] dX12_top_82 rfl rfl (Nat.le_of_ble_eq_true rfl) ?_
        refine PW.goto 49 dX12_top_85 (by decide) ?_
        have e := ih (i + 1) (by omega) (by omega) (by omega)
        rw [show i + 1 + 40 = i + 40 + 1 by omega, smF_s _ (by omega)] at e
        rw [gtV_in (by omega)] at h68
        first
          | (rw [b01_t (by assumption)] at e; exact e)
          | (rw [b01_f (by assumption)] at e; exact e)
      · refine PW.iconst dX12_top_71 ?_
        refine PW.goto 76 dX12_top_72 (by decide) ?_
        refine PW.callSr (c_X12_bit (by first | omega | exact b01_b _)) cs_X12_bit lk_X12_207 dX12_top_76 rfl rfl rfl ?_
        refine PW.iadd dX12_top_79 ?_
        refine PW.istore [(0, _), (1, _), (2, _), (3, _), (4, _), (5, _), (6, _), (7, _)] dX12_top_80 rfl (Nat.le_of_ble_eq_true rfl) ?_
        refine PW.iinc [(0, _), (1, _), (2, _), (3, _), (4, _), (5, _), (6, _), (7, _)] dX12_top_82 rfl rfl (Nat.le_of_ble_eq_true rfl) ?_
        refine PW.goto 49 dX12_top_85 (by decide) ?_
        have e := ih (i + 1) (by omega) (by omega) (by omega)
        rw [show i + 1 + 40 = i + 40 + 1 by omega, smF_s _ (by omega)] at e
        rw [gtV_in (by omega)] at h68
        first
          | (rw [b01_t (by assumption)] at e; exact e)
          | (rw [b01_f (by assumption)] at e; exact e)
theorem c_X12_top {G : GT} {S : Shp} {σ : Sto} {m : Nat} {n b x y w : Int} {f : Int → Int} (hA : IsMod S m) (hE : mCore σ m f n) (rb : inR b) (rx : inR x) (ry : inR y) (rw_ : inR w) : PMet G mX12_top 3 0 0 [.ref m, .int (iI b), .int (iI x), .int (iI y), .int (iI w)] S σ (isP (some (.int (iI (if ¬ ((0 ≤ b ∧ b < 16) ∧ (0 ≤ x ∧ x < 8) ∧ (0 ≤ y ∧ y < 8) ∧ (0 ≤ w ∧ w ≤ 1)) then -100002 else if w = 0 then toF (tlF f (8 * y + x) zF n.toNat) b else clF (tlF f (8 * y + x) zF n.toNat) b)))) S σ) := by
  obtain ⟨hM0, hM1, hM2, hM3, hM4, hM5, hM6, hM7, hM8, hM9, hM10, hM11, hM12, hM13, hM14, hM15, hM16, hM17, hM18, hM19, hM20, hM21, hM22, hM23, hM24, hM25, hM26, hM27, hM28, hM29, hM30, hM31, hM32, hM33, hM34⟩ := id hA
  refine PMet.of [(0, .ref m), (1, .int (iI (b))), (2, .int (iI (x))), (3, .int (iI (y))), (4, .int (iI (w)))] (by decide +kernel) rfl (Nat.le_of_ble_eq_true rfl) ?_
  refine PW.iload_n dX12_top_0 rfl ?_
  refine PW.i2l (by first | assumption | (unfold inR; omega)) dX12_top_1 ?_
  refine PW.lconst (z := 0) rfl dX12_top_2 ?_
  refine PW.ldc2 (15) kc_X12_310 rfl rfl dX12_top_3 ?_
  refine PW.callSr (c_X12_in (inL_R rb) (by unfold inL; omega) (by unfold inL; omega)) cs_X12_in lk_X12_134 dX12_top_6 rfl rfl rfl ?_
  refine PW.if_eqB 31 dX12_top_9 (by decide) (fun h9 => ?_) (fun h9 => ?_)
  · refine PW.ldc (-100002) kc_X12_195 rfl rfl dX12_top_31 ?_
    exact PW.iret rfl rfl dX12_top_33 ⟨ret_eq (by rw [if_pos (by omega)]), rfl, rfl⟩
  · refine PW.iload_n dX12_top_12 rfl ?_
    refine PW.iload_n dX12_top_13 rfl ?_
    refine PW.callSr (c_X12_isPlace (by first | assumption | (unfold inR; omega)) (by first | assumption | (unfold inR; omega))) cs_X12_isPlace lk_X12_304 dX12_top_14 rfl rfl rfl ?_
    refine PW.if_eqB 31 dX12_top_17 (by decide) (fun h17 => ?_) (fun h17 => ?_)
    · refine PW.ldc (-100002) kc_X12_195 rfl rfl dX12_top_31 ?_
      exact PW.iret rfl rfl dX12_top_33 ⟨ret_eq (by rw [if_pos (by omega)]), rfl, rfl⟩
    · refine PW.iload dX12_top_20 rfl ?_
      refine PW.i2l (by first | assumption | (unfold inR; omega)) dX12_top_22 ?_
      refine PW.lconst (z := 0) rfl dX12_top_23 ?_
      refine PW.lconst (z := 1) rfl dX12_top_24 ?_
      refine PW.callSr (c_X12_in (inL_R rw_) (by unfold inL; omega) (by unfold inL; omega)) cs_X12_in lk_X12_134 dX12_top_25 rfl rfl rfl ?_
      refine PW.if_neB 34 dX12_top_28 (by decide) (fun h28 => ?_) (fun h28 => ?_)
      · refine PW.bipush (by decide) dX12_top_34 ?_
        refine PW.iload_n dX12_top_36 rfl ?_
        refine PW.imul dX12_top_37 ?_
        refine PW.iload_n dX12_top_38 rfl ?_
        refine PW.iadd dX12_top_39 ?_
        refine PW.istore [(0, _), (1, _), (2, _), (3, _), (4, _), (5, _)] dX12_top_40 rfl (Nat.le_of_ble_eq_true rfl) ?_
        refine PW.iconst dX12_top_42 ?_
        refine PW.istore [(0, _), (1, _), (2, _), (3, _), (4, _), (5, _), (6, _)] dX12_top_43 rfl (Nat.le_of_ble_eq_true rfl) ?_
        refine PW.bipush (by decide) dX12_top_45 ?_
        refine PW.istore [(0, _), (1, _), (2, _), (3, _), (4, _), (5, _), (6, _), (7, _)] dX12_top_47 rfl (Nat.le_of_ble_eq_true rfl) ?_
        have hd := hE.2.2 (8 * y + x) (by omega) (by omega)
        refine mo_mtop_loop (c := 8 * y + x) (b := b) (x := x) (y := y) (w := w) (Q := _) hA hE.2.1 (by omega) rb rw_ ?_ 81 (-40) (by omega) (by omega) (by omega)
        refine ⟨ret_eq ?_, rfl, rfl⟩
        rw [toF_eq hd, clF_eq hd]
        exact (if_neg (by omega)).symm
      · refine PW.ldc (-100002) kc_X12_195 rfl rfl dX12_top_31 ?_
        exact PW.iret rfl rfl dX12_top_33 ⟨ret_eq (by rw [if_pos (by omega)]), rfl, rfl⟩
theorem c_X12_was {G : GT} {S : Shp} {σ : Sto} {m : Nat} {n k x y z : Int} {f : Int → Int} (hA : IsMod S m) (hE : mCore σ m f n) (rk : inR k) (rx : inR x) (ry : inR y) (rz : inR z) : PMet G mX12_was 6 0 0 [.ref m, .int (iI k), .int (iI x), .int (iI y), .int (iI z)] S σ (fun r S' τ => S' = S ∧ r = some (.int (iI (if ¬ ((0 ≤ k ∧ k ≤ n) ∧ (0 ≤ x ∧ x < 8) ∧ (0 ≤ y ∧ y < 8) ∧ (-40 ≤ z ∧ z ≤ 39)) then -100002 else tlF f (8 * y + x) zF k.toNat (z + 40)))) ∧ eFr σ τ m ∧ mCore τ m (f) (n)) := by
  obtain ⟨hM0, hM1, hM2, hM3, hM4, hM5, hM6, hM7, hM8, hM9, hM10, hM11, hM12, hM13, hM14, hM15, hM16, hM17, hM18, hM19, hM20, hM21, hM22, hM23, hM24, hM25, hM26, hM27, hM28, hM29, hM30, hM31, hM32, hM33, hM34⟩ := id hA
  have hn := hE.1.1
  have hnb := hE.1.2.1
  refine PMet.of [(0, .ref m), (1, .int (iI (k))), (2, .int (iI (x))), (3, .int (iI (y))), (4, .int (iI (z)))] (by decide +kernel) rfl (Nat.le_of_ble_eq_true rfl) ?_
  refine PW.iload_n dX12_was_0 rfl ?_
  refine PW.i2l (by first | assumption | (unfold inR; omega)) dX12_was_1 ?_
  refine PW.lconst (z := 0) rfl dX12_was_2 ?_
  refine PW.aload_n dX12_was_3 rfl ?_
  refine PW.getI 2 fl_X12_184 rfl (by assumption) rfl rfl dX12_was_4 ?_
  refine PW.top n (by exact hn) ?_
  refine PW.i2l (by first | assumption | (unfold inR; omega)) dX12_was_7 ?_
  refine PW.callSr (c_X12_in (inL_R rk) (by unfold inL; omega) (by unfold inL; omega)) cs_X12_in lk_X12_134 dX12_was_8 rfl rfl rfl ?_
  refine PW.if_eqB 30 dX12_was_11 (by decide) (fun h11 => ?_) (fun h11 => ?_)
  · refine PW.ldc (-100002) kc_X12_195 rfl rfl dX12_was_30 ?_
    exact PW.iret rfl rfl dX12_was_32 ⟨rfl, ret_eq (by rw [if_pos (by omega)]), eFr.rfl' _ _, hE⟩
  · refine PW.iload_n dX12_was_14 rfl ?_
    refine PW.iload_n dX12_was_15 rfl ?_
    refine PW.callSr (c_X12_isPlace (by first | assumption | (unfold inR; omega)) (by first | assumption | (unfold inR; omega))) cs_X12_isPlace lk_X12_304 dX12_was_16 rfl rfl rfl ?_
    refine PW.if_eqB 30 dX12_was_19 (by decide) (fun h19 => ?_) (fun h19 => ?_)
    · refine PW.ldc (-100002) kc_X12_195 rfl rfl dX12_was_30 ?_
      exact PW.iret rfl rfl dX12_was_32 ⟨rfl, ret_eq (by rw [if_pos (by omega)]), eFr.rfl' _ _, hE⟩
    · refine PW.iload dX12_was_22 rfl ?_
      refine PW.callSr (c_X12_isHeight (by first | assumption | (unfold inR; omega))) cs_X12_isHeight lk_X12_307 dX12_was_24 rfl rfl rfl ?_
      refine PW.if_neB 33 dX12_was_27 (by decide) (fun h27 => ?_) (fun h27 => ?_)
      · refine PW.aload_n dX12_was_33 rfl ?_
        refine PW.iconst dX12_was_34 ?_
        refine PW.iload_n dX12_was_35 rfl ?_
        refine PW.callVg (c_X12_build (f := f) hA hE.2.1 (by omega) (by omega) (mRw_mono hE.1.2.2.1 (by omega))) cv_X12_build lk_X12_315 (by first | assumption | exact And.left (by assumption)) dX12_was_36 rfl rfl rfl rfl (fun r S' τ36 hq => ?_)
        obtain ⟨rfl, hS, hb⟩ := hq
        have hS2 := hS.symm
        subst hS2
        have hd := hb.2.2.1 (8 * y + x) (by omega) (by omega)
        refine PW.aload_n dX12_was_39 rfl ?_
        refine PW.iconst dX12_was_40 ?_
        refine PW.bipush (by decide) dX12_was_41 ?_
        refine PW.iload_n dX12_was_43 rfl ?_
        refine PW.imul dX12_was_44 ?_
        refine PW.iload_n dX12_was_45 rfl ?_
        refine PW.iadd dX12_was_46 ?_
        refine PW.iload dX12_was_47 rfl ?_
        refine PW.callVr (c_X12_get hA (by omega) (by omega) (by omega)) cv_X12_get lk_X12_127 (by first | assumption | exact And.left (by assumption)) dX12_was_49 rfl rfl rfl rfl ?_
        exact PW.iret rfl rfl dX12_was_52 ⟨rfl, ret_eq (by rw [if_neg (by omega), gtV_in (by omega)]; exact hd _ (by omega) (by omega)), hb.1.e, hb.core1 hE⟩
      · refine PW.ldc (-100002) kc_X12_195 rfl rfl dX12_was_30 ?_
        exact PW.iret rfl rfl dX12_was_32 ⟨rfl, ret_eq (by rw [if_pos (by omega)]), eFr.rfl' _ _, hE⟩

theorem fq_no {G : GT} {S : Shp} {σ : Sto} {m : Nat} {n ah be s i : Int} {f : Int → Int} {w : Int → Int} {cn : Int} {Q : Option Value → Shp → Sto → Prop} (hA : IsMod S m) (hg : mAg σ m w cn) (hn : 2 ≤ n ∧ n ≤ 8) (hah : ah = -1 ∧ be = -1 ∨ (0 ≤ ah ∧ ah < n) ∧ (0 ≤ be ∧ be < n)) (hs : 0 ≤ s ∧ s < fullS n) (hf : (∀ q, s < q → q ≤ fullS n → 0 ≤ f q ∧ f q ≤ 1000000)) (hi : 0 ≤ i ∧ i < n) (hal : ¬ alw ah be s i) (hN : PW (fm G mX12_findQuarrels 1 0 0 Q) G S (upS σ (m + 24) f) 0 0 34 [(0, .ref m), (1, .int (iI (n))), (2, .int (iI (ah))), (3, .int (iI (be))), (4, .int (iI (fullS n))), (5, .int (iI (s))), (6, .int (iI (mnB (fun b => alw ah be s b) (fun b => crF w n s b + f (orS s b)) (i + 1).toNat))), (7, .int (iI (i + 1)))] []) : PW (fm G mX12_findQuarrels 1 0 0 Q) G S (upS σ (m + 24) f) 0 0 75 [(0, .ref m), (1, .int (iI (n))), (2, .int (iI (ah))), (3, .int (iI (be))), (4, .int (iI (fullS n))), (5, .int (iI (s))), (6, .int (iI (mnB (fun b => alw ah be s b) (fun b => crF w n s b + f (orS s b)) i.toNat))), (7, .int (iI i))] [.int (iI 0)] := by
  obtain ⟨hM0, hM1, hM2, hM3, hM4, hM5, hM6, hM7, hM8, hM9, hM10, hM11, hM12, hM13, hM14, hM15, hM16, hM17, hM18, hM19, hM20, hM21, hM22, hM23, hM24, hM25, hM26, hM27, hM28, hM29, hM30, hM31, hM32, hM33, hM34⟩ := id hA
  have hfb := fullS_b (n := n) (by omega)
  have hwo := (mAg_w hg).1
  have hg2 : mAg (upS σ (m + 24) f) m w cn := mAg_congr (by rw [upS_ne (by omega)]) (upS_ne (by omega)) (upS_ne (by omega)) (upS_ne (by omega)) hg
  refine PW.istore [(0, _), (1, _), (2, _), (3, _), (4, _), (5, _), (6, _), (7, _), (8, _)] dX12_findQuarrels_75 rfl (Nat.le_of_ble_eq_true rfl) ?_
  refine PW.iload dX12_findQuarrels_77 rfl ?_
  refine PW.if_eq 122 dX12_findQuarrels_79 (by decide) (by first | assumption | (unfold inR; omega)) (fun h79 => ?_) (fun h79 => ?_)
  · refine PW.iinc [(0, _), (1, _), (2, _), (3, _), (4, _), (5, _), (6, _), (7, _), (8, _)] dX12_findQuarrels_122 rfl rfl (Nat.le_of_ble_eq_true rfl) ?_
    refine PW.goto 34 dX12_findQuarrels_125 (by decide) ?_
    refine PW.take 8 ?_
    rw [mnB_s _ _ hi.1, if_neg hal] at hN
    exact hN
  · omega
theorem fq_yes {G : GT} {S : Shp} {σ : Sto} {m : Nat} {n ah be s i : Int} {f : Int → Int} {w : Int → Int} {cn : Int} {Q : Option Value → Shp → Sto → Prop} (hA : IsMod S m) (hg : mAg σ m w cn) (hn : 2 ≤ n ∧ n ≤ 8) (hah : ah = -1 ∧ be = -1 ∨ (0 ≤ ah ∧ ah < n) ∧ (0 ≤ be ∧ be < n)) (hs : 0 ≤ s ∧ s < fullS n) (hf : (∀ q, s < q → q ≤ fullS n → 0 ≤ f q ∧ f q ≤ 1000000)) (hi : 0 ≤ i ∧ i < n) (hal : alw ah be s i) (hN : PW (fm G mX12_findQuarrels 1 0 0 Q) G S (upS σ (m + 24) f) 0 0 34 [(0, .ref m), (1, .int (iI (n))), (2, .int (iI (ah))), (3, .int (iI (be))), (4, .int (iI (fullS n))), (5, .int (iI (s))), (6, .int (iI (mnB (fun b => alw ah be s b) (fun b => crF w n s b + f (orS s b)) (i + 1).toNat))), (7, .int (iI (i + 1)))] []) : PW (fm G mX12_findQuarrels 1 0 0 Q) G S (upS σ (m + 24) f) 0 0 75 [(0, .ref m), (1, .int (iI (n))), (2, .int (iI (ah))), (3, .int (iI (be))), (4, .int (iI (fullS n))), (5, .int (iI (s))), (6, .int (iI (mnB (fun b => alw ah be s b) (fun b => crF w n s b + f (orS s b)) i.toNat))), (7, .int (iI i))] [.int (iI 1)] := by
  obtain ⟨hM0, hM1, hM2, hM3, hM4, hM5, hM6, hM7, hM8, hM9, hM10, hM11, hM12, hM13, hM14, hM15, hM16, hM17, hM18, hM19, hM20, hM21, hM22, hM23, hM24, hM25, hM26, hM27, hM28, hM29, hM30, hM31, hM32, hM33, hM34⟩ := id hA
  have hfb := fullS_b (n := n) (by omega)
  have hwo := (mAg_w hg).1
  have hg2 : mAg (upS σ (m + 24) f) m w cn := mAg_congr (by rw [upS_ne (by omega)]) (upS_ne (by omega)) (upS_ne (by omega)) (upS_ne (by omega)) hg
  have m1 := mnB_le (fun b => alw ah be s b) (fun b => crF w n s b + f (orS s b)) i.toNat
  have m0 : 0 ≤ mnB (fun b => alw ah be s b) (fun b => crF w n s b + f (orS s b)) i.toNat := mnB_ge (fun b b0 b1 hb => by
    have g1 := orS_gt hs.1 b0 hb.1
    have g2 := orS_le (s := s) (b := b) (n := n) ⟨hs.1, by omega⟩ ⟨b0, by omega⟩
    have g3 := hf _ g1 g2.2
    have g4 := crF_b hwo (n := n) (s := s) (b := b) (by omega) (by omega)
    try dsimp only
    omega)
  have bb := crF_b hwo (n := n) (s := s) (b := i) (by omega) (by omega)
  have k1 := orS_gt (s := s) (b := i) hs.1 hi.1 hal.1
  have k2 := orS_le (s := s) (b := i) (n := n) ⟨hs.1, by omega⟩ hi
  have k3 := hf _ k1 k2.2
  refine PW.istore [(0, _), (1, _), (2, _), (3, _), (4, _), (5, _), (6, _), (7, _), (8, _)] dX12_findQuarrels_75 rfl (Nat.le_of_ble_eq_true rfl) ?_
  refine PW.iload dX12_findQuarrels_77 rfl ?_
  refine PW.if_eq 122 dX12_findQuarrels_79 (by decide) (by first | assumption | (unfold inR; omega)) (fun h79 => ?_) (fun h79 => ?_)
  · omega
  · refine PW.aload_n dX12_findQuarrels_82 rfl ?_
    refine PW.iload_n dX12_findQuarrels_83 rfl ?_
    refine PW.iload dX12_findQuarrels_84 rfl ?_
    refine PW.iload dX12_findQuarrels_86 rfl ?_
    refine PW.callVr (c_X12_costOf hA hg2 (by omega) (by omega) (by omega)) cv_X12_costOf lk_X12_371 (by first | assumption | exact And.left (by assumption)) dX12_findQuarrels_88 rfl rfl rfl rfl ?_
    refine PW.aload_n dX12_findQuarrels_91 rfl ?_
    refine PW.getR fl_X12_85 rfl (by assumption) rfl dX12_findQuarrels_92 ?_
    refine PW.iload dX12_findQuarrels_95 rfl ?_
    refine PW.iconst dX12_findQuarrels_97 ?_
    refine PW.iload dX12_findQuarrels_98 rfl ?_
    refine PW.ishl dX12_findQuarrels_100 ?_
    refine PW.ior dX12_findQuarrels_101 ?_
    refine PW.top (orS s i) (orS_eq (by omega) (by omega)) ?_
    refine PW.iaload (by assumption) (by unfold inR; omega) (by omega) (by omega) dX12_findQuarrels_102 ?_
    refine PW.top (f (orS s i)) (by rw [upS_same]) ?_
    refine PW.iadd dX12_findQuarrels_103 ?_
    refine PW.istore [(0, _), (1, _), (2, _), (3, _), (4, _), (5, _), (6, _), (7, _), (8, _), (9, _)] dX12_findQuarrels_104 rfl (Nat.le_of_ble_eq_true rfl) ?_
    refine PW.iload dX12_findQuarrels_106 rfl ?_
    refine PW.iload dX12_findQuarrels_108 rfl ?_
    refine PW.icmp_ge 118 dX12_findQuarrels_110 (by decide) (by first | assumption | (unfold inR; omega)) (by first | assumption | (unfold inR; omega)) (fun h110 => ?_) (fun h110 => ?_)
    · refine PW.iload dX12_findQuarrels_118 rfl ?_
      refine PW.istore [(0, _), (1, _), (2, _), (3, _), (4, _), (5, _), (6, _), (7, _), (8, _), (9, _)] dX12_findQuarrels_120 rfl (Nat.le_of_ble_eq_true rfl) ?_
      refine PW.iinc [(0, _), (1, _), (2, _), (3, _), (4, _), (5, _), (6, _), (7, _), (8, _), (9, _)] dX12_findQuarrels_122 rfl rfl (Nat.le_of_ble_eq_true rfl) ?_
      refine PW.goto 34 dX12_findQuarrels_125 (by decide) ?_
      refine PW.take 8 ?_
      rw [mnB_s _ _ hi.1, if_pos hal] at hN
      first
        | (rw [Int.min_eq_right (by omega)] at hN; exact hN)
        | (rw [Int.min_eq_left (by omega)] at hN; exact hN)
    · refine PW.iload dX12_findQuarrels_113 rfl ?_
      refine PW.goto 120 dX12_findQuarrels_115 (by decide) ?_
      refine PW.istore [(0, _), (1, _), (2, _), (3, _), (4, _), (5, _), (6, _), (7, _), (8, _), (9, _)] dX12_findQuarrels_120 rfl (Nat.le_of_ble_eq_true rfl) ?_
      refine PW.iinc [(0, _), (1, _), (2, _), (3, _), (4, _), (5, _), (6, _), (7, _), (8, _), (9, _)] dX12_findQuarrels_122 rfl rfl (Nat.le_of_ble_eq_true rfl) ?_
      refine PW.goto 34 dX12_findQuarrels_125 (by decide) ?_
      refine PW.take 8 ?_
      rw [mnB_s _ _ hi.1, if_pos hal] at hN
      first
        | (rw [Int.min_eq_right (by omega)] at hN; exact hN)
        | (rw [Int.min_eq_left (by omega)] at hN; exact hN)
theorem mo_fq_in {G : GT} {S : Shp} {σ : Sto} {m : Nat} {n ah be s : Int} {f : Int → Int} {w : Int → Int} {cn : Int} {Q : Option Value → Shp → Sto → Prop} (hA : IsMod S m) (hg : mAg σ m w cn) (hn : 2 ≤ n ∧ n ≤ 8) (hah : ah = -1 ∧ be = -1 ∨ (0 ≤ ah ∧ ah < n) ∧ (0 ≤ be ∧ be < n)) (hs : 0 ≤ s ∧ s < fullS n) (hf : (∀ q, s < q → q ≤ fullS n → 0 ≤ f q ∧ f q ≤ 1000000)) (hK : PW (fm G mX12_findQuarrels 1 0 0 Q) G S (upS σ (m + 24) f) 0 0 128 [(0, .ref m), (1, .int (iI (n))), (2, .int (iI (ah))), (3, .int (iI (be))), (4, .int (iI (fullS n))), (5, .int (iI (s))), (6, .int (iI (mnB (fun b => alw ah be s b) (fun b => crF w n s b + f (orS s b)) n.toNat)))] []) : ∀ (t : Nat) (i : Int), 0 ≤ i → i ≤ n → n - i < t → PW (fm G mX12_findQuarrels 1 0 0 Q) G S (upS σ (m + 24) f) 0 0 34 [(0, .ref m), (1, .int (iI (n))), (2, .int (iI (ah))), (3, .int (iI (be))), (4, .int (iI (fullS n))), (5, .int (iI (s))), (6, .int (iI (mnB (fun b => alw ah be s b) (fun b => crF w n s b + f (orS s b)) i.toNat))), (7, .int (iI (i)))] [] := by
  obtain ⟨hM0, hM1, hM2, hM3, hM4, hM5, hM6, hM7, hM8, hM9, hM10, hM11, hM12, hM13, hM14, hM15, hM16, hM17, hM18, hM19, hM20, hM21, hM22, hM23, hM24, hM25, hM26, hM27, hM28, hM29, hM30, hM31, hM32, hM33, hM34⟩ := id hA
  have hfb := fullS_b (n := n) (by omega)
  have hwo := (mAg_w hg).1
  have hg2 : mAg (upS σ (m + 24) f) m w cn := mAg_congr (by rw [upS_ne (by omega)]) (upS_ne (by omega)) (upS_ne (by omega)) (upS_ne (by omega)) hg
  intro t
  induction t with
  | zero => intro i h1 h2 h3; omega
  | succ t ih =>
    intro i h1 h2 h3
    refine PW.iload dX12_findQuarrels_34 rfl ?_
    refine PW.iload_n dX12_findQuarrels_36 rfl ?_
    refine PW.icmp_ge 128 dX12_findQuarrels_37 (by decide) (by first | assumption | (unfold inR; omega) | exact b01_R _) (by first | assumption | (unfold inR; omega) | exact b01_R _) (fun h37 => ?_) (fun h37 => ?_)
    · have hi : i = n := by omega
      subst hi
      refine PW.take 7 ?_
      exact hK
    · refine PW.iload dX12_findQuarrels_40 rfl ?_
      refine PW.iload dX12_findQuarrels_42 rfl ?_
      refine PW.ishr dX12_findQuarrels_44 ?_
      refine PW.iconst dX12_findQuarrels_45 ?_
      refine PW.iand dX12_findQuarrels_46 ?_
      refine PW.top (b01 (inS s i)) (inS_eq (by omega) (by omega)) ?_
      refine PW.if_neB 74 dX12_findQuarrels_47 (by decide) (fun h47 => ?_) (fun h47 => ?_)
      · refine PW.iconst dX12_findQuarrels_74 ?_
        have hN := ih (i + 1) (by omega) (by omega) (by omega)
        first
          | exact fq_yes hA hg hn hah hs hf ⟨h1, by omega⟩ ⟨by assumption, fun r => by
              first
                | omega
                | exact r.2 (Classical.byContradiction fun q => by rw [b01_f q] at h67; exact h67 (by decide))
                | exact r.2 (Classical.byContradiction fun q => by rw [b01_f q] at h67; exact absurd h67 (by decide))⟩ hN
          | exact fq_no hA hg hn hah hs hf ⟨h1, by omega⟩ (fun r => by
              first
                | exact r.1 (by assumption)
                | exact r.2 ⟨by omega, fun q => by rw [b01_t q] at h67; exact h67 rfl⟩) hN
      · refine PW.iload_n dX12_findQuarrels_50 rfl ?_
        refine PW.if_lt 70 dX12_findQuarrels_51 (by decide) (by first | assumption | (unfold inR; omega) | exact b01_R _) (fun h51 => ?_) (fun h51 => ?_)
        · refine PW.iconst dX12_findQuarrels_70 ?_
          refine PW.goto 75 dX12_findQuarrels_71 (by decide) ?_
          have hN := ih (i + 1) (by omega) (by omega) (by omega)
          first
            | exact fq_yes hA hg hn hah hs hf ⟨h1, by omega⟩ ⟨by assumption, fun r => by
                first
                  | omega
                  | exact r.2 (Classical.byContradiction fun q => by rw [b01_f q] at h67; exact h67 (by decide))
                  | exact r.2 (Classical.byContradiction fun q => by rw [b01_f q] at h67; exact absurd h67 (by decide))⟩ hN
            | exact fq_no hA hg hn hah hs hf ⟨h1, by omega⟩ (fun r => by
                first
                  | exact r.1 (by assumption)
                  | exact r.2 ⟨by omega, fun q => by rw [b01_t q] at h67; exact h67 rfl⟩) hN
        · refine PW.iload dX12_findQuarrels_54 rfl ?_
          refine PW.iload_n dX12_findQuarrels_56 rfl ?_
          refine PW.icmp_ne 70 dX12_findQuarrels_57 (by decide) (by first | assumption | (unfold inR; omega) | exact b01_R _) (by first | assumption | (unfold inR; omega) | exact b01_R _) (fun h57 => ?_) (fun h57 => ?_)
          · refine PW.iconst dX12_findQuarrels_70 ?_
            refine PW.goto 75 dX12_findQuarrels_71 (by decide) ?_
            have hN := ih (i + 1) (by omega) (by omega) (by omega)
            first
              | exact fq_yes hA hg hn hah hs hf ⟨h1, by omega⟩ ⟨by assumption, fun r => by
                  first
                    | omega
                    | exact r.2 (Classical.byContradiction fun q => by rw [b01_f q] at h67; exact h67 (by decide))
                    | exact r.2 (Classical.byContradiction fun q => by rw [b01_f q] at h67; exact absurd h67 (by decide))⟩ hN
              | exact fq_no hA hg hn hah hs hf ⟨h1, by omega⟩ (fun r => by
                  first
                    | exact r.1 (by assumption)
                    | exact r.2 ⟨by omega, fun q => by rw [b01_t q] at h67; exact h67 rfl⟩) hN
          · refine PW.iload dX12_findQuarrels_60 rfl ?_
            refine PW.iload_n dX12_findQuarrels_62 rfl ?_
            refine PW.ishr dX12_findQuarrels_63 ?_
            refine PW.iconst dX12_findQuarrels_64 ?_
            refine PW.iand dX12_findQuarrels_65 ?_
            refine PW.top (b01 (inS s ah)) (inS_eq (by omega) (by omega)) ?_
            refine PW.iconst dX12_findQuarrels_66 ?_
            refine PW.icmp_ne 74 dX12_findQuarrels_67 (by decide) (by first | assumption | (unfold inR; omega) | exact b01_R _) (by first | assumption | (unfold inR; omega) | exact b01_R _) (fun h67 => ?_) (fun h67 => ?_)
            · refine PW.iconst dX12_findQuarrels_74 ?_
              have hN := ih (i + 1) (by omega) (by omega) (by omega)
              first
                | exact fq_yes hA hg hn hah hs hf ⟨h1, by omega⟩ ⟨by assumption, fun r => by
                    first
                      | omega
                      | exact r.2 (Classical.byContradiction fun q => by rw [b01_f q] at h67; exact h67 (by decide))
                      | exact r.2 (Classical.byContradiction fun q => by rw [b01_f q] at h67; exact absurd h67 (by decide))⟩ hN
                | exact fq_no hA hg hn hah hs hf ⟨h1, by omega⟩ (fun r => by
                    first
                      | exact r.1 (by assumption)
                      | exact r.2 ⟨by omega, fun q => by rw [b01_t q] at h67; exact h67 rfl⟩) hN
            · refine PW.iconst dX12_findQuarrels_70 ?_
              refine PW.goto 75 dX12_findQuarrels_71 (by decide) ?_
              have hN := ih (i + 1) (by omega) (by omega) (by omega)
              first
                | exact fq_yes hA hg hn hah hs hf ⟨h1, by omega⟩ ⟨by assumption, fun r => by
                    first
                      | omega
                      | exact r.2 (Classical.byContradiction fun q => by rw [b01_f q] at h67; exact h67 (by decide))
                      | exact r.2 (Classical.byContradiction fun q => by rw [b01_f q] at h67; exact absurd h67 (by decide))⟩ hN
                | exact fq_no hA hg hn hah hs hf ⟨h1, by omega⟩ (fun r => by
                    first
                      | exact r.1 (by assumption)
                      | exact r.2 ⟨by omega, fun q => by rw [b01_t q] at h67; exact h67 rfl⟩) hN
theorem mo_fq_out {G : GT} {S : Shp} {σ : Sto} {m : Nat} {n ah be : Int} {w : Int → Int} {cn : Int} {Q : Option Value → Shp → Sto → Prop} (hA : IsMod S m) (hg : mAg σ m w cn) (hn : 2 ≤ n ∧ n ≤ 8) (hah : ah = -1 ∧ be = -1 ∨ (0 ≤ ah ∧ ah < n) ∧ (0 ≤ be ∧ be < n)) (hQ : ∀ f : Int → Int, dpM w n ah be f 0 → (∀ q, 0 ≤ q → q ≤ fullS n → 0 ≤ f q ∧ f q ≤ 1000000) → Q none S (upS σ (m + 24) f)) : ∀ (t : Nat) (i : Int) (f : Int → Int), -1 ≤ i → i < fullS n → i + 1 < t → (∀ q, i < q → q ≤ fullS n → 0 ≤ f q ∧ f q ≤ 1000000) → dpM w n ah be f (i + 1) → PW (fm G mX12_findQuarrels 1 0 0 Q) G S (upS σ (m + 24) f) 0 0 21 [(0, .ref m), (1, .int (iI (n))), (2, .int (iI (ah))), (3, .int (iI (be))), (4, .int (iI (fullS n))), (5, .int (iI (i)))] [] := by
  obtain ⟨hM0, hM1, hM2, hM3, hM4, hM5, hM6, hM7, hM8, hM9, hM10, hM11, hM12, hM13, hM14, hM15, hM16, hM17, hM18, hM19, hM20, hM21, hM22, hM23, hM24, hM25, hM26, hM27, hM28, hM29, hM30, hM31, hM32, hM33, hM34⟩ := id hA
  have hfb := fullS_b (n := n) (by omega)
  have hwo := (mAg_w hg).1
  intro t
  induction t with
  | zero => intro i f h1 h2 h3 g1 g2; omega
  | succ t ih =>
    intro i f h1 h2 h3 g1 g2
    refine PW.iload dX12_findQuarrels_21 rfl ?_
    refine PW.if_lt 143 dX12_findQuarrels_23 (by decide) (by first | assumption | (unfold inR; omega)) (fun h23 => ?_) (fun h23 => ?_)
    · exact PW.vret rfl dX12_findQuarrels_143 (hQ f (by rw [show (0 : Int) = i + 1 by omega]; exact g2) (fun q q0 q1 => g1 q (by omega) q1))
    · refine PW.ldcw (1000000) kc_X12_370 rfl rfl dX12_findQuarrels_26 ?_
      refine PW.istore [(0, _), (1, _), (2, _), (3, _), (4, _), (5, _), (6, _)] dX12_findQuarrels_29 rfl (Nat.le_of_ble_eq_true rfl) ?_
      refine PW.iconst dX12_findQuarrels_31 ?_
      refine PW.istore [(0, _), (1, _), (2, _), (3, _), (4, _), (5, _), (6, _), (7, _)] dX12_findQuarrels_32 rfl (Nat.le_of_ble_eq_true rfl) ?_
      have ml := mnB_le (fun b => alw ah be i b) (fun b => crF w n i b + f (orS i b)) n.toNat
      have m0 : 0 ≤ mnB (fun b => alw ah be i b) (fun b => crF w n i b + f (orS i b)) n.toNat := mnB_ge (fun b b0 b1 hb => by
        have k1 := orS_gt (show 0 ≤ i by omega) b0 hb.1
        have k2 := orS_le (s := i) (b := b) (n := n) ⟨by omega, by omega⟩ ⟨b0, by omega⟩
        have k3 := g1 _ k1 k2.2
        have k4 := crF_b hwo (n := n) (s := i) (b := b) (by omega) (by omega)
        try dsimp only
        omega)
      refine mo_fq_in hA hg hn hah ⟨by omega, by omega⟩ g1 ?_ 9 0 (by omega) (by omega) (by omega)
      refine PW.aload_n dX12_findQuarrels_128 rfl ?_
      refine PW.getR fl_X12_85 rfl (by assumption) rfl dX12_findQuarrels_129 ?_
      refine PW.iload dX12_findQuarrels_132 rfl ?_
      refine PW.iload dX12_findQuarrels_134 rfl ?_
      refine PW.iastore (by assumption) (by first | assumption | (unfold inR; omega)) (by omega) (by omega) dX12_findQuarrels_136 ?_
      refine PW.iinc [(0, _), (1, _), (2, _), (3, _), (4, _), (5, _), (6, _)] dX12_findQuarrels_137 rfl rfl (Nat.le_of_ble_eq_true rfl) ?_
      refine PW.goto 21 dX12_findQuarrels_140 (by decide) ?_
      refine PW.take 6 ?_
      refine PW.st (upS σ (m + 24) (up1 f i (mnB (fun b => alw ah be i b) (fun b => crF w n i b + f (orS i b)) n.toNat))) (by rw [upS_upS, upS_same]) ?_
      refine ih (i + -1) _ (by omega) (by omega) (by omega) (fun q q1 q2 => ?_) ⟨?_, fun s s0 s1 => ?_⟩
      · by_cases hq : q = i
        · subst hq
          rw [up1_same]
          omega
        · rw [up1_ne hq]
          exact g1 q (by omega) q2
      · rw [up1_ne (by omega)]
        exact g2.1
      · unfold dqM
        by_cases hq : s = i
        · subst hq
          rw [up1_same]
          refine mnB_congr fun b b0 b1 hb => ?_
          have k1 := orS_gt (show 0 ≤ s by omega) b0 hb.1
          rw [up1_ne (by omega)]
        · rw [up1_ne hq]
          have e := g2.2 s (by omega) s1
          unfold dqM at e
          rw [e]
          refine mnB_congr fun b b0 b1 hb => ?_
          have k1 := orS_ge (s := s) (b := b) (by omega)
          rw [up1_ne (by omega)]
theorem c_X12_findQuarrels {G : GT} {S : Shp} {σ : Sto} {m : Nat} {n ah be : Int} {w : Int → Int} {cn : Int} (hA : IsMod S m) (hg : mAg σ m w cn) (hn : 2 ≤ n ∧ n ≤ 8) (hah : ah = -1 ∧ be = -1 ∨ (0 ≤ ah ∧ ah < n) ∧ (0 ≤ be ∧ be < n)) : PMet G mX12_findQuarrels 1 0 0 [.ref m, .int (iI n), .int (iI ah), .int (iI be)] S σ (fun r S' τ => r = none ∧ S' = S ∧ ∃ f : Int → Int, τ = upS σ (m + 24) f ∧ dpM w n ah be f 0 ∧ ∀ q, 0 ≤ q → q ≤ fullS n → 0 ≤ f q ∧ f q ≤ 1000000) := by
  obtain ⟨hM0, hM1, hM2, hM3, hM4, hM5, hM6, hM7, hM8, hM9, hM10, hM11, hM12, hM13, hM14, hM15, hM16, hM17, hM18, hM19, hM20, hM21, hM22, hM23, hM24, hM25, hM26, hM27, hM28, hM29, hM30, hM31, hM32, hM33, hM34⟩ := id hA
  have hfb := fullS_b (n := n) (by omega)
  refine PMet.of [(0, .ref m), (1, .int (iI (n))), (2, .int (iI (ah))), (3, .int (iI (be)))] (by decide +kernel) rfl (Nat.le_of_ble_eq_true rfl) ?_
  refine PW.iconst dX12_findQuarrels_0 ?_
  refine PW.iload_n dX12_findQuarrels_1 rfl ?_
  refine PW.ishl dX12_findQuarrels_2 ?_
  refine PW.iconst dX12_findQuarrels_3 ?_
  refine PW.isub dX12_findQuarrels_4 ?_
  refine PW.top (fullS n) (fullS_eq (by omega)) ?_
  refine PW.istore [(0, _), (1, _), (2, _), (3, _), (4, _)] dX12_findQuarrels_5 rfl (Nat.le_of_ble_eq_true rfl) ?_
  refine PW.aload_n dX12_findQuarrels_7 rfl ?_
  refine PW.getR fl_X12_85 rfl (by assumption) rfl dX12_findQuarrels_8 ?_
  refine PW.iload dX12_findQuarrels_11 rfl ?_
  refine PW.iconst dX12_findQuarrels_13 ?_
  refine PW.iastore (by assumption) (by first | assumption | (unfold inR; omega)) (by omega) (by omega) dX12_findQuarrels_14 ?_
  refine PW.iload dX12_findQuarrels_15 rfl ?_
  refine PW.iconst dX12_findQuarrels_17 ?_
  refine PW.isub dX12_findQuarrels_18 ?_
  refine PW.istore [(0, _), (1, _), (2, _), (3, _), (4, _), (5, _)] dX12_findQuarrels_19 rfl (Nat.le_of_ble_eq_true rfl) ?_
  refine mo_fq_out hA hg hn hah (fun f h h2 => ⟨rfl, rfl, f, rfl, h, h2⟩) 256 _ _ (by omega) (by omega) (by omega) (fun q q1 q2 => ?_) ⟨by rw [up1_same], fun s s0 s1 => by omega⟩
  rw [show q = fullS n by omega, up1_same]
  omega

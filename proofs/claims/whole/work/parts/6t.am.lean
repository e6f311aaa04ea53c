def blF (σ τ : Sto) (m : Nat) : Prop := mFg σ τ m ∧ cOk (τ (m + 1)) 15360 ∧ ∀ j, j < 5120 → τ (m + 1) j = σ (m + 1) j
theorem blF.core {σ τ : Sto} {m : Nat} {f : Int → Int} {n : Int} (h : blF σ τ m) (hE : mCore σ m f n) : mCore τ m f n := ⟨h.1.ev hE.1, h.2.1, mLd_o hE.2.2 (fun j j0 j1 => h.2.2 j (by omega))⟩
theorem blF.trans {σ τ μ : Sto} {m : Nat} {f : Int → Int} {w i : Int} (h : blF σ τ m) (h' : blI τ μ m f w i) : blF σ μ m := ⟨fun b q1 q2 q6 => (h'.1 b q1 q2 q6).trans (h.1 b q1 q2 q6), h'.2.1, fun j hj => (h'.2.2.1 j hj).trans (h.2.2 j hj)⟩
theorem amF_ld {C g : Int → Int} {L n : Int} (h : mLd C L g n) (b : Int) : smF (fun c => clF (clV C L c) b) 64 = amF g n b := smF_congr fun c c0 c1 => clF_eq (h c c0 (by omega)) b
set_option maxRecDepth 20000 in
theorem mo_am_pw {G : GT} {S : Shp} {σ : Sto} {m : Nat} {n b w : Int} {f : Int → Int} {Q : Option Value → Shp → Sto → Prop} (hA : IsMod S m) (hE : mCore σ m f n) (hK : PW (fm G mX12_amount 7 0 0 Q) G S σ 0 0 74 [(0, .ref m), (1, .int (iI b)), (2, .int (iI w)), (3, .int (iI (pwI 3 (looF f n))))] []) : ∀ (t : Nat) (i : Int), 0 ≤ i → i ≤ (looF f n) → (looF f n) - i < t → PW (fm G mX12_amount 7 0 0 Q) G S (σ) 0 0 55 [(0, .ref m), (1, .int (iI (b))), (2, .int (iI (w))), (3, .int (iI (pwI 3 i))), (4, .int (iI (i)))] [] := by
  obtain ⟨hM0, hM1, hM2, hM3, hM4, hM5, hM6, hM7, hM8, hM9, hM10, hM11, hM12, hM13, hM14, hM15, hM16, hM17, hM18, hM19, hM20, hM21, hM22, hM23, hM24, hM25, hM26, hM27, hM28, hM29, hM30, hM31, hM32, hM33, hM34⟩ := id hA
  have hn := hE.1.1
  have hnb := hE.1.2.1
  have lb := looF_b f n hnb.1
  intro t
  induction t with
  | zero => intro i h1 h2 h3; omega
  | succ t ih =>
    intro i h1 h2 h3
    refine PW.iload dX12_amount_55 rfl ?_
    refine PW.aload_n dX12_amount_57 rfl ?_
    refine PW.callVr (c_X12_looseOnes hA hE.1) cv_X12_looseOnes lk_X12_223 (by first | assumption | exact And.left (by assumption)) dX12_amount_58 rfl rfl rfl rfl ?_
    refine PW.icmp_ge 74 dX12_amount_61 (by decide) (by first | (unfold inR; omega) | assumption) (by first | (unfold inR; omega) | assumption) (fun h61 => ?_) (fun h61 => ?_)
    · have hi : i = looF f n := by omega
      subst hi
      refine PW.take 4 ?_
      exact hK
    · refine PW.iload_n dX12_amount_64 rfl ?_
      refine PW.iconst dX12_amount_65 ?_
      refine PW.imul dX12_amount_66 ?_
      refine PW.istore_n [(0, _), (1, _), (2, _), (3, _), (4, _)] dX12_amount_67 rfl (Nat.le_of_ble_eq_true rfl) ?_
      refine PW.iinc [(0, _), (1, _), (2, _), (3, _), (4, _)] dX12_amount_68 rfl rfl (Nat.le_of_ble_eq_true rfl) ?_
      refine PW.goto 55 dX12_amount_71 (by decide) ?_
      have e := ih (i + 1) (by omega) (by omega) (by omega)
      rw [pwI_s (by omega) h1] at e
      exact e
set_option maxRecDepth 20000 in
theorem mo_am_loop {G : GT} {S : Shp} {σ : Sto} {m : Nat} {n b w : Int} {f : Int → Int} {Q : Option Value → Shp → Sto → Prop} (hA : IsMod S m) (hE : mCore σ m f n) (rb : inR b) (hw : w = 1 ∨ w = 2) (h4 : ¬ 4 < (looF f n)) (hp : 1 ≤ pwI 3 (looF f n) ∧ pwI 3 (looF f n) ≤ 81) (hQ : ∀ τ v, blF σ τ m → (w = 1 → lsW f n b (pwI 3 (looF f n)) v) → (w = 2 → grW f n b (pwI 3 (looF f n)) v) → Q (some (.int (iI v))) S τ) : ∀ (t : Nat) (x : Int) (τ : Sto) (v : Int), 0 ≤ x → x ≤ pwI 3 (looF f n) → pwI 3 (looF f n) - x < t → blF σ τ m → (w = 1 → lsW f n b x v) → (w = 2 → grW f n b x v) → (-1 ≤ v ∧ v ≤ 5120) → PW (fm G mX12_amount 7 0 0 Q) G S (τ) 0 0 80 [(0, .ref m), (1, .int (iI (b))), (2, .int (iI (w))), (3, .int (iI (pwI 3 (looF f n)))), (4, .int (iI (v))), (5, .int (iI (x)))] [] := by
  obtain ⟨hM0, hM1, hM2, hM3, hM4, hM5, hM6, hM7, hM8, hM9, hM10, hM11, hM12, hM13, hM14, hM15, hM16, hM17, hM18, hM19, hM20, hM21, hM22, hM23, hM24, hM25, hM26, hM27, hM28, hM29, hM30, hM31, hM32, hM33, hM34⟩ := id hA
  have hn := hE.1.1
  have hnb := hE.1.2.1
  intro t
  induction t with
  | zero => intro x τ v h1 h2 h3 g1 g2 g3 g4; omega
  | succ t ih =>
    intro x τ v h1 h2 h3 g1 g2 g3 g4
    have hEt := g1.core hE
    have hab := amF_b (gW f x) n b
    refine PW.iload dX12_amount_80 rfl ?_
    refine PW.iload_n dX12_amount_82 rfl ?_
    refine PW.icmp_ge 145 dX12_amount_83 (by decide) (by first | (unfold inR; omega) | assumption) (by first | (unfold inR; omega) | assumption) (fun h83 => ?_) (fun h83 => ?_)
    · refine PW.iload dX12_amount_145 rfl ?_
      have hx : x = pwI 3 (looF f n) := by omega
      subst hx
      exact PW.iret rfl rfl dX12_amount_147 (hQ τ v g1 g2 g3)
    · refine PW.aload_n dX12_amount_86 rfl ?_
      refine PW.iload dX12_amount_87 rfl ?_
      refine PW.callVg (c_X12_buildLoose (w := x) hA hEt.1 hEt.2.1 (by omega)) cv_X12_buildLoose lk_X12_327 (by first | assumption | exact And.left (by assumption)) dX12_amount_89 rfl rfl rfl rfl (fun r S' τ89 hq => ?_)
      obtain ⟨hS, rfl, hI⟩ := hq
      have hS2 := hS.symm
      subst hS2
      have i1 := g1.trans hI
      refine PW.if_eqB 139 dX12_amount_92 (by decide) (fun h92 => ?_) (fun h92 => ?_)
      · refine PW.iinc [(0, _), (1, _), (2, _), (3, _), (4, _), (5, _)] dX12_amount_139 rfl rfl (Nat.le_of_ble_eq_true rfl) ?_
        refine PW.goto 80 dX12_amount_142 (by decide) ?_
        first
          | exact ih (x + 1) _ v (by omega) (by omega) (by omega) i1 (fun q => lsW_no (g2 q) h92) (fun q => grW_no (g3 q) h92) g4
          | (refine PW.take 6 ?_
             first
               | exact ih (x + 1) _ (amF (gW f x) n b) (by omega) (by omega) (by omega) i1 (fun q => lsW_yes (g2 q) h1 h92 rfl (Eq.symm (if_pos (by omega)))) (fun q => grW_yes (g3 q) h1 h92 rfl (Eq.symm (if_pos (by omega)))) (by omega)
               | exact ih (x + 1) _ v (by omega) (by omega) (by omega) i1 (fun q => lsW_yes (g2 q) h1 h92 rfl (Eq.symm (if_neg (by omega)))) (fun q => grW_yes (g3 q) h1 h92 rfl (Eq.symm (if_neg (by omega)))) (by omega))
      · refine PW.aload_n dX12_amount_95 rfl ?_
        refine PW.iconst dX12_amount_96 ?_
        refine PW.iload_n dX12_amount_97 rfl ?_
        refine PW.callVr (c_X12_amountOf (L := 1) hA hI.2.1 (by omega) rb) cv_X12_amountOf lk_X12_323 (by first | assumption | exact And.left (by assumption)) dX12_amount_98 rfl rfl rfl rfl ?_
        refine PW.top (amF (gW f x) n b) (amF_ld (hI.2.2.2 h92) b) ?_
        refine PW.istore [(0, _), (1, _), (2, _), (3, _), (4, _), (5, _), (6, _)] dX12_amount_101 rfl (Nat.le_of_ble_eq_true rfl) ?_
        refine PW.iload dX12_amount_103 rfl ?_
        refine PW.if_lt 130 dX12_amount_105 (by decide) (by first | (unfold inR; omega) | assumption) (fun h105 => ?_) (fun h105 => ?_)
        · refine PW.iload dX12_amount_130 rfl ?_
          refine PW.goto 137 dX12_amount_132 (by decide) ?_
          refine PW.istore [(0, _), (1, _), (2, _), (3, _), (4, _), (5, _), (6, _)] dX12_amount_137 rfl (Nat.le_of_ble_eq_true rfl) ?_
          refine PW.iinc [(0, _), (1, _), (2, _), (3, _), (4, _), (5, _), (6, _)] dX12_amount_139 rfl rfl (Nat.le_of_ble_eq_true rfl) ?_
          refine PW.goto 80 dX12_amount_142 (by decide) ?_
          first
            | exact ih (x + 1) _ v (by omega) (by omega) (by omega) i1 (fun q => lsW_no (g2 q) h92) (fun q => grW_no (g3 q) h92) g4
            | (refine PW.take 6 ?_
               first
                 | exact ih (x + 1) _ (amF (gW f x) n b) (by omega) (by omega) (by omega) i1 (fun q => lsW_yes (g2 q) h1 h92 rfl (Eq.symm (if_pos (by omega)))) (fun q => grW_yes (g3 q) h1 h92 rfl (Eq.symm (if_pos (by omega)))) (by omega)
                 | exact ih (x + 1) _ v (by omega) (by omega) (by omega) i1 (fun q => lsW_yes (g2 q) h1 h92 rfl (Eq.symm (if_neg (by omega)))) (fun q => grW_yes (g3 q) h1 h92 rfl (Eq.symm (if_neg (by omega)))) (by omega))
        · refine PW.iload_n dX12_amount_108 rfl ?_
          refine PW.iconst dX12_amount_109 ?_
          refine PW.icmp_ne 123 dX12_amount_110 (by decide) (by first | (unfold inR; omega) | assumption) (by first | (unfold inR; omega) | assumption) (fun h110 => ?_) (fun h110 => ?_)
          · refine PW.iload dX12_amount_123 rfl ?_
            refine PW.iload dX12_amount_125 rfl ?_
            refine PW.icmp_le 135 dX12_amount_127 (by decide) (by first | (unfold inR; omega) | assumption) (by first | (unfold inR; omega) | assumption) (fun h127 => ?_) (fun h127 => ?_)
            · refine PW.iload dX12_amount_135 rfl ?_
              refine PW.istore [(0, _), (1, _), (2, _), (3, _), (4, _), (5, _), (6, _)] dX12_amount_137 rfl (Nat.le_of_ble_eq_true rfl) ?_
              refine PW.iinc [(0, _), (1, _), (2, _), (3, _), (4, _), (5, _), (6, _)] dX12_amount_139 rfl rfl (Nat.le_of_ble_eq_true rfl) ?_
              refine PW.goto 80 dX12_amount_142 (by decide) ?_
              first
                | exact ih (x + 1) _ v (by omega) (by omega) (by omega) i1 (fun q => lsW_no (g2 q) h92) (fun q => grW_no (g3 q) h92) g4
                | (refine PW.take 6 ?_
                   first
                     | exact ih (x + 1) _ (amF (gW f x) n b) (by omega) (by omega) (by omega) i1 (fun q => lsW_yes (g2 q) h1 h92 rfl (Eq.symm (if_pos (by omega)))) (fun q => grW_yes (g3 q) h1 h92 rfl (Eq.symm (if_pos (by omega)))) (by omega)
                     | exact ih (x + 1) _ v (by omega) (by omega) (by omega) i1 (fun q => lsW_yes (g2 q) h1 h92 rfl (Eq.symm (if_neg (by omega)))) (fun q => grW_yes (g3 q) h1 h92 rfl (Eq.symm (if_neg (by omega)))) (by omega))
            · refine PW.iload dX12_amount_130 rfl ?_
              refine PW.goto 137 dX12_amount_132 (by decide) ?_
              refine PW.istore [(0, _), (1, _), (2, _), (3, _), (4, _), (5, _), (6, _)] dX12_amount_137 rfl (Nat.le_of_ble_eq_true rfl) ?_
              refine PW.iinc [(0, _), (1, _), (2, _), (3, _), (4, _), (5, _), (6, _)] dX12_amount_139 rfl rfl (Nat.le_of_ble_eq_true rfl) ?_
              refine PW.goto 80 dX12_amount_142 (by decide) ?_
              first
                | exact ih (x + 1) _ v (by omega) (by omega) (by omega) i1 (fun q => lsW_no (g2 q) h92) (fun q => grW_no (g3 q) h92) g4
                | (refine PW.take 6 ?_
                   first
                     | exact ih (x + 1) _ (amF (gW f x) n b) (by omega) (by omega) (by omega) i1 (fun q => lsW_yes (g2 q) h1 h92 rfl (Eq.symm (if_pos (by omega)))) (fun q => grW_yes (g3 q) h1 h92 rfl (Eq.symm (if_pos (by omega)))) (by omega)
                     | exact ih (x + 1) _ v (by omega) (by omega) (by omega) i1 (fun q => lsW_yes (g2 q) h1 h92 rfl (Eq.symm (if_neg (by omega)))) (fun q => grW_yes (g3 q) h1 h92 rfl (Eq.symm (if_neg (by omega)))) (by omega))
          · refine PW.iload dX12_amount_113 rfl ?_
            refine PW.iload dX12_amount_115 rfl ?_
            refine PW.icmp_ge 135 dX12_amount_117 (by decide) (by first | (unfold inR; omega) | assumption) (by first | (unfold inR; omega) | assumption) (fun h117 => ?_) (fun h117 => ?_)
            · refine PW.iload dX12_amount_135 rfl ?_
              refine PW.istore [(0, _), (1, _), (2, _), (3, _), (4, _), (5, _), (6, _)] dX12_amount_137 rfl (Nat.le_of_ble_eq_true rfl) ?_
              refine PW.iinc [(0, _), (1, _), (2, _), (3, _), (4, _), (5, _), (6, _)] dX12_amount_139 rfl rfl (Nat.le_of_ble_eq_true rfl) ?_
              refine PW.goto 80 dX12_amount_142 (by decide) ?_
              first
                | exact ih (x + 1) _ v (by omega) (by omega) (by omega) i1 (fun q => lsW_no (g2 q) h92) (fun q => grW_no (g3 q) h92) g4
                | (refine PW.take 6 ?_
                   first
                     | exact ih (x + 1) _ (amF (gW f x) n b) (by omega) (by omega) (by omega) i1 (fun q => lsW_yes (g2 q) h1 h92 rfl (Eq.symm (if_pos (by omega)))) (fun q => grW_yes (g3 q) h1 h92 rfl (Eq.symm (if_pos (by omega)))) (by omega)
                     | exact ih (x + 1) _ v (by omega) (by omega) (by omega) i1 (fun q => lsW_yes (g2 q) h1 h92 rfl (Eq.symm (if_neg (by omega)))) (fun q => grW_yes (g3 q) h1 h92 rfl (Eq.symm (if_neg (by omega)))) (by omega))
            · refine PW.goto 130 dX12_amount_120 (by decide) ?_
              refine PW.iload dX12_amount_130 rfl ?_
              refine PW.goto 137 dX12_amount_132 (by decide) ?_
              refine PW.istore [(0, _), (1, _), (2, _), (3, _), (4, _), (5, _), (6, _)] dX12_amount_137 rfl (Nat.le_of_ble_eq_true rfl) ?_
              refine PW.iinc [(0, _), (1, _), (2, _), (3, _), (4, _), (5, _), (6, _)] dX12_amount_139 rfl rfl (Nat.le_of_ble_eq_true rfl) ?_
              refine PW.goto 80 dX12_amount_142 (by decide) ?_
              first
                | exact ih (x + 1) _ v (by omega) (by omega) (by omega) i1 (fun q => lsW_no (g2 q) h92) (fun q => grW_no (g3 q) h92) g4
                | (refine PW.take 6 ?_
                   first
                     | exact ih (x + 1) _ (amF (gW f x) n b) (by omega) (by omega) (by omega) i1 (fun q => lsW_yes (g2 q) h1 h92 rfl (Eq.symm (if_pos (by omega)))) (fun q => grW_yes (g3 q) h1 h92 rfl (Eq.symm (if_pos (by omega)))) (by omega)
                     | exact ih (x + 1) _ v (by omega) (by omega) (by omega) i1 (fun q => lsW_yes (g2 q) h1 h92 rfl (Eq.symm (if_neg (by omega)))) (fun q => grW_yes (g3 q) h1 h92 rfl (Eq.symm (if_neg (by omega)))) (by omega))
theorem pwI_81 {l : Int} (h0 : 0 ≤ l) (h1 : l ≤ 4) : 1 ≤ pwI 3 l ∧ pwI 3 l ≤ 81 := by
  rcases (show l = 0 ∨ l = 1 ∨ l = 2 ∨ l = 3 ∨ l = 4 by omega) with rfl | rfl | rfl | rfl | rfl <;> decide
theorem blF_rfl {σ : Sto} {m : Nat} (hC : cOk (σ (m + 1)) 15360) : blF σ σ m := ⟨fun _ _ _ _ => rfl, hC, fun _ _ => rfl⟩
set_option maxRecDepth 20000 in
theorem am_tail {G : GT} {S : Shp} {σ : Sto} {m : Nat} {n b w : Int} {f : Int → Int} (hA : IsMod S m) (hE : mCore σ m f n) (rb : inR b) (hb : 0 ≤ b ∧ b < 16) (hw : w = 1 ∨ w = 2) (h4 : ¬ 4 < (looF f n)) : PW (fm G mX12_amount 7 0 0 (fun r S' τ => S' = S ∧ ∃ v : Int, r = some (.int (iI v)) ∧ blF σ τ m ∧ (¬ ((0 ≤ b ∧ b < 16) ∧ (0 ≤ w ∧ w ≤ 2)) → v = -100002) ∧ (((0 ≤ b ∧ b < 16) ∧ (0 ≤ w ∧ w ≤ 2)) → w = 0 → v = amF f n b) ∧ (((0 ≤ b ∧ b < 16) ∧ (0 ≤ w ∧ w ≤ 2)) → ¬ w = 0 → 4 < (looF f n) → v = -100005) ∧ (((0 ≤ b ∧ b < 16) ∧ (0 ≤ w ∧ w ≤ 2)) → w = 1 → ¬ 4 < (looF f n) → isLst f n b v) ∧ (((0 ≤ b ∧ b < 16) ∧ (0 ≤ w ∧ w ≤ 2)) → w = 2 → ¬ 4 < (looF f n) → isGrt f n b v))) G S σ 0 0 74 [(0, .ref m), (1, .int (iI b)), (2, .int (iI w)), (3, .int (iI (pwI 3 (looF f n))))] [] := by
  obtain ⟨hM0, hM1, hM2, hM3, hM4, hM5, hM6, hM7, hM8, hM9, hM10, hM11, hM12, hM13, hM14, hM15, hM16, hM17, hM18, hM19, hM20, hM21, hM22, hM23, hM24, hM25, hM26, hM27, hM28, hM29, hM30, hM31, hM32, hM33, hM34⟩ := id hA
  have hn := hE.1.1
  have hnb := hE.1.2.1
  have lb := looF_b f n hnb.1
  have hpw := pwI_81 (l := (looF f n)) (by omega) (by omega)
  refine PW.iconst dX12_amount_74 ?_
  refine PW.istore [(0, _), (1, _), (2, _), (3, _), (4, _)] dX12_amount_75 rfl (Nat.le_of_ble_eq_true rfl) ?_
  refine PW.iconst dX12_amount_77 ?_
  refine PW.istore [(0, _), (1, _), (2, _), (3, _), (4, _), (5, _)] dX12_amount_78 rfl (Nat.le_of_ble_eq_true rfl) ?_
  exact mo_am_loop hA hE rb (by omega) (by omega) hpw (fun τ v q1 q2 q3 => ⟨rfl, v, rfl, q1, fun q => absurd (show ((0 ≤ b ∧ b < 16) ∧ (0 ≤ w ∧ w ≤ 2)) by omega) q, fun _ q => by omega, fun _ _ q => absurd q (by omega), fun _ q _ => lsW_end hnb.1 (fun i i0 i1 => (hE.1.2.2.1 i i0 i1).1) (q2 q), fun _ q _ => grW_end hnb.1 (fun i i0 i1 => (hE.1.2.2.1 i i0 i1).1) (q3 q)⟩) 82 0 σ (-1) (by omega) (by omega) (by omega) (blF_rfl hE.2.1) (fun _ => ⟨fun w w0 w1 => by omega, Or.inl rfl⟩) (fun _ => ⟨fun w w0 w1 => by omega, Or.inl rfl⟩) (by omega)
set_option maxRecDepth 20000 in
theorem c_X12_amount {G : GT} {S : Shp} {σ : Sto} {m : Nat} {n b w : Int} {f : Int → Int} (hA : IsMod S m) (hE : mCore σ m f n) (rb : inR b) (rw_ : inR w) : PMet G mX12_amount 7 0 0 [.ref m, .int (iI b), .int (iI w)] S σ (fun r S' τ => S' = S ∧ ∃ v : Int, r = some (.int (iI v)) ∧ blF σ τ m ∧ (¬ ((0 ≤ b ∧ b < 16) ∧ (0 ≤ w ∧ w ≤ 2)) → v = -100002) ∧ (((0 ≤ b ∧ b < 16) ∧ (0 ≤ w ∧ w ≤ 2)) → w = 0 → v = amF f n b) ∧ (((0 ≤ b ∧ b < 16) ∧ (0 ≤ w ∧ w ≤ 2)) → ¬ w = 0 → 4 < (looF f n) → v = -100005) ∧ (((0 ≤ b ∧ b < 16) ∧ (0 ≤ w ∧ w ≤ 2)) → w = 1 → ¬ 4 < (looF f n) → isLst f n b v) ∧ (((0 ≤ b ∧ b < 16) ∧ (0 ≤ w ∧ w ≤ 2)) → w = 2 → ¬ 4 < (looF f n) → isGrt f n b v)) := by
  obtain ⟨hM0, hM1, hM2, hM3, hM4, hM5, hM6, hM7, hM8, hM9, hM10, hM11, hM12, hM13, hM14, hM15, hM16, hM17, hM18, hM19, hM20, hM21, hM22, hM23, hM24, hM25, hM26, hM27, hM28, hM29, hM30, hM31, hM32, hM33, hM34⟩ := id hA
  have hn := hE.1.1
  have hnb := hE.1.2.1
  have lb := looF_b f n hnb.1
  refine PMet.of [(0, .ref m), (1, .int (iI (b))), (2, .int (iI (w)))] (by decide +kernel) rfl (Nat.le_of_ble_eq_true rfl) ?_
  refine PW.iload_n dX12_amount_0 rfl ?_
  refine PW.i2l (by first | (unfold inR; omega) | assumption) dX12_amount_1 ?_
  refine PW.lconst (z := 0) rfl dX12_amount_2 ?_
  refine PW.ldc2 (15) kc_X12_310 rfl rfl dX12_amount_3 ?_
  refine PW.callSr (c_X12_in (inL_R rb) (by unfold inL; omega) (by unfold inL; omega)) cs_X12_in lk_X12_134 dX12_amount_6 rfl rfl rfl ?_
  refine PW.if_eqB 24 dX12_amount_9 (by decide) (fun h9 => ?_) (fun h9 => ?_)
  · refine PW.ldc (-100002) kc_X12_195 rfl rfl dX12_amount_24 ?_
    exact PW.iret rfl rfl dX12_amount_26 ⟨rfl, _, rfl, blF_rfl hE.2.1, fun _ => rfl, fun q => absurd q (by omega), fun q => absurd q (by omega), fun q => absurd q (by omega), fun q => absurd q (by omega)⟩
  · refine PW.iload_n dX12_amount_12 rfl ?_
    refine PW.i2l (by first | (unfold inR; omega) | assumption) dX12_amount_13 ?_
    refine PW.lconst (z := 0) rfl dX12_amount_14 ?_
    refine PW.ldc2 (2) kc_X12_321 rfl rfl dX12_amount_15 ?_
    refine PW.callSr (c_X12_in (inL_R rw_) (by unfold inL; omega) (by unfold inL; omega)) cs_X12_in lk_X12_134 dX12_amount_18 rfl rfl rfl ?_
    refine PW.if_neB 27 dX12_amount_21 (by decide) (fun h21 => ?_) (fun h21 => ?_)
    · refine PW.iload_n dX12_amount_27 rfl ?_
      refine PW.if_ne 38 dX12_amount_28 (by decide) (by first | (unfold inR; omega) | assumption) (fun h28 => ?_) (fun h28 => ?_)
      · refine PW.aload_n dX12_amount_38 rfl ?_
        refine PW.callVr (c_X12_looseOnes hA hE.1) cv_X12_looseOnes lk_X12_223 (by first | assumption | exact And.left (by assumption)) dX12_amount_39 rfl rfl rfl rfl ?_
        refine PW.iconst dX12_amount_42 ?_
        refine PW.icmp_le 50 dX12_amount_43 (by decide) (by first | (unfold inR; omega) | assumption) (by first | (unfold inR; omega) | assumption) (fun h43 => ?_) (fun h43 => ?_)
        · refine PW.iconst dX12_amount_50 ?_
          refine PW.istore_n [(0, _), (1, _), (2, _), (3, _)] dX12_amount_51 rfl (Nat.le_of_ble_eq_true rfl) ?_
          refine PW.iconst dX12_amount_52 ?_
          refine PW.istore [(0, _), (1, _), (2, _), (3, _), (4, _)] dX12_amount_53 rfl (Nat.le_of_ble_eq_true rfl) ?_
          have e1 : pwI 3 0 = 1 := by decide
          have e := mo_am_pw (G := G) hA hE (am_tail (G := G) (w := w) hA hE rb (by omega) (by omega) (by omega)) 17 0 (by omega) (by omega) (by omega)
          rw [e1] at e
          exact e
        · refine PW.ldcw (-100005) kc_X12_326 rfl rfl dX12_amount_46 ?_
          exact PW.iret rfl rfl dX12_amount_49 ⟨rfl, _, rfl, blF_rfl hE.2.1, fun q => absurd (show ((0 ≤ b ∧ b < 16) ∧ (0 ≤ w ∧ w ≤ 2)) by omega) q, fun _ q => absurd q (by omega), fun _ _ _ => rfl, fun _ _ q => absurd (by omega) q, fun _ _ q => absurd (by omega) q⟩
      · refine PW.aload_n dX12_amount_31 rfl ?_
        refine PW.iconst dX12_amount_32 ?_
        refine PW.iload_n dX12_amount_33 rfl ?_
        refine PW.callVr (c_X12_amountOf (L := 0) hA hE.2.1 (by omega) rb) cv_X12_amountOf lk_X12_323 (by first | assumption | exact And.left (by assumption)) dX12_amount_34 rfl rfl rfl rfl ?_
        exact PW.iret rfl rfl dX12_amount_37 ⟨rfl, _, rfl, blF_rfl hE.2.1, fun q => absurd (show ((0 ≤ b ∧ b < 16) ∧ (0 ≤ w ∧ w ≤ 2)) by omega) q, fun _ _ => amF_ld hE.2.2 b, fun _ q => absurd (by omega) q, fun _ q => absurd q (by omega), fun _ q => absurd q (by omega)⟩
    · refine PW.ldc (-100002) kc_X12_195 rfl rfl dX12_amount_24 ?_
      exact PW.iret rfl rfl dX12_amount_26 ⟨rfl, _, rfl, blF_rfl hE.2.1, fun _ => rfl, fun q => absurd q (by omega), fun q => absurd q (by omega), fun q => absurd q (by omega), fun q => absurd q (by omega)⟩

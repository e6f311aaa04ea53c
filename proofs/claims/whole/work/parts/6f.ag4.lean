theorem mo_rowin_loop {G : GT} {S : Shp} {σ : Sto} {m : Nat} {n i s k : Int} {f : Int → Int} {w : Int → Int} {cn : Int} {Q : Option Value → Shp → Sto → Prop} (hA : IsMod S m) (hg : mAg σ m w cn) (hn : 2 ≤ n ∧ n ≤ 8) (hM : dpM w n (-1) (-1) f 0) (hfb : ∀ q, 0 ≤ q → q ≤ fullS n → 0 ≤ f q ∧ f q ≤ 1000000) (hs : 0 ≤ s ∧ s < fullS n) (hK : PW (fm G mX12_row 2 0 0 Q) G S (upS σ (m + 24) f) 0 0 112 [(0, .ref m), (1, .int (iI n)), (2, .int (iI i)), (3, .int (iI s)), (4, .int (iI (fobF w n (dqG w n) s))), (5, .int (iI k))] []) : ∀ (t : Nat) (b : Int), 0 ≤ b → b ≤ fobF w n (dqG w n) s → fobF w n (dqG w n) s - b < t → PW (fm G mX12_row 2 0 0 Q) G S (upS σ (m + 24) f) 0 0 67 [(0, .ref m), (1, .int (iI (n))), (2, .int (iI (i))), (3, .int (iI (s))), (4, .int (iI (b))), (5, .int (iI (k)))] [] := by
  obtain ⟨hM0, hM1, hM2, hM3, hM4, hM5, hM6, hM7, hM8, hM9, hM10, hM11, hM12, hM13, hM14, hM15, hM16, hM17, hM18, hM19, hM20, hM21, hM22, hM23, hM24, hM25, hM26, hM27, hM28, hM29, hM30, hM31, hM32, hM33, hM34⟩ := id hA
  have hfl := fullS_b (n := n) (by omega)
  obtain ⟨hwo, hwd⟩ := mAg_w hg
  have hg2 : mAg (upS σ (m + 24) f) m w cn := mAg_congr (by rw [upS_ne (by omega)]) (upS_ne (by omega)) (upS_ne (by omega)) (upS_ne (by omega)) hg
  have hfo := fob_at hwo hwd hn hM hs
  intro t
  induction t with
  | zero => intro b h1 h2 h3; omega
  | succ t ih =>
    intro b h1 h2 h3
    have bc := crF_b hwo (n := n) (s := s) (b := b) (by omega) (by omega)
    have k2 := orS_le (s := s) (b := b) (n := n) ⟨hs.1, by omega⟩ ⟨h1, by omega⟩
    have k3 := hfb _ k2.1 k2.2
    have k4 := hfb s hs.1 (by omega)
    refine PW.iload_n dX12_row_67 rfl ?_
    refine PW.iload dX12_row_68 rfl ?_
    refine PW.ishr dX12_row_70 ?_
    refine PW.iconst dX12_row_71 ?_
    refine PW.iand dX12_row_72 ?_
    refine PW.top (b01 (inS s b)) (inS_eq (by omega) (by omega)) ?_
    refine PW.iconst dX12_row_73 ?_
    refine PW.icmp_eq 106 dX12_row_74 (by decide) (by first | assumption | (unfold inR; omega) | exact b01_R _) (by first | assumption | (unfold inR; omega) | exact b01_R _) (fun h74 => ?_) (fun h74 => ?_)
    · refine PW.iinc [(0, _), (1, _), (2, _), (3, _), (4, _), (5, _)] dX12_row_106 rfl rfl (Nat.le_of_ble_eq_true rfl) ?_
      refine PW.goto 67 dX12_row_109 (by decide) ?_
      have hlt : b < fobF w n (dqG w n) s := by
        refine Classical.byContradiction fun q => ?_
        have e : fobF w n (dqG w n) s = b := by omega
        rw [e] at hfo
        first
          | exact absurd h74 (by rw [b01_f hfo.2.1.1]; decide)
          | exact h103 hfo.2.1.2
      exact ih (b + 1) (by omega) (by omega) (by omega)
    · refine PW.aload_n dX12_row_77 rfl ?_
      refine PW.iload_n dX12_row_78 rfl ?_
      refine PW.iload_n dX12_row_79 rfl ?_
      refine PW.iload dX12_row_80 rfl ?_
      refine PW.callVr (c_X12_costOf hA hg2 (by omega) (by omega) (by omega)) cv_X12_costOf lk_X12_371 (by first | assumption | exact And.left (by assumption)) dX12_row_82 rfl rfl rfl rfl ?_
      refine PW.aload_n dX12_row_85 rfl ?_
      refine PW.getR fl_X12_85 rfl (by assumption) rfl dX12_row_86 ?_
      refine PW.iload_n dX12_row_89 rfl ?_
      refine PW.iconst dX12_row_90 ?_
      refine PW.iload dX12_row_91 rfl ?_
      refine PW.ishl dX12_row_93 ?_
      refine PW.ior dX12_row_94 ?_
      refine PW.top (orS s b) (orS_eq (by omega) (by omega)) ?_
      refine PW.iaload (by assumption) (by unfold inR; omega) (by omega) (by omega) dX12_row_95 ?_
      refine PW.top (f (orS s b)) (by rw [upS_same]) ?_
      refine PW.iadd dX12_row_96 ?_
      refine PW.aload_n dX12_row_97 rfl ?_
      refine PW.getR fl_X12_85 rfl (by assumption) rfl dX12_row_98 ?_
      refine PW.iload_n dX12_row_101 rfl ?_
      refine PW.iaload (by assumption) (by unfold inR; omega) (by omega) (by omega) dX12_row_102 ?_
      refine PW.top (f s) (by rw [upS_same]) ?_
      refine PW.icmp_eq 112 dX12_row_103 (by decide) (by first | assumption | (unfold inR; omega) | exact b01_R _) (by first | assumption | (unfold inR; omega) | exact b01_R _) (fun h103 => ?_) (fun h103 => ?_)
      · have hni : ¬ inS s b := fun q => h74 (b01_t q)
        have e : fobF w n (dqG w n) s = b := by
          refine Classical.byContradiction fun q => ?_
          exact (hfo.2.2 b h1 (by omega)).elim hni (fun r => r h103)
        rw [e] at hK
        exact hK
      · refine PW.iinc [(0, _), (1, _), (2, _), (3, _), (4, _), (5, _)] dX12_row_106 rfl rfl (Nat.le_of_ble_eq_true rfl) ?_
        refine PW.goto 67 dX12_row_109 (by decide) ?_
        have hlt : b < fobF w n (dqG w n) s := by
          refine Classical.byContradiction fun q => ?_
          have e : fobF w n (dqG w n) s = b := by omega
          rw [e] at hfo
          first
            | exact absurd h74 (by rw [b01_f hfo.2.1.1]; decide)
            | exact h103 hfo.2.1.2
        exact ih (b + 1) (by omega) (by omega) (by omega)
theorem mo_row_loop {G : GT} {S : Shp} {σ : Sto} {m : Nat} {n i : Int} {f : Int → Int} {w : Int → Int} {cn : Int} {Q : Option Value → Shp → Sto → Prop} (hA : IsMod S m) (hg : mAg σ m w cn) (hn : 2 ≤ n ∧ n ≤ 8) (hM : dpM w n (-1) (-1) f 0) (hfb : ∀ q, 0 ≤ q → q ≤ fullS n → 0 ≤ f q ∧ f q ≤ 1000000) (hi : 0 ≤ i ∧ i < n) (hQ : Q (some (.int (iI (rowB w n (dqG w n) i)))) S (upS σ (m + 24) f)) : ∀ (t : Nat) (k : Int) (b : Int), 0 ≤ k → k ≤ i + 1 → i + 1 - k < t → (k = i + 1 → b = rowB w n (dqG w n) i) → PW (fm G mX12_row 2 0 0 Q) G S (upS σ (m + 24) f) 0 0 58 [(0, .ref m), (1, .int (iI (n))), (2, .int (iI (i))), (3, .int (iI (rwS w n (dqG w n) k.toNat))), (4, .int (iI (b))), (5, .int (iI (k)))] [] := by
  obtain ⟨hM0, hM1, hM2, hM3, hM4, hM5, hM6, hM7, hM8, hM9, hM10, hM11, hM12, hM13, hM14, hM15, hM16, hM17, hM18, hM19, hM20, hM21, hM22, hM23, hM24, hM25, hM26, hM27, hM28, hM29, hM30, hM31, hM32, hM33, hM34⟩ := id hA
  have hfl := fullS_b (n := n) (by omega)
  obtain ⟨hwo, hwd⟩ := mAg_w hg
  have hg2 : mAg (upS σ (m + 24) f) m w cn := mAg_congr (by rw [upS_ne (by omega)]) (upS_ne (by omega)) (upS_ne (by omega)) (upS_ne (by omega)) hg
  intro t
  induction t with
  | zero => intro k b h1 h2 h3 g1; omega
  | succ t ih =>
    intro k b h1 h2 h3 g1
    have hb := rwS_b (w := w) (f := (dqG w n)) (n := n) (by omega) k.toNat
    have hct := fun hk : k < n => (rwS_ct hwo hwd hn hM k.toNat (by omega)).2 (by omega)
    refine PW.iload dX12_row_58 rfl ?_
    refine PW.iload_n dX12_row_60 rfl ?_
    refine PW.icmp_gt 125 dX12_row_61 (by decide) (by first | assumption | (unfold inR; omega)) (by first | assumption | (unfold inR; omega)) (fun h61 => ?_) (fun h61 => ?_)
    · refine PW.iload dX12_row_125 rfl ?_
      rw [← g1 (by omega)] at hQ
      exact PW.iret rfl rfl dX12_row_127 hQ
    · refine PW.iconst dX12_row_64 ?_
      refine PW.istore [(0, _), (1, _), (2, _), (3, _), (4, _), (5, _)] dX12_row_65 rfl (Nat.le_of_ble_eq_true rfl) ?_
      refine mo_rowin_loop hA hg hn hM hfb ⟨hb.1, hct (by omega)⟩ ?_ 9 0 (by omega) (by have := fob_at hwo hwd hn hM ⟨hb.1, hct (by omega)⟩; omega) (by have := fob_at hwo hwd hn hM ⟨hb.1, hct (by omega)⟩; omega)
      have hfo := fob_at hwo hwd hn hM ⟨hb.1, hct (by omega)⟩
      refine PW.iload_n dX12_row_112 rfl ?_
      refine PW.iconst dX12_row_113 ?_
      refine PW.iload dX12_row_114 rfl ?_
      refine PW.ishl dX12_row_116 ?_
      refine PW.ior dX12_row_117 ?_
      refine PW.top (orS (rwS w n (dqG w n) k.toNat) (fobF w n (dqG w n) (rwS w n (dqG w n) k.toNat))) (orS_eq (by omega) (by omega)) ?_
      refine PW.istore_n [(0, _), (1, _), (2, _), (3, _), (4, _), (5, _)] dX12_row_118 rfl (Nat.le_of_ble_eq_true rfl) ?_
      refine PW.iinc [(0, _), (1, _), (2, _), (3, _), (4, _), (5, _)] dX12_row_119 rfl rfl (Nat.le_of_ble_eq_true rfl) ?_
      refine PW.goto 58 dX12_row_122 (by decide) ?_
      have e := ih (k + 1) (fobF w n (dqG w n) (rwS w n (dqG w n) k.toNat)) (by omega) (by omega) (by omega) (fun q => by rw [show i = k by omega]; rfl)
      rw [rwS_s w n _ h1] at e
      exact e
theorem c_X12_row {G : GT} {S : Shp} {σ : Sto} {m : Nat} {n i : Int} {w : Int → Int} {cn : Int} (hA : IsMod S m) (hg : mAg σ m w cn) (rn : inR n) (ri : inR i) : PMet G mX12_row 2 0 0 [.ref m, .int (iI n), .int (iI i)] S σ (fun r S' τ => S' = S ∧ r = some (.int (iI (if ¬ ((2 ≤ n ∧ n ≤ 8) ∧ (i = -1 ∨ (0 ≤ i ∧ i < n))) then -100002 else if i = -1 then dqG w n 0 else rowB w n (dqG w n) i))) ∧ ∃ f : Int → Int, τ = upS σ (m + 24) f) := by
  obtain ⟨hM0, hM1, hM2, hM3, hM4, hM5, hM6, hM7, hM8, hM9, hM10, hM11, hM12, hM13, hM14, hM15, hM16, hM17, hM18, hM19, hM20, hM21, hM22, hM23, hM24, hM25, hM26, hM27, hM28, hM29, hM30, hM31, hM32, hM33, hM34⟩ := id hA
  refine PMet.of [(0, .ref m), (1, .int (iI (n))), (2, .int (iI (i)))] (by decide +kernel) rfl (Nat.le_of_ble_eq_true rfl) ?_
  refine PW.iload_n dX12_row_0 rfl ?_
  refine PW.i2l (by first | assumption | (unfold inR; omega)) dX12_row_1 ?_
  refine PW.ldc2 (2) kc_X12_321 rfl rfl dX12_row_2 ?_
  refine PW.ldc2 (8) kc_X12_245 rfl rfl dX12_row_5 ?_
  refine PW.callSr (c_X12_in (inL_R rn) (by unfold inL; omega) (by unfold inL; omega)) cs_X12_in lk_X12_134 dX12_row_8 rfl rfl rfl ?_
  refine PW.if_eqB 29 dX12_row_11 (by decide) (fun h11 => ?_) (fun h11 => ?_)
  · refine PW.ldc (-100002) kc_X12_195 rfl rfl dX12_row_29 ?_
    exact PW.iret rfl rfl dX12_row_31 ⟨rfl, ret_eq (if_pos (by omega)).symm, σ (m + 24), (upS_self _ _).symm⟩
  · refine PW.iload_n dX12_row_14 rfl ?_
    refine PW.i2l (by first | assumption | (unfold inR; omega)) dX12_row_15 ?_
    refine PW.ldc2 (-1) kc_X12_346 rfl rfl dX12_row_16 ?_
    refine PW.iload_n dX12_row_19 rfl ?_
    refine PW.iconst dX12_row_20 ?_
    refine PW.isub dX12_row_21 ?_
    refine PW.i2l (by first | assumption | (unfold inR; omega)) dX12_row_22 ?_
    refine PW.callSr (c_X12_in (inL_R ri) (by unfold inL; omega) (by unfold inL; omega)) cs_X12_in lk_X12_134 dX12_row_23 rfl rfl rfl ?_
    refine PW.if_neB 32 dX12_row_26 (by decide) (fun h26 => ?_) (fun h26 => ?_)
    · refine PW.aload_n dX12_row_32 rfl ?_
      refine PW.iload_n dX12_row_33 rfl ?_
      refine PW.iconst dX12_row_34 ?_
      refine PW.iconst dX12_row_35 ?_
      refine PW.callVg (c_X12_findQuarrels hA hg (by omega) (Or.inl ⟨rfl, rfl⟩)) cv_X12_findQuarrels lk_X12_374 (by first | assumption | exact And.left (by assumption)) dX12_row_36 rfl rfl rfl rfl (fun r S' τ36 hq => ?_)
      obtain ⟨rfl, hS, f, rfl, hM, hfb⟩ := hq
      have hS2 := hS.symm
      subst hS2
      obtain ⟨hwo, hwd⟩ := mAg_w hg
      have hfl := fullS_b (n := n) (by omega)
      have hf0 := hfb 0 (by omega) (by omega)
      refine PW.iload_n dX12_row_39 rfl ?_
      refine PW.if_ge 50 dX12_row_40 (by decide) (by first | assumption | (unfold inR; omega)) (fun h40 => ?_) (fun h40 => ?_)
      · refine PW.iconst dX12_row_50 ?_
        refine PW.istore_n [(0, _), (1, _), (2, _), (3, _)] dX12_row_51 rfl (Nat.le_of_ble_eq_true rfl) ?_
        refine PW.iconst dX12_row_52 ?_
        refine PW.istore [(0, _), (1, _), (2, _), (3, _), (4, _)] dX12_row_53 rfl (Nat.le_of_ble_eq_true rfl) ?_
        refine PW.iconst dX12_row_55 ?_
        refine PW.istore [(0, _), (1, _), (2, _), (3, _), (4, _), (5, _)] dX12_row_56 rfl (Nat.le_of_ble_eq_true rfl) ?_
        exact mo_row_loop hA hg (by omega) hM hfb (by omega) ⟨rfl, ret_eq (Eq.symm ((if_neg (by omega)).trans (if_neg (by omega)))), f, rfl⟩ 10 0 0 (by omega) (by omega) (by omega) (fun q => by omega)
      · refine PW.aload_n dX12_row_43 rfl ?_
        refine PW.getR fl_X12_85 rfl (by assumption) rfl dX12_row_44 ?_
        refine PW.iconst dX12_row_47 ?_
        refine PW.iaload (by assumption) (by unfold inR; omega) (by omega) (by omega) dX12_row_48 ?_
        refine PW.top (f 0) (by rw [upS_same]) ?_
        refine PW.iret rfl rfl dX12_row_49 ⟨rfl, ret_eq (Eq.symm ((if_neg (by omega)).trans ((if_pos (by omega)).trans ?_))), f, rfl⟩
        have e := (dp_sh hwo hwd (by omega) (Or.inl ⟨rfl, rfl⟩) (fun r => by omega) hM (s := 0) (by omega) (by omega)).1
        rw [xF_e (by omega)] at e
        unfold dqG
        omega
    · refine PW.ldc (-100002) kc_X12_195 rfl rfl dX12_row_29 ?_
      exact PW.iret rfl rfl dX12_row_31 ⟨rfl, ret_eq (if_pos (by omega)).symm, σ (m + 24), (upS_self _ _).symm⟩
theorem c_X12_sure {G : GT} {S : Shp} {σ : Sto} {m : Nat} {n a b : Int} {w : Int → Int} {cn : Int} (hA : IsMod S m) (hg : mAg σ m w cn) (rn : inR n) (ra : inR a) (rb : inR b) : PMet G mX12_sure 2 0 0 [.ref m, .int (iI n), .int (iI a), .int (iI b)] S σ (fun r S' τ => S' = S ∧ r = some (.int (iI (if ¬ ((2 ≤ n ∧ n ≤ 8) ∧ (0 ≤ a ∧ a < n) ∧ (0 ≤ b ∧ b < n) ∧ ¬ a = b) then -100002 else if dqG w n 0 < dqF w n b a 0 then 1 else if dqG w n 0 < dqF w n a b 0 then 2 else 0))) ∧ ∃ f : Int → Int, τ = upS σ (m + 24) f) := by
  obtain ⟨hM0, hM1, hM2, hM3, hM4, hM5, hM6, hM7, hM8, hM9, hM10, hM11, hM12, hM13, hM14, hM15, hM16, hM17, hM18, hM19, hM20, hM21, hM22, hM23, hM24, hM25, hM26, hM27, hM28, hM29, hM30, hM31, hM32, hM33, hM34⟩ := id hA
  refine PMet.of [(0, .ref m), (1, .int (iI (n))), (2, .int (iI (a))), (3, .int (iI (b)))] (by decide +kernel) rfl (Nat.le_of_ble_eq_true rfl) ?_
  refine PW.iload_n dX12_sure_0 rfl ?_
  refine PW.i2l (by first | assumption | (unfold inR; omega)) dX12_sure_1 ?_
  refine PW.ldc2 (2) kc_X12_321 rfl rfl dX12_sure_2 ?_
  refine PW.ldc2 (8) kc_X12_245 rfl rfl dX12_sure_5 ?_
  refine PW.callSr (c_X12_in (inL_R rn) (by unfold inL; omega) (by unfold inL; omega)) cs_X12_in lk_X12_134 dX12_sure_8 rfl rfl rfl ?_
  refine PW.if_eqB 45 dX12_sure_11 (by decide) (fun h11 => ?_) (fun h11 => ?_)
  · refine PW.ldc (-100002) kc_X12_195 rfl rfl dX12_sure_45 ?_
    exact PW.iret rfl rfl dX12_sure_47 ⟨rfl, ret_eq (if_pos (by omega)).symm, σ (m + 24), (upS_self _ _).symm⟩
  · refine PW.iload_n dX12_sure_14 rfl ?_
    refine PW.i2l (by first | assumption | (unfold inR; omega)) dX12_sure_15 ?_
    refine PW.lconst (z := 0) rfl dX12_sure_16 ?_
    refine PW.iload_n dX12_sure_17 rfl ?_
    refine PW.iconst dX12_sure_18 ?_
    refine PW.isub dX12_sure_19 ?_
    refine PW.i2l (by first | assumption | (unfold inR; omega)) dX12_sure_20 ?_
    refine PW.callSr (c_X12_in (inL_R ra) (by unfold inL; omega) (by unfold inL; omega)) cs_X12_in lk_X12_134 dX12_sure_21 rfl rfl rfl ?_
    refine PW.if_eqB 45 dX12_sure_24 (by decide) (fun h24 => ?_) (fun h24 => ?_)
    · refine PW.ldc (-100002) kc_X12_195 rfl rfl dX12_sure_45 ?_
      exact PW.iret rfl rfl dX12_sure_47 ⟨rfl, ret_eq (if_pos (by omega)).symm, σ (m + 24), (upS_self _ _).symm⟩
    · refine PW.iload_n dX12_sure_27 rfl ?_
      refine PW.i2l (by first | assumption | (unfold inR; omega)) dX12_sure_28 ?_
      refine PW.lconst (z := 0) rfl dX12_sure_29 ?_
      refine PW.iload_n dX12_sure_30 rfl ?_
      refine PW.iconst dX12_sure_31 ?_
      refine PW.isub dX12_sure_32 ?_
      refine PW.i2l (by first | assumption | (unfold inR; omega)) dX12_sure_33 ?_
      refine PW.callSr (c_X12_in (inL_R rb) (by unfold inL; omega) (by unfold inL; omega)) cs_X12_in lk_X12_134 dX12_sure_34 rfl rfl rfl ?_
      refine PW.if_eqB 45 dX12_sure_37 (by decide) (fun h37 => ?_) (fun h37 => ?_)
      · refine PW.ldc (-100002) kc_X12_195 rfl rfl dX12_sure_45 ?_
        exact PW.iret rfl rfl dX12_sure_47 ⟨rfl, ret_eq (if_pos (by omega)).symm, σ (m + 24), (upS_self _ _).symm⟩
      · refine PW.iload_n dX12_sure_40 rfl ?_
        refine PW.iload_n dX12_sure_41 rfl ?_
        refine PW.icmp_ne 48 dX12_sure_42 (by decide) (by first | assumption | (unfold inR; omega)) (by first | assumption | (unfold inR; omega)) (fun h42 => ?_) (fun h42 => ?_)
        · refine PW.aload_n dX12_sure_48 rfl ?_
          refine PW.iload_n dX12_sure_49 rfl ?_
          refine PW.iload_n dX12_sure_50 rfl ?_
          refine PW.iload_n dX12_sure_51 rfl ?_
          refine PW.callVg (c_X12_findQuarrels (ah := a) (be := b) hA hg (by omega) (Or.inr ⟨by omega, by omega⟩)) cv_X12_findQuarrels lk_X12_374 (by first | assumption | exact And.left (by assumption)) dX12_sure_52 rfl rfl rfl rfl (fun r S' τ52 hq => ?_)
          obtain ⟨rfl, hS, f, rfl, hM, hfb⟩ := hq
          have hS2 := hS.symm
          subst hS2
          obtain ⟨hwo, hwd⟩ := mAg_w hg
          have hfl := fullS_b (n := n) (by omega)
          have hf0 := hfb 0 (by omega) (by omega)
          have hg2 : mAg (upS σ (m + 24) f) m w cn := mAg_congr (by rw [upS_ne (by omega)]) (upS_ne (by omega)) (upS_ne (by omega)) (upS_ne (by omega)) hg
          have e1 := (dp_sh hwo hwd (by omega) (Or.inr ⟨by omega, by omega⟩) (fun r => by omega) hM (s := 0) (by omega) (by omega)).1
          rw [xF_e (by omega)] at e1
          refine PW.aload_n dX12_sure_55 rfl ?_
          refine PW.getR fl_X12_85 rfl (by assumption) rfl dX12_sure_56 ?_
          refine PW.iconst dX12_sure_59 ?_
          refine PW.iaload (by assumption) (by unfold inR; omega) (by omega) (by omega) dX12_sure_60 ?_
          refine PW.top (f 0) (by rw [upS_same]) ?_
          refine PW.istore [(0, _), (1, _), (2, _), (3, _), (4, _)] dX12_sure_61 rfl (Nat.le_of_ble_eq_true rfl) ?_
          refine PW.aload_n dX12_sure_63 rfl ?_
          refine PW.iload_n dX12_sure_64 rfl ?_
          refine PW.iload_n dX12_sure_65 rfl ?_
          refine PW.iload_n dX12_sure_66 rfl ?_
          refine PW.callVg (c_X12_findQuarrels (ah := b) (be := a) hA hg2 (by omega) (Or.inr ⟨by omega, by omega⟩)) cv_X12_findQuarrels lk_X12_374 (by first | assumption | exact And.left (by assumption)) dX12_sure_67 rfl rfl rfl rfl (fun r S' τ67 hq => ?_)
          obtain ⟨rfl, hS, f2, rfl, hM2, hfb2⟩ := hq
          have hS2 := hS.symm
          subst hS2
          have hf02 := hfb2 0 (by omega) (by omega)
          have e2 := (dp_sh hwo hwd (by omega) (Or.inr ⟨by omega, by omega⟩) (fun r => by omega) hM2 (s := 0) (by omega) (by omega)).1
          rw [xF_e (by omega)] at e2
          have e3 := dq_two (w := w) (a := a) (b := b) (n := n) (by omega) (by omega) (by omega) (by omega) 256 0 (by omega) (by omega) (by omega) (by show ¬ (0 : Nat).testBit _ = true; rw [Nat.zero_testBit]; decide) (by show ¬ (0 : Nat).testBit _ = true; rw [Nat.zero_testBit]; decide)
          refine PW.aload_n dX12_sure_70 rfl ?_
          refine PW.getR fl_X12_85 rfl (by assumption) rfl dX12_sure_71 ?_
          refine PW.iconst dX12_sure_74 ?_
          refine PW.iaload (by assumption) (by unfold inR; omega) (by omega) (by omega) dX12_sure_75 ?_
          refine PW.top (f2 0) (by rw [upS_same]) ?_
          refine PW.istore [(0, _), (1, _), (2, _), (3, _), (4, _), (5, _)] dX12_sure_76 rfl (Nat.le_of_ble_eq_true rfl) ?_
          refine PW.iload dX12_sure_78 rfl ?_
          refine PW.iload dX12_sure_80 rfl ?_
          refine PW.icmp_ge 89 dX12_sure_82 (by decide) (by first | assumption | (unfold inR; omega)) (by first | assumption | (unfold inR; omega)) (fun h82 => ?_) (fun h82 => ?_)
          · refine PW.iload dX12_sure_89 rfl ?_
            refine PW.iload dX12_sure_91 rfl ?_
            refine PW.icmp_ge 100 dX12_sure_93 (by decide) (by first | assumption | (unfold inR; omega)) (by first | assumption | (unfold inR; omega)) (fun h93 => ?_) (fun h93 => ?_)
            · refine PW.iconst dX12_sure_100 ?_
              refine PW.iret rfl rfl dX12_sure_101 ⟨rfl, ret_eq (Eq.symm ((if_neg (by omega)).trans ?_)), f2, by rw [upS_upS]⟩
              first
                | (rw [if_pos (by omega)]; done)
                | (rw [if_neg (by omega), if_pos (by omega)]; done)
                | (rw [if_neg (by omega), if_neg (by omega)]; done)
            · refine PW.iconst dX12_sure_96 ?_
              refine PW.goto 101 dX12_sure_97 (by decide) ?_
              refine PW.iret rfl rfl dX12_sure_101 ⟨rfl, ret_eq (Eq.symm ((if_neg (by omega)).trans ?_)), f2, by rw [upS_upS]⟩
              first
                | (rw [if_pos (by omega)]; done)
                | (rw [if_neg (by omega), if_pos (by omega)]; done)
                | (rw [if_neg (by omega), if_neg (by omega)]; done)
          · refine PW.iconst dX12_sure_85 ?_
            refine PW.goto 101 dX12_sure_86 (by decide) ?_
            refine PW.iret rfl rfl dX12_sure_101 ⟨rfl, ret_eq (Eq.symm ((if_neg (by omega)).trans ?_)), f2, by rw [upS_upS]⟩
            first
              | (rw [if_pos (by omega)]; done)
              | (rw [if_neg (by omega), if_pos (by omega)]; done)
              | (rw [if_neg (by omega), if_neg (by omega)]; done)
        · refine PW.ldc (-100002) kc_X12_195 rfl rfl dX12_sure_45 ?_
          exact PW.iret rfl rfl dX12_sure_47 ⟨rfl, ret_eq (if_pos (by omega)).symm, σ (m + 24), (upS_self _ _).symm⟩
theorem bk_eq {O N W w B : Int → Int} : ∀ k : Nat, (∀ c : Int, 0 ≤ c → c < k → (0 ≤ O c ∧ O c < 8) ∧ (0 ≤ N c ∧ N c < 8)) → (∀ a b, 0 ≤ a → a < 8 → 0 ≤ b → b < 8 → w (8 * a + b) = smF (pairW O N W a b) k) → smF (fun c => if bkP w B (O c) (N c) then W c else 0) k = bkF w B := by
  have key : ∀ k : Nat, (∀ c : Int, 0 ≤ c → c < k → (0 ≤ O c ∧ O c < 8) ∧ (0 ≤ N c ∧ N c < 8)) → smF (fun c => if bkP w B (O c) (N c) then W c else 0) k = smF (fun a => smF (fun b => if bkP w B a b then smF (pairW O N W a b) k else 0) 8) 8 := by
    intro k
    induction k with
    | zero =>
      intro _
      have z := smF_zero 8
      rw [show smF (fun a => smF (fun b => if bkP w B a b then smF (pairW O N W a b) ((0 : Nat) : Int) else 0) 8) 8 = smF (fun _ => 0) ((8 : Nat) : Int) from smF_congr fun a _ _ => (show smF (fun b => if bkP w B a b then smF (pairW O N W a b) ((0 : Nat) : Int) else 0) 8 = 0 from by
        rw [show smF (fun b => if bkP w B a b then smF (pairW O N W a b) ((0 : Nat) : Int) else 0) 8 = smF (fun _ => 0) ((8 : Nat) : Int) from smF_congr fun b _ _ => by split <;> rfl]
        exact z)]
      rw [z]
      rfl
    | succ k ih =>
      intro hO
      have hk := hO (k : Int) (by omega) (by omega)
      rw [show ((k + 1 : Nat) : Int) = (k : Int) + 1 by omega, smF_s _ (by omega), ih (fun c c0 c1 => hO c c0 (by omega))]
      have e1 : smF (fun a => smF (fun b => if bkP w B a b then smF (pairW O N W a b) ((k : Int) + 1) else 0) 8) 8 = smF (fun a => smF (fun b => if bkP w B a b then smF (pairW O N W a b) k else 0) 8 + (if a = O k then (if bkP w B (O k) (N k) then W k else 0) else 0)) 8 := smF_congr fun a a0 a1 => by
        have e2 : smF (fun b => if bkP w B a b then smF (pairW O N W a b) ((k : Int) + 1) else 0) 8 = smF (fun b => (if bkP w B a b then smF (pairW O N W a b) k else 0) + (if b = N k then (if a = O k ∧ bkP w B (O k) (N k) then W k else 0) else 0)) 8 := smF_congr fun b b0 b1 => by
          rw [smF_s _ (by omega)]
          by_cases hb : bkP w B a b
          · rw [if_pos hb, if_pos hb]
            congr 1
            by_cases h1 : O (k : Int) = a ∧ N (k : Int) = b
            · rw [show pairW O N W a b k = W k from if_pos h1, if_pos h1.2.symm, if_pos ⟨h1.1.symm, by rw [h1.1, h1.2]; exact hb⟩]
            · rw [show pairW O N W a b k = 0 from if_neg h1]
              by_cases h2 : b = N k
              · rw [if_pos h2, if_neg (fun r => h1 ⟨r.1.symm, h2.symm⟩)]
              · rw [if_neg h2]
          · rw [if_neg hb, if_neg hb]
            by_cases h2 : b = N k
            · rw [if_pos h2, if_neg (fun r => hb (by rw [r.1, h2]; exact r.2))]
              rfl
            · rw [if_neg h2]
              rfl
        have e3 := smF_add2 (fun b => if bkP w B a b then smF (pairW O N W a b) k else 0) (fun b => if b = N k then (if a = O k ∧ bkP w B (O k) (N k) then W k else 0) else 0) 8
        have e4 := smF_one (if a = O k ∧ bkP w B (O k) (N k) then W k else 0) (N k) 8
        rw [e2]
        refine e3.trans ?_
        rw [e4, if_pos (show 0 ≤ N (k : Int) ∧ N (k : Int) < ((8 : Nat) : Int) by omega)]
        show smF _ 8 + _ = smF _ 8 + _
        congr 1
        by_cases h1 : a = O (k : Int)
        · rw [if_pos h1]
          by_cases h2 : bkP w B (O k) (N k)
          · rw [if_pos ⟨h1, h2⟩, if_pos h2]
          · rw [if_neg (fun r => h2 r.2), if_neg h2]
        · rw [if_neg h1, if_neg (fun r => h1 r.1)]
      have e5 := smF_add2 (fun a => smF (fun b => if bkP w B a b then smF (pairW O N W a b) k else 0) 8) (fun a => if a = O k then (if bkP w B (O k) (N k) then W k else 0) else 0) 8
      have e6 := smF_one (if bkP w B (O k) (N k) then W k else 0) (O k) 8
      rw [e1]
      refine Eq.symm (e5.trans ?_)
      rw [e6, if_pos (show 0 ≤ O (k : Int) ∧ O (k : Int) < ((8 : Nat) : Int) by omega)]
      rfl
  intro k hO hw
  rw [key k hO]
  unfold bkF
  exact smF_congr fun a a0 a1 => smF_congr fun b b0 b1 => by rw [hw a b a0 a1 b0 b1]
theorem mo_bro_loop {G : GT} {S : Shp} {σ : Sto} {m : Nat} {n : Int} {f : Int → Int} {w : Int → Int} {cn : Int} {Q : Option Value → Shp → Sto → Prop} (hA : IsMod S m) (he : mEv σ m f n) (hg : mAg σ m w cn) (hQ : Q (some (.int (iI (smF (fun c => if bkP w (birF f n) (σ (m + 21) c) (σ (m + 22) c) then σ (m + 23) c else 0) cn)))) S σ) : ∀ (t : Nat) (i : Int), 0 ≤ i → i ≤ cn → cn - i < t → PW (fm G mX12_broken 1 0 0 Q) G S (σ) 0 0 4 [(0, .ref m), (1, .int (iI (smF (fun c => if bkP w (birF f n) (σ (m + 21) c) (σ (m + 22) c) then σ (m + 23) c else 0) i))), (2, .int (iI (i)))] [] := by
  obtain ⟨hM0, hM1, hM2, hM3, hM4, hM5, hM6, hM7, hM8, hM9, hM10, hM11, hM12, hM13, hM14, hM15, hM16, hM17, hM18, hM19, hM20, hM21, hM22, hM23, hM24, hM25, hM26, hM27, hM28, hM29, hM30, hM31, hM32, hM33, hM34⟩ := id hA
  have hgn := hg.1
  have hgb := hg.2.1
  have hgc := hg.2.2.1
  have hnb := he.2.1
  intro t
  induction t with
  | zero => intro i h1 h2 h3; omega
  | succ t ih =>
    intro i h1 h2 h3
    have hx := smF_b (f := (fun c => if bkP w (birF f n) (σ (m + 21) c) (σ (m + 22) c) then σ (m + 23) c else 0)) (lo := 0) (hi := 99) h1 (fun c c0 c1 => by
      have := (hgc c c0 (by omega)).2.2.2
      try dsimp only
      split <;> omega)
    have b1 := birF_b f (σ (m + 21) i) hnb
    have b2 := birF_b f (σ (m + 22) i) hnb
    refine PW.iload_n dX12_broken_4 rfl ?_
    refine PW.aload_n dX12_broken_5 rfl ?_
    refine PW.getI 29 fl_X12_230 rfl (by assumption) rfl rfl dX12_broken_6 ?_
    refine PW.top (cn) (by exact hgn) ?_
    refine PW.icmp_ge 69 dX12_broken_9 (by decide) (by first | assumption | (unfold inR; omega)) (by first | assumption | (unfold inR; omega)) (fun h9 => ?_) (fun h9 => ?_)
    · refine PW.iload_n dX12_broken_69 rfl ?_
      have hi : i = cn := by omega
      subst hi
      exact PW.iret rfl rfl dX12_broken_70 hQ
    · refine PW.aload_n dX12_broken_12 rfl ?_
      refine PW.aload_n dX12_broken_13 rfl ?_
      refine PW.getR fl_X12_76 rfl (by assumption) rfl dX12_broken_14 ?_
      refine PW.iload_n dX12_broken_17 rfl ?_
      have hci := hgc i h1 (by omega)
      refine PW.iaload (by assumption) (by unfold inR; omega) (by omega) (by omega) dX12_broken_18 ?_
      refine PW.top (σ (m + 21) i) (by rfl) ?_
      refine PW.callVr (c_X12_youthOf hA he (by unfold inR; omega)) cv_X12_youthOf lk_X12_332 (by first | assumption | exact And.left (by assumption)) dX12_broken_19 rfl rfl rfl rfl ?_
      refine PW.istore_n [(0, _), (1, _), (2, _), (3, _)] dX12_broken_22 rfl (Nat.le_of_ble_eq_true rfl) ?_
      refine PW.aload_n dX12_broken_23 rfl ?_
      refine PW.aload_n dX12_broken_24 rfl ?_
      refine PW.getR fl_X12_79 rfl (by assumption) rfl dX12_broken_25 ?_
      refine PW.iload_n dX12_broken_28 rfl ?_
      refine PW.iaload (by assumption) (by first | assumption | (unfold inR; omega)) (by omega) (by omega) dX12_broken_29 ?_
      refine PW.callVr (c_X12_youthOf hA he (by unfold inR; omega)) cv_X12_youthOf lk_X12_332 (by first | assumption | exact And.left (by assumption)) dX12_broken_30 rfl rfl rfl rfl ?_
      refine PW.istore [(0, _), (1, _), (2, _), (3, _), (4, _)] dX12_broken_33 rfl (Nat.le_of_ble_eq_true rfl) ?_
      refine PW.iload_n dX12_broken_35 rfl ?_
      refine PW.iload_n dX12_broken_36 rfl ?_
      refine PW.if_lt 60 dX12_broken_37 (by decide) (by first | assumption | (unfold inR; omega)) (fun h37 => ?_) (fun h37 => ?_)
      · refine PW.iconst dX12_broken_60 ?_
        refine PW.iadd dX12_broken_61 ?_
        refine PW.istore_n [(0, _), (1, _), (2, _), (3, _), (4, _)] dX12_broken_62 rfl (Nat.le_of_ble_eq_true rfl) ?_
        refine PW.iinc [(0, _), (1, _), (2, _), (3, _), (4, _)] dX12_broken_63 rfl rfl (Nat.le_of_ble_eq_true rfl) ?_
        refine PW.goto 4 dX12_broken_66 (by decide) ?_
        refine PW.take 3 ?_
        have e := ih (i + 1) (by omega) (by omega) (by omega)
        rw [smF_s _ h1] at e
        first
          | (rw [if_pos (show bkP w (birF f n) (σ (m + 21) i) (σ (m + 22) i) from ⟨by omega, by omega⟩)] at e
             exact e)
          | (rw [if_neg (show ¬ bkP w (birF f n) (σ (m + 21) i) (σ (m + 22) i) from fun r => by have := r.1; have := r.2; omega)] at e
             exact e)
      · refine PW.iload dX12_broken_40 rfl ?_
        refine PW.if_lt 60 dX12_broken_42 (by decide) (by first | assumption | (unfold inR; omega)) (fun h42 => ?_) (fun h42 => ?_)
        · refine PW.iconst dX12_broken_60 ?_
          refine PW.iadd dX12_broken_61 ?_
          refine PW.istore_n [(0, _), (1, _), (2, _), (3, _), (4, _)] dX12_broken_62 rfl (Nat.le_of_ble_eq_true rfl) ?_
          refine PW.iinc [(0, _), (1, _), (2, _), (3, _), (4, _)] dX12_broken_63 rfl rfl (Nat.le_of_ble_eq_true rfl) ?_
          refine PW.goto 4 dX12_broken_66 (by decide) ?_
          refine PW.take 3 ?_
          have e := ih (i + 1) (by omega) (by omega) (by omega)
          rw [smF_s _ h1] at e
          first
            | (rw [if_pos (show bkP w (birF f n) (σ (m + 21) i) (σ (m + 22) i) from ⟨by omega, by omega⟩)] at e
               exact e)
            | (rw [if_neg (show ¬ bkP w (birF f n) (σ (m + 21) i) (σ (m + 22) i) from fun r => by have := r.1; have := r.2; omega)] at e
               exact e)
        · refine PW.iload_n dX12_broken_45 rfl ?_
          refine PW.iload dX12_broken_46 rfl ?_
          refine PW.icmp_le 60 dX12_broken_48 (by decide) (by first | assumption | (unfold inR; omega)) (by first | assumption | (unfold inR; omega)) (fun h48 => ?_) (fun h48 => ?_)
          · refine PW.iconst dX12_broken_60 ?_
            refine PW.iadd dX12_broken_61 ?_
            refine PW.istore_n [(0, _), (1, _), (2, _), (3, _), (4, _)] dX12_broken_62 rfl (Nat.le_of_ble_eq_true rfl) ?_
            refine PW.iinc [(0, _), (1, _), (2, _), (3, _), (4, _)] dX12_broken_63 rfl rfl (Nat.le_of_ble_eq_true rfl) ?_
            refine PW.goto 4 dX12_broken_66 (by decide) ?_
            refine PW.take 3 ?_
            have e := ih (i + 1) (by omega) (by omega) (by omega)
            rw [smF_s _ h1] at e
            first
              | (rw [if_pos (show bkP w (birF f n) (σ (m + 21) i) (σ (m + 22) i) from ⟨by omega, by omega⟩)] at e
                 exact e)
              | (rw [if_neg (show ¬ bkP w (birF f n) (σ (m + 21) i) (σ (m + 22) i) from fun r => by have := r.1; have := r.2; omega)] at e
                 exact e)
          · refine PW.aload_n dX12_broken_51 rfl ?_
            refine PW.getR fl_X12_82 rfl (by assumption) rfl dX12_broken_52 ?_
            refine PW.iload_n dX12_broken_55 rfl ?_
            refine PW.iaload (by assumption) (by first | assumption | (unfold inR; omega)) (by omega) (by omega) dX12_broken_56 ?_
            refine PW.goto 61 dX12_broken_57 (by decide) ?_
            refine PW.iadd dX12_broken_61 ?_
            refine PW.istore_n [(0, _), (1, _), (2, _), (3, _), (4, _)] dX12_broken_62 rfl (Nat.le_of_ble_eq_true rfl) ?_
            refine PW.iinc [(0, _), (1, _), (2, _), (3, _), (4, _)] dX12_broken_63 rfl rfl (Nat.le_of_ble_eq_true rfl) ?_
            refine PW.goto 4 dX12_broken_66 (by decide) ?_
            refine PW.take 3 ?_
            have e := ih (i + 1) (by omega) (by omega) (by omega)
            rw [smF_s _ h1] at e
            first
              | (rw [if_pos (show bkP w (birF f n) (σ (m + 21) i) (σ (m + 22) i) from ⟨by omega, by omega⟩)] at e
                 exact e)
              | (rw [if_neg (show ¬ bkP w (birF f n) (σ (m + 21) i) (σ (m + 22) i) from fun r => by have := r.1; have := r.2; omega)] at e
                 exact e)
theorem c_X12_broken {G : GT} {S : Shp} {σ : Sto} {m : Nat} {n : Int} {f : Int → Int} {w : Int → Int} {cn : Int} (hA : IsMod S m) (he : mEv σ m f n) (hg : mAg σ m w cn) : PMet G mX12_broken 1 0 0 [.ref m] S σ (isP (some (.int (iI (bkF w (birF f n))))) S σ) := by
  have hgb := hg.2.1
  have hbe := bk_eq (O := σ (m + 21)) (N := σ (m + 22)) (W := σ (m + 23)) (w := w) (B := birF f n) cn.toNat (fun c c0 c1 => ⟨(hg.2.2.1 c c0 (by omega)).1, (hg.2.2.1 c c0 (by omega)).2.1⟩) (fun a b a0 a1 b0 b1 => by rw [show ((cn.toNat : Nat) : Int) = cn by omega]; exact hg.2.2.2 a b a0 a1 b0 b1)
  rw [show ((cn.toNat : Nat) : Int) = cn by omega] at hbe
  refine PMet.of [(0, .ref m)] (by decide +kernel) rfl (Nat.le_of_ble_eq_true rfl) ?_
  refine PW.iconst dX12_broken_0 ?_
  refine PW.istore_n [(0, _), (1, _)] dX12_broken_1 rfl (Nat.le_of_ble_eq_true rfl) ?_
  refine PW.iconst dX12_broken_2 ?_
  refine PW.istore_n [(0, _), (1, _), (2, _)] dX12_broken_3 rfl (Nat.le_of_ble_eq_true rfl) ?_
  exact mo_bro_loop hA he hg ⟨by rw [hbe], rfl, rfl⟩ 26 0 (by omega) (by omega) (by omega)

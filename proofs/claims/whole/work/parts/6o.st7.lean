theorem tb_E0 : ∀ m : Fin 5, ∀ s : Fin 65, ∀ i ∈ pthN m.val s.val, 0 ≤ i ∧ i < (m.val : Int) := by decide +kernel
theorem pth_in {m s i : Int} (hm : 0 ≤ m ∧ m ≤ 4) (hs : 0 ≤ s ∧ s < nS m) (hi : i ∈ pth m s) : 0 ≤ i ∧ i < m := by
  have hb := nS_b hm
  have h := tb_E0 ⟨m.toNat, by omega⟩ ⟨s.toNat, by omega⟩ i hi
  dsimp only at h
  omega
theorem lndM_ok {f gf : Int → Int} {n gn s c : Int} {K N : Int → Int} {K' N' : Int → Int} (hn : 0 ≤ n) (hg : 0 ≤ gn ∧ gn ≤ 4) (hr : mRw K N f n) (hr' : mRw K' N' gf gn) (hs : 0 ≤ s ∧ s < nS gn) : colOk (lndS gf (ldT f n) gn s c) :=
  colS_ok (tlF_ok fun i i0 i1 => (hr i i0 (by omega)).1) fun i hi => (hr' i (pth_in hg hs hi).1 (pth_in hg hs hi).2).1
def sJn (σ τ : Sto) (m : Nat) : Prop := (∀ b, b < m ∨ (m + 2 < b ∧ b < m + 6) ∨ (m + 6 < b ∧ b < m + 31) ∨ m + 34 < b → τ b = σ b) ∧ (∀ j, j ≠ 41 → j ≠ 46 → j ≠ 47 → τ m j = σ m j) ∧ cOk (τ (m + 1)) 15360 ∧ ∀ j, j < 5120 → τ (m + 1) j = σ (m + 1) j
theorem sIn.j {σ τ : Sto} {m : Nat} (h : sIn σ τ m) : sJn σ τ m := ⟨h.1, fun j h1 _ _ => h.2.1 j h1, h.2.2.1, h.2.2.2⟩
theorem sJn_c {σ τ : Sto} {m : Nat} {u g : Int} (h : sIn σ τ m) : sJn σ (upS τ m (up1 (up1 (τ m) 46 u) 47 g)) m := ⟨fun b hb => by rw [upS_ne (by omega)]; exact h.1 b hb, fun j h1 h2 h3 => by rw [upS_same, up1_ne h3, up1_ne h2]; exact h.2.1 j h1, by rw [upS_ne (by omega)]; exact h.2.2.1, fun j hj => by rw [upS_ne (by omega)]; exact h.2.2.2 j hj⟩
theorem mo_nx_loop {G : GT} {S : Shp} {σ : Sto} {m : Nat} {k w F : Int} {Q : Option Value → Shp → Sto → Prop} (hA : IsMod S m) (hF : σ m 41 = F) (hFb : 1 ≤ F ∧ F ≤ 65) (hl : ∀ c, 0 ≤ c → c < 64 → ∀ p, 0 ≤ p → p < F → ∀ x, 0 ≤ x → x < 80 → -1 ≤ (kpM (σ (m + 33)) c) p x ∧ (kpM (σ (m + 33)) c) p x ≤ 15) (hK : ∀ u g, PW (fm G mX12_next 7 0 0 Q) G S (upS σ m (up1 (up1 (σ m) 46 (u)) 47 (g))) 0 0 128 [(0, .ref m), (1, .int (iI k)), (2, .int (iI w)), (3, .int (iI (nhF (kpM (σ (m + 33))) F (64 : Int).toNat).1)), (4, .int (iI (nhF (kpM (σ (m + 33))) F (64 : Int).toNat).2.1)), (5, .int (iI (nhF (kpM (σ (m + 33))) F (64 : Int).toNat).2.2))] []) : ∀ (t : Nat) (c : Int) (u : Int) (g : Int), 0 ≤ c → c ≤ 64 → 64 - c < t → PW (fm G mX12_next 7 0 0 Q) G S (upS σ m (up1 (up1 (σ m) 46 (u)) 47 (g))) 0 0 63 [(0, .ref m), (1, .int (iI (k))), (2, .int (iI (w))), (3, .int (iI ((nhF (kpM (σ (m + 33))) F c.toNat).1))), (4, .int (iI ((nhF (kpM (σ (m + 33))) F c.toNat).2.1))), (5, .int (iI ((nhF (kpM (σ (m + 33))) F c.toNat).2.2))), (6, .int (iI (c)))] [] := by
  obtain ⟨hM0, hM1, hM2, hM3, hM4, hM5, hM6, hM7, hM8, hM9, hM10, hM11, hM12, hM13, hM14, hM15, hM16, hM17, hM18, hM19, hM20, hM21, hM22, hM23, hM24, hM25, hM26, hM27, hM28, hM29, hM30, hM31, hM32, hM33, hM34⟩ := id hA
  intro t
  induction t with
  | zero => intro c u g h1 h2 h3; omega
  | succ t ih =>
    intro c u g h1 h2 h3
    have nb := nhF_b (kpM (σ (m + 33))) (n := F) (by omega) c.toNat
    have ns := nhF_s (kpM (σ (m + 33))) F h1
    have ub := unK_b (kpM (σ (m + 33)) c) (i := F) (by omega)
    have gb := grK_b (kpM (σ (m + 33)) c) (n := F) (by omega)
    have u1 := unK_1 (kpM (σ (m + 33)) c) (n := F) (by omega)
    have na := fun q : 1 ≤ c => nhF_at (κ := kpM (σ (m + 33))) (n := F) (by omega) c.toNat (by omega)
    have n0 : c = 0 → (nhF (kpM (σ (m + 33))) F c.toNat).2.1 = 0 := fun q => by rw [q]; rfl
    have e33 : (upS σ m (up1 (up1 (σ m) 46 (u)) 47 (g))) (m + 33) = σ (m + 33) := upS_ne (by omega)
    refine PW.iload dX12_next_63 rfl ?_
    refine PW.bipush (by decide) dX12_next_65 ?_
    refine PW.icmp_ge 128 dX12_next_67 (by decide) (by first | (unfold inR; omega) | assumption) (by first | (unfold inR; omega) | assumption) (fun h67 => ?_) (fun h67 => ?_)
    · have hc : c = 64 := by omega
      subst hc
      refine PW.take 6 ?_
      exact hK u g
    · refine PW.aload_n dX12_next_70 rfl ?_
      refine PW.iload dX12_next_71 rfl ?_
      refine PW.callVv (c_X12_findContents (F := F) (c := c) hA (by rw [upS_same, up1_ne (by omega), up1_ne (by omega)]; exact hF) (by omega) (by rw [e33]; exact hl c h1 (by omega)) (by omega)) cv_X12_findContents lk_X12_421 (by first | assumption | exact And.left (by assumption)) dX12_next_73 rfl rfl rfl rfl ?_
      refine PW.st (upS σ m (up1 (up1 (σ m) 46 ((unK (kpM (σ (m + 33)) c) F))) 47 ((grK (kpM (σ (m + 33)) c) F)))) (by
        rw [e33, upS_upS, upS_same]
        refine congrArg (upS σ m) (funext fun j => ?_)
        unfold up1
        by_cases q7 : j = 47
        · subst q7; simp
        · by_cases q6 : j = 46
          · subst q6; simp
          · simp [q7, q6]) ?_
      refine PW.iload_n dX12_next_76 rfl ?_
      refine PW.if_lt 107 dX12_next_77 (by decide) (by first | (unfold inR; omega) | assumption) (fun h77 => ?_) (fun h77 => ?_)
      · refine PW.iload dX12_next_107 rfl ?_
        refine PW.istore_n [(0, _), (1, _), (2, _), (3, _), (4, _), (5, _), (6, _)] dX12_next_109 rfl (Nat.le_of_ble_eq_true rfl) ?_
        refine PW.aload_n dX12_next_110 rfl ?_
        refine PW.getI 46 fl_X12_412 rfl (by assumption) rfl rfl dX12_next_111 ?_
        refine PW.top ((unK (kpM (σ (m + 33)) c) F)) (by rw [upS_same, up1_ne (by omega), up1_same]) ?_
        refine PW.istore [(0, _), (1, _), (2, _), (3, _), (4, _), (5, _), (6, _)] dX12_next_114 rfl (Nat.le_of_ble_eq_true rfl) ?_
        refine PW.aload_n dX12_next_116 rfl ?_
        refine PW.getI 47 fl_X12_415 rfl (by assumption) rfl rfl dX12_next_117 ?_
        refine PW.top ((grK (kpM (σ (m + 33)) c) F)) (by rw [upS_same, up1_same]) ?_
        refine PW.istore [(0, _), (1, _), (2, _), (3, _), (4, _), (5, _), (6, _)] dX12_next_120 rfl (Nat.le_of_ble_eq_true rfl) ?_
        refine PW.iinc [(0, _), (1, _), (2, _), (3, _), (4, _), (5, _), (6, _)] dX12_next_122 rfl rfl (Nat.le_of_ble_eq_true rfl) ?_
        refine PW.goto 63 dX12_next_125 (by decide) ?_
        refine PW.take 7 ?_
        have e := ih (c + 1) (unK (kpM (σ (m + 33)) c) F) (grK (kpM (σ (m + 33)) c) F) (by omega) (by omega) (by omega)
        rw [ns] at e
        first
          | (rw [if_pos (by omega)] at e
             exact e)
          | (rw [if_neg (by omega)] at e
             exact e)
      · refine PW.aload_n dX12_next_80 rfl ?_
        refine PW.getI 46 fl_X12_412 rfl (by assumption) rfl rfl dX12_next_81 ?_
        refine PW.top ((unK (kpM (σ (m + 33)) c) F)) (by rw [upS_same, up1_ne (by omega), up1_same]) ?_
        refine PW.iload dX12_next_84 rfl ?_
        refine PW.icmp_gt 107 dX12_next_86 (by decide) (by first | (unfold inR; omega) | assumption) (by first | (unfold inR; omega) | assumption) (fun h86 => ?_) (fun h86 => ?_)
        · refine PW.iload dX12_next_107 rfl ?_
          refine PW.istore_n [(0, _), (1, _), (2, _), (3, _), (4, _), (5, _), (6, _)] dX12_next_109 rfl (Nat.le_of_ble_eq_true rfl) ?_
          refine PW.aload_n dX12_next_110 rfl ?_
          refine PW.getI 46 fl_X12_412 rfl (by assumption) rfl rfl dX12_next_111 ?_
          refine PW.top ((unK (kpM (σ (m + 33)) c) F)) (by rw [upS_same, up1_ne (by omega), up1_same]) ?_
          refine PW.istore [(0, _), (1, _), (2, _), (3, _), (4, _), (5, _), (6, _)] dX12_next_114 rfl (Nat.le_of_ble_eq_true rfl) ?_
          refine PW.aload_n dX12_next_116 rfl ?_
          refine PW.getI 47 fl_X12_415 rfl (by assumption) rfl rfl dX12_next_117 ?_
          refine PW.top ((grK (kpM (σ (m + 33)) c) F)) (by rw [upS_same, up1_same]) ?_
          refine PW.istore [(0, _), (1, _), (2, _), (3, _), (4, _), (5, _), (6, _)] dX12_next_120 rfl (Nat.le_of_ble_eq_true rfl) ?_
          refine PW.iinc [(0, _), (1, _), (2, _), (3, _), (4, _), (5, _), (6, _)] dX12_next_122 rfl rfl (Nat.le_of_ble_eq_true rfl) ?_
          refine PW.goto 63 dX12_next_125 (by decide) ?_
          refine PW.take 7 ?_
          have e := ih (c + 1) (unK (kpM (σ (m + 33)) c) F) (grK (kpM (σ (m + 33)) c) F) (by omega) (by omega) (by omega)
          rw [ns] at e
          first
            | (rw [if_pos (by omega)] at e
               exact e)
            | (rw [if_neg (by omega)] at e
               exact e)
        · refine PW.aload_n dX12_next_89 rfl ?_
          refine PW.getI 46 fl_X12_412 rfl (by assumption) rfl rfl dX12_next_90 ?_
          refine PW.top ((unK (kpM (σ (m + 33)) c) F)) (by rw [upS_same, up1_ne (by omega), up1_same]) ?_
          refine PW.iload dX12_next_93 rfl ?_
          refine PW.icmp_ne 122 dX12_next_95 (by decide) (by first | (unfold inR; omega) | assumption) (by first | (unfold inR; omega) | assumption) (fun h95 => ?_) (fun h95 => ?_)
          · refine PW.iinc [(0, _), (1, _), (2, _), (3, _), (4, _), (5, _), (6, _)] dX12_next_122 rfl rfl (Nat.le_of_ble_eq_true rfl) ?_
            refine PW.goto 63 dX12_next_125 (by decide) ?_
            refine PW.take 7 ?_
            have e := ih (c + 1) (unK (kpM (σ (m + 33)) c) F) (grK (kpM (σ (m + 33)) c) F) (by omega) (by omega) (by omega)
            rw [ns] at e
            first
              | (rw [if_pos (by omega)] at e
                 exact e)
              | (rw [if_neg (by omega)] at e
                 exact e)
          · refine PW.aload_n dX12_next_98 rfl ?_
            refine PW.getI 47 fl_X12_415 rfl (by assumption) rfl rfl dX12_next_99 ?_
            refine PW.top ((grK (kpM (σ (m + 33)) c) F)) (by rw [upS_same, up1_same]) ?_
            refine PW.iload dX12_next_102 rfl ?_
            refine PW.icmp_ge 122 dX12_next_104 (by decide) (by first | (unfold inR; omega) | assumption) (by first | (unfold inR; omega) | assumption) (fun h104 => ?_) (fun h104 => ?_)
            · refine PW.iinc [(0, _), (1, _), (2, _), (3, _), (4, _), (5, _), (6, _)] dX12_next_122 rfl rfl (Nat.le_of_ble_eq_true rfl) ?_
              refine PW.goto 63 dX12_next_125 (by decide) ?_
              refine PW.take 7 ?_
              have e := ih (c + 1) (unK (kpM (σ (m + 33)) c) F) (grK (kpM (σ (m + 33)) c) F) (by omega) (by omega) (by omega)
              rw [ns] at e
              first
                | (rw [if_pos (by omega)] at e
                   exact e)
                | (rw [if_neg (by omega)] at e
                   exact e)
            · refine PW.iload dX12_next_107 rfl ?_
              refine PW.istore_n [(0, _), (1, _), (2, _), (3, _), (4, _), (5, _), (6, _)] dX12_next_109 rfl (Nat.le_of_ble_eq_true rfl) ?_
              refine PW.aload_n dX12_next_110 rfl ?_
              refine PW.getI 46 fl_X12_412 rfl (by assumption) rfl rfl dX12_next_111 ?_
              refine PW.top ((unK (kpM (σ (m + 33)) c) F)) (by rw [upS_same, up1_ne (by omega), up1_same]) ?_
              refine PW.istore [(0, _), (1, _), (2, _), (3, _), (4, _), (5, _), (6, _)] dX12_next_114 rfl (Nat.le_of_ble_eq_true rfl) ?_
              refine PW.aload_n dX12_next_116 rfl ?_
              refine PW.getI 47 fl_X12_415 rfl (by assumption) rfl rfl dX12_next_117 ?_
              refine PW.top ((grK (kpM (σ (m + 33)) c) F)) (by rw [upS_same, up1_same]) ?_
              refine PW.istore [(0, _), (1, _), (2, _), (3, _), (4, _), (5, _), (6, _)] dX12_next_120 rfl (Nat.le_of_ble_eq_true rfl) ?_
              refine PW.iinc [(0, _), (1, _), (2, _), (3, _), (4, _), (5, _), (6, _)] dX12_next_122 rfl rfl (Nat.le_of_ble_eq_true rfl) ?_
              refine PW.goto 63 dX12_next_125 (by decide) ?_
              refine PW.take 7 ?_
              have e := ih (c + 1) (unK (kpM (σ (m + 33)) c) F) (grK (kpM (σ (m + 33)) c) F) (by omega) (by omega) (by omega)
              rw [ns] at e
              first
                | (rw [if_pos (by omega)] at e
                   exact e)
                | (rw [if_neg (by omega)] at e
                   exact e)
set_option maxRecDepth 20000 in
theorem c_X12_next {G : GT} {S : Shp} {σ : Sto} {m : Nat} {n gn sn k w : Int} {f gf sf : Int → Int} (hA : IsMod S m) (hE : mCore σ m f n) (hg : mMb σ m gf gn) (hs : mSg σ m sf sn) (rk : inR k) (rw_ : inR w) : PMet G mX12_next 7 0 0 [.ref m, .int (iI k), .int (iI w)] S σ (fun r S' τ => S' = S ∧ sJn σ τ m ∧ ∃ v : Int, r = some (.int (iI v)) ∧ (¬ ((-1 ≤ k ∧ k ≤ sn) ∧ (0 ≤ w ∧ w ≤ 2)) → v = -100002) ∧ (((-1 ≤ k ∧ k ≤ sn) ∧ (0 ≤ w ∧ w ≤ 2)) → 16 < n + gn → v = -100004) ∧ (((-1 ≤ k ∧ k ≤ sn) ∧ (0 ≤ w ∧ w ≤ 2)) → ¬ 16 < n + gn → (ftC (umS sf gf (ldT f n) gn (knF sn k)) (nS gn) = 0 → v = -100003) ∧ (¬ ftC (umS sf gf (ldT f n) gn (knF sn k)) (nS gn) = 0 → ∀ t : Int → Int, ftG (umS sf gf (ldT f n) gn (knF sn k)) t (nS gn) → v = if w = 0 then (nhF (fun c p => lndS gf (ldT f n) gn (t p) c) (ftC (umS sf gf (ldT f n) gn (knF sn k)) (nS gn)) (64 : Int).toNat).1 else if w = 1 then (nhF (fun c p => lndS gf (ldT f n) gn (t p) c) (ftC (umS sf gf (ldT f n) gn (knF sn k)) (nS gn)) (64 : Int).toNat).2.1 else (nhF (fun c p => lndS gf (ldT f n) gn (t p) c) (ftC (umS sf gf (ldT f n) gn (knF sn k)) (nS gn)) (64 : Int).toNat).2.2))) := by
  obtain ⟨hM0, hM1, hM2, hM3, hM4, hM5, hM6, hM7, hM8, hM9, hM10, hM11, hM12, hM13, hM14, hM15, hM16, hM17, hM18, hM19, hM20, hM21, hM22, hM23, hM24, hM25, hM26, hM27, hM28, hM29, hM30, hM31, hM32, hM33, hM34⟩ := id hA
  have hn := hE.1.1
  have hnb := hE.1.2.1
  have hgn := hg.1
  have hgb := hg.2.1
  have hsn := hs.1
  have hsb := hs.2.1
  have hsw : ∀ i, 0 ≤ i → i < sn → sgWf sf i := fun i i0 i1 => (hs.2.2 i i0 i1).1
  have nb := nS_b hgb
  refine PMet.of [(0, .ref m), (1, .int (iI (k))), (2, .int (iI (w)))] (by decide +kernel) rfl (Nat.le_of_ble_eq_true rfl) ?_
  refine PW.aload_n dX12_next_0 rfl ?_
  refine PW.iload_n dX12_next_1 rfl ?_
  refine PW.callVr (c_X12_isKnown hA hs rk) cv_X12_isKnown lk_X12_362 (by first | assumption | exact And.left (by assumption)) dX12_next_2 rfl rfl rfl rfl ?_
  refine PW.if_eqB 20 dX12_next_5 (by decide) (fun h5 => ?_) (fun h5 => ?_)
  · refine PW.ldc (-100002) kc_X12_195 rfl rfl dX12_next_20 ?_
    exact PW.iret rfl rfl dX12_next_22 ⟨rfl, (sIn_rfl hE.2.1).j, _, rfl, fun _ => rfl, fun q => absurd q (by omega), fun q => absurd q (by omega)⟩
  · refine PW.iload_n dX12_next_8 rfl ?_
    refine PW.i2l (by first | assumption | (unfold inR; omega)) dX12_next_9 ?_
    refine PW.lconst (z := 0) rfl dX12_next_10 ?_
    refine PW.ldc2 (2) kc_X12_321 rfl rfl dX12_next_11 ?_
    refine PW.callSr (c_X12_in (inL_R rw_) (by unfold inL; omega) (by unfold inL; omega)) cs_X12_in lk_X12_134 dX12_next_14 rfl rfl rfl ?_
    refine PW.if_neB 23 dX12_next_17 (by decide) (fun h17 => ?_) (fun h17 => ?_)
    · refine PW.aload_n dX12_next_23 rfl ?_
      refine PW.callVr (c_X12_isTooMany hA hg hn hnb) cv_X12_isTooMany lk_X12_405 (by first | assumption | exact And.left (by assumption)) dX12_next_24 rfl rfl rfl rfl ?_
      refine PW.if_eqB 33 dX12_next_27 (by decide) (fun h27 => ?_) (fun h27 => ?_)
      · refine PW.aload_n dX12_next_33 rfl ?_
        refine PW.aload_n dX12_next_34 rfl ?_
        refine PW.iload_n dX12_next_35 rfl ?_
        refine PW.callVr (c_X12_first hA hs rk (by omega)) cv_X12_first lk_X12_365 (by first | assumption | exact And.left (by assumption)) dX12_next_36 rfl rfl rfl rfl ?_
        have hkn : 0 ≤ knF sn k ∧ knF sn k ≤ sn := by unfold knF; split <;> omega
        
        refine PW.callVg (c_X12_findStories hA hE hg hs hkn) cv_X12_findStories lk_X12_409 (by first | assumption | exact And.left (by assumption)) dX12_next_39 rfl rfl rfl rfl (fun r S' τ39 hq => ?_)
        obtain ⟨rfl, hS, i1, m1⟩ := hq
        have hS2 := hS.symm
        subst hS2
        have hfb := ftC_b (umS sf gf (ldT f n) gn (knF sn k)) (i := nS gn) (by omega)
        have hF := m1.1
        refine PW.aload_n dX12_next_42 rfl ?_
        refine PW.getI 41 fl_X12_396 rfl (by assumption) rfl rfl dX12_next_43 ?_
        refine PW.top (ftC (umS sf gf (ldT f n) gn (knF sn k)) (nS gn)) (by exact hF) ?_
        refine PW.if_ne 52 dX12_next_46 (by decide) (by first | assumption | (unfold inR; omega)) (fun h46 => ?_) (fun h46 => ?_)
        · refine PW.iconst dX12_next_52 ?_
          refine PW.istore_n [(0, _), (1, _), (2, _), (3, _)] dX12_next_53 rfl (Nat.le_of_ble_eq_true rfl) ?_
          refine PW.iconst dX12_next_54 ?_
          refine PW.istore [(0, _), (1, _), (2, _), (3, _), (4, _)] dX12_next_55 rfl (Nat.le_of_ble_eq_true rfl) ?_
          refine PW.iconst dX12_next_57 ?_
          refine PW.istore [(0, _), (1, _), (2, _), (3, _), (4, _), (5, _)] dX12_next_58 rfl (Nat.le_of_ble_eq_true rfl) ?_
          refine PW.iconst dX12_next_60 ?_
          refine PW.istore [(0, _), (1, _), (2, _), (3, _), (4, _), (5, _), (6, _)] dX12_next_61 rfl (Nat.le_of_ble_eq_true rfl) ?_
          have hst : ∀ p, 0 ≤ p → p < ftC (umS sf gf (ldT f n) gn (knF sn k)) (nS gn) → ∃ s, 0 ≤ s ∧ s < nS gn ∧ (umS sf gf (ldT f n) gn (knF sn k)) s = 0 ∧ ftC (umS sf gf (ldT f n) gn (knF sn k)) s = p ∧ ∀ c, 0 ≤ c → c < 64 → eq8 (kpM (τ39 (m + 33)) c p) (lndS gf (ldT f n) gn s c) := fun p p0 p1 => by
            obtain ⟨s, s0, s1, s2, s3, -, -, s6⟩ := mSt_at m1 hgb p0 p1
            exact ⟨s, s0, s1, s2, s3, fun c c0 c1 => s6 c c0 (by omega)⟩
          have hl : ∀ c, 0 ≤ c → c < 64 → ∀ p, 0 ≤ p → p < ftC (umS sf gf (ldT f n) gn (knF sn k)) (nS gn) → ∀ x, 0 ≤ x → x < 80 → -1 ≤ kpM (τ39 (m + 33)) c p x ∧ kpM (τ39 (m + 33)) c p x ≤ 15 := fun c c0 c1 p p0 p1 x x0 x1 => by
            obtain ⟨s, s0, s1, s2, s3, s4⟩ := hst p p0 p1
            rw [s4 c c0 c1 x x0 x1]
            exact lndM_ok hnb.1 hgb hE.1.2.2.1 hg.2.2 ⟨s0, s1⟩ x x0 x1
          refine PW.st (upS τ39 m (up1 (up1 (τ39 m) 46 (τ39 m 46)) 47 (τ39 m 47))) (by
            rw [up1_self]
            have e : up1 (τ39 m) 47 (τ39 m 47) = τ39 m := up1_self _ _
            rw [e, upS_self]) ?_
          refine mo_nx_loop (σ := τ39) (F := ftC (umS sf gf (ldT f n) gn (knF sn k)) (nS gn)) hA hF (by omega) hl ?_ 65 0 _ _ (by omega) (by omega) (by omega)
          intro u g
          have hn6 : ∀ t : Int → Int, ftG (umS sf gf (ldT f n) gn (knF sn k)) t (nS gn) → nhF (kpM (τ39 (m + 33))) (ftC (umS sf gf (ldT f n) gn (knF sn k)) (nS gn)) (64 : Int).toNat = (nhF (fun c p => lndS gf (ldT f n) gn (t p) c) (ftC (umS sf gf (ldT f n) gn (knF sn k)) (nS gn)) (64 : Int).toNat) := fun t ht => by
            refine nhF_congr fun c c0 c1 p p0 p1 => ?_
            obtain ⟨s, s0, s1, s2, s3, s4⟩ := hst p p0 p1
            have e : t p = s := by rw [← s3]; exact ht s s0 s1 s2
            rw [e]
            exact s4 c c0 (by omega)
          refine PW.iload_n dX12_next_128 rfl ?_
          refine PW.if_ne 136 dX12_next_129 (by decide) (by first | assumption | (unfold inR; omega)) (fun h129 => ?_) (fun h129 => ?_)
          · refine PW.iload_n dX12_next_136 rfl ?_
            refine PW.iconst dX12_next_137 ?_
            refine PW.icmp_ne 146 dX12_next_138 (by decide) (by first | assumption | (unfold inR; omega)) (by first | assumption | (unfold inR; omega)) (fun h138 => ?_) (fun h138 => ?_)
            · refine PW.iload dX12_next_146 rfl ?_
              refine PW.iret rfl rfl dX12_next_148 ⟨rfl, sJn_c i1, _, rfl, fun q => absurd (show ((-1 ≤ k ∧ k ≤ sn) ∧ (0 ≤ w ∧ w ≤ 2)) by omega) q, fun _ q => by omega, fun _ _ => ⟨fun q => by omega, fun _ t ht => ?_⟩⟩
              rw [hn6 t ht]
              first
                | (rw [if_pos (by omega)]; done)
                | (rw [if_neg (by omega), if_pos (by omega)]; done)
                | (rw [if_neg (by omega), if_neg (by omega)]; done)
            · refine PW.iload dX12_next_141 rfl ?_
              refine PW.goto 148 dX12_next_143 (by decide) ?_
              refine PW.iret rfl rfl dX12_next_148 ⟨rfl, sJn_c i1, _, rfl, fun q => absurd (show ((-1 ≤ k ∧ k ≤ sn) ∧ (0 ≤ w ∧ w ≤ 2)) by omega) q, fun _ q => by omega, fun _ _ => ⟨fun q => by omega, fun _ t ht => ?_⟩⟩
              rw [hn6 t ht]
              first
                | (rw [if_pos (by omega)]; done)
                | (rw [if_neg (by omega), if_pos (by omega)]; done)
                | (rw [if_neg (by omega), if_neg (by omega)]; done)
          · refine PW.iload_n dX12_next_132 rfl ?_
            refine PW.goto 148 dX12_next_133 (by decide) ?_
            refine PW.iret rfl rfl dX12_next_148 ⟨rfl, sJn_c i1, _, rfl, fun q => absurd (show ((-1 ≤ k ∧ k ≤ sn) ∧ (0 ≤ w ∧ w ≤ 2)) by omega) q, fun _ q => by omega, fun _ _ => ⟨fun q => by omega, fun _ t ht => ?_⟩⟩
            rw [hn6 t ht]
            first
              | (rw [if_pos (by omega)]; done)
              | (rw [if_neg (by omega), if_pos (by omega)]; done)
              | (rw [if_neg (by omega), if_neg (by omega)]; done)
        · refine PW.ldc (-100003) kc_X12_200 rfl rfl dX12_next_49 ?_
          exact PW.iret rfl rfl dX12_next_51 ⟨rfl, i1.j, _, rfl, fun q => absurd (show ((-1 ≤ k ∧ k ≤ sn) ∧ (0 ≤ w ∧ w ≤ 2)) by omega) q, fun _ q => by omega, fun _ _ => ⟨fun _ => rfl, fun q => absurd (by assumption) q⟩⟩
      · refine PW.ldc (-100004) kc_X12_196 rfl rfl dX12_next_30 ?_
        exact PW.iret rfl rfl dX12_next_32 ⟨rfl, (sIn_rfl hE.2.1).j, _, rfl, fun q => absurd (show ((-1 ≤ k ∧ k ≤ sn) ∧ (0 ≤ w ∧ w ≤ 2)) by omega) q, fun _ _ => rfl, fun _ q => absurd q (by omega)⟩
    · refine PW.ldc (-100002) kc_X12_195 rfl rfl dX12_next_20 ?_
      exact PW.iret rfl rfl dX12_next_22 ⟨rfl, (sIn_rfl hE.2.1).j, _, rfl, fun _ => rfl, fun q => absurd q (by omega), fun q => absurd q (by omega)⟩

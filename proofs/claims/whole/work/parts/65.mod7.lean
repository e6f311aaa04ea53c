/-- version v of the model is the events of f -/
def mVr (τ : Sto) (m : Nat) (v : Int) (f : Int → Int) (n : Int) : Prop := τ (m + 12) v = n ∧ (0 ≤ n ∧ n ≤ 16) ∧ mRw (fun i => τ (m + 13) (16 * v + i)) (fun j => τ (m + 14) (80 * v + j)) f n ∧ ∀ i, 0 ≤ i → i < n → τ (m + 15) (16 * v + i) = f (7 * i + 6)
def mVs (τ : Sto) (m : Nat) (K N : Int → Int) (F : Int → Int → Int) : Prop := ∀ v, 0 ≤ v → v < 4 → τ (m + 11) v = K v ∧ (0 ≤ K v ∧ K v ≤ 1) ∧ (¬ K v = 0 → mVr τ m v (F v) (N v))
theorem mVr_congr {σ τ : Sto} {m : Nat} {v : Int} {f : Int → Int} {n : Int} (e : ∀ b, m + 12 ≤ b → b ≤ m + 15 → τ b = σ b) (h : mVr σ m v f n) : mVr τ m v f n := by
  unfold mVr
  rw [e _ (by omega) (by omega), e (m + 13) (by omega) (by omega), e (m + 14) (by omega) (by omega), e (m + 15) (by omega) (by omega)]
  exact h
theorem mVs_congr {σ τ : Sto} {m : Nat} {K N : Int → Int} {F : Int → Int → Int} (e : ∀ b, m + 11 ≤ b → b ≤ m + 15 → τ b = σ b) (h : mVs σ m K N F) : mVs τ m K N F := fun v v0 v1 => by
  obtain ⟨h1, h2, h3⟩ := h v v0 v1
  exact ⟨by rw [e _ (by omega) (by omega)]; exact h1, h2, fun q => mVr_congr (fun b b0 b1 => e b (by omega) b1) (h3 q)⟩
def vKp (v n : Int) (σ τ : Sto) (m : Nat) (i j : Int) : Prop := (∀ b, b ≠ m + 13 → b ≠ m + 14 → b ≠ m + 15 → τ b = upS (upS σ (m + 11) (up1 (σ (m + 11)) v 1)) (m + 12) (up1 (σ (m + 12)) v n) b) ∧ τ (m + 13) = pfF (σ (m + 13)) (fun j => σ (m + 3) (j - 16 * v)) (16 * v) (16 * v + i) ∧ τ (m + 15) = pfF (σ (m + 15)) (fun j => σ (m + 5) (j - 16 * v)) (16 * v) (16 * v + i) ∧ τ (m + 14) = pfF (σ (m + 14)) (fun j => σ (m + 4) (j - 80 * v)) (80 * v) (80 * v + j)
theorem keep_in {G : GT} {S : Shp} {σ : Sto} {m : Nat} {n v i : Int} {f : Int → Int} {τ : Sto} {Q : Option Value → Shp → Sto → Prop} (hA : IsMod S m) (he : mEv σ m f n) (hv : 0 ≤ v ∧ v ≤ 3) (hi : 0 ≤ i ∧ i < n) (hg : vKp v n σ τ m (i + 1) (5 * i)) (hK : ∀ μ, vKp v n σ μ m (i + 1) (5 * (i + 1)) → PW (fm G mX12_keep 1 0 0 Q) G S μ 0 0 114 [(0, .ref m), (1, .int (iI v)), (2, .int (iI i))] []) : ∀ (t : Nat) (p : Int), 0 ≤ p → p ≤ 5 → 5 - p < t → PW (fm G mX12_keep 1 0 0 Q) G S (upS τ (m + 14) (pfF (σ (m + 14)) (fun j => σ (m + 4) (j - 80 * v)) (80 * v) (80 * v + (5 * i + p)))) 0 0 78 [(0, .ref m), (1, .int (iI (v))), (2, .int (iI (i))), (3, .int (iI (p)))] [] := by
  obtain ⟨hM0, hM1, hM2, hM3, hM4, hM5, hM6, hM7, hM8, hM9, hM10, hM11, hM12, hM13, hM14, hM15, hM16, hM17, hM18, hM19, hM20, hM21, hM22, hM23, hM24, hM25, hM26, hM27, hM28, hM29, hM30, hM31, hM32, hM33, hM34⟩ := id hA
  have hnb := he.2.1
  intro t
  induction t with
  | zero => intro p h1 h2 h3; omega
  | succ t ih =>
    intro p h1 h2 h3
    refine PW.iload_n dX12_keep_78 rfl ?_
    refine PW.iconst dX12_keep_79 ?_
    refine PW.icmp_ge 114 dX12_keep_80 (by decide) (by first | assumption | (unfold inR; omega)) (by first | assumption | (unfold inR; omega)) (fun h80 => ?_) (fun h80 => ?_)
    · have hp : p = 5 := by omega
      subst hp
      refine PW.take 3 ?_
      refine hK _ ⟨fun b b1 b2 b3 => by rw [upS_ne b2]; exact hg.1 b b1 b2 b3, by rw [upS_ne (by omega)]; exact hg.2.1, by rw [upS_ne (by omega)]; exact hg.2.2.1, by rw [upS_same, show 5 * i + 5 = 5 * (i + 1) by omega]⟩
    · refine PW.aload_n dX12_keep_83 rfl ?_
      refine PW.getR fl_X12_55 rfl (by assumption) rfl dX12_keep_84 ?_
      refine PW.iconst dX12_keep_87 ?_
      refine PW.bipush (by decide) dX12_keep_88 ?_
      refine PW.iload_n dX12_keep_90 rfl ?_
      refine PW.imul dX12_keep_91 ?_
      refine PW.iload_n dX12_keep_92 rfl ?_
      refine PW.iadd dX12_keep_93 ?_
      refine PW.imul dX12_keep_94 ?_
      refine PW.iload_n dX12_keep_95 rfl ?_
      refine PW.iadd dX12_keep_96 ?_
      refine PW.aload_n dX12_keep_97 rfl ?_
      refine PW.getR fl_X12_20 rfl (by assumption) rfl dX12_keep_98 ?_
      refine PW.iconst dX12_keep_101 ?_
      refine PW.iload_n dX12_keep_102 rfl ?_
      refine PW.imul dX12_keep_103 ?_
      refine PW.iload_n dX12_keep_104 rfl ?_
      refine PW.iadd dX12_keep_105 ?_
      refine PW.iaload (by assumption) (by unfold inR; omega) (by omega) (by omega) dX12_keep_106 ?_
      refine PW.top (σ (m + 4) (5 * i + p)) (by rw [upS_ne (by omega), hg.1 _ (by omega) (by omega) (by omega), upS_ne (by omega), upS_ne (by omega)]) ?_
      refine PW.iastore (by assumption) (by first | assumption | (unfold inR; omega)) (by omega) (by omega) dX12_keep_107 ?_
      refine PW.st (upS τ (m + 14) (pfF (σ (m + 14)) (fun j => σ (m + 4) (j - 80 * v)) (80 * v) (80 * v + (5 * i + (p + 1))))) (by
        rw [upS_upS, upS_same]
        refine congrArg (upS τ (m + 14)) ?_
        rw [show 80 * v + (5 * i + (p + 1)) = 80 * v + (5 * i + p) + 1 by omega, ← pfF_s (by omega)]
        try dsimp only
        rw [show 80 * v + (5 * i + p) - 80 * v = 5 * i + p by omega, show 5 * (16 * v + i) + p = 80 * v + (5 * i + p) by omega]) ?_
      refine PW.iinc [(0, _), (1, _), (2, _), (3, _)] dX12_keep_108 rfl rfl (Nat.le_of_ble_eq_true rfl) ?_
      refine PW.goto 78 dX12_keep_111 (by decide) ?_
      exact ih (p + 1) (by omega) (by omega) (by omega)
theorem keep_out {G : GT} {S : Shp} {σ : Sto} {m : Nat} {n v : Int} {f : Int → Int} {Q : Option Value → Shp → Sto → Prop} (hA : IsMod S m) (he : mEv σ m f n) (hv : 0 ≤ v ∧ v ≤ 3) (hQ : ∀ τ, vKp v n σ τ m n (5 * n) → Q (some (.int (iI n))) S τ) : ∀ (t : Nat) (i : Int) (τ : Sto), 0 ≤ i → i ≤ n → n - i < t → vKp v n σ τ m i (5 * i) → PW (fm G mX12_keep 1 0 0 Q) G S (τ) 0 0 34 [(0, .ref m), (1, .int (iI (v))), (2, .int (iI (i)))] [] := by
  obtain ⟨hM0, hM1, hM2, hM3, hM4, hM5, hM6, hM7, hM8, hM9, hM10, hM11, hM12, hM13, hM14, hM15, hM16, hM17, hM18, hM19, hM20, hM21, hM22, hM23, hM24, hM25, hM26, hM27, hM28, hM29, hM30, hM31, hM32, hM33, hM34⟩ := id hA
  have hn := he.1
  have hnb := he.2.1
  intro t
  induction t with
  | zero => intro i τ h1 h2 h3 g1; omega
  | succ t ih =>
    intro i τ h1 h2 h3 g1
    have nb : ∀ v : Int, 0 ≤ v → v ≤ 1 → narrow .boolean (.int (iI v)) = .int (iI v) := fun v v0 v1 => by
      rcases (show v = 0 ∨ v = 1 by omega) with rfl | rfl <;> rfl
    have e0 : τ m 2 = n := by rw [g1.1 m (by omega) (by omega) (by omega), upS_ne (by omega), upS_ne (by omega)]; exact hn
    refine PW.iload_n dX12_keep_34 rfl ?_
    refine PW.aload_n dX12_keep_35 rfl ?_
    refine PW.getI 2 fl_X12_184 rfl (by assumption) rfl rfl dX12_keep_36 ?_
    refine PW.top n (by exact e0) ?_
    refine PW.icmp_ge 120 dX12_keep_39 (by decide) (by first | assumption | (unfold inR; omega)) (by first | assumption | (unfold inR; omega)) (fun h39 => ?_) (fun h39 => ?_)
    · refine PW.aload_n dX12_keep_120 rfl ?_
      refine PW.getI 2 fl_X12_184 rfl (by assumption) rfl rfl dX12_keep_121 ?_
      refine PW.top n (by exact e0) ?_
      have hi : i = n := by omega
      subst hi
      exact PW.iret rfl rfl dX12_keep_124 (hQ τ g1)
    · refine PW.aload_n dX12_keep_42 rfl ?_
      refine PW.getR fl_X12_52 rfl (by assumption) rfl dX12_keep_43 ?_
      refine PW.bipush (by decide) dX12_keep_46 ?_
      refine PW.iload_n dX12_keep_48 rfl ?_
      refine PW.imul dX12_keep_49 ?_
      refine PW.iload_n dX12_keep_50 rfl ?_
      refine PW.iadd dX12_keep_51 ?_
      refine PW.aload_n dX12_keep_52 rfl ?_
      refine PW.getR fl_X12_16 rfl (by assumption) rfl dX12_keep_53 ?_
      refine PW.iload_n dX12_keep_56 rfl ?_
      refine PW.iaload (by assumption) (by unfold inR; omega) (by omega) (by omega) dX12_keep_57 ?_
      refine PW.top (σ (m + 3) i) (by rw [g1.1 _ (by omega) (by omega) (by omega), upS_ne (by omega), upS_ne (by omega)]) ?_
      refine PW.iastore (by assumption) (by first | assumption | (unfold inR; omega)) (by omega) (by omega) dX12_keep_58 ?_
      refine PW.aload_n dX12_keep_59 rfl ?_
      refine PW.getR fl_X12_58 rfl (by assumption) rfl dX12_keep_60 ?_
      refine PW.bipush (by decide) dX12_keep_63 ?_
      refine PW.iload_n dX12_keep_65 rfl ?_
      refine PW.imul dX12_keep_66 ?_
      refine PW.iload_n dX12_keep_67 rfl ?_
      refine PW.iadd dX12_keep_68 ?_
      refine PW.aload_n dX12_keep_69 rfl ?_
      refine PW.getR fl_X12_23 rfl (by assumption) rfl dX12_keep_70 ?_
      refine PW.iload_n dX12_keep_73 rfl ?_
      have hl := he.2.2.2 i h1 (by omega)
      have hl2 := (he.2.2.1 i h1 (by omega)).1.2.2
      refine PW.zaload (by assumption) (by unfold inR; omega) (by omega) (by omega) dX12_keep_74 ?_
      refine PW.top (σ (m + 5) i) (by rw [upS_ne (by omega), g1.1 _ (by omega) (by omega) (by omega), upS_ne (by omega), upS_ne (by omega)]) ?_
      refine PW.zastore (by assumption) (by first | assumption | (unfold inR; omega)) (by omega) (by omega) (nb _ (by rw [hl]; exact hl2.1) (by rw [hl]; exact hl2.2)) dX12_keep_75 ?_
      refine PW.iconst dX12_keep_76 ?_
      refine PW.istore_n [(0, _), (1, _), (2, _), (3, _)] dX12_keep_77 rfl (Nat.le_of_ble_eq_true rfl) ?_
      refine PW.st (upS (upS (upS τ (m + 13) (up1 (τ (m + 13)) (16 * v + i) (σ (m + 3) i))) (m + 15) (up1 ((upS τ (m + 13) (up1 (τ (m + 13)) (16 * v + i) (σ (m + 3) i))) (m + 15)) (16 * v + i) (σ (m + 5) i))) (m + 14) (pfF (σ (m + 14)) (fun j => σ (m + 4) (j - 80 * v)) (80 * v) (80 * v + (5 * i + 0)))) ?_ ?_
      · have e14 := g1.2.2.2
        rw [show 80 * v + (5 * i + 0) = 80 * v + 5 * i by omega, ← e14]
        have := upS_self (upS (upS τ (m + 13) (up1 (τ (m + 13)) (16 * v + i) (σ (m + 3) i))) (m + 15) (up1 ((upS τ (m + 13) (up1 (τ (m + 13)) (16 * v + i) (σ (m + 3) i))) (m + 15)) (16 * v + i) (σ (m + 5) i))) (m + 14)
        rw [upS_ne (show m + 14 ≠ m + 15 by omega), upS_ne (show m + 14 ≠ m + 13 by omega)] at this
        exact this.symm
      · refine keep_in hA he hv (show 0 ≤ i ∧ i < n by omega) ⟨fun b b1 b2 b3 => by rw [upS_ne b3, upS_ne b1]; exact g1.1 b b1 b2 b3, ?_, ?_, by rw [upS_ne (by omega), upS_ne (by omega)]; exact g1.2.2.2⟩ (fun μ hm => ?_) 6 0 (by omega) (by omega) (by omega)
        · rw [upS_ne (by omega), upS_same, g1.2.1, show 16 * v + (i + 1) = 16 * v + i + 1 by omega, ← pfF_s (by omega)]
          congr 2
          omega
        · rw [upS_same, upS_ne (by omega), g1.2.2.1, show 16 * v + (i + 1) = 16 * v + i + 1 by omega, ← pfF_s (by omega)]
          congr 2
          omega
        · refine PW.iinc [(0, _), (1, _), (2, _)] dX12_keep_114 rfl rfl (Nat.le_of_ble_eq_true rfl) ?_
          refine PW.goto 34 dX12_keep_117 (by decide) ?_
          exact ih (i + 1) μ (by omega) (by omega) (by omega) hm
theorem vKp_new {σ τ : Sto} {m : Nat} {n v : Int} {f : Int → Int} (he : mEv σ m f n) (h : vKp v n σ τ m n (5 * n)) : mVr τ m v f n := by
  obtain ⟨e0, e1, e2, e3⟩ := he
  obtain ⟨a1, a2, a3, a4⟩ := h
  refine ⟨by rw [a1 _ (by omega) (by omega) (by omega), upS_same, up1_same], e1, fun i i0 i1 => ?_, fun i i0 i1 => ?_⟩
  · obtain ⟨b1, b2, b3⟩ := e2 i i0 i1
    refine ⟨b1, ?_, fun p p0 p1 => ?_⟩
    · dsimp only
      rw [a2]
      unfold pfF
      rw [if_pos (by omega), ← b2]
      dsimp only
      congr 1
      omega
    · dsimp only
      rw [a4]
      unfold pfF
      rw [if_pos (by omega), ← b3 p p0 p1]
      dsimp only
      congr 1
      omega
  · rw [a3]
    unfold pfF
    rw [if_pos (by omega), ← e3 i i0 i1]
    dsimp only
    congr 1
    omega
theorem vKp_old {σ τ : Sto} {m : Nat} {n v u k : Int} {g : Int → Int} (hn : 0 ≤ n ∧ n ≤ 16) (hu : u ≠ v) (h : vKp v n σ τ m n (5 * n)) (ho : mVr σ m u g k) : mVr τ m u g k := by
  obtain ⟨a1, a2, a3, a4⟩ := h
  obtain ⟨e0, e1, e2, e3⟩ := ho
  refine ⟨by rw [a1 _ (by omega) (by omega) (by omega), upS_same, up1_ne hu]; exact e0, e1, fun i i0 i1 => ?_, fun i i0 i1 => ?_⟩
  · obtain ⟨b1, b2, b3⟩ := e2 i i0 i1
    refine ⟨b1, ?_, fun p p0 p1 => ?_⟩
    · dsimp only at b2 ⊢
      rw [a2]
      unfold pfF
      rw [if_neg (by omega)]
      exact b2
    · have := b3 p p0 p1
      dsimp only at this ⊢
      rw [a4]
      unfold pfF
      rw [if_neg (by omega)]
      exact this
  · rw [a3]
    unfold pfF
    rw [if_neg (by omega)]
    exact e3 i i0 i1
theorem vKp_vs {σ τ : Sto} {m : Nat} {n v : Int} {f K N : Int → Int} {F : Int → Int → Int} (he : mEv σ m f n) (hs : mVs σ m K N F) (h : vKp v n σ τ m n (5 * n)) {K' N' : Int → Int} {F' : Int → Int → Int} (hK : ∀ u, 0 ≤ u → u < 4 → K' u = if u = v then 1 else K u) (hN : ∀ u, 0 ≤ u → u < 4 → N' u = if u = v then n else N u) (hF : ∀ u, 0 ≤ u → u < 4 → u ≠ v → F' u = F u) (hf : ∀ w, mVr w m v f n → mVr w m v (F' v) n) : mVs τ m K' N' F' := fun u u0 u1 => by
  obtain ⟨h1, h2, h3⟩ := hs u u0 u1
  have e11 : τ (m + 11) = up1 (σ (m + 11)) v 1 := by rw [h.1 _ (by omega) (by omega) (by omega), upS_ne (by omega), upS_same]
  rw [e11, hK u u0 u1, hN u u0 u1]
  by_cases hu : u = v
  · rw [if_pos hu, if_pos hu, hu, up1_same]
    exact ⟨rfl, by omega, fun _ => hf τ (vKp_new he h)⟩
  · rw [if_neg hu, if_neg hu, up1_ne hu, hF u u0 u1 hu]
    exact ⟨h1, h2, fun q => vKp_old he.2.1 hu h (h3 q)⟩
theorem vKp_fr {σ τ : Sto} {m : Nat} {n v i j : Int} (h : vKp v n σ τ m i j) : ∀ b, b < m + 11 ∨ m + 15 < b → τ b = σ b := fun b hb => by rw [h.1 b (by omega) (by omega) (by omega), upS_ne (by omega), upS_ne (by omega)]
theorem c_X12_keep {G : GT} {S : Shp} {σ : Sto} {m : Nat} {n v : Int} {f : Int → Int} (hA : IsMod S m) (he : mEv σ m f n) (rv : inR v) : PMet G mX12_keep 1 0 0 [.ref m, .int (iI v)] S σ (fun r S' τ => S' = S ∧ r = some (.int (iI (if ¬ (0 ≤ v ∧ v < 4) then -100002 else n))) ∧ (¬ (0 ≤ v ∧ v < 4) → τ = σ) ∧ ((0 ≤ v ∧ v < 4) → vKp v n σ τ m n (5 * n))) := by
  obtain ⟨hM0, hM1, hM2, hM3, hM4, hM5, hM6, hM7, hM8, hM9, hM10, hM11, hM12, hM13, hM14, hM15, hM16, hM17, hM18, hM19, hM20, hM21, hM22, hM23, hM24, hM25, hM26, hM27, hM28, hM29, hM30, hM31, hM32, hM33, hM34⟩ := id hA
  have hn := he.1
  have hnb := he.2.1
  refine PMet.of [(0, .ref m), (1, .int (iI (v)))] (by decide +kernel) rfl (Nat.le_of_ble_eq_true rfl) ?_
  refine PW.iload_n dX12_keep_0 rfl ?_
  refine PW.i2l (by first | assumption | (unfold inR; omega)) dX12_keep_1 ?_
  refine PW.lconst (z := 0) rfl dX12_keep_2 ?_
  refine PW.ldc2 (3) kc_X12_335 rfl rfl dX12_keep_3 ?_
  refine PW.callSr (c_X12_in (inL_R rv) (by unfold inL; omega) (by unfold inL; omega)) cs_X12_in lk_X12_134 dX12_keep_6 rfl rfl rfl ?_
  refine PW.if_neB 15 dX12_keep_9 (by decide) (fun h9 => ?_) (fun h9 => ?_)
  · refine PW.aload_n dX12_keep_15 rfl ?_
    refine PW.getR fl_X12_46 rfl (by assumption) rfl dX12_keep_16 ?_
    refine PW.iload_n dX12_keep_19 rfl ?_
    refine PW.iconst dX12_keep_20 ?_
    refine PW.zastore (by assumption) (by first | assumption | (unfold inR; omega)) (by omega) (by omega) nar1 dX12_keep_21 ?_
    refine PW.aload_n dX12_keep_22 rfl ?_
    refine PW.getR fl_X12_49 rfl (by assumption) rfl dX12_keep_23 ?_
    refine PW.iload_n dX12_keep_26 rfl ?_
    refine PW.aload_n dX12_keep_27 rfl ?_
    refine PW.getI 2 fl_X12_184 rfl (by assumption) rfl rfl dX12_keep_28 ?_
    refine PW.top n (by rw [upS_ne (by omega)]; exact hn) ?_
    refine PW.iastore (by assumption) (by first | assumption | (unfold inR; omega)) (by omega) (by omega) dX12_keep_31 ?_
    refine PW.iconst dX12_keep_32 ?_
    refine PW.istore_n [(0, _), (1, _), (2, _)] dX12_keep_33 rfl (Nat.le_of_ble_eq_true rfl) ?_
    refine keep_out hA he (by omega) (fun τ q => ⟨rfl, by rw [if_neg (by omega)], fun x => absurd x (by omega), fun _ => q⟩) 17 0 _ (by omega) (by omega) (by omega) ⟨fun b b1 b2 b3 => ?_, ?_, ?_, ?_⟩
    · rw [upS_ne (show m + 12 ≠ m + 11 by omega)]
    · rw [upS_ne (by omega), upS_ne (by omega), Int.add_zero, pfF_0]
    · rw [upS_ne (by omega), upS_ne (by omega), Int.add_zero, pfF_0]
    · rw [upS_ne (by omega), upS_ne (by omega), show 80 * v + 5 * 0 = 80 * v by omega, pfF_0]
  · refine PW.ldc (-100002) kc_X12_195 rfl rfl dX12_keep_12 ?_
    exact PW.iret rfl rfl dX12_keep_14 ⟨rfl, ret_eq (by rw [if_pos (by omega)]), fun _ => rfl, fun q => absurd q (by omega)⟩
theorem c_X12_noVersion {G : GT} {S : Shp} {σ : Sto} {m : Nat} {v : Int} {VK VN : Int → Int} {VF : Int → Int → Int} (hA : IsMod S m) (hvs : mVs σ m VK VN VF) (rv : inR v) : PMet G mX12_noVersion 1 0 0 [.ref m, .int (iI v)] S σ (isP (some (.int (iI (b01 (¬ ((0 ≤ v ∧ v < 4) ∧ ¬ VK v = 0)))))) S σ) := by
  obtain ⟨hM0, hM1, hM2, hM3, hM4, hM5, hM6, hM7, hM8, hM9, hM10, hM11, hM12, hM13, hM14, hM15, hM16, hM17, hM18, hM19, hM20, hM21, hM22, hM23, hM24, hM25, hM26, hM27, hM28, hM29, hM30, hM31, hM32, hM33, hM34⟩ := id hA
  refine PMet.of [(0, .ref m), (1, .int (iI (v)))] (by decide +kernel) rfl (Nat.le_of_ble_eq_true rfl) ?_
  refine PW.iload_n dX12_noVersion_0 rfl ?_
  refine PW.i2l (by first | assumption | (unfold inR; omega)) dX12_noVersion_1 ?_
  refine PW.lconst (z := 0) rfl dX12_noVersion_2 ?_
  refine PW.ldc2 (3) kc_X12_335 rfl rfl dX12_noVersion_3 ?_
  refine PW.callSr (c_X12_in (inL_R rv) (by unfold inL; omega) (by unfold inL; omega)) cs_X12_in lk_X12_134 dX12_noVersion_6 rfl rfl rfl ?_
  refine PW.if_eqB 21 dX12_noVersion_9 (by decide) (fun h9 => ?_) (fun h9 => ?_)
  · refine PW.iconst dX12_noVersion_21 ?_
    refine PW.goto 26 dX12_noVersion_22 (by decide) ?_
    exact PW.iret rfl (by first | rfl | exact narB _) dX12_noVersion_26 ⟨ret_eq (by unfold b01; first | (exfalso; omega) | rw [if_pos (by omega)] | rw [if_neg (by omega)]), rfl, rfl⟩
  · refine PW.aload_n dX12_noVersion_12 rfl ?_
    refine PW.getR fl_X12_46 rfl (by assumption) rfl dX12_noVersion_13 ?_
    refine PW.iload_n dX12_noVersion_16 rfl ?_
    have hk := hvs v (by omega) (by omega)
    refine PW.zaload (by assumption) (by unfold inR; omega) (by omega) (by omega) dX12_noVersion_17 ?_
    refine PW.top (VK v) hk.1 ?_
    refine PW.if_ne 25 dX12_noVersion_18 (by decide) (by first | assumption | (unfold inR; omega)) (fun h18 => ?_) (fun h18 => ?_)
    · refine PW.iconst dX12_noVersion_25 ?_
      exact PW.iret rfl (by first | rfl | exact narB _) dX12_noVersion_26 ⟨ret_eq (by unfold b01; first | (exfalso; omega) | rw [if_pos (by omega)] | rw [if_neg (by omega)]), rfl, rfl⟩
    · refine PW.iconst dX12_noVersion_21 ?_
      refine PW.goto 26 dX12_noVersion_22 (by decide) ?_
      exact PW.iret rfl (by first | rfl | exact narB _) dX12_noVersion_26 ⟨ret_eq (by unfold b01; first | (exfalso; omega) | rw [if_pos (by omega)] | rw [if_neg (by omega)]), rfl, rfl⟩
theorem bk_ev {σ : Sto} {m : Nat} {f : Int → Int} {i k l : Int} (he : mEv σ m f i) (hi : i < 16) (ho : EvD f i) (hk : f (7 * i) = k) (hg : ∀ p, 0 ≤ p → p < 5 → f (7 * i + 1 + p) = σ (m + 6) p) (hl : l = f (7 * i + 6)) : mEv (upS (maS σ m i k) (m + 5) (up1 ((maS σ m i k) (m + 5)) i l)) m f (i + 1) := by
  have h1 : mEv (maS σ m i k) m (up1 f (7 * i + 6) 0) (i + 1) := maS_ev he hi (fun q q0 q1 => ⟨evOk_lo (he.2.2.1 q q0 q1).1 (by decide), up1_ne (by omega), fun p p0 p1 => up1_ne (by omega)⟩) (by rw [up1_ne (by omega)]; exact hk) (fun p p0 p1 => by rw [up1_ne (by omega)]; exact hg p p0 p1) (up1_same _ _ _) (evOk_lo ho (by decide))
  have h2 := mEv_lo (i := i) (v := l) h1 (by have := ho.2.2; omega)
  rw [up1_up1, hl, up1_self] at h2
  rw [hl]
  exact h2
theorem mo_back_loop {G : GT} {S : Shp} {σ : Sto} {m : Nat} {v k : Int} {g : Int → Int} {Q : Option Value → Shp → Sto → Prop} (hA : IsMod S m) (hr : mVr σ m v g k) (hv : 0 ≤ v ∧ v ≤ 3) (hC : cOk (σ (m + 1)) 15360) (hQ : ∀ τ, eFr σ τ m → mCore τ m g k → Q (some (.int (iI k))) S τ) : ∀ (t : Nat) (i : Int) (τ : Sto), 0 ≤ i → i ≤ k → k - i < t → eFr σ τ m → τ (m + 1) = σ (m + 1) → mEv τ m g i → PW (fm G mX12_back 7 0 0 Q) G S (τ) 0 0 18 [(0, .ref m), (1, .int (iI (v))), (2, .int (iI (i)))] [] := by
  obtain ⟨hM0, hM1, hM2, hM3, hM4, hM5, hM6, hM7, hM8, hM9, hM10, hM11, hM12, hM13, hM14, hM15, hM16, hM17, hM18, hM19, hM20, hM21, hM22, hM23, hM24, hM25, hM26, hM27, hM28, hM29, hM30, hM31, hM32, hM33, hM34⟩ := id hA
  obtain ⟨k0, k1, k2, k3⟩ := id hr
  intro t
  induction t with
  | zero => intro i τ h1 h2 h3 g1 g2 g3; omega
  | succ t ih =>
    intro i τ h1 h2 h3 g1 g2 g3
    have nb : ∀ v : Int, 0 ≤ v → v ≤ 1 → narrow .boolean (.int (iI v)) = .int (iI v) := fun v v0 v1 => by
      rcases (show v = 0 ∨ v = 1 by omega) with rfl | rfl <;> rfl
    have e12 : τ (m + 12) v = k := by rw [g1.1 _ (by omega)]; exact k0
    have e13 : τ (m + 13) = σ (m + 13) := g1.1 _ (by omega)
    have e14 : τ (m + 14) = σ (m + 14) := g1.1 _ (by omega)
    have e15 : τ (m + 15) = σ (m + 15) := g1.1 _ (by omega)
    have g30 := g3.1
    refine PW.iload_n dX12_back_18 rfl ?_
    refine PW.aload_n dX12_back_19 rfl ?_
    refine PW.getR fl_X12_49 rfl (by assumption) rfl dX12_back_20 ?_
    refine PW.iload_n dX12_back_23 rfl ?_
    refine PW.iaload (by assumption) (by unfold inR; omega) (by omega) (by omega) dX12_back_24 ?_
    refine PW.top k (by exact e12) ?_
    refine PW.icmp_ge 72 dX12_back_25 (by decide) (by first | assumption | (unfold inR; omega)) (by first | assumption | (unfold inR; omega)) (fun h25 => ?_) (fun h25 => ?_)
    · refine PW.aload_n dX12_back_72 rfl ?_
      refine PW.aload_n dX12_back_73 rfl ?_
      refine PW.getI 2 fl_X12_184 rfl (by assumption) rfl rfl dX12_back_74 ?_
      refine PW.top i (by exact g30) ?_
      refine PW.callVg (c_X12_buildAll (f := g) hA (by rw [g2]; exact hC) (by omega) g3.2.2.1) cv_X12_buildAll lk_X12_119 (by first | assumption | exact And.left (by assumption)) dX12_back_77 rfl rfl rfl rfl (fun r S' τ77 hq => ?_)
      have hi : i = k := by omega
      subst hi
      obtain ⟨rfl, hS, hb⟩ := hq
      have hS2 := hS.symm
      subst hS2
      refine PW.aload_n dX12_back_80 rfl ?_
      refine PW.getI 2 fl_X12_184 rfl (by assumption) rfl rfl dX12_back_81 ?_
      refine PW.top i (by rw [hb.1 m (by omega) (by omega) (by omega)]; exact g30) ?_
      exact PW.iret rfl rfl dX12_back_84 (hQ _ (g1.trans hb.1.e) (hb.core g3))
    · refine PW.aload_n dX12_back_28 rfl ?_
      refine PW.iload_n dX12_back_29 rfl ?_
      refine PW.iload_n dX12_back_30 rfl ?_
      refine PW.callVv (c_X12_giveKept hA (by omega) hv) cv_X12_giveKept lk_X12_340 (by first | assumption | exact And.left (by assumption)) dX12_back_31 rfl rfl rfl rfl ?_
      refine PW.aload_n dX12_back_34 rfl ?_
      refine PW.aload_n dX12_back_35 rfl ?_
      refine PW.getR fl_X12_52 rfl (by assumption) rfl dX12_back_36 ?_
      refine PW.bipush (by decide) dX12_back_39 ?_
      refine PW.iload_n dX12_back_41 rfl ?_
      refine PW.imul dX12_back_42 ?_
      refine PW.iload_n dX12_back_43 rfl ?_
      refine PW.iadd dX12_back_44 ?_
      have hri := k2 i h1 (by omega)
      have hli := k3 i h1 (by omega)
      refine PW.iaload (by assumption) (by unfold inR; omega) (by omega) (by omega) dX12_back_45 ?_
      refine PW.top (g (7 * i)) (by rw [upS_ne (by omega), e13]; exact hri.2.1) ?_
      refine PW.callVv (c_X12_add (n := i) hA (by rw [upS_ne (by omega)]; exact g30) (by omega)) cv_X12_add lk_X12_197 (by first | assumption | exact And.left (by assumption)) dX12_back_46 rfl rfl rfl rfl ?_
      refine PW.aload_n dX12_back_49 rfl ?_
      refine PW.getR fl_X12_23 rfl (by assumption) rfl dX12_back_50 ?_
      refine PW.iload_n dX12_back_53 rfl ?_
      refine PW.aload_n dX12_back_54 rfl ?_
      refine PW.getR fl_X12_58 rfl (by assumption) rfl dX12_back_55 ?_
      refine PW.bipush (by decide) dX12_back_58 ?_
      refine PW.iload_n dX12_back_60 rfl ?_
      refine PW.imul dX12_back_61 ?_
      refine PW.iload_n dX12_back_62 rfl ?_
      refine PW.iadd dX12_back_63 ?_
      have hlo := hri.1.2.2
      refine PW.zaload (by assumption) (by unfold inR; omega) (by omega) (by omega) dX12_back_64 ?_
      refine PW.top (g (7 * i + 6)) (by rw [maS_ne (by omega) (by omega) (by omega) (by omega), upS_ne (by omega), e15]; exact hli) ?_
      refine PW.zastore (by assumption) (by first | assumption | (unfold inR; omega)) (by omega) (by omega) (nb _ hlo.1 hlo.2) dX12_back_65 ?_
      refine PW.iinc [(0, _), (1, _), (2, _)] dX12_back_66 rfl rfl (Nat.le_of_ble_eq_true rfl) ?_
      refine PW.goto 18 dX12_back_69 (by decide) ?_
      refine ih (i + 1) _ (by omega) (by omega) (by omega) ⟨fun b hb => ?_, fun j hj => ?_⟩ ?_ ?_
      · rw [upS_ne (by omega), maS_ne (by omega) (by omega) (by omega) (by omega), upS_ne (by omega)]
        exact g1.1 b hb
      · rw [upS_ne (by omega), maS_j hj, upS_ne (by omega)]
        exact g1.2 j hj
      · rw [upS_ne (by omega), maS_ne (by omega) (by omega) (by omega) (by omega), upS_ne (by omega)]
        exact g2
      · refine bk_ev (mEv_congr g3 (by rw [upS_ne (by omega)]) (upS_ne (by omega)) (upS_ne (by omega)) (upS_ne (by omega))) (by omega) hri.1 rfl (fun p p0 p1 => ?_) rfl
        rw [upS_same, e14]
        unfold pfF
        rw [if_pos (by omega), ← hri.2.2 p p0 p1]
        dsimp only
        congr 1
        omega
theorem c_X12_back {G : GT} {S : Shp} {σ : Sto} {m : Nat} {n v : Int} {f : Int → Int} {VK VN : Int → Int} {VF : Int → Int → Int} (hA : IsMod S m) (hE : mCore σ m f n) (hvs : mVs σ m VK VN VF) (rv : inR v) : PMet G mX12_back 7 0 0 [.ref m, .int (iI v)] S σ (fun r S' τ => S' = S ∧ r = some (.int (iI (if ¬ ((0 ≤ v ∧ v < 4) ∧ ¬ VK v = 0) then -100001 else VN v))) ∧ eFr σ τ m ∧ (¬ ((0 ≤ v ∧ v < 4) ∧ ¬ VK v = 0) → τ = σ) ∧ ((0 ≤ v ∧ v < 4) ∧ ¬ VK v = 0 → mCore τ m (VF v) (VN v))) := by
  obtain ⟨hM0, hM1, hM2, hM3, hM4, hM5, hM6, hM7, hM8, hM9, hM10, hM11, hM12, hM13, hM14, hM15, hM16, hM17, hM18, hM19, hM20, hM21, hM22, hM23, hM24, hM25, hM26, hM27, hM28, hM29, hM30, hM31, hM32, hM33, hM34⟩ := id hA
  have hn := hE.1.1
  have hnb := hE.1.2.1
  refine PMet.of [(0, .ref m), (1, .int (iI (v)))] (by decide +kernel) rfl (Nat.le_of_ble_eq_true rfl) ?_
  refine PW.aload_n dX12_back_0 rfl ?_
  refine PW.iload_n dX12_back_1 rfl ?_
  refine PW.callVr (c_X12_noVersion hA hvs rv) cv_X12_noVersion lk_X12_337 (by first | assumption | exact And.left (by assumption)) dX12_back_2 rfl rfl rfl rfl ?_
  refine PW.if_eqB 11 dX12_back_5 (by decide) (fun h5 => ?_) (fun h5 => ?_)
  · have hvv : (0 ≤ v ∧ v < 4) ∧ ¬ VK v = 0 := Classical.byContradiction (fun q => h5 q)
    have hr := (hvs v hvv.1.1 hvv.1.2).2.2 hvv.2
    have hrb := hr.2.1
    refine PW.aload_n dX12_back_11 rfl ?_
    refine PW.iconst dX12_back_12 ?_
    refine PW.putI 2 fl_X12_184 rfl (fun h => absurd h (by decide)) (by assumption) rfl rfl rfl rfl dX12_back_13 ?_
    refine PW.iconst dX12_back_16 ?_
    refine PW.istore_n [(0, _), (1, _), (2, _)] dX12_back_17 rfl (Nat.le_of_ble_eq_true rfl) ?_
    have h20 : mEv (upS σ m (up1 (σ m) 2 0)) m (VF v) 0 := ⟨by rw [upS_same, up1_same], by omega, fun i i0 i1 => by omega, fun i i0 i1 => by omega⟩
    exact mo_back_loop hA hr (by omega) hE.2.1 (fun τ q1 q2 => ⟨rfl, by rw [if_neg (fun q => q hvv)], q1, fun q => absurd hvv q, fun _ => q2⟩) 17 0 _ (by omega) (by omega) (by omega) (eFr_2 σ m 0) (upS_ne (by omega)) h20
  · refine PW.ldc (-100001) kc_X12_204 rfl rfl dX12_back_8 ?_
    exact PW.iret rfl rfl dX12_back_10 ⟨rfl, ret_eq (by rw [if_pos (by assumption)]), eFr.rfl' _ _, fun _ => rfl, fun q => absurd q (by assumption)⟩
theorem mo_same_loop {G : GT} {S : Shp} {σ : Sto} {m : Nat} {n v k i : Int} {f g : Int → Int} {Q : Option Value → Shp → Sto → Prop} (hA : IsMod S m) (he : mEv σ m f n) (hr : mVr σ m v g k) (hv : 0 ≤ v ∧ v ≤ 3) (hi : 0 ≤ i ∧ i ≤ 16) (hQ : Q (some (.int (iI (b01 ((i < n ∧ i < k) ∧ alF f g i))))) S σ) : ∀ (t : Nat) (p : Int), 0 ≤ p → p ≤ 5 → 5 - p < t → PW (fm G mX12_isSame 0 0 0 Q) G S (σ) 0 0 47 [(0, .ref m), (1, .int (iI (v))), (2, .int (iI (i))), (3, .int (iI (b01 ((i < n ∧ i < k) ∧ firI (unF f g i) (p + 1).toNat = -1)))), (4, .int (iI (p)))] [] := by
  obtain ⟨hM0, hM1, hM2, hM3, hM4, hM5, hM6, hM7, hM8, hM9, hM10, hM11, hM12, hM13, hM14, hM15, hM16, hM17, hM18, hM19, hM20, hM21, hM22, hM23, hM24, hM25, hM26, hM27, hM28, hM29, hM30, hM31, hM32, hM33, hM34⟩ := id hA
  have hnb := he.2.1
  obtain ⟨k0, k1, k2, k3⟩ := id hr
  intro t
  induction t with
  | zero => intro p h1 h2 h3; omega
  | succ t ih =>
    intro p h1 h2 h3
    have f1 := firI_st (unF f g i) (i := p + 1) (by omega)
    refine PW.iload dX12_isSame_47 rfl ?_
    refine PW.iconst dX12_isSame_49 ?_
    refine PW.icmp_ge 99 dX12_isSame_50 (by decide) (by first | assumption | (unfold inR; omega)) (by first | assumption | (unfold inR; omega)) (fun h50 => ?_) (fun h50 => ?_)
    · refine PW.iload_n dX12_isSame_99 rfl ?_
      first
        | (have hp : p = 5 := by omega
           subst hp
           exact PW.iret rfl (by first | rfl | exact narB _) dX12_isSame_100 hQ)
        | (rw [b01_f (by assumption)]
           have hno : ¬ ((i < n ∧ i < k) ∧ alF f g i) := fun q => by
             have hc : ¬ ((i < n ∧ i < k) ∧ firI (unF f g i) (p + 1).toNat = -1) := by assumption
             exact hc ⟨q.1, firI_none (fun j j0 j1 => (firI_spec (P := unF f g i) (n := 6)).1 q.2 j j0 (by omega))⟩
           rw [b01_f hno] at hQ
           exact PW.iret rfl rfl dX12_isSame_100 hQ)
    · refine PW.iload_n dX12_isSame_53 rfl ?_
      refine PW.if_eqB 99 dX12_isSame_54 (by decide) (fun h54 => ?_) (fun h54 => ?_)
      · refine PW.iload_n dX12_isSame_99 rfl ?_
        first
          | (have hp : p = 5 := by omega
             subst hp
             exact PW.iret rfl (by first | rfl | exact narB _) dX12_isSame_100 hQ)
          | (rw [b01_f (by assumption)]
             have hno : ¬ ((i < n ∧ i < k) ∧ alF f g i) := fun q => by
               have hc : ¬ ((i < n ∧ i < k) ∧ firI (unF f g i) (p + 1).toNat = -1) := by assumption
               exact hc ⟨q.1, firI_none (fun j j0 j1 => (firI_spec (P := unF f g i) (n := 6)).1 q.2 j j0 (by omega))⟩
             rw [b01_f hno] at hQ
             exact PW.iret rfl rfl dX12_isSame_100 hQ)
      · refine PW.aload_n dX12_isSame_57 rfl ?_
        refine PW.getR fl_X12_20 rfl (by assumption) rfl dX12_isSame_58 ?_
        refine PW.iconst dX12_isSame_61 ?_
        refine PW.iload_n dX12_isSame_62 rfl ?_
        refine PW.imul dX12_isSame_63 ?_
        refine PW.iload dX12_isSame_64 rfl ?_
        refine PW.iadd dX12_isSame_66 ?_
        obtain ⟨ha, hbq⟩ := id (by assumption : (i < n ∧ i < k) ∧ firI (unF f g i) (p + 1).toNat = -1)
        have er := he.2.2.1 i hi.1 ha.1
        have kr := k2 i hi.1 ha.2
        have vb := er.1.2.1 p h1 (by omega)
        have wb := kr.1.2.1 p h1 (by omega)
        refine PW.iaload (by assumption) (by unfold inR; omega) (by omega) (by omega) dX12_isSame_67 ?_
        refine PW.top (f (7 * i + (p + 1))) (by rw [er.2.2 p h1 (by omega)]; congr 1; omega) ?_
        refine PW.aload_n dX12_isSame_68 rfl ?_
        refine PW.getR fl_X12_55 rfl (by assumption) rfl dX12_isSame_69 ?_
        refine PW.iconst dX12_isSame_72 ?_
        refine PW.bipush (by decide) dX12_isSame_73 ?_
        refine PW.iload_n dX12_isSame_75 rfl ?_
        refine PW.imul dX12_isSame_76 ?_
        refine PW.iload_n dX12_isSame_77 rfl ?_
        refine PW.iadd dX12_isSame_78 ?_
        refine PW.imul dX12_isSame_79 ?_
        refine PW.iload dX12_isSame_80 rfl ?_
        refine PW.iadd dX12_isSame_82 ?_
        refine PW.iaload (by assumption) (by unfold inR; omega) (by omega) (by omega) dX12_isSame_83 ?_
        refine PW.top (g (7 * i + (p + 1))) (by 
          have := kr.2.2 p h1 (by omega)
          dsimp only at this
          rw [show 5 * (16 * v + i) + p = 80 * v + (5 * i + p) by omega, this]
          congr 1
          omega) ?_
        rw [show 7 * i + 1 + p = 7 * i + (p + 1) by omega] at vb wb
        refine PW.icmp_ne 91 dX12_isSame_84 (by decide) (by first | assumption | (unfold inR; omega)) (by first | assumption | (unfold inR; omega)) (fun h84 => ?_) (fun h84 => ?_)
        · refine PW.iconst dX12_isSame_91 ?_
          refine PW.istore_n [(0, _), (1, _), (2, _), (3, _), (4, _)] dX12_isSame_92 rfl (Nat.le_of_ble_eq_true rfl) ?_
          refine PW.iinc [(0, _), (1, _), (2, _), (3, _), (4, _)] dX12_isSame_93 rfl rfl (Nat.le_of_ble_eq_true rfl) ?_
          refine PW.goto 47 dX12_isSame_96 (by decide) ?_
          have e := ih (p + 1) (by omega) (by omega) (by omega)
          first
            | (rw [b01_t ⟨ha, f1.mpr ⟨hbq, decide_eq_false (fun q => q h84)⟩⟩] at e
               exact e)
            | (rw [b01_f (fun q => by have := of_decide_eq_false (f1.mp q.2).2; exact this h84)] at e
               exact e)
        · refine PW.iconst dX12_isSame_87 ?_
          refine PW.goto 92 dX12_isSame_88 (by decide) ?_
          refine PW.istore_n [(0, _), (1, _), (2, _), (3, _), (4, _)] dX12_isSame_92 rfl (Nat.le_of_ble_eq_true rfl) ?_
          refine PW.iinc [(0, _), (1, _), (2, _), (3, _), (4, _)] dX12_isSame_93 rfl rfl (Nat.le_of_ble_eq_true rfl) ?_
          refine PW.goto 47 dX12_isSame_96 (by decide) ?_
          have e := ih (p + 1) (by omega) (by omega) (by omega)
          first
            | (rw [b01_t ⟨ha, f1.mpr ⟨hbq, decide_eq_false (fun q => q h84)⟩⟩] at e
               exact e)
            | (rw [b01_f (fun q => by have := of_decide_eq_false (f1.mp q.2).2; exact this h84)] at e
               exact e)
theorem c_X12_isSame {G : GT} {S : Shp} {σ : Sto} {m : Nat} {n v k i : Int} {f g : Int → Int} (hA : IsMod S m) (he : mEv σ m f n) (hr : mVr σ m v g k) (hv : 0 ≤ v ∧ v ≤ 3) (hi : 0 ≤ i ∧ i ≤ 16) : PMet G mX12_isSame 0 0 0 [.ref m, .int (iI v), .int (iI i)] S σ (isP (some (.int (iI (b01 ((i < n ∧ i < k) ∧ alF f g i))))) S σ) := by
  obtain ⟨hM0, hM1, hM2, hM3, hM4, hM5, hM6, hM7, hM8, hM9, hM10, hM11, hM12, hM13, hM14, hM15, hM16, hM17, hM18, hM19, hM20, hM21, hM22, hM23, hM24, hM25, hM26, hM27, hM28, hM29, hM30, hM31, hM32, hM33, hM34⟩ := id hA
  have hn := he.1
  have hnb := he.2.1
  obtain ⟨k0, k1, k2, k3⟩ := id hr
  have f1 := firI_st (unF f g i) (i := 0) (by omega)
  have f0 : firI (unF f g i) (0 : Int).toNat = -1 := rfl
  refine PMet.of [(0, .ref m), (1, .int (iI (v))), (2, .int (iI (i)))] (by decide +kernel) rfl (Nat.le_of_ble_eq_true rfl) ?_
  refine PW.iload_n dX12_isSame_0 rfl ?_
  refine PW.aload_n dX12_isSame_1 rfl ?_
  refine PW.getI 2 fl_X12_184 rfl (by assumption) rfl rfl dX12_isSame_2 ?_
  refine PW.top n (by exact hn) ?_
  refine PW.icmp_ge 42 dX12_isSame_5 (by decide) (by first | assumption | (unfold inR; omega)) (by first | assumption | (unfold inR; omega)) (fun h5 => ?_) (fun h5 => ?_)
  · refine PW.iconst dX12_isSame_42 ?_
    refine PW.istore_n [(0, _), (1, _), (2, _), (3, _)] dX12_isSame_43 rfl (Nat.le_of_ble_eq_true rfl) ?_
    refine PW.iconst dX12_isSame_44 ?_
    refine PW.istore [(0, _), (1, _), (2, _), (3, _), (4, _)] dX12_isSame_45 rfl (Nat.le_of_ble_eq_true rfl) ?_
    have e := mo_same_loop (G := G) hA he hr hv hi (Q := isP (some (.int (iI (b01 ((i < n ∧ i < k) ∧ alF f g i))))) S σ) ⟨rfl, rfl, rfl⟩ 6 0 (by omega) (by omega) (by omega)
    first
      | (rw [b01_t (show (i < n ∧ i < k) ∧ firI (unF f g i) (0 + 1 : Int).toNat = -1 from ⟨by omega, f1.mpr ⟨f0, decide_eq_false (fun q => q (by rw [Int.add_zero]; assumption))⟩⟩)] at e
         exact e)
      | (rw [b01_f (show ¬ ((i < n ∧ i < k) ∧ firI (unF f g i) (0 + 1 : Int).toNat = -1) from fun q => by omega)] at e
         exact e)
      | (rw [b01_f (show ¬ ((i < n ∧ i < k) ∧ firI (unF f g i) (0 + 1 : Int).toNat = -1) from fun q => by
           have := of_decide_eq_false (f1.mp q.2).2
           rw [Int.add_zero] at this
           exact this (by assumption))] at e
         exact e)
  · refine PW.iload_n dX12_isSame_8 rfl ?_
    refine PW.aload_n dX12_isSame_9 rfl ?_
    refine PW.getR fl_X12_49 rfl (by assumption) rfl dX12_isSame_10 ?_
    refine PW.iload_n dX12_isSame_13 rfl ?_
    refine PW.iaload (by assumption) (by unfold inR; omega) (by omega) (by omega) dX12_isSame_14 ?_
    refine PW.top k (by exact k0) ?_
    refine PW.icmp_ge 42 dX12_isSame_15 (by decide) (by first | assumption | (unfold inR; omega)) (by first | assumption | (unfold inR; omega)) (fun h15 => ?_) (fun h15 => ?_)
    · refine PW.iconst dX12_isSame_42 ?_
      refine PW.istore_n [(0, _), (1, _), (2, _), (3, _)] dX12_isSame_43 rfl (Nat.le_of_ble_eq_true rfl) ?_
      refine PW.iconst dX12_isSame_44 ?_
      refine PW.istore [(0, _), (1, _), (2, _), (3, _), (4, _)] dX12_isSame_45 rfl (Nat.le_of_ble_eq_true rfl) ?_
      have e := mo_same_loop (G := G) hA he hr hv hi (Q := isP (some (.int (iI (b01 ((i < n ∧ i < k) ∧ alF f g i))))) S σ) ⟨rfl, rfl, rfl⟩ 6 0 (by omega) (by omega) (by omega)
      first
        | (rw [b01_t (show (i < n ∧ i < k) ∧ firI (unF f g i) (0 + 1 : Int).toNat = -1 from ⟨by omega, f1.mpr ⟨f0, decide_eq_false (fun q => q (by rw [Int.add_zero]; assumption))⟩⟩)] at e
           exact e)
        | (rw [b01_f (show ¬ ((i < n ∧ i < k) ∧ firI (unF f g i) (0 + 1 : Int).toNat = -1) from fun q => by omega)] at e
           exact e)
        | (rw [b01_f (show ¬ ((i < n ∧ i < k) ∧ firI (unF f g i) (0 + 1 : Int).toNat = -1) from fun q => by
             have := of_decide_eq_false (f1.mp q.2).2
             rw [Int.add_zero] at this
             exact this (by assumption))] at e
           exact e)
    · refine PW.aload_n dX12_isSame_18 rfl ?_
      refine PW.getR fl_X12_16 rfl (by assumption) rfl dX12_isSame_19 ?_
      refine PW.iload_n dX12_isSame_22 rfl ?_
      have er := he.2.2.1 i hi.1 (by omega)
      have kr := k2 i hi.1 (by omega)
      have ek := er.1.k
      have kk_ := kr.1.k
      refine PW.iaload (by assumption) (by unfold inR; omega) (by omega) (by omega) dX12_isSame_23 ?_
      refine PW.top (f (7 * i)) (by exact er.2.1) ?_
      refine PW.aload_n dX12_isSame_24 rfl ?_
      refine PW.getR fl_X12_52 rfl (by assumption) rfl dX12_isSame_25 ?_
      refine PW.bipush (by decide) dX12_isSame_28 ?_
      refine PW.iload_n dX12_isSame_30 rfl ?_
      refine PW.imul dX12_isSame_31 ?_
      refine PW.iload_n dX12_isSame_32 rfl ?_
      refine PW.iadd dX12_isSame_33 ?_
      refine PW.iaload (by assumption) (by unfold inR; omega) (by omega) (by omega) dX12_isSame_34 ?_
      refine PW.top (g (7 * i)) (by exact kr.2.1) ?_
      refine PW.icmp_ne 42 dX12_isSame_35 (by decide) (by first | assumption | (unfold inR; omega)) (by first | assumption | (unfold inR; omega)) (fun h35 => ?_) (fun h35 => ?_)
      · refine PW.iconst dX12_isSame_42 ?_
        refine PW.istore_n [(0, _), (1, _), (2, _), (3, _)] dX12_isSame_43 rfl (Nat.le_of_ble_eq_true rfl) ?_
        refine PW.iconst dX12_isSame_44 ?_
        refine PW.istore [(0, _), (1, _), (2, _), (3, _), (4, _)] dX12_isSame_45 rfl (Nat.le_of_ble_eq_true rfl) ?_
        have e := mo_same_loop (G := G) hA he hr hv hi (Q := isP (some (.int (iI (b01 ((i < n ∧ i < k) ∧ alF f g i))))) S σ) ⟨rfl, rfl, rfl⟩ 6 0 (by omega) (by omega) (by omega)
        first
          | (rw [b01_t (show (i < n ∧ i < k) ∧ firI (unF f g i) (0 + 1 : Int).toNat = -1 from ⟨by omega, f1.mpr ⟨f0, decide_eq_false (fun q => q (by rw [Int.add_zero]; assumption))⟩⟩)] at e
             exact e)
          | (rw [b01_f (show ¬ ((i < n ∧ i < k) ∧ firI (unF f g i) (0 + 1 : Int).toNat = -1) from fun q => by omega)] at e
             exact e)
          | (rw [b01_f (show ¬ ((i < n ∧ i < k) ∧ firI (unF f g i) (0 + 1 : Int).toNat = -1) from fun q => by
               have := of_decide_eq_false (f1.mp q.2).2
               rw [Int.add_zero] at this
               exact this (by assumption))] at e
             exact e)
      · refine PW.iconst dX12_isSame_38 ?_
        refine PW.goto 43 dX12_isSame_39 (by decide) ?_
        refine PW.istore_n [(0, _), (1, _), (2, _), (3, _)] dX12_isSame_43 rfl (Nat.le_of_ble_eq_true rfl) ?_
        refine PW.iconst dX12_isSame_44 ?_
        refine PW.istore [(0, _), (1, _), (2, _), (3, _), (4, _)] dX12_isSame_45 rfl (Nat.le_of_ble_eq_true rfl) ?_
        have e := mo_same_loop (G := G) hA he hr hv hi (Q := isP (some (.int (iI (b01 ((i < n ∧ i < k) ∧ alF f g i))))) S σ) ⟨rfl, rfl, rfl⟩ 6 0 (by omega) (by omega) (by omega)
        first
          | (rw [b01_t (show (i < n ∧ i < k) ∧ firI (unF f g i) (0 + 1 : Int).toNat = -1 from ⟨by omega, f1.mpr ⟨f0, decide_eq_false (fun q => q (by rw [Int.add_zero]; assumption))⟩⟩)] at e
             exact e)
          | (rw [b01_f (show ¬ ((i < n ∧ i < k) ∧ firI (unF f g i) (0 + 1 : Int).toNat = -1) from fun q => by omega)] at e
             exact e)
          | (rw [b01_f (show ¬ ((i < n ∧ i < k) ∧ firI (unF f g i) (0 + 1 : Int).toNat = -1) from fun q => by
               have := of_decide_eq_false (f1.mp q.2).2
               rw [Int.add_zero] at this
               exact this (by assumption))] at e
             exact e)

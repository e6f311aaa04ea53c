/-- numbers that a kind has not are 0 -/
def nzR (f : Int → Int) (n : Int) : Prop := ∀ i, 0 ≤ i → i < n → ∀ p, 2 ≤ p → p < 5 → ¬ p < xT 0 (f (7 * i)) → f (7 * i + 1 + p) = 0
theorem nzR_ad {f : Int → Int} {n k a b c d e : Int} (h : nzR f n) : nzR (adF f n k a b c d e) (n + 1) := by
  intro i i0 i1 p p0 p1 hp
  unfold adF at hp ⊢
  by_cases hi : i = n
  · subst hi
    rw [if_pos (by omega), show 7 * i - 7 * i = 0 by omega] at hp
    rw [if_pos (by omega), show 7 * i + 1 + p - 7 * i = 1 + p by omega]
    have hp2 : ¬ p < xT 0 k := hp
    unfold rowF
    rcases (show p = 2 ∨ p = 3 ∨ p = 4 by omega) with rfl | rfl | rfl
    · simp [hp2]
    · simp [hp2]
    · simp [hp2]
  · rw [if_neg (by omega)] at hp ⊢
    exact h i i0 (by omega) p p0 p1 hp
theorem nzR_row {f : Int → Int} {n i : Int} (h : nzR f n) (i0 : 0 ≤ i) (i1 : i < n) : ∀ p, 0 ≤ p → p < 5 → rowF (f (7 * i)) (f (7 * i + 1 + 0)) (f (7 * i + 1 + 1)) (f (7 * i + 1 + 2)) (f (7 * i + 1 + 3)) (f (7 * i + 1 + 4)) (1 + p) = f (7 * i + 1 + p) := by
  intro p p0 p1
  unfold rowF
  rcases (show p = 0 ∨ p = 1 ∨ p = 2 ∨ p = 3 ∨ p = 4 by omega) with rfl | rfl | rfl | rfl | rfl
  · simp
  · simp
  · by_cases q : 2 < xT 0 (f (7 * i))
    · simp [q]
    · have := h i i0 i1 2 (by omega) (by omega) q
      simp [q, this]
  · by_cases q : 3 < xT 0 (f (7 * i))
    · simp [q]
    · have := h i i0 i1 3 (by omega) (by omega) q
      simp [q, this]
  · by_cases q : 4 < xT 0 (f (7 * i))
    · simp [q]
    · have := h i i0 i1 4 (by omega) (by omega) q
      simp [q, this]
theorem adF_ev2 {σ : Sto} {m : Nat} {f : Int → Int} {n k c0 c1 c2 c3 c4 : Int} (he : mEv σ m f n) (hn : n < 16) (ho : okEv k c0 c1 c2 c3 c4) (hr : ∀ p, 0 ≤ p → p < 5 → rowF k c0 c1 c2 c3 c4 (1 + p) = σ (m + 6) p) : mEv (maS σ m n k) m (adF f n k c0 c1 c2 c3 c4) (n + 1) := by
  refine maS_ev he hn (fun i i0 i1 => ?_) ?_ (fun p p0 p1 => ?_) ?_ (adF_new ho)
  · have ek : adF f n k c0 c1 c2 c3 c4 (7 * i) = f (7 * i) := by unfold adF; rw [if_neg (by omega)]
    exact ⟨adF_old (by omega) (he.2.2.1 i i0 i1).1, ek, fun p p0 p1 => by unfold adF; rw [if_neg (by omega)]⟩
  · unfold adF
    rw [if_pos (by omega), show 7 * n - 7 * n = 0 by omega]
    rfl
  · unfold adF
    rw [if_pos (by omega), show 7 * n + 1 + p - 7 * n = 1 + p by omega]
    exact hr p p0 p1
  · unfold adF
    rw [if_pos (by omega), show 7 * n + 6 - 7 * n = 6 by omega]
    rfl
/-- the events behind the taking of so many of gf, in the order p -/
def tkF (f : Int → Int) (n : Int) (gf p : Int → Int) : Nat → Int → Int
  | 0 => f
  | k + 1 => adF (tkF f n gf p k) (n + (k : Int)) (gf (7 * p k)) (gf (7 * p k + 1 + 0)) (gf (7 * p k + 1 + 1)) (gf (7 * p k + 1 + 2)) (gf (7 * p k + 1 + 3)) (gf (7 * p k + 1 + 4))
theorem tkF_s (f : Int → Int) (n : Int) (gf p : Int → Int) {k : Int} (h : 0 ≤ k) : tkF f n gf p (k + 1).toNat = adF (tkF f n gf p k.toNat) (n + k) (gf (7 * p k)) (gf (7 * p k + 1 + 0)) (gf (7 * p k + 1 + 1)) (gf (7 * p k + 1 + 2)) (gf (7 * p k + 1 + 3)) (gf (7 * p k + 1 + 4)) := by
  rw [show (k + 1).toNat = k.toNat + 1 by omega]
  show adF (tkF f n gf p k.toNat) (n + ((k.toNat : Nat) : Int)) _ _ _ _ _ _ = _
  rw [show ((k.toNat : Nat) : Int) = k by omega]
def tkM (σ τ : Sto) (m : Nat) (f : Int → Int) (n : Int) (gf p : Int → Int) (j : Int) : Prop := eFr σ τ m ∧ τ (m + 1) = σ (m + 1) ∧ mEv τ m (tkF f n gf p j.toNat) (n + j)
theorem tkM_s {σ τ : Sto} {m : Nat} {f gf p : Int → Int} {n gn j : Int} (h : tkM σ τ m f n gf p j) (hg : mMb σ m gf gn) (hz : nzR gf gn) (j0 : 0 ≤ j) (hj : n + j < 16) (hp : 0 ≤ p j ∧ p j < gn) : tkM σ (maS (upS τ (m + 6) (pfF (τ (m + 6)) (fun x => σ (m + 30) (5 * p j + x)) 0 5)) m (n + j) (gf (7 * p j))) m f n gf p (j + 1) := by
  obtain ⟨h1, h2, h3⟩ := h
  obtain ⟨b1, b2, b3⟩ := hg.2.2 (p j) hp.1 hp.2
  have hr := nzR_row hz hp.1 hp.2
  refine ⟨(h1.trans (eFr_g τ m _)).trans ⟨fun b hb => maS_ne (by omega) (by omega) (by omega) (by omega), fun j hj => maS_j hj⟩, ?_, ?_⟩
  · rw [maS_ne (by omega) (by omega) (by omega) (by omega), upS_ne (by omega)]
    exact h2
  · rw [tkF_s _ _ _ _ j0, ← Int.add_assoc]
    refine adF_ev2 (mEv_congr h3 (by rw [upS_ne (by omega)]) (upS_ne (by omega)) (upS_ne (by omega)) (upS_ne (by omega))) hj b1.1 (fun x x0 x1 => ?_)
    rw [hr x x0 x1, upS_same]
    unfold pfF
    rw [if_pos ⟨x0, x1⟩]
    exact (b3 x x0 x1).symm
/-- what a taking may change -/
def tFr (σ τ : Sto) (m : Nat) : Prop := (∀ b, b < m ∨ (m + 6 < b ∧ b < m + 31) ∨ m + 34 < b → τ b = σ b) ∧ ∀ j, j ≠ 2 → j ≠ 41 → τ m j = σ m j
theorem sIn.t {σ τ : Sto} {m : Nat} (h : sIn σ τ m) : tFr σ τ m := ⟨fun b hb => h.1 b (by omega), fun j _ h2 => h.2.1 j h2⟩
theorem tFr_e {σ τ μ : Sto} {m : Nat} (h : sIn σ τ m) (h' : eFr τ μ m) : tFr σ μ m := ⟨fun b hb => (h'.1 b (by omega)).trans (h.1 b (by omega)), fun j h1 h2 => (h'.2 j h1).trans (h.2.1 j h2)⟩
theorem mo_tk_loop {G : GT} {S : Shp} {σ : Sto} {m : Nat} {n gn k i s : Int} {f gf : Int → Int} {Q : Option Value → Shp → Sto → Prop} (hA : IsMod S m) (hg : mMb σ m gf gn) (hz0 : nzR gf gn) (hC : cOk (σ (m + 1)) 15360) (hnb : 0 ≤ n ∧ n + gn ≤ 16) (hs0 : 0 ≤ s ∧ s < nS gn) (hi : 0 ≤ i ∧ i < 65) (h31 : σ (m + 31) i = lnE gn s) (h32 : ∀ p, 0 ≤ p → p < lnE gn s → σ (m + 32) (4 * i + p) = prt gn s p) (hQ : ∀ τ, eFr σ τ m → mCore τ m (tkF f n gf (prt gn s) (lnE gn s).toNat) (n + lnE gn s) → Q (some (.int (iI (n + lnE gn s)))) S τ) : ∀ (t : Nat) (j : Int) (τ : Sto), 0 ≤ j → j ≤ lnE gn s → lnE gn s - j < t → tkM σ τ m f n gf (prt gn s) j → PW (fm G mX12_take 7 0 0 Q) G S (τ) 0 0 51 [(0, .ref m), (1, .int (iI (k))), (2, .int (iI (i))), (3, .int (iI (j)))] [] := by
  obtain ⟨hM0, hM1, hM2, hM3, hM4, hM5, hM6, hM7, hM8, hM9, hM10, hM11, hM12, hM13, hM14, hM15, hM16, hM17, hM18, hM19, hM20, hM21, hM22, hM23, hM24, hM25, hM26, hM27, hM28, hM29, hM30, hM31, hM32, hM33, hM34⟩ := id hA
  have hgn := hg.1
  have hgb := hg.2.1
  have nb := nS_b hgb
  have hl := lnE_m hgb hs0
  have hl0 := lnE_0 gn s
  have hl4 := (tb_B hgb hs0.1 hs0.2).2.1
  have hpp : ∀ q : Int, 0 ≤ q → q < lnE gn s → 0 ≤ prt gn s q ∧ prt gn s q < gn := fun q q0 q1 => by
    have := prt_b (s := s) hgb q0 s.toNat (by omega) (by rw [show ((s.toNat : Nat) : Int) = s by omega]; exact q1)
    rw [show ((s.toNat : Nat) : Int) = s by omega] at this
    exact this
  intro t
  induction t with
  | zero => intro j τ h1 h2 h3 g1; omega
  | succ t ih =>
    intro j τ h1 h2 h3 g1
    have e29 : τ (m + 29) = σ (m + 29) := g1.1.1 _ (by omega)
    have e30 : τ (m + 30) = σ (m + 30) := g1.1.1 _ (by omega)
    have e31 : τ (m + 31) = σ (m + 31) := g1.1.1 _ (by omega)
    have e32 : τ (m + 32) = σ (m + 32) := g1.1.1 _ (by omega)
    refine PW.iload_n dX12_take_51 rfl ?_
    refine PW.aload_n dX12_take_52 rfl ?_
    refine PW.getR fl_X12_106 rfl (by assumption) rfl dX12_take_53 ?_
    refine PW.iload_n dX12_take_56 rfl ?_
    refine PW.iaload (by assumption) (by unfold inR; omega) (by omega) (by omega) dX12_take_57 ?_
    refine PW.top (lnE gn s) (by rw [e31]; exact h31) ?_
    refine PW.icmp_ge 96 dX12_take_58 (by decide) (by first | (unfold inR; omega) | assumption) (by first | (unfold inR; omega) | assumption) (fun h58 => ?_) (fun h58 => ?_)
    · refine PW.aload_n dX12_take_96 rfl ?_
      refine PW.aload_n dX12_take_97 rfl ?_
      refine PW.getI 2 fl_X12_184 rfl (by assumption) rfl rfl dX12_take_98 ?_
      refine PW.top (n + j) (by exact g1.2.2.1) ?_
      refine PW.callVg (c_X12_buildAll (f := tkF f n gf (prt gn s) j.toNat) hA (by rw [g1.2.1]; exact hC) (by omega) g1.2.2.2.2.1) cv_X12_buildAll lk_X12_119 (by first | assumption | exact And.left (by assumption)) dX12_take_101 rfl rfl rfl rfl (fun r S' τ101 hq => ?_)
      obtain ⟨rfl, hS, hb⟩ := hq
      have hS2 := hS.symm
      subst hS2
      refine PW.aload_n dX12_take_104 rfl ?_
      refine PW.getI 2 fl_X12_184 rfl (by assumption) rfl rfl dX12_take_105 ?_
      refine PW.top (n + j) (by rw [hb.1 m (by omega) (by omega) (by omega)]; exact g1.2.2.1) ?_
      have hj : j = lnE gn s := by omega
      subst hj
      exact PW.iret rfl rfl dX12_take_108 (hQ _ (g1.1.trans hb.1.e) (hb.core g1.2.2))
    · have hpj := hpp j h1 (by omega)
      obtain ⟨k1, k2, k3⟩ := hg.2.2 _ hpj.1 hpj.2
      refine PW.aload_n dX12_take_61 rfl ?_
      refine PW.getR fl_X12_109 rfl (by assumption) rfl dX12_take_62 ?_
      refine PW.iconst dX12_take_65 ?_
      refine PW.iload_n dX12_take_66 rfl ?_
      refine PW.imul dX12_take_67 ?_
      refine PW.iload_n dX12_take_68 rfl ?_
      refine PW.iadd dX12_take_69 ?_
      refine PW.iaload (by assumption) (by unfold inR; omega) (by omega) (by omega) dX12_take_70 ?_
      refine PW.top (prt gn s j) (by rw [e32]; exact h32 j h1 (by omega)) ?_
      refine PW.istore [(0, _), (1, _), (2, _), (3, _), (4, _)] dX12_take_71 rfl (Nat.le_of_ble_eq_true rfl) ?_
      refine PW.aload_n dX12_take_73 rfl ?_
      refine PW.iload dX12_take_74 rfl ?_
      refine PW.callVv (c_X12_giveMaybe hA (by omega)) cv_X12_giveMaybe lk_X12_393 (by first | assumption | exact And.left (by assumption)) dX12_take_76 rfl rfl rfl rfl ?_
      rw [e30]
      refine PW.aload_n dX12_take_79 rfl ?_
      refine PW.aload_n dX12_take_80 rfl ?_
      refine PW.getR fl_X12_100 rfl (by assumption) rfl dX12_take_81 ?_
      refine PW.iload dX12_take_84 rfl ?_
      refine PW.iaload (by assumption) (by unfold inR; omega) (by omega) (by omega) dX12_take_86 ?_
      refine PW.top (gf (7 * prt gn s j)) (by rw [upS_ne (by omega), e29]; exact k2) ?_
      refine PW.callVv (c_X12_add (n := n + j) hA (by rw [upS_ne (by omega)]; exact g1.2.2.1) (by omega)) cv_X12_add lk_X12_197 (by first | assumption | exact And.left (by assumption)) dX12_take_87 rfl rfl rfl rfl ?_
      refine PW.iinc [(0, _), (1, _), (2, _), (3, _), (4, _)] dX12_take_90 rfl rfl (Nat.le_of_ble_eq_true rfl) ?_
      refine PW.goto 51 dX12_take_93 (by decide) ?_
      refine PW.take 4 ?_
      exact ih (j + 1) _ (by omega) (by omega) (by omega) (tkM_s g1 hg hz0 h1 (by omega) hpj)
set_option maxRecDepth 20000 in
theorem c_X12_take {G : GT} {S : Shp} {σ : Sto} {m : Nat} {n gn sn k i : Int} {f gf sf : Int → Int} (hA : IsMod S m) (hE : mCore σ m f n) (hg : mMb σ m gf gn) (hs : mSg σ m sf sn) (rk : inR k) (hz0 : nzR gf gn) (ri : inR i) : PMet G mX12_take 7 0 0 [.ref m, .int (iI k), .int (iI i)] S σ (fun r S' τ => S' = S ∧ tFr σ τ m ∧ ∃ (v : Int) (F : Int → Int) (N : Int), r = some (.int (iI v)) ∧ mCore τ m F N ∧ (¬ ((-1 ≤ k ∧ k ≤ sn) ∧ ¬ 16 < n + gn) → v = (if ¬ (-1 ≤ k ∧ k ≤ sn) then -100002 else if 16 < n + gn then -100004 else 0) ∧ F = f ∧ N = n) ∧ (((-1 ≤ k ∧ k ≤ sn) ∧ ¬ 16 < n + gn) → ¬ (0 ≤ i ∧ i < ftC (umS sf gf (ldT f n) gn (knF sn k)) (nS gn)) → v = -100003 ∧ F = f ∧ N = n) ∧ (((-1 ≤ k ∧ k ≤ sn) ∧ ¬ 16 < n + gn) → (0 ≤ i ∧ i < ftC (umS sf gf (ldT f n) gn (knF sn k)) (nS gn)) → ∀ t : Int → Int, ftG (umS sf gf (ldT f n) gn (knF sn k)) t (nS gn) → v = n + lnE gn (t i) ∧ F = tkF f n gf (prt gn (t i)) (lnE gn (t i)).toNat ∧ N = n + lnE gn (t i))) := by
  obtain ⟨hM0, hM1, hM2, hM3, hM4, hM5, hM6, hM7, hM8, hM9, hM10, hM11, hM12, hM13, hM14, hM15, hM16, hM17, hM18, hM19, hM20, hM21, hM22, hM23, hM24, hM25, hM26, hM27, hM28, hM29, hM30, hM31, hM32, hM33, hM34⟩ := id hA
  have hn := hE.1.1
  have hnb := hE.1.2.1
  have hgn := hg.1
  have hgb := hg.2.1
  have hsn := hs.1
  have hsb := hs.2.1
  have hsw : ∀ i, 0 ≤ i → i < sn → sgWf sf i := fun i i0 i1 => (hs.2.2 i i0 i1).1
  have nb := nS_b hgb
  refine PMet.of [(0, .ref m), (1, .int (iI (k))), (2, .int (iI (i)))] (by decide +kernel) rfl (Nat.le_of_ble_eq_true rfl) ?_
  refine PW.aload_n dX12_take_0 rfl ?_
  refine PW.iload_n dX12_take_1 rfl ?_
  refine PW.callVr (c_X12_isKnown hA hs rk) cv_X12_isKnown lk_X12_362 (by first | assumption | exact And.left (by assumption)) dX12_take_2 rfl rfl rfl rfl ?_
  refine PW.if_neB 11 dX12_take_5 (by decide) (fun h5 => ?_) (fun h5 => ?_)
  · refine PW.aload_n dX12_take_11 rfl ?_
    refine PW.callVr (c_X12_isTooMany hA hg hn hnb) cv_X12_isTooMany lk_X12_405 (by first | assumption | exact And.left (by assumption)) dX12_take_12 rfl rfl rfl rfl ?_
    refine PW.if_eqB 21 dX12_take_15 (by decide) (fun h15 => ?_) (fun h15 => ?_)
    · refine PW.aload_n dX12_take_21 rfl ?_
      refine PW.aload_n dX12_take_22 rfl ?_
      refine PW.iload_n dX12_take_23 rfl ?_
      refine PW.callVr (c_X12_first hA hs rk (by omega)) cv_X12_first lk_X12_365 (by first | assumption | exact And.left (by assumption)) dX12_take_24 rfl rfl rfl rfl ?_
      have hkn : 0 ≤ knF sn k ∧ knF sn k ≤ sn := by unfold knF; split <;> omega
      
      refine PW.callVg (c_X12_findStories hA hE hg hs hkn) cv_X12_findStories lk_X12_409 (by first | assumption | exact And.left (by assumption)) dX12_take_27 rfl rfl rfl rfl (fun r S' τ27 hq => ?_)
      obtain ⟨rfl, hS, i1, m1⟩ := hq
      have hS2 := hS.symm
      subst hS2
      have hfb := ftC_b (umS sf gf (ldT f n) gn (knF sn k)) (i := nS gn) (by omega)
      have hF := m1.1
      refine PW.iload_n dX12_take_30 rfl ?_
      refine PW.i2l (by first | assumption | (unfold inR; omega)) dX12_take_31 ?_
      refine PW.lconst (z := 0) rfl dX12_take_32 ?_
      refine PW.aload_n dX12_take_33 rfl ?_
      refine PW.getI 41 fl_X12_396 rfl (by assumption) rfl rfl dX12_take_34 ?_
      refine PW.top (ftC (umS sf gf (ldT f n) gn (knF sn k)) (nS gn)) (by exact hF) ?_
      refine PW.iconst dX12_take_37 ?_
      refine PW.isub dX12_take_38 ?_
      refine PW.i2l (by first | assumption | (unfold inR; omega)) dX12_take_39 ?_
      refine PW.callSr (c_X12_in (inL_R ri) (by unfold inL; omega) (by unfold inL; omega)) cs_X12_in lk_X12_134 dX12_take_40 rfl rfl rfl ?_
      refine PW.if_neB 49 dX12_take_43 (by decide) (fun h43 => ?_) (fun h43 => ?_)
      · refine PW.iconst dX12_take_49 ?_
        refine PW.istore_n [(0, _), (1, _), (2, _), (3, _)] dX12_take_50 rfl (Nat.le_of_ble_eq_true rfl) ?_
        obtain ⟨s, s0, s1, s2, s3, s4, s5, s6⟩ := mSt_at m1 hgb (i := i) (by omega) (by omega)
        have hl5 := lnE_0 gn s
        have hEt := i1.core hE
        refine mo_tk_loop (n := n) (f := f) hA (i1.mb hg) hz0 hEt.2.1 (by omega) ⟨s0, s1⟩ (by omega) s4 s5 (fun τ q1 q2 => ?_) 6 0 _ (by omega) (by omega) (by have := (tb_B hgb s0 s1).2.1; omega) ⟨eFr.rfl' _ _, rfl, ?_⟩
        · refine ⟨rfl, tFr_e i1 q1, _, _, _, rfl, q2, fun q => absurd (show ((-1 ≤ k ∧ k ≤ sn) ∧ ¬ 16 < n + gn) from ⟨by assumption, by assumption⟩) q, fun _ q => by omega, fun _ _ t ht => ?_⟩
          have e : t i = s := by rw [← s3]; exact ht s s0 s1 s2
          rw [e]
          exact ⟨rfl, rfl, rfl⟩
        · rw [Int.add_zero]
          exact hEt.1
      · refine PW.ldc (-100003) kc_X12_200 rfl rfl dX12_take_46 ?_
        exact PW.iret rfl rfl dX12_take_48 ⟨rfl, i1.t, _, _, _, rfl, i1.core hE, fun q => absurd (show ((-1 ≤ k ∧ k ≤ sn) ∧ ¬ 16 < n + gn) from ⟨by assumption, by assumption⟩) q, fun _ _ => ⟨rfl, rfl, rfl⟩, fun _ q => by omega⟩
    · refine PW.ldc (-100004) kc_X12_196 rfl rfl dX12_take_18 ?_
      exact PW.iret rfl rfl dX12_take_20 ⟨rfl, (sIn_rfl hE.2.1).t, _, _, _, rfl, hE, fun _ => ⟨Eq.symm ((if_neg (fun q => q (by assumption))).trans (if_pos (by assumption))), rfl, rfl⟩, fun q => absurd (by assumption) q.2, fun q => absurd (by assumption) q.2⟩
  · refine PW.ldc (-100002) kc_X12_195 rfl rfl dX12_take_8 ?_
    exact PW.iret rfl rfl dX12_take_10 ⟨rfl, (sIn_rfl hE.2.1).t, _, _, _, rfl, hE, fun _ => ⟨(if_pos (by assumption)).symm, rfl, rfl⟩, fun q => absurd q.1 (by assumption), fun q => absurd q.1 (by assumption)⟩

/-- evOk, closed to the arithmetic of the proofs -/
def EvD (f : Int → Int) (i : Int) : Prop := evOk f i
/-- rows of kinds and of numbers tell the events of f, so many -/
def mRw (K N f : Int → Int) (n : Int) : Prop := ∀ i, 0 ≤ i → i < n → EvD f i ∧ K i = f (7 * i) ∧ ∀ p, 0 ≤ p → p < 5 → N (5 * i + p) = f (7 * i + 1 + p)
/-- the events of the model are those of f -/
def mEv (τ : Sto) (m : Nat) (f : Int → Int) (n : Int) : Prop := τ m 2 = n ∧ (0 ≤ n ∧ n ≤ 16) ∧ mRw (τ (m + 3)) (τ (m + 4)) f n ∧ ∀ i, 0 ≤ i → i < n → τ (m + 5) i = f (7 * i + 6)
/-- a land of the model is what the events of f tell -/
def mLd (C : Int → Int) (L : Int) (f : Int → Int) (n : Int) : Prop := ∀ c, 0 ≤ c → c ≤ 63 → eq8 (clV C L c) (tlF f c zF n.toNat)
def bdR (σ τ : Sto) (m : Nat) (L : Int) (f : Int → Int) (n : Int) : Prop := mFg σ τ m ∧ cOk (τ (m + 1)) 15360 ∧ mLd (τ (m + 1)) L f n ∧ ∀ j, (j < 5120 * L ∨ 5120 * L + 5120 ≤ j) → τ (m + 1) j = σ (m + 1) j
theorem mRw_at {K N f g0 : Int → Int} {n i : Int} (h : mRw K N f n) (i0 : 0 ≤ i) (i1 : i < n) : okG (K i) (pfF g0 (fun j => N (5 * i + j)) 0 5) ∧ ∀ c col, evG (K i) (pfF g0 (fun j => N (5 * i + j)) 0 5) c col = evR f i c col := by
  obtain ⟨h1, h2, h3⟩ := h i i0 i1
  have e : ∀ p, 0 ≤ p → p < 5 → pfF g0 (fun j => N (5 * i + j)) 0 5 p = f (7 * i + 1 + p) := fun p p0 p1 => by
    unfold pfF
    rw [if_pos ⟨p0, p1⟩]
    exact h3 p p0 p1
  have e0 := e 0 (by omega) (by omega)
  have e1 := e 1 (by omega) (by omega)
  have e2 := e 2 (by omega) (by omega)
  have e3 := e 3 (by omega) (by omega)
  have e4 := e 4 (by omega) (by omega)
  refine ⟨?_, fun c col => ?_⟩
  · unfold okG
    rw [e0, e1, e2, e3, e4, h2]
    exact h1.1
  · unfold evG evR
    rw [e0, e1, e2, e3, e4, h2]
theorem bdR_0 {σ : Sto} {m : Nat} {L : Int} {f : Int → Int} (hC : cOk (σ (m + 1)) 15360) (hL : 0 ≤ L ∧ L ≤ 2) : bdR σ (upS σ (m + 1) (pfF (σ (m + 1)) (bgL L) (5120 * L) (5120 * L + 5120))) m L f 0 := by
  refine ⟨fun b b1 b2 b6 => upS_ne b1, ?_, fun c c0 c1 => ?_, fun j hj => ?_⟩
  · rw [upS_same]
    exact pfF_ok hC (fun j _ _ => bgL_b L j)
  · rw [upS_same]
    exact clV_bg ⟨c0, c1⟩ zF
  · rw [upS_same]
    unfold pfF
    rw [if_neg (by omega)]
theorem bdR_s {σ τ τ' : Sto} {m : Nat} {L i n : Int} {f g0 K N : Int → Int} (h : bdR σ τ m L f i) (hr : mRw K N f n) (hL : 0 ≤ L ∧ L ≤ 2) (i0 : 0 ≤ i) (i1 : i < n) (hf : mFr (upS τ (m + 6) (pfF g0 (fun j => N (5 * i + j)) 0 5)) τ' m) (he : τ' (m + 1) = evL (τ (m + 1)) L (K i) (pfF g0 (fun j => N (5 * i + j)) 0 5) 64) : bdR σ τ' m L f (i + 1) := by
  obtain ⟨a1, a2, a3, a4⟩ := h
  obtain ⟨b1, b2⟩ := mRw_at (g0 := g0) hr i0 i1
  refine ⟨fun b q1 q2 q6 => ?_, ?_, fun c c0 c1 => ?_, fun j hj => ?_⟩
  · rw [hf b q1 q2, upS_ne q6]
    exact a1 b q1 q2 q6
  · rw [he]
    exact evL_ok a2 hL (by omega) b1
  · rw [he]
    refine (evL_at ⟨c0, c1⟩).trans ?_
    rw [b2, tlF_succ f c zF i0]
    exact evC_eq (a3 c c0 c1) _ _ _ _ _ _ _
  · rw [he, evL_ne hj]
    exact a4 j hj
theorem mo_build_loop {G : GT} {S : Shp} {σ : Sto} {m : Nat} {L n : Int} {f : Int → Int} {Q : Option Value → Shp → Sto → Prop} (hA : IsMod S m) (hC : cOk (σ (m + 1)) 15360) (hL : 0 ≤ L ∧ L ≤ 2) (hn : 0 ≤ n ∧ n ≤ 16) (hr : mRw (σ (m + 3)) (σ (m + 4)) f n) (hQ : ∀ τ, bdR σ τ m L f n → Q none S τ) : ∀ (t : Nat) (i : Int) (τ : Sto), 0 ≤ i → i ≤ n → n - i < t → bdR σ τ m L f i → PW (fm G mX12_build 5 0 0 Q) G S (τ) 0 0 7 [(0, .ref m), (1, .int (iI (L))), (2, .int (iI (n))), (3, .int (iI (i)))] [] := by
  obtain ⟨hM0, hM1, hM2, hM3, hM4, hM5, hM6, hM7, hM8, hM9, hM10, hM11, hM12, hM13, hM14, hM15, hM16, hM17, hM18, hM19, hM20, hM21, hM22, hM23, hM24, hM25, hM26, hM27, hM28, hM29, hM30, hM31, hM32, hM33, hM34⟩ := id hA
  intro t
  induction t with
  | zero => intro i τ h1 h2 h3 g1; omega
  | succ t ih =>
    intro i τ h1 h2 h3 g1
    have e3 : τ (m + 3) = σ (m + 3) := g1.1 _ (by omega) (by omega) (by omega)
    have e4 : τ (m + 4) = σ (m + 4) := g1.1 _ (by omega) (by omega) (by omega)
    refine PW.iload_n dX12_build_7 rfl ?_
    refine PW.iload_n dX12_build_8 rfl ?_
    refine PW.icmp_ge 34 dX12_build_9 (by decide) (by first | assumption | (unfold inR; omega)) (by first | assumption | (unfold inR; omega)) (fun h9 => ?_) (fun h9 => ?_)
    · have hi : i = n := by omega
      subst hi
      exact PW.vret rfl dX12_build_34 (hQ τ g1)
    · refine PW.aload_n dX12_build_12 rfl ?_
      refine PW.iload_n dX12_build_13 rfl ?_
      refine PW.callVv (c_X12_giveEvent hA (by omega)) cv_X12_giveEvent lk_X12_178 (by first | assumption | exact And.left (by assumption)) dX12_build_14 rfl rfl rfl rfl ?_
      rw [e4]
      have hq := mRw_at (g0 := τ (m + 6)) hr h1 (show i < n by omega)
      refine PW.aload_n dX12_build_17 rfl ?_
      refine PW.iload_n dX12_build_18 rfl ?_
      refine PW.aload_n dX12_build_19 rfl ?_
      refine PW.getR fl_X12_16 rfl (by assumption) rfl dX12_build_20 ?_
      refine PW.iload_n dX12_build_23 rfl ?_
      refine PW.iaload (by assumption) (by unfold inR; omega) (by omega) (by omega) dX12_build_24 ?_
      refine PW.top (σ (m + 3) i) (by rw [upS_ne (by omega), e3]) ?_
      refine PW.callVg (c_X12_befall hA (by rw [upS_ne (by omega)]; exact g1.2.1) hL (by rw [upS_same]; exact hq.1)) cv_X12_befall lk_X12_181 (by first | assumption | exact And.left (by assumption)) dX12_build_25 rfl rfl rfl rfl (fun r S' τ25 hq => ?_)
      obtain ⟨rfl, hS, u1, u2⟩ := hq
      have hS2 := hS.symm
      subst hS2
      rw [upS_same, upS_ne (show m + 1 ≠ m + 6 by omega)] at u2
      refine PW.iinc [(0, _), (1, _), (2, _), (3, _)] dX12_build_28 rfl rfl (Nat.le_of_ble_eq_true rfl) ?_
      refine PW.goto 7 dX12_build_31 (by decide) ?_
      exact ih (i + 1) _ (by omega) (by omega) (by omega) (bdR_s g1 hr hL h1 (by omega) u1 u2)
theorem c_X12_build {G : GT} {S : Shp} {σ : Sto} {m : Nat} {L n : Int} {f : Int → Int} (hA : IsMod S m) (hC : cOk (σ (m + 1)) 15360) (hL : 0 ≤ L ∧ L ≤ 2) (hn : 0 ≤ n ∧ n ≤ 16) (hr : mRw (σ (m + 3)) (σ (m + 4)) f n) : PMet G mX12_build 5 0 0 [.ref m, .int (iI (L)), .int (iI (n))] S σ (fun r S' τ => r = none ∧ S' = S ∧ bdR σ τ m L f n) := by
  refine PMet.of [(0, .ref m), (1, .int (iI (L))), (2, .int (iI (n)))] (by decide +kernel) rfl (Nat.le_of_ble_eq_true rfl) ?_
  refine PW.aload_n dX12_build_0 rfl ?_
  refine PW.iload_n dX12_build_1 rfl ?_
  refine PW.callVv (c_X12_start hA hL) cv_X12_start lk_X12_175 (by first | assumption | exact And.left (by assumption)) dX12_build_2 rfl rfl rfl rfl ?_
  refine PW.iconst dX12_build_5 ?_
  refine PW.istore_n [(0, _), (1, _), (2, _), (3, _)] dX12_build_6 rfl (Nat.le_of_ble_eq_true rfl) ?_
  exact mo_build_loop hA hC hL hn hr (fun τ q => ⟨rfl, rfl, q⟩) 17 0 _ (by omega) (by omega) (by omega) (bdR_0 hC hL)
theorem mo_buildAll_loop {G : GT} {S : Shp} {σ : Sto} {m : Nat} {n : Int} {f : Int → Int} {Q : Option Value → Shp → Sto → Prop} (hA : IsMod S m) (hC : cOk (σ (m + 1)) 15360) (hn : 0 ≤ n ∧ n ≤ 16) (hr : mRw (σ (m + 3)) (σ (m + 4)) f n) (hQ : ∀ τ, bdR σ τ m 0 f n → Q none S τ) : ∀ (t : Nat) (i : Int) (τ : Sto), 0 ≤ i → i ≤ n → n - i < t → bdR σ τ m 0 f i → PW (fm G mX12_buildAll 5 0 0 Q) G S (τ) 0 0 7 [(0, .ref m), (1, .int (iI (n))), (2, .int (iI (i)))] [] := by
  obtain ⟨hM0, hM1, hM2, hM3, hM4, hM5, hM6, hM7, hM8, hM9, hM10, hM11, hM12, hM13, hM14, hM15, hM16, hM17, hM18, hM19, hM20, hM21, hM22, hM23, hM24, hM25, hM26, hM27, hM28, hM29, hM30, hM31, hM32, hM33, hM34⟩ := id hA
  intro t
  induction t with
  | zero => intro i τ h1 h2 h3 g1; omega
  | succ t ih =>
    intro i τ h1 h2 h3 g1
    have e3 : τ (m + 3) = σ (m + 3) := g1.1 _ (by omega) (by omega) (by omega)
    have e4 : τ (m + 4) = σ (m + 4) := g1.1 _ (by omega) (by omega) (by omega)
    refine PW.iload_n dX12_buildAll_7 rfl ?_
    refine PW.iload_n dX12_buildAll_8 rfl ?_
    refine PW.icmp_ge 34 dX12_buildAll_9 (by decide) (by first | assumption | (unfold inR; omega)) (by first | assumption | (unfold inR; omega)) (fun h9 => ?_) (fun h9 => ?_)
    · have hi : i = n := by omega
      subst hi
      exact PW.vret rfl dX12_buildAll_34 (hQ τ g1)
    · refine PW.aload_n dX12_buildAll_12 rfl ?_
      refine PW.iload_n dX12_buildAll_13 rfl ?_
      refine PW.callVv (c_X12_giveEvent hA (by omega)) cv_X12_giveEvent lk_X12_178 (by first | assumption | exact And.left (by assumption)) dX12_buildAll_14 rfl rfl rfl rfl ?_
      rw [e4]
      have hq := mRw_at (g0 := τ (m + 6)) hr h1 (show i < n by omega)
      refine PW.aload_n dX12_buildAll_17 rfl ?_
      refine PW.iconst dX12_buildAll_18 ?_
      refine PW.aload_n dX12_buildAll_19 rfl ?_
      refine PW.getR fl_X12_16 rfl (by assumption) rfl dX12_buildAll_20 ?_
      refine PW.iload_n dX12_buildAll_23 rfl ?_
      refine PW.iaload (by assumption) (by unfold inR; omega) (by omega) (by omega) dX12_buildAll_24 ?_
      refine PW.top (σ (m + 3) i) (by rw [upS_ne (by omega), e3]) ?_
      refine PW.callVg (c_X12_befall hA (by rw [upS_ne (by omega)]; exact g1.2.1) (show (0 : Int) ≤ 0 ∧ (0 : Int) ≤ 2 by decide) (by rw [upS_same]; exact hq.1)) cv_X12_befall lk_X12_181 (by first | assumption | exact And.left (by assumption)) dX12_buildAll_25 rfl rfl rfl rfl (fun r S' τ25 hq => ?_)
      obtain ⟨rfl, hS, u1, u2⟩ := hq
      have hS2 := hS.symm
      subst hS2
      rw [upS_same, upS_ne (show m + 1 ≠ m + 6 by omega)] at u2
      refine PW.iinc [(0, _), (1, _), (2, _)] dX12_buildAll_28 rfl rfl (Nat.le_of_ble_eq_true rfl) ?_
      refine PW.goto 7 dX12_buildAll_31 (by decide) ?_
      exact ih (i + 1) _ (by omega) (by omega) (by omega) (bdR_s g1 hr (show (0 : Int) ≤ 0 ∧ (0 : Int) ≤ 2 by decide) h1 (by omega) u1 u2)
theorem c_X12_buildAll {G : GT} {S : Shp} {σ : Sto} {m : Nat} {n : Int} {f : Int → Int} (hA : IsMod S m) (hC : cOk (σ (m + 1)) 15360) (hn : 0 ≤ n ∧ n ≤ 16) (hr : mRw (σ (m + 3)) (σ (m + 4)) f n) : PMet G mX12_buildAll 5 0 0 [.ref m, .int (iI (n))] S σ (fun r S' τ => r = none ∧ S' = S ∧ bdR σ τ m 0 f n) := by
  refine PMet.of [(0, .ref m), (1, .int (iI (n)))] (by decide +kernel) rfl (Nat.le_of_ble_eq_true rfl) ?_
  refine PW.aload_n dX12_buildAll_0 rfl ?_
  refine PW.iconst dX12_buildAll_1 ?_
  refine PW.callVv (c_X12_start hA (show (0 : Int) ≤ 0 ∧ (0 : Int) ≤ 2 by decide)) cv_X12_start lk_X12_175 (by first | assumption | exact And.left (by assumption)) dX12_buildAll_2 rfl rfl rfl rfl ?_
  refine PW.iconst dX12_buildAll_5 ?_
  refine PW.istore_n [(0, _), (1, _), (2, _)] dX12_buildAll_6 rfl (Nat.le_of_ble_eq_true rfl) ?_
  exact mo_buildAll_loop hA hC hn hr (fun τ q => ⟨rfl, rfl, q⟩) 17 0 _ (by omega) (by omega) (by omega) (bdR_0 hC (show (0 : Int) ≤ 0 ∧ (0 : Int) ≤ 2 by decide))
/-- the numbers that a kind has not are 0 -/
def nzF (k : Int) (g : Int → Int) : Int → Int := fun j => if j < xT 0 k then g j else 0
abbrev seB (k : Int) (g : Int → Int) : Int → Bool := fun j => decide (¬ suF k j (g j))
theorem okG_iff {k : Int} {g : Int → Int} (hk : 0 ≤ k ∧ k ≤ 5) : okG k g ↔ firI (seB k g) (5 : Int).toNat = -1 ∧ ¬ (k = 5 ∧ g 3 < g 2) := by
  constructor
  · intro h
    obtain ⟨-, h2, h3, h4, h5, h6, h7⟩ := h
    refine ⟨firI_none (fun j j0 j1 => decide_eq_false (fun q => q ?_)), h2⟩
    rcases (show j = 0 ∨ j = 1 ∨ j = 2 ∨ j = 3 ∨ j = 4 by omega) with rfl | rfl | rfl | rfl | rfl <;> assumption
  · intro h
    have hs : ∀ j : Int, 0 ≤ j → j < 5 → suF k j (g j) := fun j j0 j1 => by
      have := of_decide_eq_false ((firI_spec (P := seB k g) (n := (5 : Int).toNat)).1 h.1 j j0 (by omega))
      exact Classical.byContradiction this
    exact ⟨hk, h.2, hs 0 (by omega) (by omega), hs 1 (by omega) (by omega), hs 2 (by omega) (by omega), hs 3 (by omega) (by omega), hs 4 (by omega) (by omega)⟩
theorem nzF_lt {k j : Int} {g : Int → Int} (h : j < xT 0 k) : nzF k g j = g j := if_pos h
theorem nzF_ge {k j : Int} {g : Int → Int} (h : ¬ j < xT 0 k) : nzF k g j = 0 := if_neg h
theorem mo_isev_loop {G : GT} {S : Shp} {σ : Sto} {m : Nat} {k : Int} {Q : Option Value → Shp → Sto → Prop} (hA : IsMod S m) (hk : 0 ≤ k ∧ k ≤ 5) (hg : ∀ i, 0 ≤ i → i < 5 → inR (σ (m + 6) i)) (hQ : Q (some (.int (iI (b01 (okG k (σ (m + 6))))))) S (upS σ (m + 6) (pfF (σ (m + 6)) (nzF k (σ (m + 6))) 0 5))) : ∀ (t : Nat) (i : Int), 0 ≤ i → i ≤ 5 → 5 - i < t → PW (fm G mX12_isEvent 2 0 0 Q) G S (upS σ (m + 6) (pfF (σ (m + 6)) (nzF k (σ (m + 6))) 0 i)) 0 0 18 [(0, .ref m), (1, .int (iI (k))), (2, .int (iI (b01 (firI (seB k (σ (m + 6))) i.toNat = -1)))), (3, .int (iI (i)))] [] := by
  obtain ⟨hM0, hM1, hM2, hM3, hM4, hM5, hM6, hM7, hM8, hM9, hM10, hM11, hM12, hM13, hM14, hM15, hM16, hM17, hM18, hM19, hM20, hM21, hM22, hM23, hM24, hM25, hM26, hM27, hM28, hM29, hM30, hM31, hM32, hM33, hM34⟩ := id hA
  have hx := xT_0 hk
  intro t
  induction t with
  | zero => intro i h1 h2 h3; omega
  | succ t ih =>
    intro i h1 h2 h3
    have f1 := firI_st (seB k (σ (m + 6))) h1
    refine PW.iload_n dX12_isEvent_18 rfl ?_
    refine PW.iconst dX12_isEvent_19 ?_
    refine PW.icmp_ge 85 dX12_isEvent_20 (by decide) (by first | assumption | (unfold inR; omega) | exact hg _ (by omega) (by omega)) (by first | assumption | (unfold inR; omega) | exact hg _ (by omega) (by omega)) (fun h20 => ?_) (fun h20 => ?_)
    · have h5 : i = 5 := by omega
      subst h5
      refine PW.iload_n dX12_isEvent_85 rfl ?_
      refine PW.if_eqB 113 dX12_isEvent_86 (by decide) (fun h86 => ?_) (fun h86 => ?_)
      · refine PW.iconst dX12_isEvent_113 ?_
        first
          | (rw [b01_t ((okG_iff hk).mpr ⟨by assumption, by omega⟩)] at hQ
             exact PW.iret rfl rfl dX12_isEvent_114 hQ)
          | (rw [b01_f (fun q => by
               have q2 := (okG_iff hk).mp q
               first
                 | exact absurd q2.1 (by assumption)
                 | (have := q2.2; omega))] at hQ
             exact PW.iret rfl rfl dX12_isEvent_114 hQ)
      · refine PW.iload_n dX12_isEvent_89 rfl ?_
        refine PW.iconst dX12_isEvent_90 ?_
        refine PW.icmp_ne 109 dX12_isEvent_91 (by decide) (by first | assumption | (unfold inR; omega) | exact hg _ (by omega) (by omega)) (by first | assumption | (unfold inR; omega) | exact hg _ (by omega) (by omega)) (fun h91 => ?_) (fun h91 => ?_)
        · refine PW.iconst dX12_isEvent_109 ?_
          refine PW.goto 114 dX12_isEvent_110 (by decide) ?_
          first
            | (rw [b01_t ((okG_iff hk).mpr ⟨by assumption, by omega⟩)] at hQ
               exact PW.iret rfl rfl dX12_isEvent_114 hQ)
            | (rw [b01_f (fun q => by
                 have q2 := (okG_iff hk).mp q
                 first
                   | exact absurd q2.1 (by assumption)
                   | (have := q2.2; omega))] at hQ
               exact PW.iret rfl rfl dX12_isEvent_114 hQ)
        · refine PW.aload_n dX12_isEvent_94 rfl ?_
          refine PW.getR fl_X12_27 rfl (by assumption) rfl dX12_isEvent_95 ?_
          refine PW.iconst dX12_isEvent_98 ?_
          refine PW.iaload (by assumption) (by unfold inR; omega) (by omega) (by omega) dX12_isEvent_99 ?_
          refine PW.top (σ (m + 6) 3) (by rw [upS_same]; unfold pfF; rw [if_pos (by omega)]; exact nzF_lt (by rw [show k = 5 by omega]; decide)) ?_
          refine PW.aload_n dX12_isEvent_100 rfl ?_
          refine PW.getR fl_X12_27 rfl (by assumption) rfl dX12_isEvent_101 ?_
          refine PW.iconst dX12_isEvent_104 ?_
          refine PW.iaload (by assumption) (by unfold inR; omega) (by omega) (by omega) dX12_isEvent_105 ?_
          refine PW.top (σ (m + 6) 2) (by rw [upS_same]; unfold pfF; rw [if_pos (by omega)]; exact nzF_lt (by rw [show k = 5 by omega]; decide)) ?_
          refine PW.icmp_lt 113 dX12_isEvent_106 (by decide) (by first | assumption | (unfold inR; omega) | exact hg _ (by omega) (by omega)) (by first | assumption | (unfold inR; omega) | exact hg _ (by omega) (by omega)) (fun h106 => ?_) (fun h106 => ?_)
          · refine PW.iconst dX12_isEvent_113 ?_
            first
              | (rw [b01_t ((okG_iff hk).mpr ⟨by assumption, by omega⟩)] at hQ
                 exact PW.iret rfl rfl dX12_isEvent_114 hQ)
              | (rw [b01_f (fun q => by
                   have q2 := (okG_iff hk).mp q
                   first
                     | exact absurd q2.1 (by assumption)
                     | (have := q2.2; omega))] at hQ
                 exact PW.iret rfl rfl dX12_isEvent_114 hQ)
          · refine PW.iconst dX12_isEvent_109 ?_
            refine PW.goto 114 dX12_isEvent_110 (by decide) ?_
            first
              | (rw [b01_t ((okG_iff hk).mpr ⟨by assumption, by omega⟩)] at hQ
                 exact PW.iret rfl rfl dX12_isEvent_114 hQ)
              | (rw [b01_f (fun q => by
                   have q2 := (okG_iff hk).mp q
                   first
                     | exact absurd q2.1 (by assumption)
                     | (have := q2.2; omega))] at hQ
                 exact PW.iret rfl rfl dX12_isEvent_114 hQ)
    · refine PW.aload_n dX12_isEvent_23 rfl ?_
      refine PW.getR fl_X12_27 rfl (by assumption) rfl dX12_isEvent_24 ?_
      refine PW.iload_n dX12_isEvent_27 rfl ?_
      refine PW.iload_n dX12_isEvent_28 rfl ?_
      refine PW.iload_n dX12_isEvent_29 rfl ?_
      refine PW.callSr (c_X12_many (by omega)) cs_X12_many lk_X12_140 dX12_isEvent_30 rfl rfl rfl ?_
      refine PW.icmp_ge 45 dX12_isEvent_33 (by decide) (by first | assumption | (unfold inR; omega) | exact hg _ (by omega) (by omega)) (by first | assumption | (unfold inR; omega) | exact hg _ (by omega) (by omega)) (fun h33 => ?_) (fun h33 => ?_)
      · refine PW.iconst dX12_isEvent_45 ?_
        refine PW.iastore (by assumption) (by first | assumption | (unfold inR; omega) | exact hg _ (by omega) (by omega)) (by omega) (by omega) dX12_isEvent_46 ?_
        refine PW.st (upS σ (m + 6) (pfF (σ (m + 6)) (nzF k (σ (m + 6))) 0 (i + 1))) (by
          rw [upS_upS, upS_same]
          refine congrArg (upS σ (m + 6)) ?_
          rw [← pfF_s h1]
          congr 1
          first | rw [nzF_lt (by omega)] | rw [nzF_ge (by omega)]) ?_
        refine PW.iload_n dX12_isEvent_47 rfl ?_
        refine PW.if_eqB 77 dX12_isEvent_48 (by decide) (fun h48 => ?_) (fun h48 => ?_)
        · refine PW.iconst dX12_isEvent_77 ?_
          refine PW.istore_n [(0, _), (1, _), (2, _), (3, _)] dX12_isEvent_78 rfl (Nat.le_of_ble_eq_true rfl) ?_
          refine PW.iinc [(0, _), (1, _), (2, _), (3, _)] dX12_isEvent_79 rfl rfl (Nat.le_of_ble_eq_true rfl) ?_
          refine PW.goto 18 dX12_isEvent_82 (by decide) ?_
          have e := ih (i + 1) (by omega) (by omega) (by omega)
          first
            | (exfalso; omega)
            | (rw [b01_t (f1.mpr ⟨by assumption, decide_eq_false (fun q => q (Or.inl (by omega)))⟩)] at e
               exact e)
            | (rw [b01_t (f1.mpr ⟨by assumption, decide_eq_false (fun q => q (Or.inr h70))⟩)] at e
               exact e)
            | (rw [b01_f (fun q => by
                 have := of_decide_eq_false (f1.mp q).2
                 exact this (fun r => by rcases r with r | r <;> first | omega | exact h70 r))] at e
               exact e)
            | (rw [b01_f (fun q => by have := (f1.mp q).1; contradiction)] at e
               exact e)
        · refine PW.iload_n dX12_isEvent_51 rfl ?_
          refine PW.iload_n dX12_isEvent_52 rfl ?_
          refine PW.callSr (c_X12_many (by omega)) cs_X12_many lk_X12_140 dX12_isEvent_53 rfl rfl rfl ?_
          refine PW.icmp_ge 73 dX12_isEvent_56 (by decide) (by first | assumption | (unfold inR; omega) | exact hg _ (by omega) (by omega)) (by first | assumption | (unfold inR; omega) | exact hg _ (by omega) (by omega)) (fun h56 => ?_) (fun h56 => ?_)
          · refine PW.iconst dX12_isEvent_73 ?_
            refine PW.goto 78 dX12_isEvent_74 (by decide) ?_
            refine PW.istore_n [(0, _), (1, _), (2, _), (3, _)] dX12_isEvent_78 rfl (Nat.le_of_ble_eq_true rfl) ?_
            refine PW.iinc [(0, _), (1, _), (2, _), (3, _)] dX12_isEvent_79 rfl rfl (Nat.le_of_ble_eq_true rfl) ?_
            refine PW.goto 18 dX12_isEvent_82 (by decide) ?_
            have e := ih (i + 1) (by omega) (by omega) (by omega)
            first
              | (exfalso; omega)
              | (rw [b01_t (f1.mpr ⟨by assumption, decide_eq_false (fun q => q (Or.inl (by omega)))⟩)] at e
                 exact e)
              | (rw [b01_t (f1.mpr ⟨by assumption, decide_eq_false (fun q => q (Or.inr h70))⟩)] at e
                 exact e)
              | (rw [b01_f (fun q => by
                   have := of_decide_eq_false (f1.mp q).2
                   exact this (fun r => by rcases r with r | r <;> first | omega | exact h70 r))] at e
                 exact e)
              | (rw [b01_f (fun q => by have := (f1.mp q).1; contradiction)] at e
                 exact e)
          · refine PW.iload_n dX12_isEvent_59 rfl ?_
            refine PW.iload_n dX12_isEvent_60 rfl ?_
            refine PW.aload_n dX12_isEvent_61 rfl ?_
            refine PW.getR fl_X12_27 rfl (by assumption) rfl dX12_isEvent_62 ?_
            refine PW.iload_n dX12_isEvent_65 rfl ?_
            refine PW.iaload (by assumption) (by unfold inR; omega) (by omega) (by omega) dX12_isEvent_66 ?_
            refine PW.top (σ (m + 6) i) (by rw [upS_same]; unfold pfF; rw [if_pos (by omega)]; exact nzF_lt (by omega)) ?_
            refine PW.callSr (c_X12_isNumber hk (by omega) (hg i (by omega) (by omega))) cs_X12_isNumber lk_X12_144 dX12_isEvent_67 rfl rfl rfl ?_
            refine PW.if_eqB 77 dX12_isEvent_70 (by decide) (fun h70 => ?_) (fun h70 => ?_)
            · refine PW.iconst dX12_isEvent_77 ?_
              refine PW.istore_n [(0, _), (1, _), (2, _), (3, _)] dX12_isEvent_78 rfl (Nat.le_of_ble_eq_true rfl) ?_
              refine PW.iinc [(0, _), (1, _), (2, _), (3, _)] dX12_isEvent_79 rfl rfl (Nat.le_of_ble_eq_true rfl) ?_
              refine PW.goto 18 dX12_isEvent_82 (by decide) ?_
              have e := ih (i + 1) (by omega) (by omega) (by omega)
              first
                | (exfalso; omega)
                | (rw [b01_t (f1.mpr ⟨by assumption, decide_eq_false (fun q => q (Or.inl (by omega)))⟩)] at e
                   exact e)
                | (rw [b01_t (f1.mpr ⟨by assumption, decide_eq_false (fun q => q (Or.inr h70))⟩)] at e
                   exact e)
                | (rw [b01_f (fun q => by
                     have := of_decide_eq_false (f1.mp q).2
                     exact this (fun r => by rcases r with r | r <;> first | omega | exact h70 r))] at e
                   exact e)
                | (rw [b01_f (fun q => by have := (f1.mp q).1; contradiction)] at e
                   exact e)
            · refine PW.iconst dX12_isEvent_73 ?_
              refine PW.goto 78 dX12_isEvent_74 (by decide) ?_
              refine PW.istore_n [(0, _), (1, _), (2, _), (3, _)] dX12_isEvent_78 rfl (Nat.le_of_ble_eq_true rfl) ?_
              refine PW.iinc [(0, _), (1, _), (2, _), (3, _)] dX12_isEvent_79 rfl rfl (Nat.le_of_ble_eq_true rfl) ?_
              refine PW.goto 18 dX12_isEvent_82 (by decide) ?_
              have e := ih (i + 1) (by omega) (by omega) (by omega)
              first
                | (exfalso; omega)
                | (rw [b01_t (f1.mpr ⟨by assumption, decide_eq_false (fun q => q (Or.inl (by omega)))⟩)] at e
                   exact e)
                | (rw [b01_t (f1.mpr ⟨by assumption, decide_eq_false (fun q => q (Or.inr h70))⟩)] at e
                   exact e)
                | (rw [b01_f (fun q => by
                     have := of_decide_eq_false (f1.mp q).2
                     exact this (fun r => by rcases r with r | r <;> first | omega | exact h70 r))] at e
                   exact e)
                | (rw [b01_f (fun q => by have := (f1.mp q).1; contradiction)] at e
                   exact e)
      · refine PW.aload_n dX12_isEvent_36 rfl ?_
        refine PW.getR fl_X12_27 rfl (by assumption) rfl dX12_isEvent_37 ?_
        refine PW.iload_n dX12_isEvent_40 rfl ?_
        refine PW.iaload (by assumption) (by unfold inR; omega) (by omega) (by omega) dX12_isEvent_41 ?_
        refine PW.top (σ (m + 6) i) (by rw [upS_same]; unfold pfF; rw [if_neg (by omega)]) ?_
        refine PW.goto 46 dX12_isEvent_42 (by decide) ?_
        refine PW.iastore (by assumption) (by first | assumption | (unfold inR; omega) | exact hg _ (by omega) (by omega)) (by omega) (by omega) dX12_isEvent_46 ?_
        refine PW.st (upS σ (m + 6) (pfF (σ (m + 6)) (nzF k (σ (m + 6))) 0 (i + 1))) (by
          rw [upS_upS, upS_same]
          refine congrArg (upS σ (m + 6)) ?_
          rw [← pfF_s h1]
          congr 1
          first | rw [nzF_lt (by omega)] | rw [nzF_ge (by omega)]) ?_
        refine PW.iload_n dX12_isEvent_47 rfl ?_
        refine PW.if_eqB 77 dX12_isEvent_48 (by decide) (fun h48 => ?_) (fun h48 => ?_)
        · refine PW.iconst dX12_isEvent_77 ?_
          refine PW.istore_n [(0, _), (1, _), (2, _), (3, _)] dX12_isEvent_78 rfl (Nat.le_of_ble_eq_true rfl) ?_
          refine PW.iinc [(0, _), (1, _), (2, _), (3, _)] dX12_isEvent_79 rfl rfl (Nat.le_of_ble_eq_true rfl) ?_
          refine PW.goto 18 dX12_isEvent_82 (by decide) ?_
          have e := ih (i + 1) (by omega) (by omega) (by omega)
          first
            | (exfalso; omega)
            | (rw [b01_t (f1.mpr ⟨by assumption, decide_eq_false (fun q => q (Or.inl (by omega)))⟩)] at e
               exact e)
            | (rw [b01_t (f1.mpr ⟨by assumption, decide_eq_false (fun q => q (Or.inr h70))⟩)] at e
               exact e)
            | (rw [b01_f (fun q => by
                 have := of_decide_eq_false (f1.mp q).2
                 exact this (fun r => by rcases r with r | r <;> first | omega | exact h70 r))] at e
               exact e)
            | (rw [b01_f (fun q => by have := (f1.mp q).1; contradiction)] at e
               exact e)
        · refine PW.iload_n dX12_isEvent_51 rfl ?_
          refine PW.iload_n dX12_isEvent_52 rfl ?_
          refine PW.callSr (c_X12_many (by omega)) cs_X12_many lk_X12_140 dX12_isEvent_53 rfl rfl rfl ?_
          refine PW.icmp_ge 73 dX12_isEvent_56 (by decide) (by first | assumption | (unfold inR; omega) | exact hg _ (by omega) (by omega)) (by first | assumption | (unfold inR; omega) | exact hg _ (by omega) (by omega)) (fun h56 => ?_) (fun h56 => ?_)
          · refine PW.iconst dX12_isEvent_73 ?_
            refine PW.goto 78 dX12_isEvent_74 (by decide) ?_
            refine PW.istore_n [(0, _), (1, _), (2, _), (3, _)] dX12_isEvent_78 rfl (Nat.le_of_ble_eq_true rfl) ?_
            refine PW.iinc [(0, _), (1, _), (2, _), (3, _)] dX12_isEvent_79 rfl rfl (Nat.le_of_ble_eq_true rfl) ?_
            refine PW.goto 18 dX12_isEvent_82 (by decide) ?_
            have e := ih (i + 1) (by omega) (by omega) (by omega)
            first
              | (exfalso; omega)
              | (rw [b01_t (f1.mpr ⟨by assumption, decide_eq_false (fun q => q (Or.inl (by omega)))⟩)] at e
                 exact e)
              | (rw [b01_t (f1.mpr ⟨by assumption, decide_eq_false (fun q => q (Or.inr h70))⟩)] at e
                 exact e)
              | (rw [b01_f (fun q => by
                   have := of_decide_eq_false (f1.mp q).2
                   exact this (fun r => by rcases r with r | r <;> first | omega | exact h70 r))] at e
                 exact e)
              | (rw [b01_f (fun q => by have := (f1.mp q).1; contradiction)] at e
                 exact e)
          · refine PW.iload_n dX12_isEvent_59 rfl ?_
            refine PW.iload_n dX12_isEvent_60 rfl ?_
            refine PW.aload_n dX12_isEvent_61 rfl ?_
            refine PW.getR fl_X12_27 rfl (by assumption) rfl dX12_isEvent_62 ?_
            refine PW.iload_n dX12_isEvent_65 rfl ?_
            refine PW.iaload (by assumption) (by unfold inR; omega) (by omega) (by omega) dX12_isEvent_66 ?_
            refine PW.top (σ (m + 6) i) (by rw [upS_same]; unfold pfF; rw [if_pos (by omega)]; exact nzF_lt (by omega)) ?_
            refine PW.callSr (c_X12_isNumber hk (by omega) (hg i (by omega) (by omega))) cs_X12_isNumber lk_X12_144 dX12_isEvent_67 rfl rfl rfl ?_
            refine PW.if_eqB 77 dX12_isEvent_70 (by decide) (fun h70 => ?_) (fun h70 => ?_)
            · refine PW.iconst dX12_isEvent_77 ?_
              refine PW.istore_n [(0, _), (1, _), (2, _), (3, _)] dX12_isEvent_78 rfl (Nat.le_of_ble_eq_true rfl) ?_
              refine PW.iinc [(0, _), (1, _), (2, _), (3, _)] dX12_isEvent_79 rfl rfl (Nat.le_of_ble_eq_true rfl) ?_
              refine PW.goto 18 dX12_isEvent_82 (by decide) ?_
              have e := ih (i + 1) (by omega) (by omega) (by omega)
              first
                | (exfalso; omega)
                | (rw [b01_t (f1.mpr ⟨by assumption, decide_eq_false (fun q => q (Or.inl (by omega)))⟩)] at e
                   exact e)
                | (rw [b01_t (f1.mpr ⟨by assumption, decide_eq_false (fun q => q (Or.inr h70))⟩)] at e
                   exact e)
                | (rw [b01_f (fun q => by
                     have := of_decide_eq_false (f1.mp q).2
                     exact this (fun r => by rcases r with r | r <;> first | omega | exact h70 r))] at e
                   exact e)
                | (rw [b01_f (fun q => by have := (f1.mp q).1; contradiction)] at e
                   exact e)
            · refine PW.iconst dX12_isEvent_73 ?_
              refine PW.goto 78 dX12_isEvent_74 (by decide) ?_
              refine PW.istore_n [(0, _), (1, _), (2, _), (3, _)] dX12_isEvent_78 rfl (Nat.le_of_ble_eq_true rfl) ?_
              refine PW.iinc [(0, _), (1, _), (2, _), (3, _)] dX12_isEvent_79 rfl rfl (Nat.le_of_ble_eq_true rfl) ?_
              refine PW.goto 18 dX12_isEvent_82 (by decide) ?_
              have e := ih (i + 1) (by omega) (by omega) (by omega)
              first
                | (exfalso; omega)
                | (rw [b01_t (f1.mpr ⟨by assumption, decide_eq_false (fun q => q (Or.inl (by omega)))⟩)] at e
                   exact e)
                | (rw [b01_t (f1.mpr ⟨by assumption, decide_eq_false (fun q => q (Or.inr h70))⟩)] at e
                   exact e)
                | (rw [b01_f (fun q => by
                     have := of_decide_eq_false (f1.mp q).2
                     exact this (fun r => by rcases r with r | r <;> first | omega | exact h70 r))] at e
                   exact e)
                | (rw [b01_f (fun q => by have := (f1.mp q).1; contradiction)] at e
                   exact e)
theorem c_X12_isEvent {G : GT} {S : Shp} {σ : Sto} {m : Nat} {k : Int} (hA : IsMod S m) (rk : inR k) (hg : ∀ i, 0 ≤ i → i < 5 → inR (σ (m + 6) i)) : PMet G mX12_isEvent 2 0 0 [.ref m, .int (iI k)] S σ (isP (some (.int (iI (b01 (okG k (σ (m + 6))))))) S (if 0 ≤ k ∧ k ≤ 5 then upS σ (m + 6) (pfF (σ (m + 6)) (nzF k (σ (m + 6))) 0 5) else σ)) := by
  refine PMet.of [(0, .ref m), (1, .int (iI (k)))] (by decide +kernel) rfl (Nat.le_of_ble_eq_true rfl) ?_
  refine PW.iload_n dX12_isEvent_0 rfl ?_
  refine PW.i2l (by first | assumption | (unfold inR; omega)) dX12_isEvent_1 ?_
  refine PW.lconst (z := 0) rfl dX12_isEvent_2 ?_
  refine PW.ldc2 (5) kc_X12_138 rfl rfl dX12_isEvent_3 ?_
  refine PW.callSr (c_X12_in (inL_R rk) (by unfold inL; omega) (by unfold inL; omega)) cs_X12_in lk_X12_134 dX12_isEvent_6 rfl rfl rfl ?_
  refine PW.if_neB 14 dX12_isEvent_9 (by decide) (fun h9 => ?_) (fun h9 => ?_)
  · refine PW.iconst dX12_isEvent_14 ?_
    refine PW.istore_n [(0, _), (1, _), (2, _)] dX12_isEvent_15 rfl (Nat.le_of_ble_eq_true rfl) ?_
    refine PW.iconst dX12_isEvent_16 ?_
    refine PW.istore_n [(0, _), (1, _), (2, _), (3, _)] dX12_isEvent_17 rfl (Nat.le_of_ble_eq_true rfl) ?_
    refine PW.st (upS σ (m + 6) (pfF (σ (m + 6)) (nzF k (σ (m + 6))) 0 0)) (by rw [pfF_0, upS_self]) ?_
    exact mo_isev_loop hA h9 hg ⟨rfl, rfl, by rw [if_pos h9]⟩ 6 0 (by omega) (by omega) (by omega)
  · refine PW.iconst dX12_isEvent_12 ?_
    exact PW.iret rfl rfl dX12_isEvent_13 ⟨ret_eq (b01_f (fun q => h9 q.1)).symm, rfl, by rw [if_neg h9]⟩
/-- the store behind the adding of an event, its numbers being given -/
def maS (σ : Sto) (m : Nat) (n k : Int) : Sto := upS (upS (upS (upS σ (m + 3) (up1 (σ (m + 3)) n k)) (m + 4) (pfF (σ (m + 4)) (fun j => σ (m + 6) (j - 5 * n)) (5 * n) (5 * n + 5))) (m + 5) (up1 (σ (m + 5)) n 0)) m (up1 (σ m) 2 (n + 1))
theorem mo_madd_loop {G : GT} {S : Shp} {σ : Sto} {m : Nat} {n k : Int} {Q : Option Value → Shp → Sto → Prop} (hA : IsMod S m) (hn : σ m 2 = n) (hb : 0 ≤ n ∧ n < 16) (hQ : Q none S (maS σ m n k)) : ∀ (t : Nat) (i : Int), 0 ≤ i → i ≤ 5 → 5 - i < t → PW (fm G mX12_add 0 0 0 Q) G S (upS (upS σ (m + 3) (up1 (σ (m + 3)) n k)) (m + 4) (pfF (σ (m + 4)) (fun j => σ (m + 6) (j - 5 * n)) (5 * n) (5 * n + i))) 0 0 12 [(0, .ref m), (1, .int (iI (k))), (2, .int (iI (i)))] [] := by
  obtain ⟨hM0, hM1, hM2, hM3, hM4, hM5, hM6, hM7, hM8, hM9, hM10, hM11, hM12, hM13, hM14, hM15, hM16, hM17, hM18, hM19, hM20, hM21, hM22, hM23, hM24, hM25, hM26, hM27, hM28, hM29, hM30, hM31, hM32, hM33, hM34⟩ := id hA
  intro t
  induction t with
  | zero => intro i h1 h2 h3; omega
  | succ t ih =>
    intro i h1 h2 h3
    refine PW.iload_n dX12_add_12 rfl ?_
    refine PW.iconst dX12_add_13 ?_
    refine PW.icmp_ge 42 dX12_add_14 (by decide) (by first | assumption | (unfold inR; omega)) (by first | assumption | (unfold inR; omega)) (fun h14 => ?_) (fun h14 => ?_)
    · refine PW.aload_n dX12_add_42 rfl ?_
      refine PW.getR fl_X12_23 rfl (by assumption) rfl dX12_add_43 ?_
      refine PW.aload_n dX12_add_46 rfl ?_
      refine PW.getI 2 fl_X12_184 rfl (by assumption) rfl rfl dX12_add_47 ?_
      refine PW.top n (by rw [upS_ne (by omega), upS_ne (by omega)]; exact hn) ?_
      refine PW.iconst dX12_add_50 ?_
      refine PW.zastore (by assumption) (by first | assumption | (unfold inR; omega)) (by omega) (by omega) nar0 dX12_add_51 ?_
      refine PW.aload_n dX12_add_52 rfl ?_
      refine PW.dup rfl dX12_add_53 ?_
      refine PW.getI 2 fl_X12_184 rfl (by assumption) rfl rfl dX12_add_54 ?_
      refine PW.top n (by rw [upS_ne (by omega), upS_ne (by omega), upS_ne (by omega)]; exact hn) ?_
      refine PW.iconst dX12_add_57 ?_
      refine PW.iadd dX12_add_58 ?_
      refine PW.putI 2 fl_X12_184 rfl (fun h => absurd h (by decide)) (by assumption) rfl rfl rfl rfl dX12_add_59 ?_
      have hi : i = 5 := by omega
      subst hi
      refine PW.st (maS σ m n k) (by
        unfold maS
        simp only [upS_ne (show m + 5 ≠ m + 4 by omega), upS_ne (show m + 5 ≠ m + 3 by omega), upS_ne (show m ≠ m + 5 by omega), upS_ne (show m ≠ m + 4 by omega), upS_ne (show m ≠ m + 3 by omega)]) ?_
      exact PW.vret rfl dX12_add_62 hQ
    · refine PW.aload_n dX12_add_17 rfl ?_
      refine PW.getR fl_X12_20 rfl (by assumption) rfl dX12_add_18 ?_
      refine PW.iconst dX12_add_21 ?_
      refine PW.aload_n dX12_add_22 rfl ?_
      refine PW.getI 2 fl_X12_184 rfl (by assumption) rfl rfl dX12_add_23 ?_
      refine PW.top n (by rw [upS_ne (by omega), upS_ne (by omega)]; exact hn) ?_
      refine PW.imul dX12_add_26 ?_
      refine PW.iload_n dX12_add_27 rfl ?_
      refine PW.iadd dX12_add_28 ?_
      refine PW.aload_n dX12_add_29 rfl ?_
      refine PW.getR fl_X12_27 rfl (by assumption) rfl dX12_add_30 ?_
      refine PW.iload_n dX12_add_33 rfl ?_
      refine PW.iaload (by assumption) (by unfold inR; omega) (by omega) (by omega) dX12_add_34 ?_
      refine PW.top (σ (m + 6) i) (by rw [upS_ne (by omega), upS_ne (by omega)]) ?_
      refine PW.iastore (by assumption) (by first | assumption | (unfold inR; omega)) (by omega) (by omega) dX12_add_35 ?_
      refine PW.st (upS (upS σ (m + 3) (up1 (σ (m + 3)) n k)) (m + 4) (pfF (σ (m + 4)) (fun j => σ (m + 6) (j - 5 * n)) (5 * n) (5 * n + (i + 1)))) (by
        rw [upS_upS, upS_same]
        refine congrArg (upS (upS σ (m + 3) (up1 (σ (m + 3)) n k)) (m + 4)) ?_
        rw [show 5 * n + (i + 1) = 5 * n + i + 1 by omega, ← pfF_s (by omega)]
        congr 2
        omega) ?_
      refine PW.iinc [(0, _), (1, _), (2, _)] dX12_add_36 rfl rfl (Nat.le_of_ble_eq_true rfl) ?_
      refine PW.goto 12 dX12_add_39 (by decide) ?_
      exact ih (i + 1) (by omega) (by omega) (by omega)
theorem c_X12_add {G : GT} {S : Shp} {σ : Sto} {m : Nat} {n k : Int} (hA : IsMod S m) (hn : σ m 2 = n) (hb : 0 ≤ n ∧ n < 16) : PMet G mX12_add 0 0 0 [.ref m, .int (iI k)] S σ (isP none S (maS σ m n k)) := by
  obtain ⟨hM0, hM1, hM2, hM3, hM4, hM5, hM6, hM7, hM8, hM9, hM10, hM11, hM12, hM13, hM14, hM15, hM16, hM17, hM18, hM19, hM20, hM21, hM22, hM23, hM24, hM25, hM26, hM27, hM28, hM29, hM30, hM31, hM32, hM33, hM34⟩ := id hA
  refine PMet.of [(0, .ref m), (1, .int (iI (k)))] (by decide +kernel) rfl (Nat.le_of_ble_eq_true rfl) ?_
  refine PW.aload_n dX12_add_0 rfl ?_
  refine PW.getR fl_X12_16 rfl (by assumption) rfl dX12_add_1 ?_
  refine PW.aload_n dX12_add_4 rfl ?_
  refine PW.getI 2 fl_X12_184 rfl (by assumption) rfl rfl dX12_add_5 ?_
  refine PW.top n (by exact hn) ?_
  refine PW.iload_n dX12_add_8 rfl ?_
  refine PW.iastore (by assumption) (by first | assumption | (unfold inR; omega)) (by omega) (by omega) dX12_add_9 ?_
  refine PW.iconst dX12_add_10 ?_
  refine PW.istore_n [(0, _), (1, _), (2, _)] dX12_add_11 rfl (Nat.le_of_ble_eq_true rfl) ?_
  refine PW.st (upS (upS σ (m + 3) (up1 (σ (m + 3)) n k)) (m + 4) (pfF (σ (m + 4)) (fun j => σ (m + 6) (j - 5 * n)) (5 * n) (5 * n + 0))) (by rw [Int.add_zero, pfF_0, show σ (m + 4) = (upS σ (m + 3) (up1 (σ (m + 3)) n k)) (m + 4) from (upS_ne (by omega)).symm, upS_self]) ?_
  exact mo_madd_loop hA hn hb ⟨rfl, rfl, rfl⟩ 6 0 (by omega) (by omega) (by omega)

def isLst (f : Int → Int) (n b v : Int) : Prop := (∀ g, vrR f g 0 n → v ≤ amF g n b) ∧ ∃ g, vrR f g 0 n ∧ v = amF g n b
def isGrt (f : Int → Int) (n b v : Int) : Prop := (∀ g, vrR f g 0 n → amF g n b ≤ v) ∧ ∃ g, vrR f g 0 n ∧ v = amF g n b
def endsV (τ : Sto) (a : Nat) (f : Int → Int) (n : Int) : Prop := ∀ b, 0 ≤ b → b < 16 → isLst f n b (τ (a + 11) b) ∧ isGrt f n b (τ (a + 12) b)
theorem vrR_lo {f g : Int → Int} {lo n : Int} (h0 : 0 ≤ lo) (hg : ∀ i, 0 ≤ i → i < lo → ¬ losP f i) : vrR f g 0 n ↔ vrR f g lo n := by
  constructor
  · intro h
    refine ⟨fun j j0 j1 => ?_, fun i i0 i1 hi => h.2 i (by omega) i1 hi⟩
    rcases h.1 j j0 j1 with e | ⟨i, i0, i1, i2, i3⟩
    · exact Or.inl e
    · refine Or.inr ⟨i, ?_, i1, i2, i3⟩
      by_cases q : lo ≤ i
      · exact q
      · exact absurd i2 (hg i i0 (by omega))
  · intro h
    refine ⟨fun j j0 j1 => ?_, fun i i0 i1 hi => ?_⟩
    · rcases h.1 j j0 j1 with e | ⟨i, i0, i1, i2, i3⟩
      · exact Or.inl e
      · exact Or.inr ⟨i, by omega, i1, i2, i3⟩
    · by_cases q : lo ≤ i
      · exact h.2 i q i1 hi
      · exact absurd hi (hg i i0 (by omega))
theorem vrR_congr {f f' g : Int → Int} {lo n : Int} (hlo : 0 ≤ lo) (hk : ∀ i, 0 ≤ i → i < n → 0 ≤ f (7 * i) ∧ f (7 * i) ≤ 5) (h : ∀ j, 0 ≤ j → j < 7 * n → f j = f' j) (hg : vrR f g lo n) : vrR f' g lo n := by
  have hm : ∀ i, 0 ≤ i → i < n → mnp f' i = mnp f i := fun i i0 i1 => by
    unfold mnp
    rw [h (7 * i) (by omega) (by omega)]
  have hl : ∀ i, 0 ≤ i → i < n → (losP f' i ↔ losP f i) := fun i i0 i1 => by
    unfold losP
    rw [h (7 * i + 6) (by omega) (by omega)]
  refine ⟨fun j j0 j1 => ?_, fun i i0 i1 hi => ?_⟩
  · rcases hg.1 j j0 j1 with e | ⟨i, i0, i1, i2, i3⟩
    · exact Or.inl (by rw [e]; exact h j j0 j1)
    · exact Or.inr ⟨i, i0, i1, (hl i (by omega) i1).mpr i2, by rw [hm i (by omega) i1]; exact i3⟩
  · obtain ⟨e, e0, e1, e2, e3⟩ := hg.2 i i0 i1 ((hl i (by omega) i1).mp hi)
    have b := mnp_b (hk i (by omega) i1)
    refine ⟨e, e0, e1, ?_, ?_⟩
    · rw [hm i (by omega) i1, ← h _ (by omega) (by omega)]
      exact e2
    · rw [hm i (by omega) i1, ← h (mnp f i) (by omega) (by omega), ← h (7 * i) (by omega) (by omega)]
      exact e3
theorem isLst_of {f : Int → Int} {lo n b v : Int} (hn : 0 ≤ n) (h0 : 0 ≤ lo) (hg : ∀ i, 0 ≤ i → i < lo → ¬ losP f i) (hE : ∀ i, 0 ≤ i → i < n → evOk f i) (h : lstU 5120 v f lo n b) : isLst f n b v := by
  obtain ⟨h1, h2, h3⟩ := h
  refine ⟨fun g q => h2 g ((vrR_lo h0 hg).mp q), ?_⟩
  rcases h3 with h3 | ⟨g, g1, g2⟩
  · have r := vrR_refl (lo := 0) (Int.le_refl 0) hE
    have a1 := h2 f ((vrR_lo h0 hg).mp r)
    have a2 := amF_b f n b
    exact ⟨f, r, by omega⟩
  · exact ⟨g, (vrR_lo h0 hg).mpr g1, g2⟩
theorem isGrt_of {f : Int → Int} {lo n b v : Int} (hn : 0 ≤ n) (h0 : 0 ≤ lo) (hg : ∀ i, 0 ≤ i → i < lo → ¬ losP f i) (hE : ∀ i, 0 ≤ i → i < n → evOk f i) (h : grtU 0 v f lo n b) : isGrt f n b v := by
  obtain ⟨h1, h2, h3⟩ := h
  refine ⟨fun g q => h2 g ((vrR_lo h0 hg).mp q), ?_⟩
  rcases h3 with h3 | ⟨g, g1, g2⟩
  · have r := vrR_refl (lo := 0) (Int.le_refl 0) hE
    have a1 := h2 f ((vrR_lo h0 hg).mp r)
    have a2 := amF_b f n b
    exact ⟨f, r, by omega⟩
  · exact ⟨g, (vrR_lo h0 hg).mpr g1, g2⟩
theorem isLst_congr {f f' : Int → Int} {n b v : Int} (hk : ∀ i, 0 ≤ i → i < n → 0 ≤ f (7 * i) ∧ f (7 * i) ≤ 5) (h : ∀ j, 0 ≤ j → j < 7 * n → f j = f' j) (hv : isLst f n b v) : isLst f' n b v := by
  have hk' : ∀ i, 0 ≤ i → i < n → 0 ≤ f' (7 * i) ∧ f' (7 * i) ≤ 5 := fun i i0 i1 => by rw [← h _ (by omega) (by omega)]; exact hk i i0 i1
  refine ⟨fun g q => hv.1 g (vrR_congr (Int.le_refl 0) hk' (fun j j0 j1 => (h j j0 j1).symm) q), ?_⟩
  obtain ⟨g, g1, g2⟩ := hv.2
  exact ⟨g, vrR_congr (Int.le_refl 0) hk h g1, g2⟩
theorem isGrt_congr {f f' : Int → Int} {n b v : Int} (hk : ∀ i, 0 ≤ i → i < n → 0 ≤ f (7 * i) ∧ f (7 * i) ≤ 5) (h : ∀ j, 0 ≤ j → j < 7 * n → f j = f' j) (hv : isGrt f n b v) : isGrt f' n b v := by
  have hk' : ∀ i, 0 ≤ i → i < n → 0 ≤ f' (7 * i) ∧ f' (7 * i) ≤ 5 := fun i i0 i1 => by rw [← h _ (by omega) (by omega)]; exact hk i i0 i1
  refine ⟨fun g q => hv.1 g (vrR_congr (Int.le_refl 0) hk' (fun j j0 j1 => (h j j0 j1).symm) q), ?_⟩
  obtain ⟨g, g1, g2⟩ := hv.2
  exact ⟨g, vrR_congr (Int.le_refl 0) hk h g1, g2⟩
theorem isLst_uniq {f : Int → Int} {n b v w : Int} (h : isLst f n b v) (h' : isLst f n b w) : v = w := by
  obtain ⟨g, g1, g2⟩ := h.2
  obtain ⟨g', g3, g4⟩ := h'.2
  have := h.1 g' g3
  have := h'.1 g g1
  omega
theorem isGrt_uniq {f : Int → Int} {n b v w : Int} (h : isGrt f n b v) (h' : isGrt f n b w) : v = w := by
  obtain ⟨g, g1, g2⟩ := h.2
  obtain ⟨g', g3, g4⟩ := h'.2
  have := h.1 g' g3
  have := h'.1 g g1
  omega
theorem isLst_b {f : Int → Int} {n b v : Int} (h : isLst f n b v) : 0 ≤ v ∧ v ≤ 5120 := by
  obtain ⟨g, g1, g2⟩ := h.2
  have := amF_b g n b
  omega
theorem isGrt_b {f : Int → Int} {n b v : Int} (h : isGrt f n b v) : 0 ≤ v ∧ v ≤ 5120 := by
  obtain ⟨g, g1, g2⟩ := h.2
  have := amF_b g n b
  omega
theorem room_le {s : State} {pl : Platform} {r r' : Room} (h : s.hasRoom pl r' = true) (h1 : r.frames ≤ r'.frames) (h2 : r.cells ≤ r'.cells) (h3 : r.slots ≤ r'.slots) (h4 : r.locals ≤ r'.locals) : s.hasRoom pl r = true := by
  simp only [State.hasRoom, Bool.and_eq_true, decide_eq_true_eq] at h ⊢
  obtain ⟨⟨⟨⟨a, b1, b2, b3, b4, b5⟩, c⟩, d⟩, e⟩ := h
  exact ⟨⟨⟨⟨Nat.le_trans (by omega) a, by omega, by omega, by omega, by omega, b5⟩, by omega⟩, by omega⟩, e⟩
theorem PMet.more {G : GT} {S : Shp} {σ : Sto} {y : MY} {d d' mc ms : Nat} {as : List Value} {Q : Option Value → Shp → Sto → Prop} (h : PMet G y d mc ms as S σ Q) (hd : d ≤ d') : PMet G y d' mc ms as S σ Q := by
  unfold PMet Met at h ⊢
  intro p e ha hc hk s m args below hf happ hP hK
  refine h p e ha hc hk s m args below hf ?_ hP hK
  unfold Spec.appliesLoose at happ ⊢
  rw [hf] at happ ⊢
  simp only [Bool.and_eq_true] at happ ⊢
  exact ⟨⟨happ.1.1, room_le happ.1.2 (by show d ≤ d'; exact hd) (Nat.le_refl _) (Nat.le_refl _) (by show 40 * d ≤ 40 * d'; omega)⟩, happ.2⟩
theorem vary_any {G : GT} {S : Shp} {σ : Sto} {a : Nat} {f : Int → Int} {n c : Int} (hA : IsEnds S a) (hn : σ (a + 1) 2 = n) (hT : taOk σ (a + 1)) (hf : σ (a + 2) = f) (hc : σ a 7 = c) (hcl : looF f n = c) (hc4 : c ≤ 4) (hla : losA f (σ (a + 9)) n) (hl0 : 0 ≤ c) (hst : ∀ q, 0 ≤ q → q < 64 → eq8 (σ (cA (sgA a 0) q + 1)) (tlF f q zF (liF (σ (a + 9)) c n 0).toNat)) (hco : ∀ q, 0 ≤ q → q < 5 → colsOk σ (sgA a q) 64) (hb : ∀ b, 0 ≤ b → b < 16 → (0 ≤ σ (a + 11) b ∧ σ (a + 11) b ≤ 5120) ∧ (0 ≤ σ (a + 12) b ∧ σ (a + 12) b ≤ 5120)) : PMet G mX4_vary 10 0 0 [.ref a, .int (iI 0)] S σ (fun r S' σ' => r = none ∧ S' = S ∧ vaP σ σ' a f 0 n c) := by
  rcases (show c = 0 ∨ c = 1 ∨ c = 2 ∨ c = 3 ∨ c = 4 by omega) with e | e | e | e | e
  · exact (vary_0 hA hn hT hf hc hcl hc4 hla (Int.le_refl 0) (by omega) hst hco hb).more (by decide)
  · exact (vary_1 hA hn hT hf hc hcl hc4 hla (Int.le_refl 0) (by omega) hst hco hb).more (by decide)
  · exact (vary_2 hA hn hT hf hc hcl hc4 hla (Int.le_refl 0) (by omega) hst hco hb).more (by decide)
  · exact (vary_3 hA hn hT hf hc hcl hc4 hla (Int.le_refl 0) (by omega) hst hco hb).more (by decide)
  · exact (vary_4 hA hn hT hf hc hcl hc4 hla (Int.le_refl 0) (by omega) hst hco hb).more (by decide)
set_option maxRecDepth 20000 in
theorem c_X4_know {G : GT} {S : Shp} {σ : Sto} {a t : Nat} (hA : IsEnds S a) (hB : IsTale S t) (hT : taOk σ t) (hl4 : looF (σ (t + 1)) (σ t 2) ≤ 4) (hco : ∀ q, 0 ≤ q → q < 5 → colsOk σ (sgA a q) 64) (hd : t + 3 ≤ a ∨ a + 673 ≤ t) (hk8 : σ a 8 = 0 ∨ (σ a 8 = 1 ∧ endsV σ a (σ (t + 1)) (σ t 2))) : PMet G mX4_know 11 0 0 [.ref a, .ref t] S σ (fun r S' σ' => r = none ∧ S' = S ∧ (∀ q, q < a ∨ a + 673 ≤ q → σ' q = σ q) ∧ (∀ q, 0 ≤ q → q < 5 → colsOk σ' (sgA a q) 64) ∧ endsV σ' a (σ (t + 1)) (σ t 2) ∧ σ' a 8 = 1) := by
  obtain ⟨hA0, hA1, hA4, hA9, hA10, hA11, hA12, hAs⟩ := id hA
  have hT0 := hA1.1
  have hB0 := hB.1
  have h8 : σ a 8 = 0 ∨ σ a 8 = 1 := by
    rcases hk8 with h | h
    · exact Or.inl h
    · exact Or.inr h.1
  have hs16 := hT.1
  have hcp : ∀ j, 0 ≤ j → j < 112 → (cpF (σ (t + 1)) (σ (a + 2)) 0 0 112) j = σ (t + 1) j := fun j j0 j1 => by
    unfold cpF
    rw [if_pos (by omega)]
    congr 1
    omega
  have hEh : ∀ i, 0 ≤ i → i < σ t 2 → evOk (cpF (σ (t + 1)) (σ (a + 2)) 0 0 112) i := fun i i0 i1 => by
    have h := hT.2 i i0 i1
    unfold evOk
    rw [hcp _ (show 0 ≤ 7 * i by omega) (by omega), hcp _ (show 0 ≤ 7 * i + 1 + 0 by omega) (by omega), hcp _ (show 0 ≤ 7 * i + 1 + 1 by omega) (by omega), hcp _ (show 0 ≤ 7 * i + 1 + 2 by omega) (by omega), hcp _ (show 0 ≤ 7 * i + 1 + 3 by omega) (by omega), hcp _ (show 0 ≤ 7 * i + 1 + 4 by omega) (by omega), hcp _ (show 0 ≤ 7 * i + 6 by omega) (by omega)]
    refine ⟨h.1, fun p p0 p1 => ?_, h.2.2⟩
    rw [hcp _ (by omega) (by omega)]
    exact h.2.1 p p0 p1
  have hlo : looF (cpF (σ (t + 1)) (σ (a + 2)) 0 0 112) (σ t 2) = looF (σ (t + 1)) (σ t 2) := sumI_congr fun q q0 q1 => by
    try dsimp only
    rw [hcp (7 * q + 6) (by omega) (by omega)]
  have hlb := looF_b (σ (t + 1)) (σ t 2) hs16.1
  refine PMet.of [(0, .ref a), (1, .ref t)] (by decide +kernel) rfl (Nat.le_of_ble_eq_true rfl) ?_
  refine PW.aload_n dX4_know_0 rfl ?_
  refine PW.getI 8 fl_X4_48 rfl (by assumption) rfl rfl dX4_know_1 ?_
  refine PW.if_ne 11 dX4_know_4 (by decide) (by first | assumption | (unfold inR; omega)) (fun h4 => ?_) (fun h4 => ?_)
  · rcases hk8 with h | ⟨h, hg⟩
    · omega
    · exact PW.vret rfl dX4_know_11 ⟨rfl, rfl, fun _ _ => rfl, hco, hg, h⟩
  · refine PW.aload_n dX4_know_7 rfl ?_
    refine PW.ifnonnull 12 dX4_know_8 (by decide) ?_
    refine PW.aload_n dX4_know_12 rfl ?_
    refine PW.getR fl_X4_12 rfl (by assumption) rfl dX4_know_13 ?_
    refine PW.aload_n dX4_know_16 rfl ?_
    refine PW.callVv (c_X8_become hA1 hB (by omega)) cv_X8_become lk_X4_56 (by first | assumption | exact And.left (by assumption)) dX4_know_17 rfl rfl rfl rfl ?_
    refine PW.st (upS (upS σ (a + 2) (cpF (σ (t + 1)) (σ (a + 2)) 0 0 112)) (a + 1) (up1 (σ (a + 1)) 2 (σ t 2))) rfl ?_
    have e2 : (upS (upS σ (a + 2) (cpF (σ (t + 1)) (σ (a + 2)) 0 0 112)) (a + 1) (up1 (σ (a + 1)) 2 (σ t 2))) (a + 1 + 1) = (cpF (σ (t + 1)) (σ (a + 2)) 0 0 112) := by show (upS (upS σ (a + 2) (cpF (σ (t + 1)) (σ (a + 2)) 0 0 112)) (a + 1) (up1 (σ (a + 1)) 2 (σ t 2))) (a + 2) = _; rw [upS_ne (by omega), upS_same]
    have e1 : (upS (upS σ (a + 2) (cpF (σ (t + 1)) (σ (a + 2)) 0 0 112)) (a + 1) (up1 (σ (a + 1)) 2 (σ t 2))) (a + 1) 2 = σ t 2 := by rw [upS_same, up1_same]
    have hTv : taOk (upS (upS σ (a + 2) (cpF (σ (t + 1)) (σ (a + 2)) 0 0 112)) (a + 1) (up1 (σ (a + 1)) 2 (σ t 2))) (a + 1) := by
      refine ⟨by rw [e1]; exact hs16, fun i i0 i1 => ?_⟩
      rw [e1] at i1
      rw [e2]
      exact hEh i i0 i1
    refine PW.aload_n dX4_know_20 rfl ?_
    refine PW.callVg (c_X4_findLoose hA hTv e1 (by rw [show (upS (upS σ (a + 2) (cpF (σ (t + 1)) (σ (a + 2)) 0 0 112)) (a + 1) (up1 (σ (a + 1)) 2 (σ t 2))) (a + 2) = (cpF (σ (t + 1)) (σ (a + 2)) 0 0 112) from e2, hlo]; exact hl4)) cv_X4_findLoose lk_X4_60 (by first | assumption | exact And.left (by assumption)) dX4_know_21 rfl rfl rfl rfl (fun r S' τ21 hq => ?_)
    obtain ⟨rfl, hS, ⟨w1, w2⟩, w3, w4⟩ := hq
    have hS2 := hS.symm
    subst hS2
    rw [show (upS (upS σ (a + 2) (cpF (σ (t + 1)) (σ (a + 2)) 0 0 112)) (a + 1) (up1 (σ (a + 1)) 2 (σ t 2))) (a + 2) = (cpF (σ (t + 1)) (σ (a + 2)) 0 0 112) from e2] at w3 w4
    have wT1 : τ21 (a + 1) = (upS (upS σ (a + 2) (cpF (σ (t + 1)) (σ (a + 2)) 0 0 112)) (a + 1) (up1 (σ (a + 1)) 2 (σ t 2))) (a + 1) := w1 _ (by omega) (by omega)
    have wT2 : τ21 (a + 2) = (cpF (σ (t + 1)) (σ (a + 2)) 0 0 112) := by rw [w1 _ (by omega) (by omega)]; exact e2
    refine PW.aload_n dX4_know_24 rfl ?_
    refine PW.getR fl_X4_38 rfl (by assumption) rfl dX4_know_25 ?_
    refine PW.iconst dX4_know_28 ?_
    refine PW.bipush (by decide) dX4_know_29 ?_
    refine PW.sipush (by decide) dX4_know_31 ?_
    refine PW.callSv (c_X11_fill (by assumption) (by decide) (by first | assumption | (unfold inR; omega)) (by first | assumption | (unfold inR; omega))) cs_X11_fill lk_X4_63 dX4_know_34 rfl rfl rfl ?_
    skip
    refine PW.aload_n dX4_know_37 rfl ?_
    refine PW.getR fl_X4_41 rfl (by assumption) rfl dX4_know_38 ?_
    refine PW.iconst dX4_know_41 ?_
    refine PW.bipush (by decide) dX4_know_42 ?_
    refine PW.iconst dX4_know_44 ?_
    refine PW.callSv (c_X11_fill (by assumption) (by decide) (by first | assumption | (unfold inR; omega)) (by first | assumption | (unfold inR; omega))) cs_X11_fill lk_X4_63 dX4_know_45 rfl rfl rfl ?_
    have v1 : ∀ q, q ≠ a + 11 → q ≠ a + 12 → (upS (upS τ21 (a + 11) (flI (τ21 (a + 11)) 0 16 16 5120)) (a + 12) (flI ((upS τ21 (a + 11) (flI (τ21 (a + 11)) 0 16 16 5120)) (a + 12)) 0 16 16 0)) q = τ21 q := fun q q1 q2 => by rw [upS_ne q2, upS_ne q1]
    have v11 : ∀ b, 0 ≤ b → b < 16 → (upS (upS τ21 (a + 11) (flI (τ21 (a + 11)) 0 16 16 5120)) (a + 12) (flI ((upS τ21 (a + 11) (flI (τ21 (a + 11)) 0 16 16 5120)) (a + 12)) 0 16 16 0)) (a + 11) b = 5120 := fun b b0 b1 => by
      rw [upS_ne (by omega), upS_same]
      unfold flI
      rw [if_pos (by omega)]
    have v12 : ∀ b, 0 ≤ b → b < 16 → (upS (upS τ21 (a + 11) (flI (τ21 (a + 11)) 0 16 16 5120)) (a + 12) (flI ((upS τ21 (a + 11) (flI (τ21 (a + 11)) 0 16 16 5120)) (a + 12)) 0 16 16 0)) (a + 12) b = 0 := fun b b0 b1 => by
      rw [upS_same]
      unfold flI
      rw [if_pos (by omega)]
    generalize (upS (upS τ21 (a + 11) (flI (τ21 (a + 11)) 0 16 16 5120)) (a + 12) (flI ((upS τ21 (a + 11) (flI (τ21 (a + 11)) 0 16 16 5120)) (a + 12)) 0 16 16 0)) = τ at *
    have y7 : τ a 7 = looF (cpF (σ (t + 1)) (σ (a + 2)) 0 0 112) (σ t 2) := by rw [v1 a (by omega) (by omega)]; exact w3
    have y1 : τ (a + 1) 2 = σ t 2 := by rw [v1 _ (by omega) (by omega), wT1]; exact e1
    have y2 : τ (a + 1 + 1) = (cpF (σ (t + 1)) (σ (a + 2)) 0 0 112) := by rw [v1 _ (by omega) (by omega)]; exact wT2
    have y9 : losA (cpF (σ (t + 1)) (σ (a + 2)) 0 0 112) (τ (a + 9)) (σ t 2) := by rw [v1 _ (by omega) (by omega)]; exact w4
    have yc : ∀ q, 0 ≤ q → q < 5 → colsOk τ (sgA a q) 64 := fun q q0 q1 => colsOk_congr (fun x x0 x1 => by unfold sgA at x0; rw [v1 x (by omega) (by omega), w1 x (by omega) (by omega), upS_ne (by omega), upS_ne (by omega)]) (hco q q0 q1)
    have hTy : taOk τ (a + 1) := by
      refine ⟨by rw [y1]; exact hs16, fun i i0 i1 => ?_⟩
      rw [y1] at i1
      rw [y2]
      exact hEh i i0 i1
    have hS0 := hAs 0 (by omega) (by omega)
    have hS00 := hS0.1
    have lb := liF_b (f := (cpF (σ (t + 1)) (σ (a + 2)) 0 0 112)) (la := τ (a + 9)) (n := σ t 2) (l := 0) hs16.1 y9 (Int.le_refl 0)
    have hfst := liF_first (f := (cpF (σ (t + 1)) (σ (a + 2)) 0 0 112)) (la := τ (a + 9)) (n := σ t 2) hs16.1 y9
    refine PW.aload_n dX4_know_48 rfl ?_
    refine PW.iconst dX4_know_49 ?_
    refine PW.callVr (c_X4_stage (by assumption) (by omega)) cv_X4_stage lk_X4_67 (by first | assumption | exact And.left (by assumption)) dX4_know_50 rfl rfl rfl rfl ?_
    refine PW.aload_n dX4_know_53 rfl ?_
    refine PW.getR fl_X4_12 rfl (by assumption) rfl dX4_know_54 ?_
    refine PW.aload_n dX4_know_57 rfl ?_
    refine PW.iconst dX4_know_58 ?_
    refine PW.callVr (c_X4_looseIndex (c := looF (cpF (σ (t + 1)) (σ (a + 2)) 0 0 112) (σ t 2)) (n := σ t 2) hA y7 (by omega) y1 (by omega)) cv_X4_looseIndex lk_X4_71 (by first | assumption | exact And.left (by assumption)) dX4_know_59 rfl rfl rfl rfl ?_
    refine PW.callVv (c_X2_tell hS0 (by decide) (by decide) hA1 hTy (by rw [y1]; omega) (by unfold sgA; omega)) cv_X2_tell lk_X4_75 (by first | assumption | exact And.left (by assumption)) dX4_know_62 rfl rfl rfl rfl ?_
    refine PW.st (stC τ (sgA a 0) 64 (fun x => tlF (cpF (σ (t + 1)) (σ (a + 2)) 0 0 112) x (τ (cA (sgA a 0) x + 1)) (liF (τ (a + 9)) (looF (cpF (σ (t + 1)) (σ (a + 2)) 0 0 112) (σ t 2)) (σ t 2) 0).toNat)) (by rw [y2]) ?_
    have z : ∀ q, (q < sgA a 0 + 5 ∨ sgA a 0 + 4 + 2 * 64 ≤ q) → (stC τ (sgA a 0) 64 (fun x => tlF (cpF (σ (t + 1)) (σ (a + 2)) 0 0 112) x (τ (cA (sgA a 0) x + 1)) (liF (τ (a + 9)) (looF (cpF (σ (t + 1)) (σ (a + 2)) 0 0 112) (σ t 2)) (σ t 2) 0).toNat)) q = τ q := fun q hq => stC_ne hq
    have zs : ∀ q, 0 ≤ q → q < 64 → eq8 ((stC τ (sgA a 0) 64 (fun x => tlF (cpF (σ (t + 1)) (σ (a + 2)) 0 0 112) x (τ (cA (sgA a 0) x + 1)) (liF (τ (a + 9)) (looF (cpF (σ (t + 1)) (σ (a + 2)) 0 0 112) (σ t 2)) (σ t 2) 0).toNat)) (cA (sgA a 0) q + 1)) (tlF (cpF (σ (t + 1)) (σ (a + 2)) 0 0 112) q zF (liF (τ (a + 9)) (looF (cpF (σ (t + 1)) (σ (a + 2)) 0 0 112) (σ t 2)) (σ t 2) 0).toNat) := fun q q0 q1 => by
      rw [stC_at q0 q1]
      exact tlF_eq _ _ _ _ _
    have zc : ∀ q, 0 ≤ q → q < 5 → colsOk (stC τ (sgA a 0) 64 (fun x => tlF (cpF (σ (t + 1)) (σ (a + 2)) 0 0 112) x (τ (cA (sgA a 0) x + 1)) (liF (τ (a + 9)) (looF (cpF (σ (t + 1)) (σ (a + 2)) 0 0 112) (σ t 2)) (σ t 2) 0).toNat)) (sgA a q) 64 := fun q q0 q1 j j0 j1 => by
      by_cases x : q = 0
      · rw [x, stC_at j0 j1]
        exact tlF_ok (fun i i0 i1 => hEh i i0 (by omega))
      · rw [stC_ne (sg_ne q0 q1 j0 j1 (Int.le_refl 0) x)]
        exact yc q q0 q1 j j0 j1
    generalize (stC τ (sgA a 0) 64 (fun x => tlF (cpF (σ (t + 1)) (σ (a + 2)) 0 0 112) x (τ (cA (sgA a 0) x + 1)) (liF (τ (a + 9)) (looF (cpF (σ (t + 1)) (σ (a + 2)) 0 0 112) (σ t 2)) (σ t 2) 0).toNat)) = μ at *
    have m0 : μ a = τ a := z _ (by unfold sgA; omega)
    have m1 : μ (a + 1) = τ (a + 1) := z _ (by unfold sgA; omega)
    have m2 : μ (a + 1 + 1) = τ (a + 1 + 1) := z _ (by unfold sgA; omega)
    have m9 : μ (a + 9) = τ (a + 9) := z _ (by unfold sgA; omega)
    have m11 : μ (a + 11) = τ (a + 11) := z _ (by unfold sgA; omega)
    have m12 : μ (a + 12) = τ (a + 12) := z _ (by unfold sgA; omega)
    have hv : PMet G mX4_vary 10 0 0 [.ref a, .int (iI 0)] S μ (fun r S' σ' => r = none ∧ S' = S ∧ vaP μ σ' a (cpF (σ (t + 1)) (σ (a + 2)) 0 0 112) 0 (σ t 2) (looF (cpF (σ (t + 1)) (σ (a + 2)) 0 0 112) (σ t 2))) := vary_any hA (by rw [m1]; exact y1) (taOk_congr m1 m2 hTy) (by show μ (a + 1 + 1) = _; rw [m2]; exact y2) (by rw [m0]; exact y7) rfl (by omega) (by rw [m9]; exact y9) (by omega) (by rw [m9]; exact zs) zc (fun b b0 b1 => by rw [m11, m12, v11 b b0 b1, v12 b b0 b1]; omega)
    refine PW.aload_n dX4_know_65 rfl ?_
    refine PW.iconst dX4_know_66 ?_
    refine PW.callVg (hv) cv_X4_vary lk_X4_79 hA0 dX4_know_67 rfl rfl rfl rfl (fun r S' τ67 hq => ?_)
    obtain ⟨rfl, hS3, va⟩ := hq
    have hS4 := hS3.symm
    subst hS4
    refine PW.aload_n dX4_know_70 rfl ?_
    refine PW.iconst dX4_know_71 ?_
    refine PW.putI 8 fl_X4_48 rfl (fun h => absurd h (by decide)) (by assumption) rfl rfl rfl rfl dX4_know_72 ?_
    obtain ⟨⟨x1, x2, x3, x4, x5, x6⟩, x7, x8⟩ := va
    refine PW.vret rfl dX4_know_75 ⟨rfl, rfl, fun q hq => ?_, fun q q0 q1 => ?_, fun b b0 b1 => ?_, ?_⟩
    · rw [upS_ne (by omega), x1 q hq, z q (by unfold sgA; omega), v1 q (by omega) (by omega), w1 q (by omega) (by omega), upS_ne (by omega), upS_ne (by omega)]
    · exact colsOk_congr (fun x x0 x1 => by unfold sgA at x0; exact upS_ne (by omega)) (x6 q q0 q1)
    · have y := x8 b b0 b1
      rw [m11, m12, v11 b b0 b1, v12 b b0 b1, m9] at y
      rw [upS_ne (by omega), upS_ne (by omega)]
      have hkh : ∀ i, 0 ≤ i → i < σ t 2 → 0 ≤ (cpF (σ (t + 1)) (σ (a + 2)) 0 0 112) (7 * i) ∧ (cpF (σ (t + 1)) (σ (a + 2)) 0 0 112) (7 * i) ≤ 5 := fun i i0 i1 => (hEh i i0 i1).k
      exact ⟨isLst_congr hkh (fun j j0 j1 => hcp j j0 (by omega)) (isLst_of hs16.1 lb.1 hfst hEh y.1), isGrt_congr hkh (fun j j0 j1 => hcp j j0 (by omega)) (isGrt_of hs16.1 lb.1 hfst hEh y.2)⟩
    · rw [upS_same, up1_same]

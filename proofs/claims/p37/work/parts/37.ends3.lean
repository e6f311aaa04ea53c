def isLst (f : Int → Int) (n b v : Int) : Prop := (∀ g, vrR f g 0 n → v ≤ amF g n b) ∧ ∃ g, vrR f g 0 n ∧ v = amF g n b
def isGrt (f : Int → Int) (n b v : Int) : Prop := (∀ g, vrR f g 0 n → amF g n b ≤ v) ∧ ∃ g, vrR f g 0 n ∧ v = amF g n b
def endsV (τ : Sto) (a : Nat) (f : Int → Int) (n : Int) : Prop := ∀ b, 0 ≤ b → b < 16 → isLst f n b (τ (a + 20) b) ∧ isGrt f n b (τ (a + 21) b)
theorem vrR_lo {f g : Int → Int} {lo n : Int} (h0 : 0 ≤ lo) (hg : ∀ i, 0 ≤ i → i < lo → ¬ losP f i) : vrR f g 0 n ↔ vrR f g lo n := by
  constructor
  · intro h
    refine ⟨fun j j0 j1 => ?_, fun i i0 i1 hi => h.2 i (by omega) i1 hi⟩
    rcases h.1 j j0 j1 with e | ⟨i, i0, i1, i2, i3⟩
    · exact Or.inl e
    · refine Or.inr ⟨i, ?_, i1, i2, i3⟩
      by_cases q : lo ≤ i
      · exact q
      · exact absurd i2 (hg i i0 (by omega))
  · intro h
    refine ⟨fun j j0 j1 => ?_, fun i i0 i1 hi => ?_⟩
    · rcases h.1 j j0 j1 with e | ⟨i, i0, i1, i2, i3⟩
      · exact Or.inl e
      · exact Or.inr ⟨i, by omega, i1, i2, i3⟩
    · by_cases q : lo ≤ i
      · exact h.2 i q i1 hi
      · exact absurd hi (hg i i0 (by omega))
theorem vrR_congr {f f' g : Int → Int} {lo n : Int} (hlo : 0 ≤ lo) (hk : ∀ i, 0 ≤ i → i < n → 0 ≤ f (7 * i) ∧ f (7 * i) ≤ 5) (h : ∀ j, 0 ≤ j → j < 7 * n → f j = f' j) (hg : vrR f g lo n) : vrR f' g lo n := by
  have hm : ∀ i, 0 ≤ i → i < n → mnp f' i = mnp f i := fun i i0 i1 => by
    unfold mnp
    rw [h (7 * i) (by omega) (by omega)]
  have hl : ∀ i, 0 ≤ i → i < n → (losP f' i ↔ losP f i) := fun i i0 i1 => by
    unfold losP
    rw [h (7 * i + 6) (by omega) (by omega)]
  refine ⟨fun j j0 j1 => ?_, fun i i0 i1 hi => ?_⟩
  · rcases hg.1 j j0 j1 with e | ⟨i, i0, i1, i2, i3⟩
    · exact Or.inl (by rw [e]; exact h j j0 j1)
    · exact Or.inr ⟨i, i0, i1, (hl i (by omega) i1).mpr i2, by rw [hm i (by omega) i1]; exact i3⟩
  · obtain ⟨e, e0, e1, e2, e3⟩ := hg.2 i i0 i1 ((hl i (by omega) i1).mp hi)
    have b := mnp_b (hk i (by omega) i1)
    refine ⟨e, e0, e1, ?_, ?_⟩
    · rw [hm i (by omega) i1, ← h _ (by omega) (by omega)]
      exact e2
    · rw [hm i (by omega) i1, ← h (mnp f i) (by omega) (by omega), ← h (7 * i) (by omega) (by omega)]
      exact e3
theorem ends_lst {f la m : Int → Int} {n c b v : Int} (hn : 0 ≤ n) (hE : ∀ i, 0 ≤ i → i < n → evOk f i) (hc : looF f n = c) (hc0 : 0 ≤ c) (hla : losA f la n) (hm : ∀ (i : Nat) (g : Int → Int), (wyL (liF la c n) c.toNat 0 f)[i]? = some g → m ((i : Int) * 16 + b) = amF g n b) (h : mnS m b ((wyL (liF la c n) c.toNat 0 f).length : Int) v) : isLst f n b v := by
  have hi := wyL_iff (c := c) hn c.toNat 0 f (Int.le_refl 0) (by omega) hE hc hla
  have hf := liF_first hn hla
  have hlb := liF_b hn hla (Int.le_refl 0)
  rw [hc] at hf hlb
  obtain ⟨h1, w, w0, w1, w2⟩ := h
  refine ⟨fun g hg => ?_, ?_⟩
  · obtain ⟨g', g1, g2⟩ := hi.2 g ((vrR_lo hlb.1 hf).mp hg)
    obtain ⟨i, hi2⟩ := List.mem_iff_getElem?.mp g1
    obtain ⟨hlt, -⟩ := List.getElem?_eq_some_iff.mp hi2
    rw [amF_congr (f := g') g2 hn, ← hm i g' hi2]
    exact h1 i (by omega) (by omega)
  · have hlt : w.toNat < (wyL (liF la c n) c.toNat 0 f).length := by omega
    refine ⟨(wyL (liF la c n) c.toNat 0 f)[w.toNat], (vrR_lo hlb.1 hf).mpr (hi.1 _ (List.getElem_mem hlt)), ?_⟩
    rw [w2, ← hm w.toNat _ (List.getElem?_eq_getElem hlt), show ((w.toNat : Nat) : Int) = w by omega]
theorem ends_grt {f la m : Int → Int} {n c b v : Int} (hn : 0 ≤ n) (hE : ∀ i, 0 ≤ i → i < n → evOk f i) (hc : looF f n = c) (hc0 : 0 ≤ c) (hla : losA f la n) (hm : ∀ (i : Nat) (g : Int → Int), (wyL (liF la c n) c.toNat 0 f)[i]? = some g → m ((i : Int) * 16 + b) = amF g n b) (h : mxS m b ((wyL (liF la c n) c.toNat 0 f).length : Int) v) : isGrt f n b v := by
  have hi := wyL_iff (c := c) hn c.toNat 0 f (Int.le_refl 0) (by omega) hE hc hla
  have hf := liF_first hn hla
  have hlb := liF_b hn hla (Int.le_refl 0)
  rw [hc] at hf hlb
  obtain ⟨h1, w, w0, w1, w2⟩ := h
  refine ⟨fun g hg => ?_, ?_⟩
  · obtain ⟨g', g1, g2⟩ := hi.2 g ((vrR_lo hlb.1 hf).mp hg)
    obtain ⟨i, hi2⟩ := List.mem_iff_getElem?.mp g1
    obtain ⟨hlt, -⟩ := List.getElem?_eq_some_iff.mp hi2
    rw [amF_congr (f := g') g2 hn, ← hm i g' hi2]
    exact h1 i (by omega) (by omega)
  · have hlt : w.toNat < (wyL (liF la c n) c.toNat 0 f).length := by omega
    refine ⟨(wyL (liF la c n) c.toNat 0 f)[w.toNat], (vrR_lo hlb.1 hf).mpr (hi.1 _ (List.getElem_mem hlt)), ?_⟩
    rw [w2, ← hm w.toNat _ (List.getElem?_eq_getElem hlt), show ((w.toNat : Nat) : Int) = w by omega]
theorem wyL_some {f la : Int → Int} {n c : Int} (hn : 0 ≤ n) (hE : ∀ i, 0 ≤ i → i < n → evOk f i) (hc : looF f n = c) (hc4 : 0 ≤ c ∧ c ≤ 4) (hla : losA f la n) : 1 ≤ ((wyL (liF la c n) c.toNat 0 f).length : Int) ∧ ((wyL (liF la c n) c.toNat 0 f).length : Int) ≤ 81 := by
  have hi := wyL_iff (c := c) hn c.toNat 0 f (Int.le_refl 0) (by omega) hE hc hla
  have hlb := liF_b hn hla (Int.le_refl 0)
  rw [hc] at hlb
  obtain ⟨g', g1, -⟩ := hi.2 f (vrR_refl hlb.1 hE)
  have h1 := List.length_pos_of_mem g1
  have h2 := wyL_len (liF la c n) c.toNat 0 f
  have h3 : 3 ^ c.toNat ≤ 3 ^ 4 := Nat.pow_le_pow_right (by decide) (by omega)
  have h4 : (3 : Nat) ^ 4 = 81 := by decide
  omega
theorem isLst_congr {f f' : Int → Int} {n b v : Int} (hk : ∀ i, 0 ≤ i → i < n → 0 ≤ f (7 * i) ∧ f (7 * i) ≤ 5) (h : ∀ j, 0 ≤ j → j < 7 * n → f j = f' j) (hv : isLst f n b v) : isLst f' n b v := by
  have hk' : ∀ i, 0 ≤ i → i < n → 0 ≤ f' (7 * i) ∧ f' (7 * i) ≤ 5 := fun i i0 i1 => by rw [← h _ (by omega) (by omega)]; exact hk i i0 i1
  refine ⟨fun g q => hv.1 g (vrR_congr (Int.le_refl 0) hk' (fun j j0 j1 => (h j j0 j1).symm) q), ?_⟩
  obtain ⟨g, g1, g2⟩ := hv.2
  exact ⟨g, vrR_congr (Int.le_refl 0) hk h g1, g2⟩
theorem isGrt_congr {f f' : Int → Int} {n b v : Int} (hk : ∀ i, 0 ≤ i → i < n → 0 ≤ f (7 * i) ∧ f (7 * i) ≤ 5) (h : ∀ j, 0 ≤ j → j < 7 * n → f j = f' j) (hv : isGrt f n b v) : isGrt f' n b v := by
  have hk' : ∀ i, 0 ≤ i → i < n → 0 ≤ f' (7 * i) ∧ f' (7 * i) ≤ 5 := fun i i0 i1 => by rw [← h _ (by omega) (by omega)]; exact hk i i0 i1
  refine ⟨fun g q => hv.1 g (vrR_congr (Int.le_refl 0) hk' (fun j j0 j1 => (h j j0 j1).symm) q), ?_⟩
  obtain ⟨g, g1, g2⟩ := hv.2
  exact ⟨g, vrR_congr (Int.le_refl 0) hk h g1, g2⟩
theorem isLst_uniq {f : Int → Int} {n b v w : Int} (h : isLst f n b v) (h' : isLst f n b w) : v = w := by
  obtain ⟨g, g1, g2⟩ := h.2
  obtain ⟨g', g3, g4⟩ := h'.2
  have := h.1 g' g3
  have := h'.1 g g1
  omega
theorem isGrt_uniq {f : Int → Int} {n b v w : Int} (h : isGrt f n b v) (h' : isGrt f n b w) : v = w := by
  obtain ⟨g, g1, g2⟩ := h.2
  obtain ⟨g', g3, g4⟩ := h'.2
  have := h.1 g' g3
  have := h'.1 g g1
  omega
theorem isLst_b {f : Int → Int} {n b v : Int} (h : isLst f n b v) : 0 ≤ v ∧ v ≤ 5120 := by
  obtain ⟨g, g1, g2⟩ := h.2
  have := amF_b g n b
  omega
theorem isGrt_b {f : Int → Int} {n b v : Int} (h : isGrt f n b v) : 0 ≤ v ∧ v ≤ 5120 := by
  obtain ⟨g, g1, g2⟩ := h.2
  have := amF_b g n b
  omega
theorem PW.gst {x : FX} {G : GT} {S : Shp} {σ : Sto} {k n pc : Nat} {l : LV} {st : List Value} (kk : ∀ τ, τ = σ → PW x G S τ k n pc l st) : PW x G S σ k n pc l st := kk σ rfl
theorem room_le {s : State} {pl : Platform} {r r' : Room} (h : s.hasRoom pl r' = true) (h1 : r.frames ≤ r'.frames) (h2 : r.cells ≤ r'.cells) (h3 : r.slots ≤ r'.slots) (h4 : r.locals ≤ r'.locals) : s.hasRoom pl r = true := by
  simp only [State.hasRoom, Bool.and_eq_true, decide_eq_true_eq] at h ⊢
  obtain ⟨⟨⟨⟨a, b1, b2, b3, b4, b5⟩, c⟩, d⟩, e⟩ := h
  exact ⟨⟨⟨⟨Nat.le_trans (by omega) a, by omega, by omega, by omega, by omega, b5⟩, by omega⟩, by omega⟩, e⟩
theorem PMet.more {G : GT} {S : Shp} {σ : Sto} {y : MY} {d d' mc ms : Nat} {as : List Value} {Q : Option Value → Shp → Sto → Prop} (h : PMet G y d mc ms as S σ Q) (hd : d ≤ d') : PMet G y d' mc ms as S σ Q := by
  unfold PMet Met at h ⊢
  intro p e ha hc hk s m args below hf happ hP hK
  refine h p e ha hc hk s m args below hf ?_ hP hK
  unfold Spec.appliesLoose at happ ⊢
  rw [hf] at happ ⊢
  simp only [Bool.and_eq_true] at happ ⊢
  exact ⟨⟨happ.1.1, room_le happ.1.2 (by show d ≤ d'; exact hd) (Nat.le_refl _) (Nat.le_refl _) (by show 40 * d ≤ 40 * d'; omega)⟩, happ.2⟩
theorem vary_any {G : GT} {S : Shp} {σ : Sto} {a : Nat} {f : Int → Int} {n c y : Int} (hA : IsEnds S a) (hn : σ (a + 1) 2 = n) (hT : taOk σ (a + 1)) (hf : σ (a + 2) = f) (hc : σ a 6 = c) (hcl : looF f n = c) (hc4 : c ≤ 4) (hla : losA f (σ (a + 18)) n) (hl0 : 0 ≤ c) (hy : 0 ≤ y ∧ y ≤ 63) (hst : eq8 (σ (cA (a + 4) 0 + 1)) (tlF f y zF (liF (σ (a + 18)) c n 0).toNat)) (hco : colsOk σ (a + 4) 5) (hw : 0 ≤ σ a 7 ∧ σ a 7 + ((wyL (liF (σ (a + 18)) c n) c.toNat 0 f).length : Int) ≤ 81) (hb : ∀ j, 0 ≤ j → j < 1296 → 0 ≤ σ (a + 19) j ∧ σ (a + 19) j ≤ 6000 + 80 * σ a 7) : PMet G mX4_vary 10 0 0 [.ref a, .int (iI 0), .int (iI y)] S σ (fun r S' σ' => r = none ∧ S' = S ∧ vaP σ σ' a f 0 n y (wyL (liF (σ (a + 18)) c n) c.toNat 0 f)) := by
  rcases (show c = 0 ∨ c = 1 ∨ c = 2 ∨ c = 3 ∨ c = 4 by omega) with rfl | rfl | rfl | rfl | rfl
  · exact (vary_0 hA hn hT hf hc hcl hc4 hla (Int.le_refl 0) (by omega) hy hst hco hw hb).more (by decide)
  · exact (vary_1 hA hn hT hf hc hcl hc4 hla (Int.le_refl 0) (by omega) hy hst hco hw hb).more (by decide)
  · exact (vary_2 hA hn hT hf hc hcl hc4 hla (Int.le_refl 0) (by omega) hy hst hco hw hb).more (by decide)
  · exact (vary_3 hA hn hT hf hc hcl hc4 hla (Int.le_refl 0) (by omega) hy hst hco hw hb).more (by decide)
  · exact (vary_4 hA hn hT hf hc hcl hc4 hla (Int.le_refl 0) (by omega) hy hst hco hw hb).more (by decide)
/-- how far the columns are told: what stands behind y of them -/
def knI (σ τ : Sto) (a : Nat) (H : Int → Int) (n : Int) (L : List (Int → Int)) (y : Int) : Prop := (∀ q, q < a ∨ a + 22 ≤ q → τ q = σ q) ∧ (∀ j, j ≠ 7 → τ a j = σ a j) ∧ τ (a + 1) = σ (a + 1) ∧ τ (a + 2) = H ∧ τ (a + 18) = σ (a + 18) ∧ colsOk τ (a + 4) 5 ∧ (0 < y → τ a 7 = L.length) ∧ (∀ (i : Nat) (g : Int → Int), L[i]? = some g → ∀ b, 0 ≤ b → b < 16 → τ (a + 19) ((i : Int) * 16 + b) = smF (fun x => clF (tlF g x zF n.toNat) b) y) ∧ ∀ j, 0 ≤ j → j < 1296 → 0 ≤ τ (a + 19) j ∧ τ (a + 19) j ≤ 80 * y
set_option maxRecDepth 20000 in
theorem know_col {G : GT} {S : Shp} {σ : Sto} {a u : Nat} {H : Int → Int} {n c : Int} {Q : Option Value → Shp → Sto → Prop} (hA : IsEnds S a) (hn : σ (a + 1) 2 = n) (hn16 : 0 ≤ n ∧ n ≤ 16) (hE : ∀ i, 0 ≤ i → i < n → evOk H i) (hc : σ a 6 = c) (hcl : looF H n = c) (hc4 : 0 ≤ c ∧ c ≤ 4) (hla : losA H (σ (a + 18)) n) (hK : ∀ τ : Sto, knI σ τ a H n (wyL (liF (σ (a + 18)) c n) c.toNat 0 H) 64 → PW (fm G mX4_know 11 0 0 Q) G S τ 0 0 84 [(0, .ref a), (1, .ref u), (2, .int (iI 64))] []) : ∀ (t : Nat) (i : Int) (τ : Sto), 0 ≤ i → i ≤ 64 → 64 - i < t → knI σ τ a H n (wyL (liF (σ (a + 18)) c n) c.toNat 0 H) i → PW (fm G mX4_know 11 0 0 Q) G S (τ) 0 0 40 [(0, .ref a), (1, .ref u), (2, .int (iI (i)))] [] := by
  obtain ⟨hA0, hA1, hA4, hA18, hA19, hA20, hA21⟩ := id hA
  have hT0 := hA1.1
  obtain ⟨hC0, hC1, hC2, hCs⟩ := id hA4
  have hS0 := hCs 0 (by omega) (by omega)
  have hS00 := hS0.1
  have hws := wyL_some hn16.1 hE hcl hc4 hla
  have lb := liF_b (f := H) (la := σ (a + 18)) (n := n) (l := 0) hn16.1 hla (Int.le_refl 0)
  rw [hcl] at lb
  intro t
  induction t with
  | zero => intro i τ h1 h2 h3 g1; omega
  | succ t ih =>
    intro i τ h1 h2 h3 g1
    obtain ⟨f1, f2, f3, f4, f5, f6, f7, f8, f9⟩ := id g1
    refine PW.iload_n dX4_know_40 rfl ?_
    refine PW.bipush (by decide) dX4_know_41 ?_
    refine PW.icmp_ge 84 dX4_know_43 (by decide) (by first | assumption | (unfold inR; omega)) (by first | assumption | (unfold inR; omega)) (fun h43 => ?_) (fun h43 => ?_)
    · have hi : i = 64 := by omega
      subst hi
      exact hK τ g1
    · refine PW.aload_n dX4_know_46 rfl ?_
      refine PW.iconst dX4_know_47 ?_
      refine PW.putI 7 fl_X4_44 rfl (fun h => absurd h (by decide)) (by assumption) rfl rfl rfl rfl dX4_know_48 ?_
      have b1 : ∀ q, q ≠ a → (upS τ a (up1 (τ a) 7 0)) q = τ q := fun q hq => upS_ne hq
      have b0 : ∀ j, j ≠ 7 → (upS τ a (up1 (τ a) 7 0)) a j = σ a j := fun j hj => by rw [upS_same, up1_ne hj]; exact f2 j hj
      have b7 : (upS τ a (up1 (τ a) 7 0)) a 7 = 0 := by rw [upS_same, up1_same]
      have hTs : taOk (upS τ a (up1 (τ a) 7 0)) (a + 1) := by
        refine ⟨by rw [b1 _ (by omega), f3, hn]; exact hn16, fun q q0 q1 => ?_⟩
        rw [b1 _ (by omega), f3, hn] at q1
        rw [b1 _ (by omega), show τ (a + 1 + 1) = H from f4]
        exact hE q q0 q1
      refine PW.aload_n dX4_know_51 rfl ?_
      refine PW.getR fl_X4_23 rfl (by assumption) rfl dX4_know_52 ?_
      refine PW.iconst dX4_know_55 ?_
      refine PW.callVr (c_X2_of hA4 (by decide) (by omega) (by omega)) cv_X2_of lk_X4_66 (by first | assumption | exact And.left (by assumption)) dX4_know_56 rfl rfl rfl rfl ?_
      refine PW.aload_n dX4_know_59 rfl ?_
      refine PW.getR fl_X4_12 rfl (by assumption) rfl dX4_know_60 ?_
      refine PW.aload_n dX4_know_63 rfl ?_
      refine PW.iconst dX4_know_64 ?_
      refine PW.callVr (c_X4_looseIndex (c := c) (n := n) hA (by rw [b0 6 (by decide)]; exact hc) (by omega) (by rw [b1 _ (by omega), f3]; exact hn) (by omega)) cv_X4_looseIndex lk_X4_70 (by first | assumption | exact And.left (by assumption)) dX4_know_65 rfl rfl rfl rfl ?_
      refine PW.top (liF (σ (a + 18)) c n 0) (by rw [b1 _ (by omega), f5]) ?_
      refine PW.iload_n dX4_know_68 rfl ?_
      refine PW.callVv (c_X1_tell hS0 hA1 (by unfold cA; omega) (by unfold cA; omega) hTs (by rw [b1 _ (by omega), f3, hn]; omega) (by omega)) cv_X1_tell lk_X4_74 (by first | assumption | exact And.left (by assumption)) dX4_know_69 rfl rfl rfl rfl ?_
      refine PW.st (upS (upS τ a (up1 (τ a) 7 0)) (cA (a + 4) 0 + 1) (tlF H i (τ (cA (a + 4) 0 + 1)) (liF (σ (a + 18)) c n 0).toNat)) (by rw [b1 (a + 1 + 1) (by omega), show τ (a + 1 + 1) = H from f4, b1 (cA (a + 4) 0 + 1) (by unfold cA; omega)]) ?_
      have d1 : ∀ q, q ≠ cA (a + 4) 0 + 1 → (upS (upS τ a (up1 (τ a) 7 0)) (cA (a + 4) 0 + 1) (tlF H i (τ (cA (a + 4) 0 + 1)) (liF (σ (a + 18)) c n 0).toNat)) q = (upS τ a (up1 (τ a) 7 0)) q := fun q hq => upS_ne hq
      have d19 : (upS (upS τ a (up1 (τ a) 7 0)) (cA (a + 4) 0 + 1) (tlF H i (τ (cA (a + 4) 0 + 1)) (liF (σ (a + 18)) c n 0).toNat)) (a + 19) = τ (a + 19) := by rw [d1 _ (by unfold cA; omega), b1 _ (by omega)]
      have d18 : (upS (upS τ a (up1 (τ a) 7 0)) (cA (a + 4) 0 + 1) (tlF H i (τ (cA (a + 4) 0 + 1)) (liF (σ (a + 18)) c n 0).toNat)) (a + 18) = σ (a + 18) := by rw [d1 _ (by unfold cA; omega), b1 _ (by omega), f5]
      have d2 : (upS (upS τ a (up1 (τ a) 7 0)) (cA (a + 4) 0 + 1) (tlF H i (τ (cA (a + 4) 0 + 1)) (liF (σ (a + 18)) c n 0).toNat)) (a + 1 + 1) = H := by rw [d1 _ (by unfold cA; omega), b1 _ (by omega)]; exact f4
      have d1n : (upS (upS τ a (up1 (τ a) 7 0)) (cA (a + 4) 0 + 1) (tlF H i (τ (cA (a + 4) 0 + 1)) (liF (σ (a + 18)) c n 0).toNat)) (a + 1) = σ (a + 1) := by rw [d1 _ (by unfold cA; omega), b1 _ (by omega), f3]
      have da : (upS (upS τ a (up1 (τ a) 7 0)) (cA (a + 4) 0 + 1) (tlF H i (τ (cA (a + 4) 0 + 1)) (liF (σ (a + 18)) c n 0).toNat)) a = (upS τ a (up1 (τ a) 7 0)) a := d1 _ (by unfold cA; omega)
      have hTd : taOk (upS (upS τ a (up1 (τ a) 7 0)) (cA (a + 4) 0 + 1) (tlF H i (τ (cA (a + 4) 0 + 1)) (liF (σ (a + 18)) c n 0).toNat)) (a + 1) := taOk_congr (d1 _ (by unfold cA; omega)) (d1 _ (by unfold cA; omega)) hTs
      have dst : eq8 ((upS (upS τ a (up1 (τ a) 7 0)) (cA (a + 4) 0 + 1) (tlF H i (τ (cA (a + 4) 0 + 1)) (liF (σ (a + 18)) c n 0).toNat)) (cA (a + 4) 0 + 1)) (tlF H i zF (liF ((upS (upS τ a (up1 (τ a) 7 0)) (cA (a + 4) 0 + 1) (tlF H i (τ (cA (a + 4) 0 + 1)) (liF (σ (a + 18)) c n 0).toNat)) (a + 18)) c n 0).toNat) := by
        rw [upS_same, d18]
        exact tlF_eq _ _ _ _ _
      have dco : colsOk (upS (upS τ a (up1 (τ a) 7 0)) (cA (a + 4) 0 + 1) (tlF H i (τ (cA (a + 4) 0 + 1)) (liF (σ (a + 18)) c n 0).toNat)) (a + 4) 5 := fun q q0 q1 => by
        by_cases x : q = 0
        · rw [x, upS_same]
          exact tlF_ok (fun j j0 j1 => hE j j0 (by omega))
        · rw [d1 _ (cA_ne q0 (Int.le_refl 0) x), b1 _ (by unfold cA; omega)]
          exact f6 q q0 q1
      have hv : PMet G mX4_vary 10 0 0 [.ref a, .int (iI 0), .int (iI i)] S (upS (upS τ a (up1 (τ a) 7 0)) (cA (a + 4) 0 + 1) (tlF H i (τ (cA (a + 4) 0 + 1)) (liF (σ (a + 18)) c n 0).toNat)) (fun r S' σ' => r = none ∧ S' = S ∧ vaP (upS (upS τ a (up1 (τ a) 7 0)) (cA (a + 4) 0 + 1) (tlF H i (τ (cA (a + 4) 0 + 1)) (liF (σ (a + 18)) c n 0).toNat)) σ' a H 0 n i (wyL (liF ((upS (upS τ a (up1 (τ a) 7 0)) (cA (a + 4) 0 + 1) (tlF H i (τ (cA (a + 4) 0 + 1)) (liF (σ (a + 18)) c n 0).toNat)) (a + 18)) c n) c.toNat 0 H)) := vary_any hA (by rw [d1n]; exact hn) hTd d2 (by rw [da, b0 6 (by decide)]; exact hc) hcl hc4.2 (by rw [d18]; exact hla) hc4.1 ⟨h1, by omega⟩ dst dco (by rw [da, b7, d18]; omega) (fun j j0 j1 => by rw [d19, da, b7]; have := f9 j j0 j1; omega)
      refine PW.aload_n dX4_know_72 rfl ?_
      refine PW.iconst dX4_know_73 ?_
      refine PW.iload_n dX4_know_74 rfl ?_
      refine PW.callVg (hv) cv_X4_vary lk_X4_80 hA0 dX4_know_75 rfl rfl rfl rfl (fun r S' τ75 hq => ?_)
      obtain ⟨rfl, hS3, ⟨x1, x2, x3, x4, x5, x6⟩, y1, y2, y3⟩ := hq
      have hS4 := hS3.symm
      subst hS4
      rw [da, b7, d18] at y2 y3
      rw [d19] at y3
      refine PW.iinc [(0, _), (1, _), (2, _)] dX4_know_78 rfl rfl (Nat.le_of_ble_eq_true rfl) ?_
      refine PW.goto 40 dX4_know_81 (by decide) ?_
      refine ih (i + 1) _ (by omega) (by omega) (by omega) ⟨fun q hq => ?_, fun j hj => ?_, ?_, y1, ?_, x6, fun _ => ?_, fun k g hk b b0 b1 => ?_, fun j j0 j1 => ?_⟩
      · rw [x1 q hq, d1 q (by unfold cA; omega), b1 q (by omega)]; exact f1 q hq
      · rw [x2 j hj, da]; exact b0 j hj
      · rw [x3, d1n]
      · rw [x4, d18]
      · rw [y2]; omega
      · have e := adW_at i n (wyL (liF (σ (a + 18)) c n) c.toNat 0 H) (τ (a + 19)) 0 k g b hk b0 b1
        rw [show (0 : Int) + (k : Int) = (k : Int) by omega] at e
        rw [y3, e, f8 k g hk b b0 b1, smF_s _ h1]
      · have e := adW_80 i n (wyL (liF (σ (a + 18)) c n) c.toNat 0 H) (τ (a + 19)) 0 j
        have e2 := f9 j j0 j1
        rw [y3]
        omega
set_option maxRecDepth 20000 in
theorem c_X4_know {G : GT} {S : Shp} {σ : Sto} {a t : Nat} (hA : IsEnds S a) (hB : IsTale S t) (hT : taOk σ t) (hl4 : looF (σ (t + 1)) (σ t 2) ≤ 4) (hco : colsOk σ (a + 4) 5) (hd : t + 3 ≤ a ∨ a + 22 ≤ t) (hk8 : σ a 8 = 0 ∨ (σ a 8 = 1 ∧ endsV σ a (σ (t + 1)) (σ t 2))) : PMet G mX4_know 11 0 0 [.ref a, .ref t] S σ (fun r S' σ' => r = none ∧ S' = S ∧ (∀ q, q < a ∨ a + 22 ≤ q → σ' q = σ q) ∧ colsOk σ' (a + 4) 5 ∧ endsV σ' a (σ (t + 1)) (σ t 2) ∧ σ' a 8 = 1) := by
  obtain ⟨hA0, hA1, hA4, hA18, hA19, hA20, hA21⟩ := id hA
  have hT0 := hA1.1
  have hB0 := hB.1
  have hA40 := hA4.1
  have h8 : σ a 8 = 0 ∨ σ a 8 = 1 := by
    rcases hk8 with h | h
    · exact Or.inl h
    · exact Or.inr h.1
  have hs16 := hT.1
  have hcp : ∀ j, 0 ≤ j → j < 112 → (cpF (σ (t + 1)) (σ (a + 2)) 0 0 112) j = σ (t + 1) j := fun j j0 j1 => by
    unfold cpF
    rw [if_pos (by omega)]
    congr 1
    omega
  have hEh : ∀ i, 0 ≤ i → i < σ t 2 → evOk (cpF (σ (t + 1)) (σ (a + 2)) 0 0 112) i := fun i i0 i1 => by
    have h := hT.2 i i0 i1
    unfold evOk
    rw [hcp _ (show 0 ≤ 7 * i by omega) (by omega), hcp _ (show 0 ≤ 7 * i + 1 + 0 by omega) (by omega), hcp _ (show 0 ≤ 7 * i + 1 + 1 by omega) (by omega), hcp _ (show 0 ≤ 7 * i + 1 + 2 by omega) (by omega), hcp _ (show 0 ≤ 7 * i + 1 + 3 by omega) (by omega), hcp _ (show 0 ≤ 7 * i + 1 + 4 by omega) (by omega), hcp _ (show 0 ≤ 7 * i + 6 by omega) (by omega)]
    refine ⟨h.1, fun p p0 p1 => ?_, h.2.2⟩
    rw [hcp _ (by omega) (by omega)]
    exact h.2.1 p p0 p1
  have hlo : looF (cpF (σ (t + 1)) (σ (a + 2)) 0 0 112) (σ t 2) = looF (σ (t + 1)) (σ t 2) := sumI_congr fun q q0 q1 => by
    try dsimp only
    rw [hcp (7 * q + 6) (by omega) (by omega)]
  have hlb := looF_b (σ (t + 1)) (σ t 2) hs16.1
  refine PMet.of [(0, .ref a), (1, .ref t)] (by decide +kernel) rfl (Nat.le_of_ble_eq_true rfl) ?_
  refine PW.aload_n dX4_know_0 rfl ?_
  refine PW.getI 8 fl_X4_47 rfl (by assumption) rfl rfl dX4_know_1 ?_
  refine PW.if_ne 11 dX4_know_4 (by decide) (by first | assumption | (unfold inR; omega)) (fun h4 => ?_) (fun h4 => ?_)
  · rcases hk8 with h | ⟨h, hg⟩
    · omega
    · exact PW.vret rfl dX4_know_11 ⟨rfl, rfl, fun _ _ => rfl, hco, hg, h⟩
  · refine PW.aload_n dX4_know_7 rfl ?_
    refine PW.ifnonnull 12 dX4_know_8 (by decide) ?_
    refine PW.aload_n dX4_know_12 rfl ?_
    refine PW.getR fl_X4_12 rfl (by assumption) rfl dX4_know_13 ?_
    refine PW.aload_n dX4_know_16 rfl ?_
    refine PW.callVv (c_X8_become hA1 hB (by omega)) cv_X8_become lk_X4_55 (by first | assumption | exact And.left (by assumption)) dX4_know_17 rfl rfl rfl rfl ?_
    refine PW.st (upS (upS σ (a + 2) (cpF (σ (t + 1)) (σ (a + 2)) 0 0 112)) (a + 1) (up1 (σ (a + 1)) 2 (σ t 2))) rfl ?_
    have e2 : (upS (upS σ (a + 2) (cpF (σ (t + 1)) (σ (a + 2)) 0 0 112)) (a + 1) (up1 (σ (a + 1)) 2 (σ t 2))) (a + 1 + 1) = (cpF (σ (t + 1)) (σ (a + 2)) 0 0 112) := by show (upS (upS σ (a + 2) (cpF (σ (t + 1)) (σ (a + 2)) 0 0 112)) (a + 1) (up1 (σ (a + 1)) 2 (σ t 2))) (a + 2) = _; rw [upS_ne (by omega), upS_same]
    have e1 : (upS (upS σ (a + 2) (cpF (σ (t + 1)) (σ (a + 2)) 0 0 112)) (a + 1) (up1 (σ (a + 1)) 2 (σ t 2))) (a + 1) 2 = σ t 2 := by rw [upS_same, up1_same]
    have hTv : taOk (upS (upS σ (a + 2) (cpF (σ (t + 1)) (σ (a + 2)) 0 0 112)) (a + 1) (up1 (σ (a + 1)) 2 (σ t 2))) (a + 1) := by
      refine ⟨by rw [e1]; exact hs16, fun i i0 i1 => ?_⟩
      rw [e1] at i1
      rw [e2]
      exact hEh i i0 i1
    refine PW.aload_n dX4_know_20 rfl ?_
    refine PW.callVg (c_X4_findLoose hA hTv e1 (by rw [show (upS (upS σ (a + 2) (cpF (σ (t + 1)) (σ (a + 2)) 0 0 112)) (a + 1) (up1 (σ (a + 1)) 2 (σ t 2))) (a + 2) = (cpF (σ (t + 1)) (σ (a + 2)) 0 0 112) from e2, hlo]; exact hl4)) cv_X4_findLoose lk_X4_59 (by first | assumption | exact And.left (by assumption)) dX4_know_21 rfl rfl rfl rfl (fun r S' τ21 hq => ?_)
    obtain ⟨rfl, hS, ⟨w1, w2⟩, w3, w4⟩ := hq
    have hS2 := hS.symm
    subst hS2
    rw [show (upS (upS σ (a + 2) (cpF (σ (t + 1)) (σ (a + 2)) 0 0 112)) (a + 1) (up1 (σ (a + 1)) 2 (σ t 2))) (a + 2) = (cpF (σ (t + 1)) (σ (a + 2)) 0 0 112) from e2] at w3 w4
    have wT1 : τ21 (a + 1) = (upS (upS σ (a + 2) (cpF (σ (t + 1)) (σ (a + 2)) 0 0 112)) (a + 1) (up1 (σ (a + 1)) 2 (σ t 2))) (a + 1) := w1 _ (by omega) (by omega)
    have wT2 : τ21 (a + 2) = (cpF (σ (t + 1)) (σ (a + 2)) 0 0 112) := by rw [w1 _ (by omega) (by omega)]; exact e2
    refine PW.aload_n dX4_know_24 rfl ?_
    refine PW.getR fl_X4_31 rfl (by assumption) rfl dX4_know_25 ?_
    refine PW.iconst dX4_know_28 ?_
    refine PW.aload_n dX4_know_29 rfl ?_
    refine PW.getR fl_X4_31 rfl (by assumption) rfl dX4_know_30 ?_
    refine PW.alen (by assumption) (by decide) dX4_know_33 ?_
    refine PW.iconst dX4_know_34 ?_
    refine PW.callSv (c_X11_fill (by assumption) (by decide) (by first | assumption | (unfold inR; omega)) (by first | assumption | (unfold inR; omega))) cs_X11_fill lk_X4_62 dX4_know_35 rfl rfl rfl ?_
    refine PW.gst (fun μ hμ => ?_)
    have v1 : ∀ q, q ≠ a + 19 → μ q = τ21 q := fun q q1 => by rw [hμ, upS_ne q1]
    have v19 : ∀ j, 0 ≤ j → j < 1296 → μ (a + 19) j = 0 := fun j j0 j1 => by
      rw [hμ, upS_same]
      unfold flI
      rw [if_pos (by omega)]
    clear hμ
    have y6 : μ a 6 = looF (cpF (σ (t + 1)) (σ (a + 2)) 0 0 112) (σ t 2) := by rw [v1 a (by omega)]; exact w3
    have y1 : μ (a + 1) 2 = σ t 2 := by rw [v1 _ (by omega), wT1]; exact e1
    have y2 : μ (a + 2) = (cpF (σ (t + 1)) (σ (a + 2)) 0 0 112) := by rw [v1 _ (by omega)]; exact wT2
    have y9 : losA (cpF (σ (t + 1)) (σ (a + 2)) 0 0 112) (μ (a + 18)) (σ t 2) := by rw [v1 _ (by omega)]; exact w4
    have yc : colsOk μ (a + 4) 5 := colsOk_congr (fun x x0 x1 => by rw [v1 x (by omega), w1 x (by omega) (by omega), upS_ne (by omega), upS_ne (by omega)]) hco
    have hc4 : 0 ≤ looF (cpF (σ (t + 1)) (σ (a + 2)) 0 0 112) (σ t 2) ∧ looF (cpF (σ (t + 1)) (σ (a + 2)) 0 0 112) (σ t 2) ≤ 4 := by rw [hlo]; exact ⟨hlb.1, hl4⟩
    have hws := wyL_some hs16.1 hEh rfl hc4 y9
    refine PW.iconst dX4_know_38 ?_
    refine PW.istore_n [(0, _), (1, _), (2, _)] dX4_know_39 rfl (Nat.le_of_ble_eq_true rfl) ?_
    refine know_col (u := t) (H := (cpF (σ (t + 1)) (σ (a + 2)) 0 0 112)) (n := σ t 2) (c := looF (cpF (σ (t + 1)) (σ (a + 2)) 0 0 112) (σ t 2)) hA y1 hs16 hEh y6 rfl hc4 y9 (fun τ hI => ?_) 65 0 _ (by omega) (by omega) (by omega) ⟨fun _ _ => rfl, fun _ _ => rfl, rfl, y2, rfl, yc, fun h => absurd h (by decide), fun k g hk b b0 b1 => ?_, fun j j0 j1 => by rw [v19 j j0 j1]; decide⟩
    rotate_left
    · have hlt := (List.getElem?_eq_some_iff.mp hk).1
      rw [v19 _ (by omega) (by omega)]
      rfl
    obtain ⟨k1, k2, k3, k4, k5, k6, k7, k8, k9⟩ := hI
    refine PW.aload_n dX4_know_84 rfl ?_
    refine PW.callVg (c_X4_measure hA (k7 (by decide)) hws (fun j j0 j1 => by have := k9 j j0 j1; omega)) cv_X4_measure lk_X4_84 (by first | assumption | exact And.left (by assumption)) dX4_know_85 rfl rfl rfl rfl (fun r S' τ85 hq => ?_)
    obtain ⟨rfl, hS5, Lf, Uf, hτ, hLU⟩ := hq
    have hS6 := hS5.symm
    subst hS6
    refine PW.aload_n dX4_know_88 rfl ?_
    refine PW.iconst dX4_know_89 ?_
    refine PW.putI 8 fl_X4_47 rfl (fun h => absurd h (by decide)) (by assumption) rfl rfl rfl rfl dX4_know_90 ?_
    refine PW.vret rfl dX4_know_93 ⟨rfl, rfl, fun q hq => ?_, ?_, fun b b0 b1 => ?_, ?_⟩
    · rw [upS_ne (by omega), hτ, upS_ne (by omega), upS_ne (by omega), k1 q hq, v1 q (by omega), w1 q (by omega) (by omega), upS_ne (by omega), upS_ne (by omega)]
    · exact colsOk_congr (fun x x0 x1 => by rw [upS_ne (by omega), hτ, upS_ne (by omega), upS_ne (by omega)]) k6
    · have y := hLU b b0 b1
      have hkh : ∀ i, 0 ≤ i → i < σ t 2 → 0 ≤ (cpF (σ (t + 1)) (σ (a + 2)) 0 0 112) (7 * i) ∧ (cpF (σ (t + 1)) (σ (a + 2)) 0 0 112) (7 * i) ≤ 5 := fun i i0 i1 => (hEh i i0 i1).k
      have h20 : (upS τ85 a (up1 (τ85 a) 8 1)) (a + 20) = Lf := by rw [upS_ne (by omega), hτ, upS_ne (by omega), upS_same]
      have h21 : (upS τ85 a (up1 (τ85 a) 8 1)) (a + 21) = Uf := by rw [upS_ne (by omega), hτ, upS_same]
      rw [h20, h21]
      exact ⟨isLst_congr hkh (fun j j0 j1 => hcp j j0 (by omega)) (ends_lst hs16.1 hEh rfl hc4.1 y9 (fun i g hi => k8 i g hi b b0 b1) y.1), isGrt_congr hkh (fun j j0 j1 => hcp j j0 (by omega)) (ends_grt hs16.1 hEh rfl hc4.1 y9 (fun i g hi => k8 i g hi b b0 b1) y.2)⟩
    · rw [upS_same, up1_same]

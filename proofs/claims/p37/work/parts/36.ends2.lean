/-- the lands of the loose events' numbers, one after the other: P tells where the l-th loose event stands -/
def wyS (R : (Int → Int) → List (Int → Int)) (p : Int) (f : Int → Int) (e : Int) : List (Int → Int) := if suF (f (7 * p)) (xT 1 (f (7 * p))) (f (mnp f p) + e) then R (up1 f (mnp f p) (f (mnp f p) + e)) else []
def wyL (P : Int → Int) : Nat → Int → (Int → Int) → List (Int → Int)
  | 0, _, f => [f]
  | k + 1, l, f => wyS (wyL P k (l + 1)) (P l) f (-1) ++ wyS (wyL P k (l + 1)) (P l) f 0 ++ wyS (wyL P k (l + 1)) (P l) f 1
/-- those with a number ahead of e -/
def wyP (P : Int → Int) (k : Nat) (l : Int) (f : Int → Int) (e : Int) : List (Int → Int) := (if -1 < e then wyS (wyL P k (l + 1)) (P l) f (-1) else []) ++ (if 0 < e then wyS (wyL P k (l + 1)) (P l) f 0 else []) ++ (if 1 < e then wyS (wyL P k (l + 1)) (P l) f 1 else [])
theorem wyP_0 (P : Int → Int) (k : Nat) (l : Int) (f : Int → Int) : wyP P k l f (-1) = [] := by
  unfold wyP
  rw [if_neg (by omega), if_neg (by omega), if_neg (by omega)]
  rfl
theorem wyP_2 (P : Int → Int) (k : Nat) (l : Int) (f : Int → Int) : wyP P k l f 2 = wyL P (k + 1) l f := by
  unfold wyP
  rw [if_pos (by omega), if_pos (by omega), if_pos (by omega)]
  rfl
theorem wyP_s (P : Int → Int) (k : Nat) (l : Int) (f : Int → Int) {e : Int} (h : -1 ≤ e ∧ e ≤ 1) : wyP P k l f (e + 1) = wyP P k l f e ++ wyS (wyL P k (l + 1)) (P l) f e := by
  rcases (show e = -1 ∨ e = 0 ∨ e = 1 by omega) with rfl | rfl | rfl
  · unfold wyP
    rw [if_pos (by omega), if_neg (by omega), if_neg (by omega), if_neg (by omega), if_neg (by omega), if_neg (by omega)]
    simp
  · unfold wyP
    rw [if_pos (by omega), if_pos (by omega), if_neg (by omega), if_pos (by omega), if_neg (by omega), if_neg (by omega)]
    simp
  · unfold wyP
    rw [if_pos (by omega), if_pos (by omega), if_pos (by omega), if_pos (by omega), if_pos (by omega), if_neg (by omega)]
    simp
theorem wyP_le (P : Int → Int) (k : Nat) (l : Int) (f : Int → Int) {e : Int} : (wyP P k l f e).length ≤ (wyL P (k + 1) l f).length := by
  rw [← wyP_2]
  unfold wyP
  rw [if_pos (show (-1 : Int) < 2 by omega), if_pos (show (0 : Int) < 2 by omega), if_pos (show (1 : Int) < 2 by omega)]
  simp only [List.length_append]
  have h1 : (if -1 < e then wyS (wyL P k (l + 1)) (P l) f (-1) else []).length ≤ (wyS (wyL P k (l + 1)) (P l) f (-1)).length := by
    split
    · exact Nat.le_refl _
    · exact Nat.zero_le _
  have h2 : (if 0 < e then wyS (wyL P k (l + 1)) (P l) f 0 else []).length ≤ (wyS (wyL P k (l + 1)) (P l) f 0).length := by
    split
    · exact Nat.le_refl _
    · exact Nat.zero_le _
  have h3 : (if 1 < e then wyS (wyL P k (l + 1)) (P l) f 1 else []).length ≤ (wyS (wyL P k (l + 1)) (P l) f 1).length := by
    split
    · exact Nat.le_refl _
    · exact Nat.zero_le _
  omega
theorem wyS_len {R : (Int → Int) → List (Int → Int)} {b : Nat} (h : ∀ g, (R g).length ≤ b) (p : Int) (f : Int → Int) (e : Int) : (wyS R p f e).length ≤ b := by
  unfold wyS
  split
  · exact h _
  · exact Nat.zero_le _
theorem wyL_len (P : Int → Int) : ∀ (k : Nat) (l : Int) (f : Int → Int), (wyL P k l f).length ≤ 3 ^ k
  | 0, _, _ => Nat.le_refl _
  | k + 1, l, f => by
    have h1 := wyS_len (wyL_len P k (l + 1)) (P l) f (-1)
    have h2 := wyS_len (wyL_len P k (l + 1)) (P l) f 0
    have h3 := wyS_len (wyL_len P k (l + 1)) (P l) f 1
    simp only [wyL, List.length_append]
    rw [Nat.pow_succ]
    omega
theorem losP_up {f : Int → Int} {i v : Int} (hk : 0 ≤ f (7 * i) ∧ f (7 * i) ≤ 5) (q : Int) : losP (up1 f (mnp f i) v) q ↔ losP f q := by
  unfold losP
  rw [(up_kind hk q).2]
theorem looF_up {f : Int → Int} {i v : Int} (hk : 0 ≤ f (7 * i) ∧ f (7 * i) ≤ 5) (n : Int) : looF (up1 f (mnp f i) v) n = looF f n := sumI_congr fun q _ _ => b01_congr (losP_up hk q)
theorem losA_up {f la : Int → Int} {i v n : Int} (hk : 0 ≤ f (7 * i) ∧ f (7 * i) ≤ 5) (h : losA f la n) : losA (up1 f (mnp f i) v) la n := by
  intro q q0 q1 q2
  rw [looF_up hk]
  exact h q q0 q1 ((losP_up hk q).mp q2)
theorem evOk_all {f : Int → Int} {p v n : Int} (p0 : 0 ≤ p) (p1 : p < n) (hE : ∀ i, 0 ≤ i → i < n → evOk f i) (hs : suF (f (7 * p)) (xT 1 (f (7 * p))) v) : ∀ q, 0 ≤ q → q < n → evOk (up1 f (mnp f p) v) q := fun q q0 q1 => by
  by_cases x : q = p
  · rw [x]
    exact (evOk_var (hE p p0 p1) hs).1
  · exact evOk_keep (hE p p0 p1).k (hE q q0 q1) x
/-- they are the lands of the loose events' numbers, and all of them -/
theorem wyL_iff {la : Int → Int} {n c : Int} (hn : 0 ≤ n) : ∀ (k : Nat) (l : Int) (f : Int → Int), 0 ≤ l → c - l = k → (∀ i, 0 ≤ i → i < n → evOk f i) → looF f n = c → losA f la n → (∀ g, g ∈ wyL (liF la c n) k l f → vrR f g (liF la c n l) n) ∧ ∀ g, vrR f g (liF la c n l) n → ∃ g', g' ∈ wyL (liF la c n) k l f ∧ ∀ j, 0 ≤ j → j < 7 * n → g j = g' j
  | 0, l, f, hl, hk, hE, hc, hla => by
    have e : liF la c n l = n := by unfold liF; rw [if_neg (by omega)]
    rw [e]
    refine ⟨fun g hg => ?_, fun g hg => ⟨f, ?_, vrR_end hg⟩⟩
    · rw [show g = f from List.mem_singleton.mp hg]
      exact vrR_refl hn hE
    · exact List.mem_singleton.mpr rfl
  | k + 1, l, f, hl, hk, hE, hc, hla => by
    have hlc : l < looF f n := by omega
    have hat := liF_at hn hla hl hlc
    have hgp := liF_gap hn hla hl hlc
    have hkd : ∀ i, 0 ≤ i → i < n → 0 ≤ f (7 * i) ∧ f (7 * i) ≤ 5 := fun i i0 i1 => (hE i i0 i1).k
    rw [hc] at hat hgp
    obtain ⟨⟨p0, p1⟩, hlp, -⟩ := hat
    obtain ⟨gp1, gp2⟩ := hgp
    have ih : ∀ e, suF (f (7 * liF la c n l)) (xT 1 (f (7 * liF la c n l))) (f (mnp f (liF la c n l)) + e) → _ := fun e hs => wyL_iff (la := la) (c := c) hn k (l + 1) (up1 f (mnp f (liF la c n l)) (f (mnp f (liF la c n l)) + e)) (by omega) (by omega) (evOk_all p0 p1 hE hs) (by rw [looF_up (hkd _ p0 p1)]; exact hc) (losA_up (hkd _ p0 p1) hla)
    have key : ∀ e, -1 ≤ e → e ≤ 1 → ∀ g, g ∈ wyS (wyL (liF la c n) k (l + 1)) (liF la c n l) f e → vrR f g (liF la c n l) n := fun e e0 e1 g hg => by
      unfold wyS at hg
      by_cases hs : suF (f (7 * liF la c n l)) (xT 1 (f (7 * liF la c n l))) (f (mnp f (liF la c n l)) + e)
      · rw [if_pos hs] at hg
        exact (vrR_join hkd p0 p1 hlp gp1 gp2 ⟨e0, e1⟩ hs ((ih e hs).1 g hg)).1
      · rw [if_neg hs] at hg
        exact absurd hg List.not_mem_nil
    refine ⟨fun g hg => ?_, fun g hg => ?_⟩
    · rcases List.mem_append.mp hg with hg | hg
      · rcases List.mem_append.mp hg with hg | hg
        · exact key (-1) (by decide) (by decide) g hg
        · exact key 0 (by decide) (by decide) g hg
      · exact key 1 (by decide) (by decide) g hg
    · obtain ⟨e, e0, e1, hs, -, hv⟩ := vrR_split hkd p0 p1 hlp gp1 gp2 hg
      obtain ⟨g', h1, h2⟩ := (ih e hs).2 g hv
      have h3 : g' ∈ wyS (wyL (liF la c n) k (l + 1)) (liF la c n l) f e := by
        unfold wyS
        rw [if_pos hs]
        exact h1
      refine ⟨g', ?_, h2⟩
      rcases (show e = -1 ∨ e = 0 ∨ e = 1 by omega) with rfl | rfl | rfl
      · exact List.mem_append.mpr (Or.inl (List.mem_append.mpr (Or.inl h3)))
      · exact List.mem_append.mpr (Or.inl (List.mem_append.mpr (Or.inr h3)))
      · exact List.mem_append.mpr (Or.inr h3)
/-- the amounts of a column are added for one way after the other, from the w-th on -/
def adW (y n : Int) : (Int → Int) → Int → List (Int → Int) → (Int → Int)
  | m, _, [] => m
  | m, w, g :: L => adW y n (ciF (tlF g y zF n.toNat) m (w * 16) 80) (w + 1) L
theorem ciF_eq {c e : Int → Int} (h : eq8 c e) (m : Int → Int) (pl : Int) : ciF c m pl 80 = ciF e m pl 80 := by
  funext j
  unfold ciF
  rw [show clG c (j - pl) 80 = clG e (j - pl) 80 from clF_eq h (j - pl)]
theorem ciF_80 (c m : Int → Int) (pl j : Int) : m j ≤ ciF c m pl 80 j ∧ ciF c m pl 80 j ≤ m j + 80 := by
  have h : 0 ≤ clG c (j - pl) 80 ∧ clG c (j - pl) 80 ≤ 80 := clF_b c (j - pl)
  unfold ciF
  split <;> omega
theorem ciF_no (c m : Int → Int) {pl j : Int} (h : j < pl ∨ pl + 16 ≤ j) : ciF c m pl 80 j = m j := by
  unfold ciF
  rw [if_neg (by omega)]
  omega
theorem adW_app (y n : Int) : ∀ (L1 : List (Int → Int)) (m : Int → Int) (w : Int) (L2 : List (Int → Int)), adW y n m w (L1 ++ L2) = adW y n (adW y n m w L1) (w + L1.length) L2
  | [], m, w, L2 => by
    show adW y n m w L2 = adW y n m (w + ((0 : Nat) : Int)) L2
    rw [show w + ((0 : Nat) : Int) = w by omega]
  | g :: L1, m, w, L2 => by
    show adW y n (ciF (tlF g y zF n.toNat) m (w * 16) 80) (w + 1) (L1 ++ L2) = adW y n (adW y n (ciF (tlF g y zF n.toNat) m (w * 16) 80) (w + 1) L1) (w + ((L1.length + 1 : Nat) : Int)) L2
    rw [adW_app y n L1 _ (w + 1) L2, show w + 1 + (L1.length : Int) = w + ((L1.length + 1 : Nat) : Int) by omega]
theorem adW_lo (y n : Int) : ∀ (L : List (Int → Int)) (m : Int → Int) (w j : Int), j < w * 16 → adW y n m w L j = m j
  | [], _, _, _, _ => rfl
  | g :: L, m, w, j, h => by
    show adW y n (ciF (tlF g y zF n.toNat) m (w * 16) 80) (w + 1) L j = m j
    rw [adW_lo y n L _ (w + 1) j (by omega)]
    exact ciF_no _ _ (by omega)
theorem adW_80 (y n : Int) : ∀ (L : List (Int → Int)) (m : Int → Int) (w j : Int), m j ≤ adW y n m w L j ∧ adW y n m w L j ≤ m j + 80
  | [], m, _, j => ⟨Int.le_refl _, by show m j ≤ m j + 80; omega⟩
  | g :: L, m, w, j => by
    show m j ≤ adW y n (ciF (tlF g y zF n.toNat) m (w * 16) 80) (w + 1) L j ∧ adW y n (ciF (tlF g y zF n.toNat) m (w * 16) 80) (w + 1) L j ≤ m j + 80
    by_cases h : j < (w + 1) * 16
    · rw [adW_lo y n L _ (w + 1) j h]
      exact ciF_80 _ _ _ _
    · have ih := adW_80 y n L (ciF (tlF g y zF n.toNat) m (w * 16) 80) (w + 1) j
      rw [ciF_no _ _ (show j < w * 16 ∨ w * 16 + 16 ≤ j by omega)] at ih
      exact ih
theorem adW_bl (y n : Int) (L : List (Int → Int)) (m : Int → Int) (w j : Int) : m j ≤ adW y n m w L j ∧ adW y n m w L j ≤ m j + 80 * (L.length : Int) := by
  cases L with
  | nil => exact ⟨Int.le_refl _, by show m j ≤ m j + 80 * ((0 : Nat) : Int); omega⟩
  | cons g L =>
    have h := adW_80 y n (g :: L) m w j
    have e : ((g :: L).length : Int) = (L.length : Int) + 1 := by simp
    rw [e]
    omega
theorem adW_at (y n : Int) : ∀ (L : List (Int → Int)) (m : Int → Int) (w : Int) (i : Nat) (g : Int → Int) (b : Int), L[i]? = some g → 0 ≤ b → b < 16 → adW y n m w L ((w + (i : Int)) * 16 + b) = m ((w + (i : Int)) * 16 + b) + clF (tlF g y zF n.toNat) b
  | [], _, _, _, _, _, h, _, _ => by simp at h
  | g0 :: L, m, w, 0, g, b, h, b0, b1 => by
    have e : g0 = g := by simpa using h
    subst e
    show adW y n (ciF (tlF g0 y zF n.toNat) m (w * 16) 80) (w + 1) L ((w + ((0 : Nat) : Int)) * 16 + b) = _
    rw [adW_lo y n L _ (w + 1) _ (by omega)]
    unfold ciF
    rw [if_pos (by omega), show (w + ((0 : Nat) : Int)) * 16 + b - w * 16 = b by omega]
    rfl
  | g0 :: L, m, w, i + 1, g, b, h, b0, b1 => by
    have h' : L[i]? = some g := by simpa using h
    show adW y n (ciF (tlF g0 y zF n.toNat) m (w * 16) 80) (w + 1) L ((w + ((i + 1 : Nat) : Int)) * 16 + b) = _
    have ih := adW_at y n L (ciF (tlF g0 y zF n.toNat) m (w * 16) 80) (w + 1) i g b h' b0 b1
    rw [show w + 1 + (i : Int) = w + ((i + 1 : Nat) : Int) by omega] at ih
    rw [ih, ciF_no _ _ (show (w + ((i + 1 : Nat) : Int)) * 16 + b < w * 16 ∨ w * 16 + 16 ≤ (w + ((i + 1 : Nat) : Int)) * 16 + b by omega)]
def vaFr (σ τ : Sto) (a : Nat) (l : Int) : Prop := (∀ q, q < a ∨ a + 22 ≤ q → τ q = σ q) ∧ (∀ j, j ≠ 7 → τ a j = σ a j) ∧ τ (a + 1) = σ (a + 1) ∧ τ (a + 18) = σ (a + 18) ∧ (∀ q, 0 ≤ q → q ≤ l → τ (cA (a + 4) q + 1) = σ (cA (a + 4) q + 1)) ∧ colsOk τ (a + 4) 5
def vaP (σ τ : Sto) (a : Nat) (f : Int → Int) (l n y : Int) (L : List (Int → Int)) : Prop := vaFr σ τ a l ∧ τ (a + 2) = f ∧ τ a 7 = σ a 7 + L.length ∧ τ (a + 19) = adW y n (σ (a + 19)) (σ a 7) L
theorem cA_ne {a : Nat} {q r : Int} (q0 : 0 ≤ q) (r0 : 0 ≤ r) (h : q ≠ r) : cA (a + 4) q + 1 ≠ cA (a + 4) r + 1 := by
  unfold cA
  omega
theorem vary_0 {G : GT} {S : Shp} {σ : Sto} {a : Nat} {f : Int → Int} {l n c y : Int} (hA : IsEnds S a) (hn : σ (a + 1) 2 = n) (hT : taOk σ (a + 1)) (hf : σ (a + 2) = f) (hc : σ a 6 = c) (hcl : looF f n = c) (hc4 : c ≤ 4) (hla : losA f (σ (a + 18)) n) (hl : 0 ≤ l) (hkk : c - l = 0) (hy : 0 ≤ y ∧ y ≤ 63) (hst : eq8 (σ (cA (a + 4) l + 1)) (tlF f y zF (liF (σ (a + 18)) c n l).toNat)) (hco : colsOk σ (a + 4) 5) (hw : 0 ≤ σ a 7 ∧ σ a 7 + ((wyL (liF (σ (a + 18)) c n) 0 l f).length : Int) ≤ 81) (hb : ∀ j, 0 ≤ j → j < 1296 → 0 ≤ σ (a + 19) j ∧ σ (a + 19) j ≤ 6000 + 80 * σ a 7) : PMet G mX4_vary 6 0 0 [.ref a, .int (iI l), .int (iI y)] S σ (fun r S' σ' => r = none ∧ S' = S ∧ vaP σ σ' a f l n y (wyL (liF (σ (a + 18)) c n) 0 l f)) := by
  obtain ⟨hA0, hA1, hA4, hA18, hA19, hA20, hA21⟩ := id hA
  have hT0 := hA1.1
  obtain ⟨hC0, hC1, hC2, hCs⟩ := id hA4
  have hn16 := hT.1
  rw [hn] at hn16
  have hEf : ∀ i, 0 ≤ i → i < n → evOk f i := fun i i0 i1 => by
    have := hT.2 i i0 (by omega)
    rw [show σ (a + 1 + 1) = f from hf] at this
    exact this
  have hkd : ∀ i, 0 ≤ i → i < n → 0 ≤ f (7 * i) ∧ f (7 * i) ≤ 5 := fun i i0 i1 => (hEf i i0 i1).k
  have hL := hCs l hl (by omega)
  have hcl2 := hco l hl (by omega)
  have hlc : l = c := by omega
  have hli : liF (σ (a + 18)) c n l = n := by unfold liF; rw [if_neg (by omega)]
  rw [hli] at hst
  have hw2 : σ a 7 + ((1 : Nat) : Int) ≤ 81 := hw.2
  obtain ⟨w, hw7⟩ : ∃ w, σ a 7 = w := ⟨_, rfl⟩
  rw [hw7] at hw hw2 hb
  refine PMet.of [(0, .ref a), (1, .int (iI (l))), (2, .int (iI (y)))] (by decide +kernel) rfl (Nat.le_of_ble_eq_true rfl) ?_
  refine PW.iload_n dX4_vary_0 rfl ?_
  refine PW.aload_n dX4_vary_1 rfl ?_
  refine PW.getI 6 fl_X4_40 rfl (by assumption) rfl rfl dX4_vary_2 ?_
  refine PW.top c hc ?_
  refine PW.icmp_ge 13 dX4_vary_5 (by decide) (by first | assumption | (unfold inR; omega)) (by first | assumption | (unfold inR; omega)) (fun h5 => ?_) (fun h5 => ?_)
  · refine PW.aload_n dX4_vary_13 rfl ?_
    refine PW.getR fl_X4_23 rfl (by assumption) rfl dX4_vary_14 ?_
    refine PW.iload_n dX4_vary_17 rfl ?_
    refine PW.callVr (c_X2_of hA4 (by decide) (by omega) (by omega)) cv_X2_of lk_X4_66 (by first | assumption | exact And.left (by assumption)) dX4_vary_18 rfl rfl rfl rfl ?_
    refine PW.aload_n dX4_vary_21 rfl ?_
    refine PW.getR fl_X4_31 rfl (by assumption) rfl dX4_vary_22 ?_
    refine PW.aload_n dX4_vary_25 rfl ?_
    refine PW.getI 7 fl_X4_44 rfl (by assumption) rfl rfl dX4_vary_26 ?_
    refine PW.top w hw7 ?_
    refine PW.bipush (by decide) dX4_vary_29 ?_
    refine PW.imul dX4_vary_31 ?_
    refine PW.callVv (c_X1_countInto hL hA19 (by decide) ⟨by omega, by omega⟩ (by unfold cA; omega) hcl2 (fun j j0 j1 => by have := hb j (by omega) (by omega); omega)) cv_X1_countInto lk_X4_99 (by first | assumption | exact And.left (by assumption)) dX4_vary_32 rfl rfl rfl rfl ?_
    refine PW.aload_n dX4_vary_35 rfl ?_
    refine PW.dup rfl dX4_vary_36 ?_
    refine PW.getI 7 fl_X4_44 rfl (by assumption) rfl rfl dX4_vary_37 ?_
    refine PW.top w (by rw [upS_ne (by omega)]; exact hw7) ?_
    refine PW.iconst dX4_vary_40 ?_
    refine PW.iadd dX4_vary_41 ?_
    refine PW.putI 7 fl_X4_44 rfl (fun h => absurd h (by decide)) (by assumption) rfl rfl rfl rfl dX4_vary_42 ?_
    refine PW.vret rfl dX4_vary_45 ⟨rfl, rfl, ⟨fun q hq => ?_, fun j hj => ?_, ?_, ?_, fun q q0 q1 => ?_, ?_⟩, ?_, ?_, ?_⟩
    · rw [upS_ne (by omega), upS_ne (by omega)]
    · rw [upS_same, up1_ne hj, upS_ne (by omega)]
    · rw [upS_ne (by omega), upS_ne (by omega)]
    · rw [upS_ne (by omega), upS_ne (by omega)]
    · rw [upS_ne (by unfold cA; omega), upS_ne (by unfold cA; omega)]
    · exact colsOk_congr (fun x x0 x1 => by rw [upS_ne (by omega), upS_ne (by omega)]) hco
    · rw [upS_ne (by omega), upS_ne (by omega)]; exact hf
    · rw [upS_same, up1_same, hw7]
      rfl
    · rw [upS_ne (by omega), upS_same, hw7]
      exact ciF_eq hst _ _
  · exfalso; omega
set_option maxRecDepth 20000 in
theorem vary_lp1 {G : GT} {S : Shp} {σ : Sto} {a : Nat} {f : Int → Int} {l n c y : Int} {p : Int} {Q : Option Value → Shp → Sto → Prop} (hA : IsEnds S a) (hn : σ (a + 1) 2 = n) (hT : taOk σ (a + 1)) (hf : σ (a + 2) = f) (hc : σ a 6 = c) (hcl : looF f n = c) (hc4 : c ≤ 4) (hla : losA f (σ (a + 18)) n) (hl : 0 ≤ l) (hkk : c - l = 1) (hy : 0 ≤ y ∧ y ≤ 63) (hst : eq8 (σ (cA (a + 4) l + 1)) (tlF f y zF (liF (σ (a + 18)) c n l).toNat)) (hco : colsOk σ (a + 4) 5) (hw : 0 ≤ σ a 7 ∧ σ a 7 + ((wyL (liF (σ (a + 18)) c n) 1 l f).length : Int) ≤ 81) (hb : ∀ j, 0 ≤ j → j < 1296 → 0 ≤ σ (a + 19) j ∧ σ (a + 19) j ≤ 6000 + 80 * σ a 7) (hp : liF (σ (a + 18)) c n l = p) (hQ : ∀ τ : Sto, vaP σ τ a f l n y (wyL (liF (σ (a + 18)) c n) 1 l f) → Q none S τ) : ∀ (t : Nat) (i : Int) (τ : Sto) (v : Int), -1 ≤ i → i ≤ 2 → 2 - i < t → vaFr σ τ a l → τ (a + 2) = up1 f (mnp f p) v → τ a 7 = σ a 7 + ((wyP (liF (σ (a + 18)) c n) 0 l f i).length : Int) → τ (a + 19) = adW y n (σ (a + 19)) (σ a 7) (wyP (liF (σ (a + 18)) c n) 0 l f i) → PW (fm G mX4_vary 7 0 0 Q) G S (τ) 0 0 84 [(0, .ref a), (1, .int (iI (l))), (2, .int (iI (y))), (3, .int (iI (p))), (4, .int (iI (f (7 * p)))), (5, .int (iI (xT 1 (f (7 * p))))), (6, .int (iI (f (mnp f p)))), (7, .int (iI (i)))] [] := by
  obtain ⟨hA0, hA1, hA4, hA18, hA19, hA20, hA21⟩ := id hA
  have hT0 := hA1.1
  obtain ⟨hC0, hC1, hC2, hCs⟩ := id hA4
  have hn16 := hT.1
  rw [hn] at hn16
  have hEf : ∀ i, 0 ≤ i → i < n → evOk f i := fun i i0 i1 => by
    have := hT.2 i i0 (by omega)
    rw [show σ (a + 1 + 1) = f from hf] at this
    exact this
  have hkd : ∀ i, 0 ≤ i → i < n → 0 ≤ f (7 * i) ∧ f (7 * i) ≤ 5 := fun i i0 i1 => (hEf i i0 i1).k
  have hlf := liF_at (f := f) (la := σ (a + 18)) (n := n) (l := l) (by omega) hla hl (by omega)
  have hgp := liF_gap (f := f) (la := σ (a + 18)) (n := n) (l := l) (by omega) hla hl (by omega)
  rw [hcl] at hlf hgp
  rw [hp] at hlf hgp
  obtain ⟨⟨p0, p1⟩, hlp, hcp⟩ := hlf
  have gp1 := hgp.1
  clear hgp
  have hnx := liF_b (f := f) (la := σ (a + 18)) (n := n) (l := l + 1) (by omega) hla (by omega)
  rw [hcl] at hnx
  have hkp := hkd p p0 p1
  have hx1 := xT_1 hkp
  have hmp := mnp_b hkp
  have hnum := (hEf p p0 p1).2.1 (xT 1 (f (7 * p))) hx1.1 hx1.2
  have hnum2 : -40 ≤ f (mnp f p) ∧ f (mnp f p) ≤ 39 := hnum
  have hS1 := hCs (l + 1) (by omega) (by omega)
  have hS0 := hCs l hl (by omega)
  intro t
  induction t with
  | zero => intro i τ v h1 h2 h3 g1 g2 g3 g4; omega
  | succ t ih =>
    intro i τ v h1 h2 h3 g1 g2 g3 g4
    obtain ⟨f1, f2, f3, f4, f5, f6⟩ := id g1
    refine PW.iload dX4_vary_84 rfl ?_
    refine PW.iconst dX4_vary_86 ?_
    refine PW.icmp_gt 171 dX4_vary_87 (by decide) (by first | assumption | (unfold inR; omega)) (by first | assumption | (unfold inR; omega)) (fun h87 => ?_) (fun h87 => ?_)
    · refine PW.aload_n dX4_vary_171 rfl ?_
      refine PW.getR fl_X4_12 rfl (by assumption) rfl dX4_vary_172 ?_
      refine PW.iload_n dX4_vary_175 rfl ?_
      refine PW.iload dX4_vary_176 rfl ?_
      refine PW.iload dX4_vary_178 rfl ?_
      refine PW.callVv (c_X8_setNumber (by assumption) (by omega) (by omega)) cv_X8_setNumber lk_X4_119 (by first | assumption | exact And.left (by assumption)) dX4_vary_180 rfl rfl rfl rfl ?_
      have hi : i = 2 := by omega
      subst hi
      rw [wyP_2] at g3 g4
      refine PW.vret rfl dX4_vary_183 (hQ _ ⟨⟨fun q hq => ?_, fun j hj => ?_, ?_, ?_, fun q q0 q1 => ?_, ?_⟩, ?_, ?_, ?_⟩)
      · rw [upS_ne (by omega)]; exact f1 q hq
      · rw [upS_ne (by omega)]; exact f2 j hj
      · rw [upS_ne (by omega)]; exact f3
      · rw [upS_ne (by omega)]; exact f4
      · rw [upS_ne (by unfold cA; omega)]; exact f5 q q0 q1
      · exact colsOk_congr (fun x x0 x1 => upS_ne (by omega)) f6
      · show upS τ (a + 2) (up1 (τ (a + 2)) (mnp f p) (f (mnp f p))) (a + 2) = f
        rw [upS_same, g2, up1_up1, up1_self]
      · rw [upS_ne (by omega)]; exact g3
      · rw [upS_ne (by omega)]; exact g4
    · refine PW.iload dX4_vary_90 rfl ?_
      refine PW.iload dX4_vary_92 rfl ?_
      refine PW.iload dX4_vary_94 rfl ?_
      refine PW.iload dX4_vary_96 rfl ?_
      refine PW.iadd dX4_vary_98 ?_
      refine PW.callSr (c_X5_suits hkp hx1 (by unfold inR; omega)) cs_X5_suits lk_X4_115 dX4_vary_99 rfl rfl rfl ?_
      refine PW.if_neB 108 dX4_vary_102 (by decide) (fun h102 => ?_) (fun h102 => ?_)
      · have hsu : suF (f (7 * p)) (xT 1 (f (7 * p))) (f (mnp f p) + i) := by assumption
        have hE1 := evOk_all p0 p1 hEf hsu
        refine PW.aload_n dX4_vary_108 rfl ?_
        refine PW.getR fl_X4_12 rfl (by assumption) rfl dX4_vary_109 ?_
        refine PW.iload_n dX4_vary_112 rfl ?_
        refine PW.iload dX4_vary_113 rfl ?_
        refine PW.iload dX4_vary_115 rfl ?_
        refine PW.iload dX4_vary_117 rfl ?_
        refine PW.iadd dX4_vary_119 ?_
        refine PW.callVv (c_X8_setNumber hA1 (by omega) hx1) cv_X8_setNumber lk_X4_119 (by first | assumption | exact And.left (by assumption)) dX4_vary_120 rfl rfl rfl rfl ?_
        refine PW.st (upS τ (a + 2) (up1 f (mnp f p) (f (mnp f p) + i))) (by show upS τ (a + 2) (up1 (τ (a + 2)) (mnp f p) (f (mnp f p) + i)) = _; rw [g2, up1_up1]) ?_
        refine PW.aload_n dX4_vary_123 rfl ?_
        refine PW.getR fl_X4_23 rfl (by assumption) rfl dX4_vary_124 ?_
        refine PW.iload_n dX4_vary_127 rfl ?_
        refine PW.iconst dX4_vary_128 ?_
        refine PW.iadd dX4_vary_129 ?_
        refine PW.callVr (c_X2_of hA4 (by decide) (by omega) (by omega)) cv_X2_of lk_X4_66 (by first | assumption | exact And.left (by assumption)) dX4_vary_130 rfl rfl rfl rfl ?_
        refine PW.aload_n dX4_vary_133 rfl ?_
        refine PW.getR fl_X4_23 rfl (by assumption) rfl dX4_vary_134 ?_
        refine PW.iload_n dX4_vary_137 rfl ?_
        refine PW.callVr (c_X2_of hA4 (by decide) (by omega) (by omega)) cv_X2_of lk_X4_66 (by first | assumption | exact And.left (by assumption)) dX4_vary_138 rfl rfl rfl rfl ?_
        refine PW.aload_n dX4_vary_141 rfl ?_
        refine PW.getR fl_X4_12 rfl (by assumption) rfl dX4_vary_142 ?_
        refine PW.iload_n dX4_vary_145 rfl ?_
        refine PW.aload_n dX4_vary_146 rfl ?_
        refine PW.iload_n dX4_vary_147 rfl ?_
        refine PW.iconst dX4_vary_148 ?_
        refine PW.iadd dX4_vary_149 ?_
        refine PW.callVr (c_X4_looseIndex (c := c) (n := n) hA (by rw [upS_ne (by omega), f2 6 (by decide)]; exact hc) (by omega) (by rw [upS_ne (by omega), f3]; exact hn) (by omega)) cv_X4_looseIndex lk_X4_70 (by first | assumption | exact And.left (by assumption)) dX4_vary_150 rfl rfl rfl rfl ?_
        refine PW.top (liF (σ (a + 18)) c n (l + 1)) (by rw [upS_ne (show a + 18 ≠ a + 2 by omega), f4]) ?_
        have q1 : (upS τ (a + 2) (up1 f (mnp f p) (f (mnp f p) + i))) (a + 1 + 1) = (up1 f (mnp f p) (f (mnp f p) + i)) := upS_same _ _ _
        have q2 : (upS τ (a + 2) (up1 f (mnp f p) (f (mnp f p) + i))) (cA (a + 4) (l + 1) + 1) = τ (cA (a + 4) (l + 1) + 1) := upS_ne (by unfold cA; omega)
        have q3 : (upS τ (a + 2) (up1 f (mnp f p) (f (mnp f p) + i))) (cA (a + 4) l + 1) = τ (cA (a + 4) l + 1) := upS_ne (by unfold cA; omega)
        refine PW.iload_n dX4_vary_153 rfl ?_
        refine PW.callVv (c_X1_goOnFrom hS1 hA1 (fun q q0 q1x => by rw [q1]; exact hE1 q (by omega) (by omega)) (by omega) (by unfold cA; omega) hy hS0 (by rw [q3]; exact f6 l hl (by omega))) cv_X1_goOnFrom lk_X4_123 (by first | assumption | exact And.left (by assumption)) dX4_vary_154 rfl rfl rfl rfl ?_
        refine PW.st (upS (upS τ (a + 2) (up1 f (mnp f p) (f (mnp f p) + i))) (cA (a + 4) (l + 1) + 1) (goF (up1 f (mnp f p) (f (mnp f p) + i)) y (cp8 (τ (cA (a + 4) (l + 1) + 1)) (τ (cA (a + 4) l + 1))) p (liF (σ (a + 18)) c n (l + 1) - p).toNat)) (by rw [q1, q2, q3]) ?_
        have s1 : ∀ q, q ≠ cA (a + 4) (l + 1) + 1 → q ≠ a + 2 → (upS (upS τ (a + 2) (up1 f (mnp f p) (f (mnp f p) + i))) (cA (a + 4) (l + 1) + 1) (goF (up1 f (mnp f p) (f (mnp f p) + i)) y (cp8 (τ (cA (a + 4) (l + 1) + 1)) (τ (cA (a + 4) l + 1))) p (liF (σ (a + 18)) c n (l + 1) - p).toNat)) q = τ q := fun q h1 h2 => by rw [upS_ne h1, upS_ne h2]
        have z2 : (upS (upS τ (a + 2) (up1 f (mnp f p) (f (mnp f p) + i))) (cA (a + 4) (l + 1) + 1) (goF (up1 f (mnp f p) (f (mnp f p) + i)) y (cp8 (τ (cA (a + 4) (l + 1) + 1)) (τ (cA (a + 4) l + 1))) p (liF (σ (a + 18)) c n (l + 1) - p).toNat)) (a + 2) = (up1 f (mnp f p) (f (mnp f p) + i)) := by rw [upS_ne (by unfold cA; omega), upS_same]
        have z1 : (upS (upS τ (a + 2) (up1 f (mnp f p) (f (mnp f p) + i))) (cA (a + 4) (l + 1) + 1) (goF (up1 f (mnp f p) (f (mnp f p) + i)) y (cp8 (τ (cA (a + 4) (l + 1) + 1)) (τ (cA (a + 4) l + 1))) p (liF (σ (a + 18)) c n (l + 1) - p).toNat)) (a + 1) = σ (a + 1) := by rw [s1 _ (by unfold cA; omega) (by omega), f3]
        have z0 : (upS (upS τ (a + 2) (up1 f (mnp f p) (f (mnp f p) + i))) (cA (a + 4) (l + 1) + 1) (goF (up1 f (mnp f p) (f (mnp f p) + i)) y (cp8 (τ (cA (a + 4) (l + 1) + 1)) (τ (cA (a + 4) l + 1))) p (liF (σ (a + 18)) c n (l + 1) - p).toNat)) a = τ a := s1 _ (by unfold cA; omega) (by omega)
        have z18 : (upS (upS τ (a + 2) (up1 f (mnp f p) (f (mnp f p) + i))) (cA (a + 4) (l + 1) + 1) (goF (up1 f (mnp f p) (f (mnp f p) + i)) y (cp8 (τ (cA (a + 4) (l + 1) + 1)) (τ (cA (a + 4) l + 1))) p (liF (σ (a + 18)) c n (l + 1) - p).toNat)) (a + 18) = σ (a + 18) := by rw [s1 _ (by unfold cA; omega) (by omega), f4]
        have z19 : (upS (upS τ (a + 2) (up1 f (mnp f p) (f (mnp f p) + i))) (cA (a + 4) (l + 1) + 1) (goF (up1 f (mnp f p) (f (mnp f p) + i)) y (cp8 (τ (cA (a + 4) (l + 1) + 1)) (τ (cA (a + 4) l + 1))) p (liF (σ (a + 18)) c n (l + 1) - p).toNat)) (a + 19) = τ (a + 19) := s1 _ (by unfold cA; omega) (by omega)
        have zc : (upS (upS τ (a + 2) (up1 f (mnp f p) (f (mnp f p) + i))) (cA (a + 4) (l + 1) + 1) (goF (up1 f (mnp f p) (f (mnp f p) + i)) y (cp8 (τ (cA (a + 4) (l + 1) + 1)) (τ (cA (a + 4) l + 1))) p (liF (σ (a + 18)) c n (l + 1) - p).toNat)) (cA (a + 4) (l + 1) + 1) = (goF (up1 f (mnp f p) (f (mnp f p) + i)) y (cp8 (τ (cA (a + 4) (l + 1) + 1)) (τ (cA (a + 4) l + 1))) p (liF (σ (a + 18)) c n (l + 1) - p).toNat) := upS_same _ _ _
        have hT3 : taOk (upS (upS τ (a + 2) (up1 f (mnp f p) (f (mnp f p) + i))) (cA (a + 4) (l + 1) + 1) (goF (up1 f (mnp f p) (f (mnp f p) + i)) y (cp8 (τ (cA (a + 4) (l + 1) + 1)) (τ (cA (a + 4) l + 1))) p (liF (σ (a + 18)) c n (l + 1) - p).toNat)) (a + 1) := by
          refine ⟨by rw [z1, hn]; exact hn16, fun q q0 q1 => ?_⟩
          rw [z1, hn] at q1
          rw [show (upS (upS τ (a + 2) (up1 f (mnp f p) (f (mnp f p) + i))) (cA (a + 4) (l + 1) + 1) (goF (up1 f (mnp f p) (f (mnp f p) + i)) y (cp8 (τ (cA (a + 4) (l + 1) + 1)) (τ (cA (a + 4) l + 1))) p (liF (σ (a + 18)) c n (l + 1) - p).toNat)) (a + 1 + 1) = (up1 f (mnp f p) (f (mnp f p) + i)) from z2]
          exact hE1 q q0 q1
        have hst1 : eq8 ((upS (upS τ (a + 2) (up1 f (mnp f p) (f (mnp f p) + i))) (cA (a + 4) (l + 1) + 1) (goF (up1 f (mnp f p) (f (mnp f p) + i)) y (cp8 (τ (cA (a + 4) (l + 1) + 1)) (τ (cA (a + 4) l + 1))) p (liF (σ (a + 18)) c n (l + 1) - p).toNat)) (cA (a + 4) (l + 1) + 1)) (tlF (up1 f (mnp f p) (f (mnp f p) + i)) y zF (liF ((upS (upS τ (a + 2) (up1 f (mnp f p) (f (mnp f p) + i))) (cA (a + 4) (l + 1) + 1) (goF (up1 f (mnp f p) (f (mnp f p) + i)) y (cp8 (τ (cA (a + 4) (l + 1) + 1)) (τ (cA (a + 4) l + 1))) p (liF (σ (a + 18)) c n (l + 1) - p).toNat)) (a + 18)) c n (l + 1)).toNat) := by
          rw [zc, z18]
          have e0 : eq8 (cp8 (τ (cA (a + 4) (l + 1) + 1)) (τ (cA (a + 4) l + 1))) (tlF (up1 f (mnp f p) (f (mnp f p) + i)) y zF p.toNat) := by
            refine (cp8_eq _ _).trans ?_
            rw [f5 l hl (Int.le_refl l)]
            have := hst
            rw [hp] at this
            rw [tlF_congr (f := f) (g := (up1 f (mnp f p) (f (mnp f p) + i))) y zF (k := p.toNat) (fun j j0 j1 => up1_ne (by omega))]
            exact this
          have e1 := goF_eq (f := (up1 f (mnp f p) (f (mnp f p) + i))) (n := y) (fr := p) e0 (liF (σ (a + 18)) c n (l + 1) - p).toNat
          have e2 := tl_go (up1 f (mnp f p) (f (mnp f p) + i)) y zF p.toNat (liF (σ (a + 18)) c n (l + 1) - p).toNat
          rw [show ((p.toNat : Nat) : Int) = p by omega, show p.toNat + (liF (σ (a + 18)) c n (l + 1) - p).toNat = (liF (σ (a + 18)) c n (l + 1)).toNat by omega] at e2
          rw [e2] at e1
          exact e1
        have hco1 : colsOk (upS (upS τ (a + 2) (up1 f (mnp f p) (f (mnp f p) + i))) (cA (a + 4) (l + 1) + 1) (goF (up1 f (mnp f p) (f (mnp f p) + i)) y (cp8 (τ (cA (a + 4) (l + 1) + 1)) (τ (cA (a + 4) l + 1))) p (liF (σ (a + 18)) c n (l + 1) - p).toNat)) (a + 4) 5 := fun q q0 q1 => by
          by_cases x : q = l + 1
          · rw [x, zc]
            exact goF_ok (cp8_ok (f6 l hl (by omega))) (fun y y0 y1 => hE1 y (by omega) (by omega))
          · rw [s1 _ (cA_ne q0 (by omega) x) (by unfold cA; omega)]
            exact f6 q q0 q1
        have hwy : wyS (wyL (liF (σ (a + 18)) c n) 0 (l + 1)) (liF (σ (a + 18)) c n l) f i = wyL (liF (σ (a + 18)) c n) 0 (l + 1) (up1 f (mnp f p) (f (mnp f p) + i)) := by
          unfold wyS
          rw [hp, if_pos hsu]
        have hws := wyP_s (liF (σ (a + 18)) c n) 0 l f (e := i) ⟨by omega, by omega⟩
        rw [hwy] at hws
        have hwl : (wyP (liF (σ (a + 18)) c n) 0 l f (i + 1)).length ≤ (wyL (liF (σ (a + 18)) c n) 1 l f).length := wyP_le _ _ _ _
        have hwl2 := congrArg List.length hws
        rw [List.length_append] at hwl2
        have hww : 0 ≤ (upS (upS τ (a + 2) (up1 f (mnp f p) (f (mnp f p) + i))) (cA (a + 4) (l + 1) + 1) (goF (up1 f (mnp f p) (f (mnp f p) + i)) y (cp8 (τ (cA (a + 4) (l + 1) + 1)) (τ (cA (a + 4) l + 1))) p (liF (σ (a + 18)) c n (l + 1) - p).toNat)) a 7 ∧ (upS (upS τ (a + 2) (up1 f (mnp f p) (f (mnp f p) + i))) (cA (a + 4) (l + 1) + 1) (goF (up1 f (mnp f p) (f (mnp f p) + i)) y (cp8 (τ (cA (a + 4) (l + 1) + 1)) (τ (cA (a + 4) l + 1))) p (liF (σ (a + 18)) c n (l + 1) - p).toNat)) a 7 + ((wyL (liF ((upS (upS τ (a + 2) (up1 f (mnp f p) (f (mnp f p) + i))) (cA (a + 4) (l + 1) + 1) (goF (up1 f (mnp f p) (f (mnp f p) + i)) y (cp8 (τ (cA (a + 4) (l + 1) + 1)) (τ (cA (a + 4) l + 1))) p (liF (σ (a + 18)) c n (l + 1) - p).toNat)) (a + 18)) c n) 0 (l + 1) (up1 f (mnp f p) (f (mnp f p) + i))).length : Int) ≤ 81 := by
          rw [z0, z18, g3]
          omega
        have hbb : ∀ j, 0 ≤ j → j < 1296 → 0 ≤ (upS (upS τ (a + 2) (up1 f (mnp f p) (f (mnp f p) + i))) (cA (a + 4) (l + 1) + 1) (goF (up1 f (mnp f p) (f (mnp f p) + i)) y (cp8 (τ (cA (a + 4) (l + 1) + 1)) (τ (cA (a + 4) l + 1))) p (liF (σ (a + 18)) c n (l + 1) - p).toNat)) (a + 19) j ∧ (upS (upS τ (a + 2) (up1 f (mnp f p) (f (mnp f p) + i))) (cA (a + 4) (l + 1) + 1) (goF (up1 f (mnp f p) (f (mnp f p) + i)) y (cp8 (τ (cA (a + 4) (l + 1) + 1)) (τ (cA (a + 4) l + 1))) p (liF (σ (a + 18)) c n (l + 1) - p).toNat)) (a + 19) j ≤ 6000 + 80 * (upS (upS τ (a + 2) (up1 f (mnp f p) (f (mnp f p) + i))) (cA (a + 4) (l + 1) + 1) (goF (up1 f (mnp f p) (f (mnp f p) + i)) y (cp8 (τ (cA (a + 4) (l + 1) + 1)) (τ (cA (a + 4) l + 1))) p (liF (σ (a + 18)) c n (l + 1) - p).toNat)) a 7 := fun j j0 j1 => by
          have b1 := hb j j0 j1
          have b2 := adW_bl y n (wyP (liF (σ (a + 18)) c n) 0 l f i) (σ (a + 19)) (σ a 7) j
          rw [z0, z19, g3, g4]
          omega
        have hv := vary_0 (G := G) (S := S) (σ := (upS (upS τ (a + 2) (up1 f (mnp f p) (f (mnp f p) + i))) (cA (a + 4) (l + 1) + 1) (goF (up1 f (mnp f p) (f (mnp f p) + i)) y (cp8 (τ (cA (a + 4) (l + 1) + 1)) (τ (cA (a + 4) l + 1))) p (liF (σ (a + 18)) c n (l + 1) - p).toNat))) (a := a) (l := l + 1) (y := y) (f := (up1 f (mnp f p) (f (mnp f p) + i))) (n := n) (c := c) hA (by rw [z1]; exact hn) hT3 z2 (by rw [z0, f2 6 (by decide)]; exact hc) (by rw [looF_up hkp]; exact hcl) hc4 (by rw [z18]; exact losA_up hkp hla) (by omega) (by omega) hy hst1 hco1 hww hbb
        refine PW.aload_n dX4_vary_157 rfl ?_
        refine PW.iload_n dX4_vary_158 rfl ?_
        refine PW.iconst dX4_vary_159 ?_
        refine PW.iadd dX4_vary_160 ?_
        refine PW.iload_n dX4_vary_161 rfl ?_
        refine PW.callVg (hv) cv_X4_vary lk_X4_80 hA0 dX4_vary_162 rfl rfl rfl rfl (fun r S' τ162 hq => ?_)
        
        refine PW.iinc [(0, _), (1, _), (2, _), (3, _), (4, _), (5, _), (6, _), (7, _)] dX4_vary_165 rfl rfl (Nat.le_of_ble_eq_true rfl) ?_
        refine PW.goto 84 dX4_vary_168 (by decide) ?_
        first
          | (have hwy : wyS (wyL (liF (σ (a + 18)) c n) 0 (l + 1)) (liF (σ (a + 18)) c n l) f i = [] := by
               unfold wyS
               rw [hp, if_neg (by assumption)]
             have hws := wyP_s (liF (σ (a + 18)) c n) 0 l f (e := i) ⟨by omega, by omega⟩
             rw [hwy, List.append_nil] at hws
             exact ih (i + 1) τ v (by omega) (by omega) (by omega) g1 g2 (by rw [hws]; exact g3) (by rw [hws]; exact g4))
          | (obtain ⟨rfl, hS3, ⟨x1, x2, x3, x4, x5, x6⟩, y1, y2, y3⟩ := hq
             have hS4 := hS3.symm
             subst hS4
             refine ih (i + 1) _ (f (mnp f p) + i) (by omega) (by omega) (by omega) ⟨fun q hq => ?_, fun j hj => ?_, ?_, ?_, fun q q0 q1 => ?_, x6⟩ y1 ?_ ?_
             · rw [x1 q hq, s1 q (by unfold cA; omega) (by omega)]; exact f1 q hq
             · rw [x2 j hj, z0]; exact f2 j hj
             · rw [x3, z1]
             · rw [x4, z18]
             · rw [x5 q q0 (by omega), s1 _ (cA_ne q0 (by omega) (by omega)) (by unfold cA; omega)]
               exact f5 q q0 q1
             · rw [y2, z0, z18, g3, hws, List.length_append]
               omega
             · rw [y3, z19, z0, z18, g3, g4, hws, adW_app])
      · refine PW.goto 165 dX4_vary_105 (by decide) ?_
        refine PW.iinc [(0, _), (1, _), (2, _), (3, _), (4, _), (5, _), (6, _), (7, _)] dX4_vary_165 rfl rfl (Nat.le_of_ble_eq_true rfl) ?_
        refine PW.goto 84 dX4_vary_168 (by decide) ?_
        first
          | (have hwy : wyS (wyL (liF (σ (a + 18)) c n) 0 (l + 1)) (liF (σ (a + 18)) c n l) f i = [] := by
               unfold wyS
               rw [hp, if_neg (by assumption)]
             have hws := wyP_s (liF (σ (a + 18)) c n) 0 l f (e := i) ⟨by omega, by omega⟩
             rw [hwy, List.append_nil] at hws
             exact ih (i + 1) τ v (by omega) (by omega) (by omega) g1 g2 (by rw [hws]; exact g3) (by rw [hws]; exact g4))
          | (obtain ⟨rfl, hS3, ⟨x1, x2, x3, x4, x5, x6⟩, y1, y2, y3⟩ := hq
             have hS4 := hS3.symm
             subst hS4
             refine ih (i + 1) _ (f (mnp f p) + i) (by omega) (by omega) (by omega) ⟨fun q hq => ?_, fun j hj => ?_, ?_, ?_, fun q q0 q1 => ?_, x6⟩ y1 ?_ ?_
             · rw [x1 q hq, s1 q (by unfold cA; omega) (by omega)]; exact f1 q hq
             · rw [x2 j hj, z0]; exact f2 j hj
             · rw [x3, z1]
             · rw [x4, z18]
             · rw [x5 q q0 (by omega), s1 _ (cA_ne q0 (by omega) (by omega)) (by unfold cA; omega)]
               exact f5 q q0 q1
             · rw [y2, z0, z18, g3, hws, List.length_append]
               omega
             · rw [y3, z19, z0, z18, g3, g4, hws, adW_app])
theorem vary_1 {G : GT} {S : Shp} {σ : Sto} {a : Nat} {f : Int → Int} {l n c y : Int} (hA : IsEnds S a) (hn : σ (a + 1) 2 = n) (hT : taOk σ (a + 1)) (hf : σ (a + 2) = f) (hc : σ a 6 = c) (hcl : looF f n = c) (hc4 : c ≤ 4) (hla : losA f (σ (a + 18)) n) (hl : 0 ≤ l) (hkk : c - l = 1) (hy : 0 ≤ y ∧ y ≤ 63) (hst : eq8 (σ (cA (a + 4) l + 1)) (tlF f y zF (liF (σ (a + 18)) c n l).toNat)) (hco : colsOk σ (a + 4) 5) (hw : 0 ≤ σ a 7 ∧ σ a 7 + ((wyL (liF (σ (a + 18)) c n) 1 l f).length : Int) ≤ 81) (hb : ∀ j, 0 ≤ j → j < 1296 → 0 ≤ σ (a + 19) j ∧ σ (a + 19) j ≤ 6000 + 80 * σ a 7) : PMet G mX4_vary 7 0 0 [.ref a, .int (iI l), .int (iI y)] S σ (fun r S' σ' => r = none ∧ S' = S ∧ vaP σ σ' a f l n y (wyL (liF (σ (a + 18)) c n) 1 l f)) := by
  obtain ⟨p, hp⟩ : ∃ p, liF (σ (a + 18)) c n l = p := ⟨_, rfl⟩
  obtain ⟨hA0, hA1, hA4, hA18, hA19, hA20, hA21⟩ := id hA
  have hT0 := hA1.1
  obtain ⟨hC0, hC1, hC2, hCs⟩ := id hA4
  have hn16 := hT.1
  rw [hn] at hn16
  have hEf : ∀ i, 0 ≤ i → i < n → evOk f i := fun i i0 i1 => by
    have := hT.2 i i0 (by omega)
    rw [show σ (a + 1 + 1) = f from hf] at this
    exact this
  have hkd : ∀ i, 0 ≤ i → i < n → 0 ≤ f (7 * i) ∧ f (7 * i) ≤ 5 := fun i i0 i1 => (hEf i i0 i1).k
  have hlf := liF_at (f := f) (la := σ (a + 18)) (n := n) (l := l) (by omega) hla hl (by omega)
  have hgp := liF_gap (f := f) (la := σ (a + 18)) (n := n) (l := l) (by omega) hla hl (by omega)
  rw [hcl] at hlf hgp
  rw [hp] at hlf hgp
  obtain ⟨⟨p0, p1⟩, hlp, hcp⟩ := hlf
  have gp1 := hgp.1
  clear hgp
  have hnx := liF_b (f := f) (la := σ (a + 18)) (n := n) (l := l + 1) (by omega) hla (by omega)
  rw [hcl] at hnx
  have hkp := hkd p p0 p1
  have hx1 := xT_1 hkp
  have hmp := mnp_b hkp
  have hnum := (hEf p p0 p1).2.1 (xT 1 (f (7 * p))) hx1.1 hx1.2
  have hnum2 : -40 ≤ f (mnp f p) ∧ f (mnp f p) ≤ 39 := hnum
  have hS1 := hCs (l + 1) (by omega) (by omega)
  have hS0 := hCs l hl (by omega)
  refine PMet.of [(0, .ref a), (1, .int (iI (l))), (2, .int (iI (y)))] (by decide +kernel) rfl (Nat.le_of_ble_eq_true rfl) ?_
  refine PW.iload_n dX4_vary_0 rfl ?_
  refine PW.aload_n dX4_vary_1 rfl ?_
  refine PW.getI 6 fl_X4_40 rfl (by assumption) rfl rfl dX4_vary_2 ?_
  refine PW.top c hc ?_
  refine PW.icmp_ge 13 dX4_vary_5 (by decide) (by first | assumption | (unfold inR; omega)) (by first | assumption | (unfold inR; omega)) (fun h5 => ?_) (fun h5 => ?_)
  · exfalso; omega
  · refine PW.iload_n dX4_vary_8 rfl ?_
    refine PW.iconst dX4_vary_9 ?_
    refine PW.icmp_lt 46 dX4_vary_10 (by decide) (by first | assumption | (unfold inR; omega)) (by first | assumption | (unfold inR; omega)) (fun h10 => ?_) (fun h10 => ?_)
    · refine PW.aload_n dX4_vary_46 rfl ?_
      refine PW.iload_n dX4_vary_47 rfl ?_
      refine PW.callVr (c_X4_looseIndex (c := c) (n := n) hA hc (by omega) hn (by omega)) cv_X4_looseIndex lk_X4_70 (by first | assumption | exact And.left (by assumption)) dX4_vary_48 rfl rfl rfl rfl ?_
      refine PW.top p hp ?_
      refine PW.istore_n [(0, _), (1, _), (2, _), (3, _)] dX4_vary_51 rfl (Nat.le_of_ble_eq_true rfl) ?_
      refine PW.aload_n dX4_vary_52 rfl ?_
      refine PW.getR fl_X4_12 rfl (by assumption) rfl dX4_vary_53 ?_
      refine PW.iload_n dX4_vary_56 rfl ?_
      refine PW.callVr (c_X8_kind hA1 (by omega)) cv_X8_kind lk_X4_103 (by first | assumption | exact And.left (by assumption)) dX4_vary_57 rfl rfl rfl rfl ?_
      refine PW.top (f (7 * p)) (by show σ (a + 2) (7 * p) = _; rw [hf]) ?_
      refine PW.istore [(0, _), (1, _), (2, _), (3, _), (4, _)] dX4_vary_60 rfl (Nat.le_of_ble_eq_true rfl) ?_
      refine PW.iload dX4_vary_62 rfl ?_
      refine PW.callSr (c_X5_mainPlace hkp) cs_X5_mainPlace lk_X4_106 dX4_vary_64 rfl rfl rfl ?_
      refine PW.istore [(0, _), (1, _), (2, _), (3, _), (4, _), (5, _)] dX4_vary_67 rfl (Nat.le_of_ble_eq_true rfl) ?_
      refine PW.aload_n dX4_vary_69 rfl ?_
      refine PW.getR fl_X4_12 rfl (by assumption) rfl dX4_vary_70 ?_
      refine PW.iload_n dX4_vary_73 rfl ?_
      refine PW.iload dX4_vary_74 rfl ?_
      refine PW.callVr (c_X8_number hA1 (by omega) hx1) cv_X8_number lk_X4_111 (by first | assumption | exact And.left (by assumption)) dX4_vary_76 rfl rfl rfl rfl ?_
      refine PW.top (f (mnp f p)) (by show σ (a + 2) (7 * p + 1 + xT 1 (f (7 * p))) = _; rw [hf]; rfl) ?_
      refine PW.istore [(0, _), (1, _), (2, _), (3, _), (4, _), (5, _), (6, _)] dX4_vary_79 rfl (Nat.le_of_ble_eq_true rfl) ?_
      refine PW.iconst dX4_vary_81 ?_
      refine PW.istore [(0, _), (1, _), (2, _), (3, _), (4, _), (5, _), (6, _), (7, _)] dX4_vary_82 rfl (Nat.le_of_ble_eq_true rfl) ?_
      refine vary_lp1 hA hn hT hf hc hcl hc4 hla hl hkk hy hst hco hw hb hp (fun τ h => ⟨rfl, rfl, h⟩) 4 _ σ (f (mnp f p)) (by omega) (by omega) (by omega) ⟨fun _ _ => rfl, fun _ _ => rfl, rfl, rfl, fun _ _ _ => rfl, hco⟩ (by rw [up1_self]; exact hf) ?_ ?_
      · rw [wyP_0]
        show σ a 7 = σ a 7 + ((0 : Nat) : Int)
        omega
      · rw [wyP_0]
        rfl
    · exfalso; omega
set_option maxRecDepth 20000 in
theorem vary_lp2 {G : GT} {S : Shp} {σ : Sto} {a : Nat} {f : Int → Int} {l n c y : Int} {p : Int} {Q : Option Value → Shp → Sto → Prop} (hA : IsEnds S a) (hn : σ (a + 1) 2 = n) (hT : taOk σ (a + 1)) (hf : σ (a + 2) = f) (hc : σ a 6 = c) (hcl : looF f n = c) (hc4 : c ≤ 4) (hla : losA f (σ (a + 18)) n) (hl : 0 ≤ l) (hkk : c - l = 2) (hy : 0 ≤ y ∧ y ≤ 63) (hst : eq8 (σ (cA (a + 4) l + 1)) (tlF f y zF (liF (σ (a + 18)) c n l).toNat)) (hco : colsOk σ (a + 4) 5) (hw : 0 ≤ σ a 7 ∧ σ a 7 + ((wyL (liF (σ (a + 18)) c n) 2 l f).length : Int) ≤ 81) (hb : ∀ j, 0 ≤ j → j < 1296 → 0 ≤ σ (a + 19) j ∧ σ (a + 19) j ≤ 6000 + 80 * σ a 7) (hp : liF (σ (a + 18)) c n l = p) (hQ : ∀ τ : Sto, vaP σ τ a f l n y (wyL (liF (σ (a + 18)) c n) 2 l f) → Q none S τ) : ∀ (t : Nat) (i : Int) (τ : Sto) (v : Int), -1 ≤ i → i ≤ 2 → 2 - i < t → vaFr σ τ a l → τ (a + 2) = up1 f (mnp f p) v → τ a 7 = σ a 7 + ((wyP (liF (σ (a + 18)) c n) 1 l f i).length : Int) → τ (a + 19) = adW y n (σ (a + 19)) (σ a 7) (wyP (liF (σ (a + 18)) c n) 1 l f i) → PW (fm G mX4_vary 8 0 0 Q) G S (τ) 0 0 84 [(0, .ref a), (1, .int (iI (l))), (2, .int (iI (y))), (3, .int (iI (p))), (4, .int (iI (f (7 * p)))), (5, .int (iI (xT 1 (f (7 * p))))), (6, .int (iI (f (mnp f p)))), (7, .int (iI (i)))] [] := by
  obtain ⟨hA0, hA1, hA4, hA18, hA19, hA20, hA21⟩ := id hA
  have hT0 := hA1.1
  obtain ⟨hC0, hC1, hC2, hCs⟩ := id hA4
  have hn16 := hT.1
  rw [hn] at hn16
  have hEf : ∀ i, 0 ≤ i → i < n → evOk f i := fun i i0 i1 => by
    have := hT.2 i i0 (by omega)
    rw [show σ (a + 1 + 1) = f from hf] at this
    exact this
  have hkd : ∀ i, 0 ≤ i → i < n → 0 ≤ f (7 * i) ∧ f (7 * i) ≤ 5 := fun i i0 i1 => (hEf i i0 i1).k
  have hlf := liF_at (f := f) (la := σ (a + 18)) (n := n) (l := l) (by omega) hla hl (by omega)
  have hgp := liF_gap (f := f) (la := σ (a + 18)) (n := n) (l := l) (by omega) hla hl (by omega)
  rw [hcl] at hlf hgp
  rw [hp] at hlf hgp
  obtain ⟨⟨p0, p1⟩, hlp, hcp⟩ := hlf
  have gp1 := hgp.1
  clear hgp
  have hnx := liF_b (f := f) (la := σ (a + 18)) (n := n) (l := l + 1) (by omega) hla (by omega)
  rw [hcl] at hnx
  have hkp := hkd p p0 p1
  have hx1 := xT_1 hkp
  have hmp := mnp_b hkp
  have hnum := (hEf p p0 p1).2.1 (xT 1 (f (7 * p))) hx1.1 hx1.2
  have hnum2 : -40 ≤ f (mnp f p) ∧ f (mnp f p) ≤ 39 := hnum
  have hS1 := hCs (l + 1) (by omega) (by omega)
  have hS0 := hCs l hl (by omega)
  intro t
  induction t with
  | zero => intro i τ v h1 h2 h3 g1 g2 g3 g4; omega
  | succ t ih =>
    intro i τ v h1 h2 h3 g1 g2 g3 g4
    obtain ⟨f1, f2, f3, f4, f5, f6⟩ := id g1
    refine PW.iload dX4_vary_84 rfl ?_
    refine PW.iconst dX4_vary_86 ?_
    refine PW.icmp_gt 171 dX4_vary_87 (by decide) (by first | assumption | (unfold inR; omega)) (by first | assumption | (unfold inR; omega)) (fun h87 => ?_) (fun h87 => ?_)
    · refine PW.aload_n dX4_vary_171 rfl ?_
      refine PW.getR fl_X4_12 rfl (by assumption) rfl dX4_vary_172 ?_
      refine PW.iload_n dX4_vary_175 rfl ?_
      refine PW.iload dX4_vary_176 rfl ?_
      refine PW.iload dX4_vary_178 rfl ?_
      refine PW.callVv (c_X8_setNumber (by assumption) (by omega) (by omega)) cv_X8_setNumber lk_X4_119 (by first | assumption | exact And.left (by assumption)) dX4_vary_180 rfl rfl rfl rfl ?_
      have hi : i = 2 := by omega
      subst hi
      rw [wyP_2] at g3 g4
      refine PW.vret rfl dX4_vary_183 (hQ _ ⟨⟨fun q hq => ?_, fun j hj => ?_, ?_, ?_, fun q q0 q1 => ?_, ?_⟩, ?_, ?_, ?_⟩)
      · rw [upS_ne (by omega)]; exact f1 q hq
      · rw [upS_ne (by omega)]; exact f2 j hj
      · rw [upS_ne (by omega)]; exact f3
      · rw [upS_ne (by omega)]; exact f4
      · rw [upS_ne (by unfold cA; omega)]; exact f5 q q0 q1
      · exact colsOk_congr (fun x x0 x1 => upS_ne (by omega)) f6
      · show upS τ (a + 2) (up1 (τ (a + 2)) (mnp f p) (f (mnp f p))) (a + 2) = f
        rw [upS_same, g2, up1_up1, up1_self]
      · rw [upS_ne (by omega)]; exact g3
      · rw [upS_ne (by omega)]; exact g4
    · refine PW.iload dX4_vary_90 rfl ?_
      refine PW.iload dX4_vary_92 rfl ?_
      refine PW.iload dX4_vary_94 rfl ?_
      refine PW.iload dX4_vary_96 rfl ?_
      refine PW.iadd dX4_vary_98 ?_
      refine PW.callSr (c_X5_suits hkp hx1 (by unfold inR; omega)) cs_X5_suits lk_X4_115 dX4_vary_99 rfl rfl rfl ?_
      refine PW.if_neB 108 dX4_vary_102 (by decide) (fun h102 => ?_) (fun h102 => ?_)
      · have hsu : suF (f (7 * p)) (xT 1 (f (7 * p))) (f (mnp f p) + i) := by assumption
        have hE1 := evOk_all p0 p1 hEf hsu
        refine PW.aload_n dX4_vary_108 rfl ?_
        refine PW.getR fl_X4_12 rfl (by assumption) rfl dX4_vary_109 ?_
        refine PW.iload_n dX4_vary_112 rfl ?_
        refine PW.iload dX4_vary_113 rfl ?_
        refine PW.iload dX4_vary_115 rfl ?_
        refine PW.iload dX4_vary_117 rfl ?_
        refine PW.iadd dX4_vary_119 ?_
        refine PW.callVv (c_X8_setNumber hA1 (by omega) hx1) cv_X8_setNumber lk_X4_119 (by first | assumption | exact And.left (by assumption)) dX4_vary_120 rfl rfl rfl rfl ?_
        refine PW.st (upS τ (a + 2) (up1 f (mnp f p) (f (mnp f p) + i))) (by show upS τ (a + 2) (up1 (τ (a + 2)) (mnp f p) (f (mnp f p) + i)) = _; rw [g2, up1_up1]) ?_
        refine PW.aload_n dX4_vary_123 rfl ?_
        refine PW.getR fl_X4_23 rfl (by assumption) rfl dX4_vary_124 ?_
        refine PW.iload_n dX4_vary_127 rfl ?_
        refine PW.iconst dX4_vary_128 ?_
        refine PW.iadd dX4_vary_129 ?_
        refine PW.callVr (c_X2_of hA4 (by decide) (by omega) (by omega)) cv_X2_of lk_X4_66 (by first | assumption | exact And.left (by assumption)) dX4_vary_130 rfl rfl rfl rfl ?_
        refine PW.aload_n dX4_vary_133 rfl ?_
        refine PW.getR fl_X4_23 rfl (by assumption) rfl dX4_vary_134 ?_
        refine PW.iload_n dX4_vary_137 rfl ?_
        refine PW.callVr (c_X2_of hA4 (by decide) (by omega) (by omega)) cv_X2_of lk_X4_66 (by first | assumption | exact And.left (by assumption)) dX4_vary_138 rfl rfl rfl rfl ?_
        refine PW.aload_n dX4_vary_141 rfl ?_
        refine PW.getR fl_X4_12 rfl (by assumption) rfl dX4_vary_142 ?_
        refine PW.iload_n dX4_vary_145 rfl ?_
        refine PW.aload_n dX4_vary_146 rfl ?_
        refine PW.iload_n dX4_vary_147 rfl ?_
        refine PW.iconst dX4_vary_148 ?_
        refine PW.iadd dX4_vary_149 ?_
        refine PW.callVr (c_X4_looseIndex (c := c) (n := n) hA (by rw [upS_ne (by omega), f2 6 (by decide)]; exact hc) (by omega) (by rw [upS_ne (by omega), f3]; exact hn) (by omega)) cv_X4_looseIndex lk_X4_70 (by first | assumption | exact And.left (by assumption)) dX4_vary_150 rfl rfl rfl rfl ?_
        refine PW.top (liF (σ (a + 18)) c n (l + 1)) (by rw [upS_ne (show a + 18 ≠ a + 2 by omega), f4]) ?_
        have q1 : (upS τ (a + 2) (up1 f (mnp f p) (f (mnp f p) + i))) (a + 1 + 1) = (up1 f (mnp f p) (f (mnp f p) + i)) := upS_same _ _ _
        have q2 : (upS τ (a + 2) (up1 f (mnp f p) (f (mnp f p) + i))) (cA (a + 4) (l + 1) + 1) = τ (cA (a + 4) (l + 1) + 1) := upS_ne (by unfold cA; omega)
        have q3 : (upS τ (a + 2) (up1 f (mnp f p) (f (mnp f p) + i))) (cA (a + 4) l + 1) = τ (cA (a + 4) l + 1) := upS_ne (by unfold cA; omega)
        refine PW.iload_n dX4_vary_153 rfl ?_
        refine PW.callVv (c_X1_goOnFrom hS1 hA1 (fun q q0 q1x => by rw [q1]; exact hE1 q (by omega) (by omega)) (by omega) (by unfold cA; omega) hy hS0 (by rw [q3]; exact f6 l hl (by omega))) cv_X1_goOnFrom lk_X4_123 (by first | assumption | exact And.left (by assumption)) dX4_vary_154 rfl rfl rfl rfl ?_
        refine PW.st (upS (upS τ (a + 2) (up1 f (mnp f p) (f (mnp f p) + i))) (cA (a + 4) (l + 1) + 1) (goF (up1 f (mnp f p) (f (mnp f p) + i)) y (cp8 (τ (cA (a + 4) (l + 1) + 1)) (τ (cA (a + 4) l + 1))) p (liF (σ (a + 18)) c n (l + 1) - p).toNat)) (by rw [q1, q2, q3]) ?_
        have s1 : ∀ q, q ≠ cA (a + 4) (l + 1) + 1 → q ≠ a + 2 → (upS (upS τ (a + 2) (up1 f (mnp f p) (f (mnp f p) + i))) (cA (a + 4) (l + 1) + 1) (goF (up1 f (mnp f p) (f (mnp f p) + i)) y (cp8 (τ (cA (a + 4) (l + 1) + 1)) (τ (cA (a + 4) l + 1))) p (liF (σ (a + 18)) c n (l + 1) - p).toNat)) q = τ q := fun q h1 h2 => by rw [upS_ne h1, upS_ne h2]
        have z2 : (upS (upS τ (a + 2) (up1 f (mnp f p) (f (mnp f p) + i))) (cA (a + 4) (l + 1) + 1) (goF (up1 f (mnp f p) (f (mnp f p) + i)) y (cp8 (τ (cA (a + 4) (l + 1) + 1)) (τ (cA (a + 4) l + 1))) p (liF (σ (a + 18)) c n (l + 1) - p).toNat)) (a + 2) = (up1 f (mnp f p) (f (mnp f p) + i)) := by rw [upS_ne (by unfold cA; omega), upS_same]
        have z1 : (upS (upS τ (a + 2) (up1 f (mnp f p) (f (mnp f p) + i))) (cA (a + 4) (l + 1) + 1) (goF (up1 f (mnp f p) (f (mnp f p) + i)) y (cp8 (τ (cA (a + 4) (l + 1) + 1)) (τ (cA (a + 4) l + 1))) p (liF (σ (a + 18)) c n (l + 1) - p).toNat)) (a + 1) = σ (a + 1) := by rw [s1 _ (by unfold cA; omega) (by omega), f3]
        have z0 : (upS (upS τ (a + 2) (up1 f (mnp f p) (f (mnp f p) + i))) (cA (a + 4) (l + 1) + 1) (goF (up1 f (mnp f p) (f (mnp f p) + i)) y (cp8 (τ (cA (a + 4) (l + 1) + 1)) (τ (cA (a + 4) l + 1))) p (liF (σ (a + 18)) c n (l + 1) - p).toNat)) a = τ a := s1 _ (by unfold cA; omega) (by omega)
        have z18 : (upS (upS τ (a + 2) (up1 f (mnp f p) (f (mnp f p) + i))) (cA (a + 4) (l + 1) + 1) (goF (up1 f (mnp f p) (f (mnp f p) + i)) y (cp8 (τ (cA (a + 4) (l + 1) + 1)) (τ (cA (a + 4) l + 1))) p (liF (σ (a + 18)) c n (l + 1) - p).toNat)) (a + 18) = σ (a + 18) := by rw [s1 _ (by unfold cA; omega) (by omega), f4]
        have z19 : (upS (upS τ (a + 2) (up1 f (mnp f p) (f (mnp f p) + i))) (cA (a + 4) (l + 1) + 1) (goF (up1 f (mnp f p) (f (mnp f p) + i)) y (cp8 (τ (cA (a + 4) (l + 1) + 1)) (τ (cA (a + 4) l + 1))) p (liF (σ (a + 18)) c n (l + 1) - p).toNat)) (a + 19) = τ (a + 19) := s1 _ (by unfold cA; omega) (by omega)
        have zc : (upS (upS τ (a + 2) (up1 f (mnp f p) (f (mnp f p) + i))) (cA (a + 4) (l + 1) + 1) (goF (up1 f (mnp f p) (f (mnp f p) + i)) y (cp8 (τ (cA (a + 4) (l + 1) + 1)) (τ (cA (a + 4) l + 1))) p (liF (σ (a + 18)) c n (l + 1) - p).toNat)) (cA (a + 4) (l + 1) + 1) = (goF (up1 f (mnp f p) (f (mnp f p) + i)) y (cp8 (τ (cA (a + 4) (l + 1) + 1)) (τ (cA (a + 4) l + 1))) p (liF (σ (a + 18)) c n (l + 1) - p).toNat) := upS_same _ _ _
        have hT3 : taOk (upS (upS τ (a + 2) (up1 f (mnp f p) (f (mnp f p) + i))) (cA (a + 4) (l + 1) + 1) (goF (up1 f (mnp f p) (f (mnp f p) + i)) y (cp8 (τ (cA (a + 4) (l + 1) + 1)) (τ (cA (a + 4) l + 1))) p (liF (σ (a + 18)) c n (l + 1) - p).toNat)) (a + 1) := by
          refine ⟨by rw [z1, hn]; exact hn16, fun q q0 q1 => ?_⟩
          rw [z1, hn] at q1
          rw [show (upS (upS τ (a + 2) (up1 f (mnp f p) (f (mnp f p) + i))) (cA (a + 4) (l + 1) + 1) (goF (up1 f (mnp f p) (f (mnp f p) + i)) y (cp8 (τ (cA (a + 4) (l + 1) + 1)) (τ (cA (a + 4) l + 1))) p (liF (σ (a + 18)) c n (l + 1) - p).toNat)) (a + 1 + 1) = (up1 f (mnp f p) (f (mnp f p) + i)) from z2]
          exact hE1 q q0 q1
        have hst1 : eq8 ((upS (upS τ (a + 2) (up1 f (mnp f p) (f (mnp f p) + i))) (cA (a + 4) (l + 1) + 1) (goF (up1 f (mnp f p) (f (mnp f p) + i)) y (cp8 (τ (cA (a + 4) (l + 1) + 1)) (τ (cA (a + 4) l + 1))) p (liF (σ (a + 18)) c n (l + 1) - p).toNat)) (cA (a + 4) (l + 1) + 1)) (tlF (up1 f (mnp f p) (f (mnp f p) + i)) y zF (liF ((upS (upS τ (a + 2) (up1 f (mnp f p) (f (mnp f p) + i))) (cA (a + 4) (l + 1) + 1) (goF (up1 f (mnp f p) (f (mnp f p) + i)) y (cp8 (τ (cA (a + 4) (l + 1) + 1)) (τ (cA (a + 4) l + 1))) p (liF (σ (a + 18)) c n (l + 1) - p).toNat)) (a + 18)) c n (l + 1)).toNat) := by
          rw [zc, z18]
          have e0 : eq8 (cp8 (τ (cA (a + 4) (l + 1) + 1)) (τ (cA (a + 4) l + 1))) (tlF (up1 f (mnp f p) (f (mnp f p) + i)) y zF p.toNat) := by
            refine (cp8_eq _ _).trans ?_
            rw [f5 l hl (Int.le_refl l)]
            have := hst
            rw [hp] at this
            rw [tlF_congr (f := f) (g := (up1 f (mnp f p) (f (mnp f p) + i))) y zF (k := p.toNat) (fun j j0 j1 => up1_ne (by omega))]
            exact this
          have e1 := goF_eq (f := (up1 f (mnp f p) (f (mnp f p) + i))) (n := y) (fr := p) e0 (liF (σ (a + 18)) c n (l + 1) - p).toNat
          have e2 := tl_go (up1 f (mnp f p) (f (mnp f p) + i)) y zF p.toNat (liF (σ (a + 18)) c n (l + 1) - p).toNat
          rw [show ((p.toNat : Nat) : Int) = p by omega, show p.toNat + (liF (σ (a + 18)) c n (l + 1) - p).toNat = (liF (σ (a + 18)) c n (l + 1)).toNat by omega] at e2
          rw [e2] at e1
          exact e1
        have hco1 : colsOk (upS (upS τ (a + 2) (up1 f (mnp f p) (f (mnp f p) + i))) (cA (a + 4) (l + 1) + 1) (goF (up1 f (mnp f p) (f (mnp f p) + i)) y (cp8 (τ (cA (a + 4) (l + 1) + 1)) (τ (cA (a + 4) l + 1))) p (liF (σ (a + 18)) c n (l + 1) - p).toNat)) (a + 4) 5 := fun q q0 q1 => by
          by_cases x : q = l + 1
          · rw [x, zc]
            exact goF_ok (cp8_ok (f6 l hl (by omega))) (fun y y0 y1 => hE1 y (by omega) (by omega))
          · rw [s1 _ (cA_ne q0 (by omega) x) (by unfold cA; omega)]
            exact f6 q q0 q1
        have hwy : wyS (wyL (liF (σ (a + 18)) c n) 1 (l + 1)) (liF (σ (a + 18)) c n l) f i = wyL (liF (σ (a + 18)) c n) 1 (l + 1) (up1 f (mnp f p) (f (mnp f p) + i)) := by
          unfold wyS
          rw [hp, if_pos hsu]
        have hws := wyP_s (liF (σ (a + 18)) c n) 1 l f (e := i) ⟨by omega, by omega⟩
        rw [hwy] at hws
        have hwl : (wyP (liF (σ (a + 18)) c n) 1 l f (i + 1)).length ≤ (wyL (liF (σ (a + 18)) c n) 2 l f).length := wyP_le _ _ _ _
        have hwl2 := congrArg List.length hws
        rw [List.length_append] at hwl2
        have hww : 0 ≤ (upS (upS τ (a + 2) (up1 f (mnp f p) (f (mnp f p) + i))) (cA (a + 4) (l + 1) + 1) (goF (up1 f (mnp f p) (f (mnp f p) + i)) y (cp8 (τ (cA (a + 4) (l + 1) + 1)) (τ (cA (a + 4) l + 1))) p (liF (σ (a + 18)) c n (l + 1) - p).toNat)) a 7 ∧ (upS (upS τ (a + 2) (up1 f (mnp f p) (f (mnp f p) + i))) (cA (a + 4) (l + 1) + 1) (goF (up1 f (mnp f p) (f (mnp f p) + i)) y (cp8 (τ (cA (a + 4) (l + 1) + 1)) (τ (cA (a + 4) l + 1))) p (liF (σ (a + 18)) c n (l + 1) - p).toNat)) a 7 + ((wyL (liF ((upS (upS τ (a + 2) (up1 f (mnp f p) (f (mnp f p) + i))) (cA (a + 4) (l + 1) + 1) (goF (up1 f (mnp f p) (f (mnp f p) + i)) y (cp8 (τ (cA (a + 4) (l + 1) + 1)) (τ (cA (a + 4) l + 1))) p (liF (σ (a + 18)) c n (l + 1) - p).toNat)) (a + 18)) c n) 1 (l + 1) (up1 f (mnp f p) (f (mnp f p) + i))).length : Int) ≤ 81 := by
          rw [z0, z18, g3]
          omega
        have hbb : ∀ j, 0 ≤ j → j < 1296 → 0 ≤ (upS (upS τ (a + 2) (up1 f (mnp f p) (f (mnp f p) + i))) (cA (a + 4) (l + 1) + 1) (goF (up1 f (mnp f p) (f (mnp f p) + i)) y (cp8 (τ (cA (a + 4) (l + 1) + 1)) (τ (cA (a + 4) l + 1))) p (liF (σ (a + 18)) c n (l + 1) - p).toNat)) (a + 19) j ∧ (upS (upS τ (a + 2) (up1 f (mnp f p) (f (mnp f p) + i))) (cA (a + 4) (l + 1) + 1) (goF (up1 f (mnp f p) (f (mnp f p) + i)) y (cp8 (τ (cA (a + 4) (l + 1) + 1)) (τ (cA (a + 4) l + 1))) p (liF (σ (a + 18)) c n (l + 1) - p).toNat)) (a + 19) j ≤ 6000 + 80 * (upS (upS τ (a + 2) (up1 f (mnp f p) (f (mnp f p) + i))) (cA (a + 4) (l + 1) + 1) (goF (up1 f (mnp f p) (f (mnp f p) + i)) y (cp8 (τ (cA (a + 4) (l + 1) + 1)) (τ (cA (a + 4) l + 1))) p (liF (σ (a + 18)) c n (l + 1) - p).toNat)) a 7 := fun j j0 j1 => by
          have b1 := hb j j0 j1
          have b2 := adW_bl y n (wyP (liF (σ (a + 18)) c n) 1 l f i) (σ (a + 19)) (σ a 7) j
          rw [z0, z19, g3, g4]
          omega
        have hv := vary_1 (G := G) (S := S) (σ := (upS (upS τ (a + 2) (up1 f (mnp f p) (f (mnp f p) + i))) (cA (a + 4) (l + 1) + 1) (goF (up1 f (mnp f p) (f (mnp f p) + i)) y (cp8 (τ (cA (a + 4) (l + 1) + 1)) (τ (cA (a + 4) l + 1))) p (liF (σ (a + 18)) c n (l + 1) - p).toNat))) (a := a) (l := l + 1) (y := y) (f := (up1 f (mnp f p) (f (mnp f p) + i))) (n := n) (c := c) hA (by rw [z1]; exact hn) hT3 z2 (by rw [z0, f2 6 (by decide)]; exact hc) (by rw [looF_up hkp]; exact hcl) hc4 (by rw [z18]; exact losA_up hkp hla) (by omega) (by omega) hy hst1 hco1 hww hbb
        refine PW.aload_n dX4_vary_157 rfl ?_
        refine PW.iload_n dX4_vary_158 rfl ?_
        refine PW.iconst dX4_vary_159 ?_
        refine PW.iadd dX4_vary_160 ?_
        refine PW.iload_n dX4_vary_161 rfl ?_
        refine PW.callVg (hv) cv_X4_vary lk_X4_80 hA0 dX4_vary_162 rfl rfl rfl rfl (fun r S' τ162 hq => ?_)
        
        refine PW.iinc [(0, _), (1, _), (2, _), (3, _), (4, _), (5, _), (6, _), (7, _)] dX4_vary_165 rfl rfl (Nat.le_of_ble_eq_true rfl) ?_
        refine PW.goto 84 dX4_vary_168 (by decide) ?_
        first
          | (have hwy : wyS (wyL (liF (σ (a + 18)) c n) 1 (l + 1)) (liF (σ (a + 18)) c n l) f i = [] := by
               unfold wyS
               rw [hp, if_neg (by assumption)]
             have hws := wyP_s (liF (σ (a + 18)) c n) 1 l f (e := i) ⟨by omega, by omega⟩
             rw [hwy, List.append_nil] at hws
             exact ih (i + 1) τ v (by omega) (by omega) (by omega) g1 g2 (by rw [hws]; exact g3) (by rw [hws]; exact g4))
          | (obtain ⟨rfl, hS3, ⟨x1, x2, x3, x4, x5, x6⟩, y1, y2, y3⟩ := hq
             have hS4 := hS3.symm
             subst hS4
             refine ih (i + 1) _ (f (mnp f p) + i) (by omega) (by omega) (by omega) ⟨fun q hq => ?_, fun j hj => ?_, ?_, ?_, fun q q0 q1 => ?_, x6⟩ y1 ?_ ?_
             · rw [x1 q hq, s1 q (by unfold cA; omega) (by omega)]; exact f1 q hq
             · rw [x2 j hj, z0]; exact f2 j hj
             · rw [x3, z1]
             · rw [x4, z18]
             · rw [x5 q q0 (by omega), s1 _ (cA_ne q0 (by omega) (by omega)) (by unfold cA; omega)]
               exact f5 q q0 q1
             · rw [y2, z0, z18, g3, hws, List.length_append]
               omega
             · rw [y3, z19, z0, z18, g3, g4, hws, adW_app])
      · refine PW.goto 165 dX4_vary_105 (by decide) ?_
        refine PW.iinc [(0, _), (1, _), (2, _), (3, _), (4, _), (5, _), (6, _), (7, _)] dX4_vary_165 rfl rfl (Nat.le_of_ble_eq_true rfl) ?_
        refine PW.goto 84 dX4_vary_168 (by decide) ?_
        first
          | (have hwy : wyS (wyL (liF (σ (a + 18)) c n) 1 (l + 1)) (liF (σ (a + 18)) c n l) f i = [] := by
               unfold wyS
               rw [hp, if_neg (by assumption)]
             have hws := wyP_s (liF (σ (a + 18)) c n) 1 l f (e := i) ⟨by omega, by omega⟩
             rw [hwy, List.append_nil] at hws
             exact ih (i + 1) τ v (by omega) (by omega) (by omega) g1 g2 (by rw [hws]; exact g3) (by rw [hws]; exact g4))
          | (obtain ⟨rfl, hS3, ⟨x1, x2, x3, x4, x5, x6⟩, y1, y2, y3⟩ := hq
             have hS4 := hS3.symm
             subst hS4
             refine ih (i + 1) _ (f (mnp f p) + i) (by omega) (by omega) (by omega) ⟨fun q hq => ?_, fun j hj => ?_, ?_, ?_, fun q q0 q1 => ?_, x6⟩ y1 ?_ ?_
             · rw [x1 q hq, s1 q (by unfold cA; omega) (by omega)]; exact f1 q hq
             · rw [x2 j hj, z0]; exact f2 j hj
             · rw [x3, z1]
             · rw [x4, z18]
             · rw [x5 q q0 (by omega), s1 _ (cA_ne q0 (by omega) (by omega)) (by unfold cA; omega)]
               exact f5 q q0 q1
             · rw [y2, z0, z18, g3, hws, List.length_append]
               omega
             · rw [y3, z19, z0, z18, g3, g4, hws, adW_app])
theorem vary_2 {G : GT} {S : Shp} {σ : Sto} {a : Nat} {f : Int → Int} {l n c y : Int} (hA : IsEnds S a) (hn : σ (a + 1) 2 = n) (hT : taOk σ (a + 1)) (hf : σ (a + 2) = f) (hc : σ a 6 = c) (hcl : looF f n = c) (hc4 : c ≤ 4) (hla : losA f (σ (a + 18)) n) (hl : 0 ≤ l) (hkk : c - l = 2) (hy : 0 ≤ y ∧ y ≤ 63) (hst : eq8 (σ (cA (a + 4) l + 1)) (tlF f y zF (liF (σ (a + 18)) c n l).toNat)) (hco : colsOk σ (a + 4) 5) (hw : 0 ≤ σ a 7 ∧ σ a 7 + ((wyL (liF (σ (a + 18)) c n) 2 l f).length : Int) ≤ 81) (hb : ∀ j, 0 ≤ j → j < 1296 → 0 ≤ σ (a + 19) j ∧ σ (a + 19) j ≤ 6000 + 80 * σ a 7) : PMet G mX4_vary 8 0 0 [.ref a, .int (iI l), .int (iI y)] S σ (fun r S' σ' => r = none ∧ S' = S ∧ vaP σ σ' a f l n y (wyL (liF (σ (a + 18)) c n) 2 l f)) := by
  obtain ⟨p, hp⟩ : ∃ p, liF (σ (a + 18)) c n l = p := ⟨_, rfl⟩
  obtain ⟨hA0, hA1, hA4, hA18, hA19, hA20, hA21⟩ := id hA
  have hT0 := hA1.1
  obtain ⟨hC0, hC1, hC2, hCs⟩ := id hA4
  have hn16 := hT.1
  rw [hn] at hn16
  have hEf : ∀ i, 0 ≤ i → i < n → evOk f i := fun i i0 i1 => by
    have := hT.2 i i0 (by omega)
    rw [show σ (a + 1 + 1) = f from hf] at this
    exact this
  have hkd : ∀ i, 0 ≤ i → i < n → 0 ≤ f (7 * i) ∧ f (7 * i) ≤ 5 := fun i i0 i1 => (hEf i i0 i1).k
  have hlf := liF_at (f := f) (la := σ (a + 18)) (n := n) (l := l) (by omega) hla hl (by omega)
  have hgp := liF_gap (f := f) (la := σ (a + 18)) (n := n) (l := l) (by omega) hla hl (by omega)
  rw [hcl] at hlf hgp
  rw [hp] at hlf hgp
  obtain ⟨⟨p0, p1⟩, hlp, hcp⟩ := hlf
  have gp1 := hgp.1
  clear hgp
  have hnx := liF_b (f := f) (la := σ (a + 18)) (n := n) (l := l + 1) (by omega) hla (by omega)
  rw [hcl] at hnx
  have hkp := hkd p p0 p1
  have hx1 := xT_1 hkp
  have hmp := mnp_b hkp
  have hnum := (hEf p p0 p1).2.1 (xT 1 (f (7 * p))) hx1.1 hx1.2
  have hnum2 : -40 ≤ f (mnp f p) ∧ f (mnp f p) ≤ 39 := hnum
  have hS1 := hCs (l + 1) (by omega) (by omega)
  have hS0 := hCs l hl (by omega)
  refine PMet.of [(0, .ref a), (1, .int (iI (l))), (2, .int (iI (y)))] (by decide +kernel) rfl (Nat.le_of_ble_eq_true rfl) ?_
  refine PW.iload_n dX4_vary_0 rfl ?_
  refine PW.aload_n dX4_vary_1 rfl ?_
  refine PW.getI 6 fl_X4_40 rfl (by assumption) rfl rfl dX4_vary_2 ?_
  refine PW.top c hc ?_
  refine PW.icmp_ge 13 dX4_vary_5 (by decide) (by first | assumption | (unfold inR; omega)) (by first | assumption | (unfold inR; omega)) (fun h5 => ?_) (fun h5 => ?_)
  · exfalso; omega
  · refine PW.iload_n dX4_vary_8 rfl ?_
    refine PW.iconst dX4_vary_9 ?_
    refine PW.icmp_lt 46 dX4_vary_10 (by decide) (by first | assumption | (unfold inR; omega)) (by first | assumption | (unfold inR; omega)) (fun h10 => ?_) (fun h10 => ?_)
    · refine PW.aload_n dX4_vary_46 rfl ?_
      refine PW.iload_n dX4_vary_47 rfl ?_
      refine PW.callVr (c_X4_looseIndex (c := c) (n := n) hA hc (by omega) hn (by omega)) cv_X4_looseIndex lk_X4_70 (by first | assumption | exact And.left (by assumption)) dX4_vary_48 rfl rfl rfl rfl ?_
      refine PW.top p hp ?_
      refine PW.istore_n [(0, _), (1, _), (2, _), (3, _)] dX4_vary_51 rfl (Nat.le_of_ble_eq_true rfl) ?_
      refine PW.aload_n dX4_vary_52 rfl ?_
      refine PW.getR fl_X4_12 rfl (by assumption) rfl dX4_vary_53 ?_
      refine PW.iload_n dX4_vary_56 rfl ?_
      refine PW.callVr (c_X8_kind hA1 (by omega)) cv_X8_kind lk_X4_103 (by first | assumption | exact And.left (by assumption)) dX4_vary_57 rfl rfl rfl rfl ?_
      refine PW.top (f (7 * p)) (by show σ (a + 2) (7 * p) = _; rw [hf]) ?_
      refine PW.istore [(0, _), (1, _), (2, _), (3, _), (4, _)] dX4_vary_60 rfl (Nat.le_of_ble_eq_true rfl) ?_
      refine PW.iload dX4_vary_62 rfl ?_
      refine PW.callSr (c_X5_mainPlace hkp) cs_X5_mainPlace lk_X4_106 dX4_vary_64 rfl rfl rfl ?_
      refine PW.istore [(0, _), (1, _), (2, _), (3, _), (4, _), (5, _)] dX4_vary_67 rfl (Nat.le_of_ble_eq_true rfl) ?_
      refine PW.aload_n dX4_vary_69 rfl ?_
      refine PW.getR fl_X4_12 rfl (by assumption) rfl dX4_vary_70 ?_
      refine PW.iload_n dX4_vary_73 rfl ?_
      refine PW.iload dX4_vary_74 rfl ?_
      refine PW.callVr (c_X8_number hA1 (by omega) hx1) cv_X8_number lk_X4_111 (by first | assumption | exact And.left (by assumption)) dX4_vary_76 rfl rfl rfl rfl ?_
      refine PW.top (f (mnp f p)) (by show σ (a + 2) (7 * p + 1 + xT 1 (f (7 * p))) = _; rw [hf]; rfl) ?_
      refine PW.istore [(0, _), (1, _), (2, _), (3, _), (4, _), (5, _), (6, _)] dX4_vary_79 rfl (Nat.le_of_ble_eq_true rfl) ?_
      refine PW.iconst dX4_vary_81 ?_
      refine PW.istore [(0, _), (1, _), (2, _), (3, _), (4, _), (5, _), (6, _), (7, _)] dX4_vary_82 rfl (Nat.le_of_ble_eq_true rfl) ?_
      refine vary_lp2 hA hn hT hf hc hcl hc4 hla hl hkk hy hst hco hw hb hp (fun τ h => ⟨rfl, rfl, h⟩) 4 _ σ (f (mnp f p)) (by omega) (by omega) (by omega) ⟨fun _ _ => rfl, fun _ _ => rfl, rfl, rfl, fun _ _ _ => rfl, hco⟩ (by rw [up1_self]; exact hf) ?_ ?_
      · rw [wyP_0]
        show σ a 7 = σ a 7 + ((0 : Nat) : Int)
        omega
      · rw [wyP_0]
        rfl
    · exfalso; omega
set_option maxRecDepth 20000 in
theorem vary_lp3 {G : GT} {S : Shp} {σ : Sto} {a : Nat} {f : Int → Int} {l n c y : Int} {p : Int} {Q : Option Value → Shp → Sto → Prop} (hA : IsEnds S a) (hn : σ (a + 1) 2 = n) (hT : taOk σ (a + 1)) (hf : σ (a + 2) = f) (hc : σ a 6 = c) (hcl : looF f n = c) (hc4 : c ≤ 4) (hla : losA f (σ (a + 18)) n) (hl : 0 ≤ l) (hkk : c - l = 3) (hy : 0 ≤ y ∧ y ≤ 63) (hst : eq8 (σ (cA (a + 4) l + 1)) (tlF f y zF (liF (σ (a + 18)) c n l).toNat)) (hco : colsOk σ (a + 4) 5) (hw : 0 ≤ σ a 7 ∧ σ a 7 + ((wyL (liF (σ (a + 18)) c n) 3 l f).length : Int) ≤ 81) (hb : ∀ j, 0 ≤ j → j < 1296 → 0 ≤ σ (a + 19) j ∧ σ (a + 19) j ≤ 6000 + 80 * σ a 7) (hp : liF (σ (a + 18)) c n l = p) (hQ : ∀ τ : Sto, vaP σ τ a f l n y (wyL (liF (σ (a + 18)) c n) 3 l f) → Q none S τ) : ∀ (t : Nat) (i : Int) (τ : Sto) (v : Int), -1 ≤ i → i ≤ 2 → 2 - i < t → vaFr σ τ a l → τ (a + 2) = up1 f (mnp f p) v → τ a 7 = σ a 7 + ((wyP (liF (σ (a + 18)) c n) 2 l f i).length : Int) → τ (a + 19) = adW y n (σ (a + 19)) (σ a 7) (wyP (liF (σ (a + 18)) c n) 2 l f i) → PW (fm G mX4_vary 9 0 0 Q) G S (τ) 0 0 84 [(0, .ref a), (1, .int (iI (l))), (2, .int (iI (y))), (3, .int (iI (p))), (4, .int (iI (f (7 * p)))), (5, .int (iI (xT 1 (f (7 * p))))), (6, .int (iI (f (mnp f p)))), (7, .int (iI (i)))] [] := by
  obtain ⟨hA0, hA1, hA4, hA18, hA19, hA20, hA21⟩ := id hA
  have hT0 := hA1.1
  obtain ⟨hC0, hC1, hC2, hCs⟩ := id hA4
  have hn16 := hT.1
  rw [hn] at hn16
  have hEf : ∀ i, 0 ≤ i → i < n → evOk f i := fun i i0 i1 => by
    have := hT.2 i i0 (by omega)
    rw [show σ (a + 1 + 1) = f from hf] at this
    exact this
  have hkd : ∀ i, 0 ≤ i → i < n → 0 ≤ f (7 * i) ∧ f (7 * i) ≤ 5 := fun i i0 i1 => (hEf i i0 i1).k
  have hlf := liF_at (f := f) (la := σ (a + 18)) (n := n) (l := l) (by omega) hla hl (by omega)
  have hgp := liF_gap (f := f) (la := σ (a + 18)) (n := n) (l := l) (by omega) hla hl (by omega)
  rw [hcl] at hlf hgp
  rw [hp] at hlf hgp
  obtain ⟨⟨p0, p1⟩, hlp, hcp⟩ := hlf
  have gp1 := hgp.1
  clear hgp
  have hnx := liF_b (f := f) (la := σ (a + 18)) (n := n) (l := l + 1) (by omega) hla (by omega)
  rw [hcl] at hnx
  have hkp := hkd p p0 p1
  have hx1 := xT_1 hkp
  have hmp := mnp_b hkp
  have hnum := (hEf p p0 p1).2.1 (xT 1 (f (7 * p))) hx1.1 hx1.2
  have hnum2 : -40 ≤ f (mnp f p) ∧ f (mnp f p) ≤ 39 := hnum
  have hS1 := hCs (l + 1) (by omega) (by omega)
  have hS0 := hCs l hl (by omega)
  intro t
  induction t with
  | zero => intro i τ v h1 h2 h3 g1 g2 g3 g4; omega
  | succ t ih =>
    intro i τ v h1 h2 h3 g1 g2 g3 g4
    obtain ⟨f1, f2, f3, f4, f5, f6⟩ := id g1
    refine PW.iload dX4_vary_84 rfl ?_
    refine PW.iconst dX4_vary_86 ?_
    refine PW.icmp_gt 171 dX4_vary_87 (by decide) (by first | assumption | (unfold inR; omega)) (by first | assumption | (unfold inR; omega)) (fun h87 => ?_) (fun h87 => ?_)
    · refine PW.aload_n dX4_vary_171 rfl ?_
      refine PW.getR fl_X4_12 rfl (by assumption) rfl dX4_vary_172 ?_
      refine PW.iload_n dX4_vary_175 rfl ?_
      refine PW.iload dX4_vary_176 rfl ?_
      refine PW.iload dX4_vary_178 rfl ?_
      refine PW.callVv (c_X8_setNumber (by assumption) (by omega) (by omega)) cv_X8_setNumber lk_X4_119 (by first | assumption | exact And.left (by assumption)) dX4_vary_180 rfl rfl rfl rfl ?_
      have hi : i = 2 := by omega
      subst hi
      rw [wyP_2] at g3 g4
      refine PW.vret rfl dX4_vary_183 (hQ _ ⟨⟨fun q hq => ?_, fun j hj => ?_, ?_, ?_, fun q q0 q1 => ?_, ?_⟩, ?_, ?_, ?_⟩)
      · rw [upS_ne (by omega)]; exact f1 q hq
      · rw [upS_ne (by omega)]; exact f2 j hj
      · rw [upS_ne (by omega)]; exact f3
      · rw [upS_ne (by omega)]; exact f4
      · rw [upS_ne (by unfold cA; omega)]; exact f5 q q0 q1
      · exact colsOk_congr (fun x x0 x1 => upS_ne (by omega)) f6
      · show upS τ (a + 2) (up1 (τ (a + 2)) (mnp f p) (f (mnp f p))) (a + 2) = f
        rw [upS_same, g2, up1_up1, up1_self]
      · rw [upS_ne (by omega)]; exact g3
      · rw [upS_ne (by omega)]; exact g4
    · refine PW.iload dX4_vary_90 rfl ?_
      refine PW.iload dX4_vary_92 rfl ?_
      refine PW.iload dX4_vary_94 rfl ?_
      refine PW.iload dX4_vary_96 rfl ?_
      refine PW.iadd dX4_vary_98 ?_
      refine PW.callSr (c_X5_suits hkp hx1 (by unfold inR; omega)) cs_X5_suits lk_X4_115 dX4_vary_99 rfl rfl rfl ?_
      refine PW.if_neB 108 dX4_vary_102 (by decide) (fun h102 => ?_) (fun h102 => ?_)
      · have hsu : suF (f (7 * p)) (xT 1 (f (7 * p))) (f (mnp f p) + i) := by assumption
        have hE1 := evOk_all p0 p1 hEf hsu
        refine PW.aload_n dX4_vary_108 rfl ?_
        refine PW.getR fl_X4_12 rfl (by assumption) rfl dX4_vary_109 ?_
        refine PW.iload_n dX4_vary_112 rfl ?_
        refine PW.iload dX4_vary_113 rfl ?_
        refine PW.iload dX4_vary_115 rfl ?_
        refine PW.iload dX4_vary_117 rfl ?_
        refine PW.iadd dX4_vary_119 ?_
        refine PW.callVv (c_X8_setNumber hA1 (by omega) hx1) cv_X8_setNumber lk_X4_119 (by first | assumption | exact And.left (by assumption)) dX4_vary_120 rfl rfl rfl rfl ?_
        refine PW.st (upS τ (a + 2) (up1 f (mnp f p) (f (mnp f p) + i))) (by show upS τ (a + 2) (up1 (τ (a + 2)) (mnp f p) (f (mnp f p) + i)) = _; rw [g2, up1_up1]) ?_
        refine PW.aload_n dX4_vary_123 rfl ?_
        refine PW.getR fl_X4_23 rfl (by assumption) rfl dX4_vary_124 ?_
        refine PW.iload_n dX4_vary_127 rfl ?_
        refine PW.iconst dX4_vary_128 ?_
        refine PW.iadd dX4_vary_129 ?_
        refine PW.callVr (c_X2_of hA4 (by decide) (by omega) (by omega)) cv_X2_of lk_X4_66 (by first | assumption | exact And.left (by assumption)) dX4_vary_130 rfl rfl rfl rfl ?_
        refine PW.aload_n dX4_vary_133 rfl ?_
        refine PW.getR fl_X4_23 rfl (by assumption) rfl dX4_vary_134 ?_
        refine PW.iload_n dX4_vary_137 rfl ?_
        refine PW.callVr (c_X2_of hA4 (by decide) (by omega) (by omega)) cv_X2_of lk_X4_66 (by first | assumption | exact And.left (by assumption)) dX4_vary_138 rfl rfl rfl rfl ?_
        refine PW.aload_n dX4_vary_141 rfl ?_
        refine PW.getR fl_X4_12 rfl (by assumption) rfl dX4_vary_142 ?_
        refine PW.iload_n dX4_vary_145 rfl ?_
        refine PW.aload_n dX4_vary_146 rfl ?_
        refine PW.iload_n dX4_vary_147 rfl ?_
        refine PW.iconst dX4_vary_148 ?_
        refine PW.iadd dX4_vary_149 ?_
        refine PW.callVr (c_X4_looseIndex (c := c) (n := n) hA (by rw [upS_ne (by omega), f2 6 (by decide)]; exact hc) (by omega) (by rw [upS_ne (by omega), f3]; exact hn) (by omega)) cv_X4_looseIndex lk_X4_70 (by first | assumption | exact And.left (by assumption)) dX4_vary_150 rfl rfl rfl rfl ?_
        refine PW.top (liF (σ (a + 18)) c n (l + 1)) (by rw [upS_ne (show a + 18 ≠ a + 2 by omega), f4]) ?_
        have q1 : (upS τ (a + 2) (up1 f (mnp f p) (f (mnp f p) + i))) (a + 1 + 1) = (up1 f (mnp f p) (f (mnp f p) + i)) := upS_same _ _ _
        have q2 : (upS τ (a + 2) (up1 f (mnp f p) (f (mnp f p) + i))) (cA (a + 4) (l + 1) + 1) = τ (cA (a + 4) (l + 1) + 1) := upS_ne (by unfold cA; omega)
        have q3 : (upS τ (a + 2) (up1 f (mnp f p) (f (mnp f p) + i))) (cA (a + 4) l + 1) = τ (cA (a + 4) l + 1) := upS_ne (by unfold cA; omega)
        refine PW.iload_n dX4_vary_153 rfl ?_
        refine PW.callVv (c_X1_goOnFrom hS1 hA1 (fun q q0 q1x => by rw [q1]; exact hE1 q (by omega) (by omega)) (by omega) (by unfold cA; omega) hy hS0 (by rw [q3]; exact f6 l hl (by omega))) cv_X1_goOnFrom lk_X4_123 (by first | assumption | exact And.left (by assumption)) dX4_vary_154 rfl rfl rfl rfl ?_
        refine PW.st (upS (upS τ (a + 2) (up1 f (mnp f p) (f (mnp f p) + i))) (cA (a + 4) (l + 1) + 1) (goF (up1 f (mnp f p) (f (mnp f p) + i)) y (cp8 (τ (cA (a + 4) (l + 1) + 1)) (τ (cA (a + 4) l + 1))) p (liF (σ (a + 18)) c n (l + 1) - p).toNat)) (by rw [q1, q2, q3]) ?_
        have s1 : ∀ q, q ≠ cA (a + 4) (l + 1) + 1 → q ≠ a + 2 → (upS (upS τ (a + 2) (up1 f (mnp f p) (f (mnp f p) + i))) (cA (a + 4) (l + 1) + 1) (goF (up1 f (mnp f p) (f (mnp f p) + i)) y (cp8 (τ (cA (a + 4) (l + 1) + 1)) (τ (cA (a + 4) l + 1))) p (liF (σ (a + 18)) c n (l + 1) - p).toNat)) q = τ q := fun q h1 h2 => by rw [upS_ne h1, upS_ne h2]
        have z2 : (upS (upS τ (a + 2) (up1 f (mnp f p) (f (mnp f p) + i))) (cA (a + 4) (l + 1) + 1) (goF (up1 f (mnp f p) (f (mnp f p) + i)) y (cp8 (τ (cA (a + 4) (l + 1) + 1)) (τ (cA (a + 4) l + 1))) p (liF (σ (a + 18)) c n (l + 1) - p).toNat)) (a + 2) = (up1 f (mnp f p) (f (mnp f p) + i)) := by rw [upS_ne (by unfold cA; omega), upS_same]
        have z1 : (upS (upS τ (a + 2) (up1 f (mnp f p) (f (mnp f p) + i))) (cA (a + 4) (l + 1) + 1) (goF (up1 f (mnp f p) (f (mnp f p) + i)) y (cp8 (τ (cA (a + 4) (l + 1) + 1)) (τ (cA (a + 4) l + 1))) p (liF (σ (a + 18)) c n (l + 1) - p).toNat)) (a + 1) = σ (a + 1) := by rw [s1 _ (by unfold cA; omega) (by omega), f3]
        have z0 : (upS (upS τ (a + 2) (up1 f (mnp f p) (f (mnp f p) + i))) (cA (a + 4) (l + 1) + 1) (goF (up1 f (mnp f p) (f (mnp f p) + i)) y (cp8 (τ (cA (a + 4) (l + 1) + 1)) (τ (cA (a + 4) l + 1))) p (liF (σ (a + 18)) c n (l + 1) - p).toNat)) a = τ a := s1 _ (by unfold cA; omega) (by omega)
        have z18 : (upS (upS τ (a + 2) (up1 f (mnp f p) (f (mnp f p) + i))) (cA (a + 4) (l + 1) + 1) (goF (up1 f (mnp f p) (f (mnp f p) + i)) y (cp8 (τ (cA (a + 4) (l + 1) + 1)) (τ (cA (a + 4) l + 1))) p (liF (σ (a + 18)) c n (l + 1) - p).toNat)) (a + 18) = σ (a + 18) := by rw [s1 _ (by unfold cA; omega) (by omega), f4]
        have z19 : (upS (upS τ (a + 2) (up1 f (mnp f p) (f (mnp f p) + i))) (cA (a + 4) (l + 1) + 1) (goF (up1 f (mnp f p) (f (mnp f p) + i)) y (cp8 (τ (cA (a + 4) (l + 1) + 1)) (τ (cA (a + 4) l + 1))) p (liF (σ (a + 18)) c n (l + 1) - p).toNat)) (a + 19) = τ (a + 19) := s1 _ (by unfold cA; omega) (by omega)
        have zc : (upS (upS τ (a + 2) (up1 f (mnp f p) (f (mnp f p) + i))) (cA (a + 4) (l + 1) + 1) (goF (up1 f (mnp f p) (f (mnp f p) + i)) y (cp8 (τ (cA (a + 4) (l + 1) + 1)) (τ (cA (a + 4) l + 1))) p (liF (σ (a + 18)) c n (l + 1) - p).toNat)) (cA (a + 4) (l + 1) + 1) = (goF (up1 f (mnp f p) (f (mnp f p) + i)) y (cp8 (τ (cA (a + 4) (l + 1) + 1)) (τ (cA (a + 4) l + 1))) p (liF (σ (a + 18)) c n (l + 1) - p).toNat) := upS_same _ _ _
        have hT3 : taOk (upS (upS τ (a + 2) (up1 f (mnp f p) (f (mnp f p) + i))) (cA (a + 4) (l + 1) + 1) (goF (up1 f (mnp f p) (f (mnp f p) + i)) y (cp8 (τ (cA (a + 4) (l + 1) + 1)) (τ (cA (a + 4) l + 1))) p (liF (σ (a + 18)) c n (l + 1) - p).toNat)) (a + 1) := by
          refine ⟨by rw [z1, hn]; exact hn16, fun q q0 q1 => ?_⟩
          rw [z1, hn] at q1
          rw [show (upS (upS τ (a + 2) (up1 f (mnp f p) (f (mnp f p) + i))) (cA (a + 4) (l + 1) + 1) (goF (up1 f (mnp f p) (f (mnp f p) + i)) y (cp8 (τ (cA (a + 4) (l + 1) + 1)) (τ (cA (a + 4) l + 1))) p (liF (σ (a + 18)) c n (l + 1) - p).toNat)) (a + 1 + 1) = (up1 f (mnp f p) (f (mnp f p) + i)) from z2]
          exact hE1 q q0 q1
        have hst1 : eq8 ((upS (upS τ (a + 2) (up1 f (mnp f p) (f (mnp f p) + i))) (cA (a + 4) (l + 1) + 1) (goF (up1 f (mnp f p) (f (mnp f p) + i)) y (cp8 (τ (cA (a + 4) (l + 1) + 1)) (τ (cA (a + 4) l + 1))) p (liF (σ (a + 18)) c n (l + 1) - p).toNat)) (cA (a + 4) (l + 1) + 1)) (tlF (up1 f (mnp f p) (f (mnp f p) + i)) y zF (liF ((upS (upS τ (a + 2) (up1 f (mnp f p) (f (mnp f p) + i))) (cA (a + 4) (l + 1) + 1) (goF (up1 f (mnp f p) (f (mnp f p) + i)) y (cp8 (τ (cA (a + 4) (l + 1) + 1)) (τ (cA (a + 4) l + 1))) p (liF (σ (a + 18)) c n (l + 1) - p).toNat)) (a + 18)) c n (l + 1)).toNat) := by
          rw [zc, z18]
          have e0 : eq8 (cp8 (τ (cA (a + 4) (l + 1) + 1)) (τ (cA (a + 4) l + 1))) (tlF (up1 f (mnp f p) (f (mnp f p) + i)) y zF p.toNat) := by
            refine (cp8_eq _ _).trans ?_
            rw [f5 l hl (Int.le_refl l)]
            have := hst
            rw [hp] at this
            rw [tlF_congr (f := f) (g := (up1 f (mnp f p) (f (mnp f p) + i))) y zF (k := p.toNat) (fun j j0 j1 => up1_ne (by omega))]
            exact this
          have e1 := goF_eq (f := (up1 f (mnp f p) (f (mnp f p) + i))) (n := y) (fr := p) e0 (liF (σ (a + 18)) c n (l + 1) - p).toNat
          have e2 := tl_go (up1 f (mnp f p) (f (mnp f p) + i)) y zF p.toNat (liF (σ (a + 18)) c n (l + 1) - p).toNat
          rw [show ((p.toNat : Nat) : Int) = p by omega, show p.toNat + (liF (σ (a + 18)) c n (l + 1) - p).toNat = (liF (σ (a + 18)) c n (l + 1)).toNat by omega] at e2
          rw [e2] at e1
          exact e1
        have hco1 : colsOk (upS (upS τ (a + 2) (up1 f (mnp f p) (f (mnp f p) + i))) (cA (a + 4) (l + 1) + 1) (goF (up1 f (mnp f p) (f (mnp f p) + i)) y (cp8 (τ (cA (a + 4) (l + 1) + 1)) (τ (cA (a + 4) l + 1))) p (liF (σ (a + 18)) c n (l + 1) - p).toNat)) (a + 4) 5 := fun q q0 q1 => by
          by_cases x : q = l + 1
          · rw [x, zc]
            exact goF_ok (cp8_ok (f6 l hl (by omega))) (fun y y0 y1 => hE1 y (by omega) (by omega))
          · rw [s1 _ (cA_ne q0 (by omega) x) (by unfold cA; omega)]
            exact f6 q q0 q1
        have hwy : wyS (wyL (liF (σ (a + 18)) c n) 2 (l + 1)) (liF (σ (a + 18)) c n l) f i = wyL (liF (σ (a + 18)) c n) 2 (l + 1) (up1 f (mnp f p) (f (mnp f p) + i)) := by
          unfold wyS
          rw [hp, if_pos hsu]
        have hws := wyP_s (liF (σ (a + 18)) c n) 2 l f (e := i) ⟨by omega, by omega⟩
        rw [hwy] at hws
        have hwl : (wyP (liF (σ (a + 18)) c n) 2 l f (i + 1)).length ≤ (wyL (liF (σ (a + 18)) c n) 3 l f).length := wyP_le _ _ _ _
        have hwl2 := congrArg List.length hws
        rw [List.length_append] at hwl2
        have hww : 0 ≤ (upS (upS τ (a + 2) (up1 f (mnp f p) (f (mnp f p) + i))) (cA (a + 4) (l + 1) + 1) (goF (up1 f (mnp f p) (f (mnp f p) + i)) y (cp8 (τ (cA (a + 4) (l + 1) + 1)) (τ (cA (a + 4) l + 1))) p (liF (σ (a + 18)) c n (l + 1) - p).toNat)) a 7 ∧ (upS (upS τ (a + 2) (up1 f (mnp f p) (f (mnp f p) + i))) (cA (a + 4) (l + 1) + 1) (goF (up1 f (mnp f p) (f (mnp f p) + i)) y (cp8 (τ (cA (a + 4) (l + 1) + 1)) (τ (cA (a + 4) l + 1))) p (liF (σ (a + 18)) c n (l + 1) - p).toNat)) a 7 + ((wyL (liF ((upS (upS τ (a + 2) (up1 f (mnp f p) (f (mnp f p) + i))) (cA (a + 4) (l + 1) + 1) (goF (up1 f (mnp f p) (f (mnp f p) + i)) y (cp8 (τ (cA (a + 4) (l + 1) + 1)) (τ (cA (a + 4) l + 1))) p (liF (σ (a + 18)) c n (l + 1) - p).toNat)) (a + 18)) c n) 2 (l + 1) (up1 f (mnp f p) (f (mnp f p) + i))).length : Int) ≤ 81 := by
          rw [z0, z18, g3]
          omega
        have hbb : ∀ j, 0 ≤ j → j < 1296 → 0 ≤ (upS (upS τ (a + 2) (up1 f (mnp f p) (f (mnp f p) + i))) (cA (a + 4) (l + 1) + 1) (goF (up1 f (mnp f p) (f (mnp f p) + i)) y (cp8 (τ (cA (a + 4) (l + 1) + 1)) (τ (cA (a + 4) l + 1))) p (liF (σ (a + 18)) c n (l + 1) - p).toNat)) (a + 19) j ∧ (upS (upS τ (a + 2) (up1 f (mnp f p) (f (mnp f p) + i))) (cA (a + 4) (l + 1) + 1) (goF (up1 f (mnp f p) (f (mnp f p) + i)) y (cp8 (τ (cA (a + 4) (l + 1) + 1)) (τ (cA (a + 4) l + 1))) p (liF (σ (a + 18)) c n (l + 1) - p).toNat)) (a + 19) j ≤ 6000 + 80 * (upS (upS τ (a + 2) (up1 f (mnp f p) (f (mnp f p) + i))) (cA (a + 4) (l + 1) + 1) (goF (up1 f (mnp f p) (f (mnp f p) + i)) y (cp8 (τ (cA (a + 4) (l + 1) + 1)) (τ (cA (a + 4) l + 1))) p (liF (σ (a + 18)) c n (l + 1) - p).toNat)) a 7 := fun j j0 j1 => by
          have b1 := hb j j0 j1
          have b2 := adW_bl y n (wyP (liF (σ (a + 18)) c n) 2 l f i) (σ (a + 19)) (σ a 7) j
          rw [z0, z19, g3, g4]
          omega
        have hv := vary_2 (G := G) (S := S) (σ := (upS (upS τ (a + 2) (up1 f (mnp f p) (f (mnp f p) + i))) (cA (a + 4) (l + 1) + 1) (goF (up1 f (mnp f p) (f (mnp f p) + i)) y (cp8 (τ (cA (a + 4) (l + 1) + 1)) (τ (cA (a + 4) l + 1))) p (liF (σ (a + 18)) c n (l + 1) - p).toNat))) (a := a) (l := l + 1) (y := y) (f := (up1 f (mnp f p) (f (mnp f p) + i))) (n := n) (c := c) hA (by rw [z1]; exact hn) hT3 z2 (by rw [z0, f2 6 (by decide)]; exact hc) (by rw [looF_up hkp]; exact hcl) hc4 (by rw [z18]; exact losA_up hkp hla) (by omega) (by omega) hy hst1 hco1 hww hbb
        refine PW.aload_n dX4_vary_157 rfl ?_
        refine PW.iload_n dX4_vary_158 rfl ?_
        refine PW.iconst dX4_vary_159 ?_
        refine PW.iadd dX4_vary_160 ?_
        refine PW.iload_n dX4_vary_161 rfl ?_
        refine PW.callVg (hv) cv_X4_vary lk_X4_80 hA0 dX4_vary_162 rfl rfl rfl rfl (fun r S' τ162 hq => ?_)
        
        refine PW.iinc [(0, _), (1, _), (2, _), (3, _), (4, _), (5, _), (6, _), (7, _)] dX4_vary_165 rfl rfl (Nat.le_of_ble_eq_true rfl) ?_
        refine PW.goto 84 dX4_vary_168 (by decide) ?_
        first
          | (have hwy : wyS (wyL (liF (σ (a + 18)) c n) 2 (l + 1)) (liF (σ (a + 18)) c n l) f i = [] := by
               unfold wyS
               rw [hp, if_neg (by assumption)]
             have hws := wyP_s (liF (σ (a + 18)) c n) 2 l f (e := i) ⟨by omega, by omega⟩
             rw [hwy, List.append_nil] at hws
             exact ih (i + 1) τ v (by omega) (by omega) (by omega) g1 g2 (by rw [hws]; exact g3) (by rw [hws]; exact g4))
          | (obtain ⟨rfl, hS3, ⟨x1, x2, x3, x4, x5, x6⟩, y1, y2, y3⟩ := hq
             have hS4 := hS3.symm
             subst hS4
             refine ih (i + 1) _ (f (mnp f p) + i) (by omega) (by omega) (by omega) ⟨fun q hq => ?_, fun j hj => ?_, ?_, ?_, fun q q0 q1 => ?_, x6⟩ y1 ?_ ?_
             · rw [x1 q hq, s1 q (by unfold cA; omega) (by omega)]; exact f1 q hq
             · rw [x2 j hj, z0]; exact f2 j hj
             · rw [x3, z1]
             · rw [x4, z18]
             · rw [x5 q q0 (by omega), s1 _ (cA_ne q0 (by omega) (by omega)) (by unfold cA; omega)]
               exact f5 q q0 q1
             · rw [y2, z0, z18, g3, hws, List.length_append]
               omega
             · rw [y3, z19, z0, z18, g3, g4, hws, adW_app])
      · refine PW.goto 165 dX4_vary_105 (by decide) ?_
        refine PW.iinc [(0, _), (1, _), (2, _), (3, _), (4, _), (5, _), (6, _), (7, _)] dX4_vary_165 rfl rfl (Nat.le_of_ble_eq_true rfl) ?_
        refine PW.goto 84 dX4_vary_168 (by decide) ?_
        first
          | (have hwy : wyS (wyL (liF (σ (a + 18)) c n) 2 (l + 1)) (liF (σ (a + 18)) c n l) f i = [] := by
               unfold wyS
               rw [hp, if_neg (by assumption)]
             have hws := wyP_s (liF (σ (a + 18)) c n) 2 l f (e := i) ⟨by omega, by omega⟩
             rw [hwy, List.append_nil] at hws
             exact ih (i + 1) τ v (by omega) (by omega) (by omega) g1 g2 (by rw [hws]; exact g3) (by rw [hws]; exact g4))
          | (obtain ⟨rfl, hS3, ⟨x1, x2, x3, x4, x5, x6⟩, y1, y2, y3⟩ := hq
             have hS4 := hS3.symm
             subst hS4
             refine ih (i + 1) _ (f (mnp f p) + i) (by omega) (by omega) (by omega) ⟨fun q hq => ?_, fun j hj => ?_, ?_, ?_, fun q q0 q1 => ?_, x6⟩ y1 ?_ ?_
             · rw [x1 q hq, s1 q (by unfold cA; omega) (by omega)]; exact f1 q hq
             · rw [x2 j hj, z0]; exact f2 j hj
             · rw [x3, z1]
             · rw [x4, z18]
             · rw [x5 q q0 (by omega), s1 _ (cA_ne q0 (by omega) (by omega)) (by unfold cA; omega)]
               exact f5 q q0 q1
             · rw [y2, z0, z18, g3, hws, List.length_append]
               omega
             · rw [y3, z19, z0, z18, g3, g4, hws, adW_app])
theorem vary_3 {G : GT} {S : Shp} {σ : Sto} {a : Nat} {f : Int → Int} {l n c y : Int} (hA : IsEnds S a) (hn : σ (a + 1) 2 = n) (hT : taOk σ (a + 1)) (hf : σ (a + 2) = f) (hc : σ a 6 = c) (hcl : looF f n = c) (hc4 : c ≤ 4) (hla : losA f (σ (a + 18)) n) (hl : 0 ≤ l) (hkk : c - l = 3) (hy : 0 ≤ y ∧ y ≤ 63) (hst : eq8 (σ (cA (a + 4) l + 1)) (tlF f y zF (liF (σ (a + 18)) c n l).toNat)) (hco : colsOk σ (a + 4) 5) (hw : 0 ≤ σ a 7 ∧ σ a 7 + ((wyL (liF (σ (a + 18)) c n) 3 l f).length : Int) ≤ 81) (hb : ∀ j, 0 ≤ j → j < 1296 → 0 ≤ σ (a + 19) j ∧ σ (a + 19) j ≤ 6000 + 80 * σ a 7) : PMet G mX4_vary 9 0 0 [.ref a, .int (iI l), .int (iI y)] S σ (fun r S' σ' => r = none ∧ S' = S ∧ vaP σ σ' a f l n y (wyL (liF (σ (a + 18)) c n) 3 l f)) := by
  obtain ⟨p, hp⟩ : ∃ p, liF (σ (a + 18)) c n l = p := ⟨_, rfl⟩
  obtain ⟨hA0, hA1, hA4, hA18, hA19, hA20, hA21⟩ := id hA
  have hT0 := hA1.1
  obtain ⟨hC0, hC1, hC2, hCs⟩ := id hA4
  have hn16 := hT.1
  rw [hn] at hn16
  have hEf : ∀ i, 0 ≤ i → i < n → evOk f i := fun i i0 i1 => by
    have := hT.2 i i0 (by omega)
    rw [show σ (a + 1 + 1) = f from hf] at this
    exact this
  have hkd : ∀ i, 0 ≤ i → i < n → 0 ≤ f (7 * i) ∧ f (7 * i) ≤ 5 := fun i i0 i1 => (hEf i i0 i1).k
  have hlf := liF_at (f := f) (la := σ (a + 18)) (n := n) (l := l) (by omega) hla hl (by omega)
  have hgp := liF_gap (f := f) (la := σ (a + 18)) (n := n) (l := l) (by omega) hla hl (by omega)
  rw [hcl] at hlf hgp
  rw [hp] at hlf hgp
  obtain ⟨⟨p0, p1⟩, hlp, hcp⟩ := hlf
  have gp1 := hgp.1
  clear hgp
  have hnx := liF_b (f := f) (la := σ (a + 18)) (n := n) (l := l + 1) (by omega) hla (by omega)
  rw [hcl] at hnx
  have hkp := hkd p p0 p1
  have hx1 := xT_1 hkp
  have hmp := mnp_b hkp
  have hnum := (hEf p p0 p1).2.1 (xT 1 (f (7 * p))) hx1.1 hx1.2
  have hnum2 : -40 ≤ f (mnp f p) ∧ f (mnp f p) ≤ 39 := hnum
  have hS1 := hCs (l + 1) (by omega) (by omega)
  have hS0 := hCs l hl (by omega)
  refine PMet.of [(0, .ref a), (1, .int (iI (l))), (2, .int (iI (y)))] (by decide +kernel) rfl (Nat.le_of_ble_eq_true rfl) ?_
  refine PW.iload_n dX4_vary_0 rfl ?_
  refine PW.aload_n dX4_vary_1 rfl ?_
  refine PW.getI 6 fl_X4_40 rfl (by assumption) rfl rfl dX4_vary_2 ?_
  refine PW.top c hc ?_
  refine PW.icmp_ge 13 dX4_vary_5 (by decide) (by first | assumption | (unfold inR; omega)) (by first | assumption | (unfold inR; omega)) (fun h5 => ?_) (fun h5 => ?_)
  · exfalso; omega
  · refine PW.iload_n dX4_vary_8 rfl ?_
    refine PW.iconst dX4_vary_9 ?_
    refine PW.icmp_lt 46 dX4_vary_10 (by decide) (by first | assumption | (unfold inR; omega)) (by first | assumption | (unfold inR; omega)) (fun h10 => ?_) (fun h10 => ?_)
    · refine PW.aload_n dX4_vary_46 rfl ?_
      refine PW.iload_n dX4_vary_47 rfl ?_
      refine PW.callVr (c_X4_looseIndex (c := c) (n := n) hA hc (by omega) hn (by omega)) cv_X4_looseIndex lk_X4_70 (by first | assumption | exact And.left (by assumption)) dX4_vary_48 rfl rfl rfl rfl ?_
      refine PW.top p hp ?_
      refine PW.istore_n [(0, _), (1, _), (2, _), (3, _)] dX4_vary_51 rfl (Nat.le_of_ble_eq_true rfl) ?_
      refine PW.aload_n dX4_vary_52 rfl ?_
      refine PW.getR fl_X4_12 rfl (by assumption) rfl dX4_vary_53 ?_
      refine PW.iload_n dX4_vary_56 rfl ?_
      refine PW.callVr (c_X8_kind hA1 (by omega)) cv_X8_kind lk_X4_103 (by first | assumption | exact And.left (by assumption)) dX4_vary_57 rfl rfl rfl rfl ?_
      refine PW.top (f (7 * p)) (by show σ (a + 2) (7 * p) = _; rw [hf]) ?_
      refine PW.istore [(0, _), (1, _), (2, _), (3, _), (4, _)] dX4_vary_60 rfl (Nat.le_of_ble_eq_true rfl) ?_
      refine PW.iload dX4_vary_62 rfl ?_
      refine PW.callSr (c_X5_mainPlace hkp) cs_X5_mainPlace lk_X4_106 dX4_vary_64 rfl rfl rfl ?_
      refine PW.istore [(0, _), (1, _), (2, _), (3, _), (4, _), (5, _)] dX4_vary_67 rfl (Nat.le_of_ble_eq_true rfl) ?_
      refine PW.aload_n dX4_vary_69 rfl ?_
      refine PW.getR fl_X4_12 rfl (by assumption) rfl dX4_vary_70 ?_
      refine PW.iload_n dX4_vary_73 rfl ?_
      refine PW.iload dX4_vary_74 rfl ?_
      refine PW.callVr (c_X8_number hA1 (by omega) hx1) cv_X8_number lk_X4_111 (by first | assumption | exact And.left (by assumption)) dX4_vary_76 rfl rfl rfl rfl ?_
      refine PW.top (f (mnp f p)) (by show σ (a + 2) (7 * p + 1 + xT 1 (f (7 * p))) = _; rw [hf]; rfl) ?_
      refine PW.istore [(0, _), (1, _), (2, _), (3, _), (4, _), (5, _), (6, _)] dX4_vary_79 rfl (Nat.le_of_ble_eq_true rfl) ?_
      refine PW.iconst dX4_vary_81 ?_
      refine PW.istore [(0, _), (1, _), (2, _), (3, _), (4, _), (5, _), (6, _), (7, _)] dX4_vary_82 rfl (Nat.le_of_ble_eq_true rfl) ?_
      refine vary_lp3 hA hn hT hf hc hcl hc4 hla hl hkk hy hst hco hw hb hp (fun τ h => ⟨rfl, rfl, h⟩) 4 _ σ (f (mnp f p)) (by omega) (by omega) (by omega) ⟨fun _ _ => rfl, fun _ _ => rfl, rfl, rfl, fun _ _ _ => rfl, hco⟩ (by rw [up1_self]; exact hf) ?_ ?_
      · rw [wyP_0]
        show σ a 7 = σ a 7 + ((0 : Nat) : Int)
        omega
      · rw [wyP_0]
        rfl
    · exfalso; omega
set_option maxRecDepth 20000 in
theorem vary_lp4 {G : GT} {S : Shp} {σ : Sto} {a : Nat} {f : Int → Int} {l n c y : Int} {p : Int} {Q : Option Value → Shp → Sto → Prop} (hA : IsEnds S a) (hn : σ (a + 1) 2 = n) (hT : taOk σ (a + 1)) (hf : σ (a + 2) = f) (hc : σ a 6 = c) (hcl : looF f n = c) (hc4 : c ≤ 4) (hla : losA f (σ (a + 18)) n) (hl : 0 ≤ l) (hkk : c - l = 4) (hy : 0 ≤ y ∧ y ≤ 63) (hst : eq8 (σ (cA (a + 4) l + 1)) (tlF f y zF (liF (σ (a + 18)) c n l).toNat)) (hco : colsOk σ (a + 4) 5) (hw : 0 ≤ σ a 7 ∧ σ a 7 + ((wyL (liF (σ (a + 18)) c n) 4 l f).length : Int) ≤ 81) (hb : ∀ j, 0 ≤ j → j < 1296 → 0 ≤ σ (a + 19) j ∧ σ (a + 19) j ≤ 6000 + 80 * σ a 7) (hp : liF (σ (a + 18)) c n l = p) (hQ : ∀ τ : Sto, vaP σ τ a f l n y (wyL (liF (σ (a + 18)) c n) 4 l f) → Q none S τ) : ∀ (t : Nat) (i : Int) (τ : Sto) (v : Int), -1 ≤ i → i ≤ 2 → 2 - i < t → vaFr σ τ a l → τ (a + 2) = up1 f (mnp f p) v → τ a 7 = σ a 7 + ((wyP (liF (σ (a + 18)) c n) 3 l f i).length : Int) → τ (a + 19) = adW y n (σ (a + 19)) (σ a 7) (wyP (liF (σ (a + 18)) c n) 3 l f i) → PW (fm G mX4_vary 10 0 0 Q) G S (τ) 0 0 84 [(0, .ref a), (1, .int (iI (l))), (2, .int (iI (y))), (3, .int (iI (p))), (4, .int (iI (f (7 * p)))), (5, .int (iI (xT 1 (f (7 * p))))), (6, .int (iI (f (mnp f p)))), (7, .int (iI (i)))] [] := by
  obtain ⟨hA0, hA1, hA4, hA18, hA19, hA20, hA21⟩ := id hA
  have hT0 := hA1.1
  obtain ⟨hC0, hC1, hC2, hCs⟩ := id hA4
  have hn16 := hT.1
  rw [hn] at hn16
  have hEf : ∀ i, 0 ≤ i → i < n → evOk f i := fun i i0 i1 => by
    have := hT.2 i i0 (by omega)
    rw [show σ (a + 1 + 1) = f from hf] at this
    exact this
  have hkd : ∀ i, 0 ≤ i → i < n → 0 ≤ f (7 * i) ∧ f (7 * i) ≤ 5 := fun i i0 i1 => (hEf i i0 i1).k
  have hlf := liF_at (f := f) (la := σ (a + 18)) (n := n) (l := l) (by omega) hla hl (by omega)
  have hgp := liF_gap (f := f) (la := σ (a + 18)) (n := n) (l := l) (by omega) hla hl (by omega)
  rw [hcl] at hlf hgp
  rw [hp] at hlf hgp
  obtain ⟨⟨p0, p1⟩, hlp, hcp⟩ := hlf
  have gp1 := hgp.1
  clear hgp
  have hnx := liF_b (f := f) (la := σ (a + 18)) (n := n) (l := l + 1) (by omega) hla (by omega)
  rw [hcl] at hnx
  have hkp := hkd p p0 p1
  have hx1 := xT_1 hkp
  have hmp := mnp_b hkp
  have hnum := (hEf p p0 p1).2.1 (xT 1 (f (7 * p))) hx1.1 hx1.2
  have hnum2 : -40 ≤ f (mnp f p) ∧ f (mnp f p) ≤ 39 := hnum
  have hS1 := hCs (l + 1) (by omega) (by omega)
  have hS0 := hCs l hl (by omega)
  intro t
  induction t with
  | zero => intro i τ v h1 h2 h3 g1 g2 g3 g4; omega
  | succ t ih =>
    intro i τ v h1 h2 h3 g1 g2 g3 g4
    obtain ⟨f1, f2, f3, f4, f5, f6⟩ := id g1
    refine PW.iload dX4_vary_84 rfl ?_
    refine PW.iconst dX4_vary_86 ?_
    refine PW.icmp_gt 171 dX4_vary_87 (by decide) (by first | assumption | (unfold inR; omega)) (by first | assumption | (unfold inR; omega)) (fun h87 => ?_) (fun h87 => ?_)
    · refine PW.aload_n dX4_vary_171 rfl ?_
      refine PW.getR fl_X4_12 rfl (by assumption) rfl dX4_vary_172 ?_
      refine PW.iload_n dX4_vary_175 rfl ?_
      refine PW.iload dX4_vary_176 rfl ?_
      refine PW.iload dX4_vary_178 rfl ?_
      refine PW.callVv (c_X8_setNumber (by assumption) (by omega) (by omega)) cv_X8_setNumber lk_X4_119 (by first | assumption | exact And.left (by assumption)) dX4_vary_180 rfl rfl rfl rfl ?_
      have hi : i = 2 := by omega
      subst hi
      rw [wyP_2] at g3 g4
      refine PW.vret rfl dX4_vary_183 (hQ _ ⟨⟨fun q hq => ?_, fun j hj => ?_, ?_, ?_, fun q q0 q1 => ?_, ?_⟩, ?_, ?_, ?_⟩)
      · rw [upS_ne (by omega)]; exact f1 q hq
      · rw [upS_ne (by omega)]; exact f2 j hj
      · rw [upS_ne (by omega)]; exact f3
      · rw [upS_ne (by omega)]; exact f4
      · rw [upS_ne (by unfold cA; omega)]; exact f5 q q0 q1
      · exact colsOk_congr (fun x x0 x1 => upS_ne (by omega)) f6
      · show upS τ (a + 2) (up1 (τ (a + 2)) (mnp f p) (f (mnp f p))) (a + 2) = f
        rw [upS_same, g2, up1_up1, up1_self]
      · rw [upS_ne (by omega)]; exact g3
      · rw [upS_ne (by omega)]; exact g4
    · refine PW.iload dX4_vary_90 rfl ?_
      refine PW.iload dX4_vary_92 rfl ?_
      refine PW.iload dX4_vary_94 rfl ?_
      refine PW.iload dX4_vary_96 rfl ?_
      refine PW.iadd dX4_vary_98 ?_
      refine PW.callSr (c_X5_suits hkp hx1 (by unfold inR; omega)) cs_X5_suits lk_X4_115 dX4_vary_99 rfl rfl rfl ?_
      refine PW.if_neB 108 dX4_vary_102 (by decide) (fun h102 => ?_) (fun h102 => ?_)
      · have hsu : suF (f (7 * p)) (xT 1 (f (7 * p))) (f (mnp f p) + i) := by assumption
        have hE1 := evOk_all p0 p1 hEf hsu
        refine PW.aload_n dX4_vary_108 rfl ?_
        refine PW.getR fl_X4_12 rfl (by assumption) rfl dX4_vary_109 ?_
        refine PW.iload_n dX4_vary_112 rfl ?_
        refine PW.iload dX4_vary_113 rfl ?_
        refine PW.iload dX4_vary_115 rfl ?_
        refine PW.iload dX4_vary_117 rfl ?_
        refine PW.iadd dX4_vary_119 ?_
        refine PW.callVv (c_X8_setNumber hA1 (by omega) hx1) cv_X8_setNumber lk_X4_119 (by first | assumption | exact And.left (by assumption)) dX4_vary_120 rfl rfl rfl rfl ?_
        refine PW.st (upS τ (a + 2) (up1 f (mnp f p) (f (mnp f p) + i))) (by show upS τ (a + 2) (up1 (τ (a + 2)) (mnp f p) (f (mnp f p) + i)) = _; rw [g2, up1_up1]) ?_
        refine PW.aload_n dX4_vary_123 rfl ?_
        refine PW.getR fl_X4_23 rfl (by assumption) rfl dX4_vary_124 ?_
        refine PW.iload_n dX4_vary_127 rfl ?_
        refine PW.iconst dX4_vary_128 ?_
        refine PW.iadd dX4_vary_129 ?_
        refine PW.callVr (c_X2_of hA4 (by decide) (by omega) (by omega)) cv_X2_of lk_X4_66 (by first | assumption | exact And.left (by assumption)) dX4_vary_130 rfl rfl rfl rfl ?_
        refine PW.aload_n dX4_vary_133 rfl ?_
        refine PW.getR fl_X4_23 rfl (by assumption) rfl dX4_vary_134 ?_
        refine PW.iload_n dX4_vary_137 rfl ?_
        refine PW.callVr (c_X2_of hA4 (by decide) (by omega) (by omega)) cv_X2_of lk_X4_66 (by first | assumption | exact And.left (by assumption)) dX4_vary_138 rfl rfl rfl rfl ?_
        refine PW.aload_n dX4_vary_141 rfl ?_
        refine PW.getR fl_X4_12 rfl (by assumption) rfl dX4_vary_142 ?_
        refine PW.iload_n dX4_vary_145 rfl ?_
        refine PW.aload_n dX4_vary_146 rfl ?_
        refine PW.iload_n dX4_vary_147 rfl ?_
        refine PW.iconst dX4_vary_148 ?_
        refine PW.iadd dX4_vary_149 ?_
        refine PW.callVr (c_X4_looseIndex (c := c) (n := n) hA (by rw [upS_ne (by omega), f2 6 (by decide)]; exact hc) (by omega) (by rw [upS_ne (by omega), f3]; exact hn) (by omega)) cv_X4_looseIndex lk_X4_70 (by first | assumption | exact And.left (by assumption)) dX4_vary_150 rfl rfl rfl rfl ?_
        refine PW.top (liF (σ (a + 18)) c n (l + 1)) (by rw [upS_ne (show a + 18 ≠ a + 2 by omega), f4]) ?_
        have q1 : (upS τ (a + 2) (up1 f (mnp f p) (f (mnp f p) + i))) (a + 1 + 1) = (up1 f (mnp f p) (f (mnp f p) + i)) := upS_same _ _ _
        have q2 : (upS τ (a + 2) (up1 f (mnp f p) (f (mnp f p) + i))) (cA (a + 4) (l + 1) + 1) = τ (cA (a + 4) (l + 1) + 1) := upS_ne (by unfold cA; omega)
        have q3 : (upS τ (a + 2) (up1 f (mnp f p) (f (mnp f p) + i))) (cA (a + 4) l + 1) = τ (cA (a + 4) l + 1) := upS_ne (by unfold cA; omega)
        refine PW.iload_n dX4_vary_153 rfl ?_
        refine PW.callVv (c_X1_goOnFrom hS1 hA1 (fun q q0 q1x => by rw [q1]; exact hE1 q (by omega) (by omega)) (by omega) (by unfold cA; omega) hy hS0 (by rw [q3]; exact f6 l hl (by omega))) cv_X1_goOnFrom lk_X4_123 (by first | assumption | exact And.left (by assumption)) dX4_vary_154 rfl rfl rfl rfl ?_
        refine PW.st (upS (upS τ (a + 2) (up1 f (mnp f p) (f (mnp f p) + i))) (cA (a + 4) (l + 1) + 1) (goF (up1 f (mnp f p) (f (mnp f p) + i)) y (cp8 (τ (cA (a + 4) (l + 1) + 1)) (τ (cA (a + 4) l + 1))) p (liF (σ (a + 18)) c n (l + 1) - p).toNat)) (by rw [q1, q2, q3]) ?_
        have s1 : ∀ q, q ≠ cA (a + 4) (l + 1) + 1 → q ≠ a + 2 → (upS (upS τ (a + 2) (up1 f (mnp f p) (f (mnp f p) + i))) (cA (a + 4) (l + 1) + 1) (goF (up1 f (mnp f p) (f (mnp f p) + i)) y (cp8 (τ (cA (a + 4) (l + 1) + 1)) (τ (cA (a + 4) l + 1))) p (liF (σ (a + 18)) c n (l + 1) - p).toNat)) q = τ q := fun q h1 h2 => by rw [upS_ne h1, upS_ne h2]
        have z2 : (upS (upS τ (a + 2) (up1 f (mnp f p) (f (mnp f p) + i))) (cA (a + 4) (l + 1) + 1) (goF (up1 f (mnp f p) (f (mnp f p) + i)) y (cp8 (τ (cA (a + 4) (l + 1) + 1)) (τ (cA (a + 4) l + 1))) p (liF (σ (a + 18)) c n (l + 1) - p).toNat)) (a + 2) = (up1 f (mnp f p) (f (mnp f p) + i)) := by rw [upS_ne (by unfold cA; omega), upS_same]
        have z1 : (upS (upS τ (a + 2) (up1 f (mnp f p) (f (mnp f p) + i))) (cA (a + 4) (l + 1) + 1) (goF (up1 f (mnp f p) (f (mnp f p) + i)) y (cp8 (τ (cA (a + 4) (l + 1) + 1)) (τ (cA (a + 4) l + 1))) p (liF (σ (a + 18)) c n (l + 1) - p).toNat)) (a + 1) = σ (a + 1) := by rw [s1 _ (by unfold cA; omega) (by omega), f3]
        have z0 : (upS (upS τ (a + 2) (up1 f (mnp f p) (f (mnp f p) + i))) (cA (a + 4) (l + 1) + 1) (goF (up1 f (mnp f p) (f (mnp f p) + i)) y (cp8 (τ (cA (a + 4) (l + 1) + 1)) (τ (cA (a + 4) l + 1))) p (liF (σ (a + 18)) c n (l + 1) - p).toNat)) a = τ a := s1 _ (by unfold cA; omega) (by omega)
        have z18 : (upS (upS τ (a + 2) (up1 f (mnp f p) (f (mnp f p) + i))) (cA (a + 4) (l + 1) + 1) (goF (up1 f (mnp f p) (f (mnp f p) + i)) y (cp8 (τ (cA (a + 4) (l + 1) + 1)) (τ (cA (a + 4) l + 1))) p (liF (σ (a + 18)) c n (l + 1) - p).toNat)) (a + 18) = σ (a + 18) := by rw [s1 _ (by unfold cA; omega) (by omega), f4]
        have z19 : (upS (upS τ (a + 2) (up1 f (mnp f p) (f (mnp f p) + i))) (cA (a + 4) (l + 1) + 1) (goF (up1 f (mnp f p) (f (mnp f p) + i)) y (cp8 (τ (cA (a + 4) (l + 1) + 1)) (τ (cA (a + 4) l + 1))) p (liF (σ (a + 18)) c n (l + 1) - p).toNat)) (a + 19) = τ (a + 19) := s1 _ (by unfold cA; omega) (by omega)
        have zc : (upS (upS τ (a + 2) (up1 f (mnp f p) (f (mnp f p) + i))) (cA (a + 4) (l + 1) + 1) (goF (up1 f (mnp f p) (f (mnp f p) + i)) y (cp8 (τ (cA (a + 4) (l + 1) + 1)) (τ (cA (a + 4) l + 1))) p (liF (σ (a + 18)) c n (l + 1) - p).toNat)) (cA (a + 4) (l + 1) + 1) = (goF (up1 f (mnp f p) (f (mnp f p) + i)) y (cp8 (τ (cA (a + 4) (l + 1) + 1)) (τ (cA (a + 4) l + 1))) p (liF (σ (a + 18)) c n (l + 1) - p).toNat) := upS_same _ _ _
        have hT3 : taOk (upS (upS τ (a + 2) (up1 f (mnp f p) (f (mnp f p) + i))) (cA (a + 4) (l + 1) + 1) (goF (up1 f (mnp f p) (f (mnp f p) + i)) y (cp8 (τ (cA (a + 4) (l + 1) + 1)) (τ (cA (a + 4) l + 1))) p (liF (σ (a + 18)) c n (l + 1) - p).toNat)) (a + 1) := by
          refine ⟨by rw [z1, hn]; exact hn16, fun q q0 q1 => ?_⟩
          rw [z1, hn] at q1
          rw [show (upS (upS τ (a + 2) (up1 f (mnp f p) (f (mnp f p) + i))) (cA (a + 4) (l + 1) + 1) (goF (up1 f (mnp f p) (f (mnp f p) + i)) y (cp8 (τ (cA (a + 4) (l + 1) + 1)) (τ (cA (a + 4) l + 1))) p (liF (σ (a + 18)) c n (l + 1) - p).toNat)) (a + 1 + 1) = (up1 f (mnp f p) (f (mnp f p) + i)) from z2]
          exact hE1 q q0 q1
        have hst1 : eq8 ((upS (upS τ (a + 2) (up1 f (mnp f p) (f (mnp f p) + i))) (cA (a + 4) (l + 1) + 1) (goF (up1 f (mnp f p) (f (mnp f p) + i)) y (cp8 (τ (cA (a + 4) (l + 1) + 1)) (τ (cA (a + 4) l + 1))) p (liF (σ (a + 18)) c n (l + 1) - p).toNat)) (cA (a + 4) (l + 1) + 1)) (tlF (up1 f (mnp f p) (f (mnp f p) + i)) y zF (liF ((upS (upS τ (a + 2) (up1 f (mnp f p) (f (mnp f p) + i))) (cA (a + 4) (l + 1) + 1) (goF (up1 f (mnp f p) (f (mnp f p) + i)) y (cp8 (τ (cA (a + 4) (l + 1) + 1)) (τ (cA (a + 4) l + 1))) p (liF (σ (a + 18)) c n (l + 1) - p).toNat)) (a + 18)) c n (l + 1)).toNat) := by
          rw [zc, z18]
          have e0 : eq8 (cp8 (τ (cA (a + 4) (l + 1) + 1)) (τ (cA (a + 4) l + 1))) (tlF (up1 f (mnp f p) (f (mnp f p) + i)) y zF p.toNat) := by
            refine (cp8_eq _ _).trans ?_
            rw [f5 l hl (Int.le_refl l)]
            have := hst
            rw [hp] at this
            rw [tlF_congr (f := f) (g := (up1 f (mnp f p) (f (mnp f p) + i))) y zF (k := p.toNat) (fun j j0 j1 => up1_ne (by omega))]
            exact this
          have e1 := goF_eq (f := (up1 f (mnp f p) (f (mnp f p) + i))) (n := y) (fr := p) e0 (liF (σ (a + 18)) c n (l + 1) - p).toNat
          have e2 := tl_go (up1 f (mnp f p) (f (mnp f p) + i)) y zF p.toNat (liF (σ (a + 18)) c n (l + 1) - p).toNat
          rw [show ((p.toNat : Nat) : Int) = p by omega, show p.toNat + (liF (σ (a + 18)) c n (l + 1) - p).toNat = (liF (σ (a + 18)) c n (l + 1)).toNat by omega] at e2
          rw [e2] at e1
          exact e1
        have hco1 : colsOk (upS (upS τ (a + 2) (up1 f (mnp f p) (f (mnp f p) + i))) (cA (a + 4) (l + 1) + 1) (goF (up1 f (mnp f p) (f (mnp f p) + i)) y (cp8 (τ (cA (a + 4) (l + 1) + 1)) (τ (cA (a + 4) l + 1))) p (liF (σ (a + 18)) c n (l + 1) - p).toNat)) (a + 4) 5 := fun q q0 q1 => by
          by_cases x : q = l + 1
          · rw [x, zc]
            exact goF_ok (cp8_ok (f6 l hl (by omega))) (fun y y0 y1 => hE1 y (by omega) (by omega))
          · rw [s1 _ (cA_ne q0 (by omega) x) (by unfold cA; omega)]
            exact f6 q q0 q1
        have hwy : wyS (wyL (liF (σ (a + 18)) c n) 3 (l + 1)) (liF (σ (a + 18)) c n l) f i = wyL (liF (σ (a + 18)) c n) 3 (l + 1) (up1 f (mnp f p) (f (mnp f p) + i)) := by
          unfold wyS
          rw [hp, if_pos hsu]
        have hws := wyP_s (liF (σ (a + 18)) c n) 3 l f (e := i) ⟨by omega, by omega⟩
        rw [hwy] at hws
        have hwl : (wyP (liF (σ (a + 18)) c n) 3 l f (i + 1)).length ≤ (wyL (liF (σ (a + 18)) c n) 4 l f).length := wyP_le _ _ _ _
        have hwl2 := congrArg List.length hws
        rw [List.length_append] at hwl2
        have hww : 0 ≤ (upS (upS τ (a + 2) (up1 f (mnp f p) (f (mnp f p) + i))) (cA (a + 4) (l + 1) + 1) (goF (up1 f (mnp f p) (f (mnp f p) + i)) y (cp8 (τ (cA (a + 4) (l + 1) + 1)) (τ (cA (a + 4) l + 1))) p (liF (σ (a + 18)) c n (l + 1) - p).toNat)) a 7 ∧ (upS (upS τ (a + 2) (up1 f (mnp f p) (f (mnp f p) + i))) (cA (a + 4) (l + 1) + 1) (goF (up1 f (mnp f p) (f (mnp f p) + i)) y (cp8 (τ (cA (a + 4) (l + 1) + 1)) (τ (cA (a + 4) l + 1))) p (liF (σ (a + 18)) c n (l + 1) - p).toNat)) a 7 + ((wyL (liF ((upS (upS τ (a + 2) (up1 f (mnp f p) (f (mnp f p) + i))) (cA (a + 4) (l + 1) + 1) (goF (up1 f (mnp f p) (f (mnp f p) + i)) y (cp8 (τ (cA (a + 4) (l + 1) + 1)) (τ (cA (a + 4) l + 1))) p (liF (σ (a + 18)) c n (l + 1) - p).toNat)) (a + 18)) c n) 3 (l + 1) (up1 f (mnp f p) (f (mnp f p) + i))).length : Int) ≤ 81 := by
          rw [z0, z18, g3]
          omega
        have hbb : ∀ j, 0 ≤ j → j < 1296 → 0 ≤ (upS (upS τ (a + 2) (up1 f (mnp f p) (f (mnp f p) + i))) (cA (a + 4) (l + 1) + 1) (goF (up1 f (mnp f p) (f (mnp f p) + i)) y (cp8 (τ (cA (a + 4) (l + 1) + 1)) (τ (cA (a + 4) l + 1))) p (liF (σ (a + 18)) c n (l + 1) - p).toNat)) (a + 19) j ∧ (upS (upS τ (a + 2) (up1 f (mnp f p) (f (mnp f p) + i))) (cA (a + 4) (l + 1) + 1) (goF (up1 f (mnp f p) (f (mnp f p) + i)) y (cp8 (τ (cA (a + 4) (l + 1) + 1)) (τ (cA (a + 4) l + 1))) p (liF (σ (a + 18)) c n (l + 1) - p).toNat)) (a + 19) j ≤ 6000 + 80 * (upS (upS τ (a + 2) (up1 f (mnp f p) (f (mnp f p) + i))) (cA (a + 4) (l + 1) + 1) (goF (up1 f (mnp f p) (f (mnp f p) + i)) y (cp8 (τ (cA (a + 4) (l + 1) + 1)) (τ (cA (a + 4) l + 1))) p (liF (σ (a + 18)) c n (l + 1) - p).toNat)) a 7 := fun j j0 j1 => by
          have b1 := hb j j0 j1
          have b2 := adW_bl y n (wyP (liF (σ (a + 18)) c n) 3 l f i) (σ (a + 19)) (σ a 7) j
          rw [z0, z19, g3, g4]
          omega
        have hv := vary_3 (G := G) (S := S) (σ := (upS (upS τ (a + 2) (up1 f (mnp f p) (f (mnp f p) + i))) (cA (a + 4) (l + 1) + 1) (goF (up1 f (mnp f p) (f (mnp f p) + i)) y (cp8 (τ (cA (a + 4) (l + 1) + 1)) (τ (cA (a + 4) l + 1))) p (liF (σ (a + 18)) c n (l + 1) - p).toNat))) (a := a) (l := l + 1) (y := y) (f := (up1 f (mnp f p) (f (mnp f p) + i))) (n := n) (c := c) hA (by rw [z1]; exact hn) hT3 z2 (by rw [z0, f2 6 (by decide)]; exact hc) (by rw [looF_up hkp]; exact hcl) hc4 (by rw [z18]; exact losA_up hkp hla) (by omega) (by omega) hy hst1 hco1 hww hbb
        refine PW.aload_n dX4_vary_157 rfl ?_
        refine PW.iload_n dX4_vary_158 rfl ?_
        refine PW.iconst dX4_vary_159 ?_
        refine PW.iadd dX4_vary_160 ?_
        refine PW.iload_n dX4_vary_161 rfl ?_
        refine PW.callVg (hv) cv_X4_vary lk_X4_80 hA0 dX4_vary_162 rfl rfl rfl rfl (fun r S' τ162 hq => ?_)
        
        refine PW.iinc [(0, _), (1, _), (2, _), (3, _), (4, _), (5, _), (6, _), (7, _)] dX4_vary_165 rfl rfl (Nat.le_of_ble_eq_true rfl) ?_
        refine PW.goto 84 dX4_vary_168 (by decide) ?_
        first
          | (have hwy : wyS (wyL (liF (σ (a + 18)) c n) 3 (l + 1)) (liF (σ (a + 18)) c n l) f i = [] := by
               unfold wyS
               rw [hp, if_neg (by assumption)]
             have hws := wyP_s (liF (σ (a + 18)) c n) 3 l f (e := i) ⟨by omega, by omega⟩
             rw [hwy, List.append_nil] at hws
             exact ih (i + 1) τ v (by omega) (by omega) (by omega) g1 g2 (by rw [hws]; exact g3) (by rw [hws]; exact g4))
          | (obtain ⟨rfl, hS3, ⟨x1, x2, x3, x4, x5, x6⟩, y1, y2, y3⟩ := hq
             have hS4 := hS3.symm
             subst hS4
             refine ih (i + 1) _ (f (mnp f p) + i) (by omega) (by omega) (by omega) ⟨fun q hq => ?_, fun j hj => ?_, ?_, ?_, fun q q0 q1 => ?_, x6⟩ y1 ?_ ?_
             · rw [x1 q hq, s1 q (by unfold cA; omega) (by omega)]; exact f1 q hq
             · rw [x2 j hj, z0]; exact f2 j hj
             · rw [x3, z1]
             · rw [x4, z18]
             · rw [x5 q q0 (by omega), s1 _ (cA_ne q0 (by omega) (by omega)) (by unfold cA; omega)]
               exact f5 q q0 q1
             · rw [y2, z0, z18, g3, hws, List.length_append]
               omega
             · rw [y3, z19, z0, z18, g3, g4, hws, adW_app])
      · refine PW.goto 165 dX4_vary_105 (by decide) ?_
        refine PW.iinc [(0, _), (1, _), (2, _), (3, _), (4, _), (5, _), (6, _), (7, _)] dX4_vary_165 rfl rfl (Nat.le_of_ble_eq_true rfl) ?_
        refine PW.goto 84 dX4_vary_168 (by decide) ?_
        first
          | (have hwy : wyS (wyL (liF (σ (a + 18)) c n) 3 (l + 1)) (liF (σ (a + 18)) c n l) f i = [] := by
               unfold wyS
               rw [hp, if_neg (by assumption)]
             have hws := wyP_s (liF (σ (a + 18)) c n) 3 l f (e := i) ⟨by omega, by omega⟩
             rw [hwy, List.append_nil] at hws
             exact ih (i + 1) τ v (by omega) (by omega) (by omega) g1 g2 (by rw [hws]; exact g3) (by rw [hws]; exact g4))
          | (obtain ⟨rfl, hS3, ⟨x1, x2, x3, x4, x5, x6⟩, y1, y2, y3⟩ := hq
             have hS4 := hS3.symm
             subst hS4
             refine ih (i + 1) _ (f (mnp f p) + i) (by omega) (by omega) (by omega) ⟨fun q hq => ?_, fun j hj => ?_, ?_, ?_, fun q q0 q1 => ?_, x6⟩ y1 ?_ ?_
             · rw [x1 q hq, s1 q (by unfold cA; omega) (by omega)]; exact f1 q hq
             · rw [x2 j hj, z0]; exact f2 j hj
             · rw [x3, z1]
             · rw [x4, z18]
             · rw [x5 q q0 (by omega), s1 _ (cA_ne q0 (by omega) (by omega)) (by unfold cA; omega)]
               exact f5 q q0 q1
             · rw [y2, z0, z18, g3, hws, List.length_append]
               omega
             · rw [y3, z19, z0, z18, g3, g4, hws, adW_app])
theorem vary_4 {G : GT} {S : Shp} {σ : Sto} {a : Nat} {f : Int → Int} {l n c y : Int} (hA : IsEnds S a) (hn : σ (a + 1) 2 = n) (hT : taOk σ (a + 1)) (hf : σ (a + 2) = f) (hc : σ a 6 = c) (hcl : looF f n = c) (hc4 : c ≤ 4) (hla : losA f (σ (a + 18)) n) (hl : 0 ≤ l) (hkk : c - l = 4) (hy : 0 ≤ y ∧ y ≤ 63) (hst : eq8 (σ (cA (a + 4) l + 1)) (tlF f y zF (liF (σ (a + 18)) c n l).toNat)) (hco : colsOk σ (a + 4) 5) (hw : 0 ≤ σ a 7 ∧ σ a 7 + ((wyL (liF (σ (a + 18)) c n) 4 l f).length : Int) ≤ 81) (hb : ∀ j, 0 ≤ j → j < 1296 → 0 ≤ σ (a + 19) j ∧ σ (a + 19) j ≤ 6000 + 80 * σ a 7) : PMet G mX4_vary 10 0 0 [.ref a, .int (iI l), .int (iI y)] S σ (fun r S' σ' => r = none ∧ S' = S ∧ vaP σ σ' a f l n y (wyL (liF (σ (a + 18)) c n) 4 l f)) := by
  obtain ⟨p, hp⟩ : ∃ p, liF (σ (a + 18)) c n l = p := ⟨_, rfl⟩
  obtain ⟨hA0, hA1, hA4, hA18, hA19, hA20, hA21⟩ := id hA
  have hT0 := hA1.1
  obtain ⟨hC0, hC1, hC2, hCs⟩ := id hA4
  have hn16 := hT.1
  rw [hn] at hn16
  have hEf : ∀ i, 0 ≤ i → i < n → evOk f i := fun i i0 i1 => by
    have := hT.2 i i0 (by omega)
    rw [show σ (a + 1 + 1) = f from hf] at this
    exact this
  have hkd : ∀ i, 0 ≤ i → i < n → 0 ≤ f (7 * i) ∧ f (7 * i) ≤ 5 := fun i i0 i1 => (hEf i i0 i1).k
  have hlf := liF_at (f := f) (la := σ (a + 18)) (n := n) (l := l) (by omega) hla hl (by omega)
  have hgp := liF_gap (f := f) (la := σ (a + 18)) (n := n) (l := l) (by omega) hla hl (by omega)
  rw [hcl] at hlf hgp
  rw [hp] at hlf hgp
  obtain ⟨⟨p0, p1⟩, hlp, hcp⟩ := hlf
  have gp1 := hgp.1
  clear hgp
  have hnx := liF_b (f := f) (la := σ (a + 18)) (n := n) (l := l + 1) (by omega) hla (by omega)
  rw [hcl] at hnx
  have hkp := hkd p p0 p1
  have hx1 := xT_1 hkp
  have hmp := mnp_b hkp
  have hnum := (hEf p p0 p1).2.1 (xT 1 (f (7 * p))) hx1.1 hx1.2
  have hnum2 : -40 ≤ f (mnp f p) ∧ f (mnp f p) ≤ 39 := hnum
  have hS1 := hCs (l + 1) (by omega) (by omega)
  have hS0 := hCs l hl (by omega)
  refine PMet.of [(0, .ref a), (1, .int (iI (l))), (2, .int (iI (y)))] (by decide +kernel) rfl (Nat.le_of_ble_eq_true rfl) ?_
  refine PW.iload_n dX4_vary_0 rfl ?_
  refine PW.aload_n dX4_vary_1 rfl ?_
  refine PW.getI 6 fl_X4_40 rfl (by assumption) rfl rfl dX4_vary_2 ?_
  refine PW.top c hc ?_
  refine PW.icmp_ge 13 dX4_vary_5 (by decide) (by first | assumption | (unfold inR; omega)) (by first | assumption | (unfold inR; omega)) (fun h5 => ?_) (fun h5 => ?_)
  · exfalso; omega
  · refine PW.iload_n dX4_vary_8 rfl ?_
    refine PW.iconst dX4_vary_9 ?_
    refine PW.icmp_lt 46 dX4_vary_10 (by decide) (by first | assumption | (unfold inR; omega)) (by first | assumption | (unfold inR; omega)) (fun h10 => ?_) (fun h10 => ?_)
    · refine PW.aload_n dX4_vary_46 rfl ?_
      refine PW.iload_n dX4_vary_47 rfl ?_
      refine PW.callVr (c_X4_looseIndex (c := c) (n := n) hA hc (by omega) hn (by omega)) cv_X4_looseIndex lk_X4_70 (by first | assumption | exact And.left (by assumption)) dX4_vary_48 rfl rfl rfl rfl ?_
      refine PW.top p hp ?_
      refine PW.istore_n [(0, _), (1, _), (2, _), (3, _)] dX4_vary_51 rfl (Nat.le_of_ble_eq_true rfl) ?_
      refine PW.aload_n dX4_vary_52 rfl ?_
      refine PW.getR fl_X4_12 rfl (by assumption) rfl dX4_vary_53 ?_
      refine PW.iload_n dX4_vary_56 rfl ?_
      refine PW.callVr (c_X8_kind hA1 (by omega)) cv_X8_kind lk_X4_103 (by first | assumption | exact And.left (by assumption)) dX4_vary_57 rfl rfl rfl rfl ?_
      refine PW.top (f (7 * p)) (by show σ (a + 2) (7 * p) = _; rw [hf]) ?_
      refine PW.istore [(0, _), (1, _), (2, _), (3, _), (4, _)] dX4_vary_60 rfl (Nat.le_of_ble_eq_true rfl) ?_
      refine PW.iload dX4_vary_62 rfl ?_
      refine PW.callSr (c_X5_mainPlace hkp) cs_X5_mainPlace lk_X4_106 dX4_vary_64 rfl rfl rfl ?_
      refine PW.istore [(0, _), (1, _), (2, _), (3, _), (4, _), (5, _)] dX4_vary_67 rfl (Nat.le_of_ble_eq_true rfl) ?_
      refine PW.aload_n dX4_vary_69 rfl ?_
      refine PW.getR fl_X4_12 rfl (by assumption) rfl dX4_vary_70 ?_
      refine PW.iload_n dX4_vary_73 rfl ?_
      refine PW.iload dX4_vary_74 rfl ?_
      refine PW.callVr (c_X8_number hA1 (by omega) hx1) cv_X8_number lk_X4_111 (by first | assumption | exact And.left (by assumption)) dX4_vary_76 rfl rfl rfl rfl ?_
      refine PW.top (f (mnp f p)) (by show σ (a + 2) (7 * p + 1 + xT 1 (f (7 * p))) = _; rw [hf]; rfl) ?_
      refine PW.istore [(0, _), (1, _), (2, _), (3, _), (4, _), (5, _), (6, _)] dX4_vary_79 rfl (Nat.le_of_ble_eq_true rfl) ?_
      refine PW.iconst dX4_vary_81 ?_
      refine PW.istore [(0, _), (1, _), (2, _), (3, _), (4, _), (5, _), (6, _), (7, _)] dX4_vary_82 rfl (Nat.le_of_ble_eq_true rfl) ?_
      refine vary_lp4 hA hn hT hf hc hcl hc4 hla hl hkk hy hst hco hw hb hp (fun τ h => ⟨rfl, rfl, h⟩) 4 _ σ (f (mnp f p)) (by omega) (by omega) (by omega) ⟨fun _ _ => rfl, fun _ _ => rfl, rfl, rfl, fun _ _ _ => rfl, hco⟩ (by rw [up1_self]; exact hf) ?_ ?_
      · rw [wyP_0]
        show σ a 7 = σ a 7 + ((0 : Nat) : Int)
        omega
      · rw [wyP_0]
        rfl
    · exfalso; omega

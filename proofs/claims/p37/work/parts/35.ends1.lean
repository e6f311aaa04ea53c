def IsEnds (S : Shp) (a : Nat) : Prop := At S a (sO 4 [fR (a + 1), fR (a + 4), fR (a + 18), fR (a + 19), fR (a + 20), fR (a + 21), fI, fI, fI]) ∧ IsTale S (a + 1) ∧ IsCols S (a + 4) 5 ∧ At S (a + 18) (sA 0 4) ∧ At S (a + 19) (sA 0 1296) ∧ At S (a + 20) (sA 0 16) ∧ At S (a + 21) (sA 0 16)
/-- the place where the l-th loose event stands; the end without one -/
def liF (la : Int → Int) (c n l : Int) : Int := if l < c then la l else n
abbrev losP (f : Int → Int) (i : Int) : Prop := ¬ f (7 * i + 6) = 0
def losA (f la : Int → Int) (n : Int) : Prop := ∀ i, 0 ≤ i → i < n → losP f i → la (looF f i) = i
theorem looF_s (f : Int → Int) {i : Int} (h : 0 ≤ i) : looF f (i + 1) = looF f i + b01 (losP f i) := sumI_succ _ h
theorem looF_mono (f : Int → Int) {i : Int} (h : 0 ≤ i) : ∀ k : Nat, looF f i ≤ looF f (i + k)
  | 0 => by simp
  | k + 1 => by
    have ih := looF_mono f h k
    have e := looF_s f (i := i + k) (by omega)
    have b := b01_b (losP f (i + k))
    rw [show i + ((k + 1 : Nat) : Int) = i + k + 1 by omega]
    omega
theorem looF_le (f : Int → Int) {i j : Int} (h : 0 ≤ i) (hj : i ≤ j) : looF f i ≤ looF f j := by
  have := looF_mono f h (j - i).toNat
  rw [show i + (((j - i).toNat : Nat) : Int) = j by omega] at this
  exact this
theorem looF_lt (f : Int → Int) {i j : Int} (h : 0 ≤ i) (hj : i < j) (hu : losP f i) : looF f i < looF f j := by
  have e := looF_s f h
  rw [b01_t hu] at e
  have := looF_le f (i := i + 1) (by omega) (show i + 1 ≤ j by omega)
  omega
theorem looF_at (f : Int → Int) : ∀ {n : Nat} {k : Int}, 0 ≤ k → k < looF f n → ∃ s : Int, 0 ≤ s ∧ s < n ∧ losP f s ∧ looF f s = k
  | 0, k, h0, h1 => by
    rw [show looF f ((0 : Nat) : Int) = 0 from rfl] at h1
    omega
  | n + 1, k, h0, h1 => by
    have e := looF_s f (i := (n : Int)) (by omega)
    rw [show ((n + 1 : Nat) : Int) = (n : Int) + 1 by omega] at h1
    by_cases hk : k < looF f n
    · obtain ⟨s, s0, s1, s2, s3⟩ := looF_at f h0 hk
      exact ⟨s, s0, by omega, s2, s3⟩
    · by_cases hu : losP f n
      · rw [b01_t hu] at e
        exact ⟨n, by omega, by omega, hu, by omega⟩
      · rw [b01_f hu] at e
        omega
theorem liF_at {f la : Int → Int} {n l : Int} (hn : 0 ≤ n) (h : losA f la n) (h0 : 0 ≤ l) (h1 : l < looF f n) : (0 ≤ liF la (looF f n) n l ∧ liF la (looF f n) n l < n) ∧ losP f (liF la (looF f n) n l) ∧ looF f (liF la (looF f n) n l) = l := by
  obtain ⟨s, s0, s1, s2, s3⟩ := looF_at f (n := n.toNat) h0 (by rw [show ((n.toNat : Nat) : Int) = n by omega]; exact h1)
  have e : liF la (looF f n) n l = s := by
    unfold liF
    rw [if_pos h1, ← s3]
    exact h s s0 (by omega) s2
  rw [e]
  exact ⟨⟨s0, by omega⟩, s2, s3⟩
theorem liF_b {f la : Int → Int} {n l : Int} (hn : 0 ≤ n) (h : losA f la n) (h0 : 0 ≤ l) : 0 ≤ liF la (looF f n) n l ∧ liF la (looF f n) n l ≤ n := by
  by_cases h1 : l < looF f n
  · have := (liF_at hn h h0 h1).1
    omega
  · unfold liF
    rw [if_neg h1]
    omega
/-- between one loose event and the next there is none -/
theorem liF_gap {f la : Int → Int} {n l : Int} (hn : 0 ≤ n) (h : losA f la n) (h0 : 0 ≤ l) (h1 : l < looF f n) : liF la (looF f n) n l < liF la (looF f n) n (l + 1) ∧ ∀ i, liF la (looF f n) n l < i → i < liF la (looF f n) n (l + 1) → ¬ losP f i := by
  obtain ⟨⟨a0, a1⟩, a2, a3⟩ := liF_at hn h h0 h1
  by_cases h2 : l + 1 < looF f n
  · obtain ⟨⟨b0, b1⟩, b2, b3⟩ := liF_at hn h (by omega) h2
    refine ⟨?_, fun i i0 i1 hi => ?_⟩
    · by_cases q : liF la (looF f n) n l < liF la (looF f n) n (l + 1)
      · exact q
      · have := looF_le f b0 (show liF la (looF f n) n (l + 1) ≤ liF la (looF f n) n l by omega)
        omega
    · have q1 := looF_lt f a0 i0 a2
      have q2 := looF_lt f (show 0 ≤ i by omega) i1 hi
      omega
  · have e : liF la (looF f n) n (l + 1) = n := by unfold liF; rw [if_neg h2]
    rw [e]
    refine ⟨a1, fun i i0 i1 hi => ?_⟩
    have q1 := looF_lt f a0 i0 a2
    have q2 := looF_lt f (show 0 ≤ i by omega) i1 hi
    omega
theorem liF_first {f la : Int → Int} {n : Int} (hn : 0 ≤ n) (h : losA f la n) : ∀ i, 0 ≤ i → i < liF la (looF f n) n 0 → ¬ losP f i := by
  intro i i0 i1 hi
  by_cases h1 : 0 < looF f n
  · obtain ⟨⟨a0, a1⟩, a2, a3⟩ := liF_at hn h (Int.le_refl 0) h1
    have q := looF_lt f i0 i1 hi
    have q2 := looF_le f (i := 0) (j := i) (Int.le_refl 0) i0
    rw [show looF f 0 = 0 from rfl] at q2
    omega
  · have q := looF_lt f i0 (show i < n by have e : liF la (looF f n) n 0 = n := by { unfold liF; rw [if_neg h1] }; omega) hi
    have q2 := looF_le f (i := 0) (j := i) (Int.le_refl 0) i0
    rw [show looF f 0 = 0 from rfl] at q2
    omega
/-- where an event's main number stands -/
def mnp (f : Int → Int) (i : Int) : Int := 7 * i + 1 + xT 1 (f (7 * i))
theorem mnp_b {f : Int → Int} {i : Int} (h : 0 ≤ f (7 * i) ∧ f (7 * i) ≤ 5) : 7 * i + 1 ≤ mnp f i ∧ mnp f i ≤ 7 * i + 5 := by
  have := xT_1 h
  unfold mnp
  omega
/-- g is f with the main numbers of the loose events from lo on 1 less or more or neither, within their bounds -/
def vrR (f g : Int → Int) (lo n : Int) : Prop := (∀ j, 0 ≤ j → j < 7 * n → g j = f j ∨ ∃ i, lo ≤ i ∧ i < n ∧ losP f i ∧ j = mnp f i) ∧ ∀ i, lo ≤ i → i < n → losP f i → ∃ e, -1 ≤ e ∧ e ≤ 1 ∧ g (mnp f i) = f (mnp f i) + e ∧ suF (f (7 * i)) (xT 1 (f (7 * i))) (f (mnp f i) + e)
abbrev zF : Int → Int := fun _ => 0
/-- how many cells of a bed a land of n events has -/
def amF (g : Int → Int) (n b : Int) : Int := smF (fun c => clF (tlF g c zF n.toNat) b) 64
theorem amF_b (g : Int → Int) (n b : Int) : 0 ≤ amF g n b ∧ amF g n b ≤ 5120 := by
  have := smF_b (f := fun c => clF (tlF g c zF n.toNat) b) (lo := 0) (hi := 80) (i := 64) (by decide) (fun c _ _ => clF_b _ _)
  unfold amF
  omega
theorem evR_congr {f g : Int → Int} {i : Int} (h : ∀ p, 0 ≤ p → p ≤ 5 → g (7 * i + p) = f (7 * i + p)) (n : Int) (c : Int → Int) : evR g i n c = evR f i n c := by
  have h0 := h 0 (by omega) (by omega)
  have h1 := h 1 (by omega) (by omega)
  have h2 := h 2 (by omega) (by omega)
  have h3 := h 3 (by omega) (by omega)
  have h4 := h 4 (by omega) (by omega)
  have h5 := h 5 (by omega) (by omega)
  unfold evR
  rw [show 7 * i + 1 + 0 = 7 * i + 1 by omega, show 7 * i + 1 + 1 = 7 * i + 2 by omega, show 7 * i + 1 + 2 = 7 * i + 3 by omega, show 7 * i + 1 + 3 = 7 * i + 4 by omega, show 7 * i + 1 + 4 = 7 * i + 5 by omega]
  rw [Int.add_zero] at h0
  rw [h0, h1, h2, h3, h4, h5]
theorem tlF_congr {f g : Int → Int} (n : Int) (c : Int → Int) : ∀ {k : Nat}, (∀ j, 0 ≤ j → j < 7 * (k : Int) → g j = f j) → tlF g n c k = tlF f n c k
  | 0, _ => rfl
  | k + 1, h => by
    simp only [tlF]
    rw [tlF_congr n c (k := k) (fun j j0 j1 => h j j0 (by omega)), evR_congr (f := f) (g := g) (fun p p0 p1 => h _ (by omega) (by omega))]
theorem amF_congr {f g : Int → Int} {n : Int} (h : ∀ j, 0 ≤ j → j < 7 * n → g j = f j) (hn : 0 ≤ n) (b : Int) : amF g n b = amF f n b := smF_congr fun c _ _ => by
  rw [tlF_congr c zF (k := n.toNat) (fun j j0 j1 => h j j0 (by omega))]
theorem tl_go (f : Int → Int) (n : Int) (c : Int → Int) (i : Nat) : ∀ k : Nat, goF f n (tlF f n c i) (i : Int) k = tlF f n c (i + k)
  | 0 => rfl
  | k + 1 => by
    simp only [goF]
    rw [tl_go f n c i k, show i + (k + 1) = i + k + 1 by omega]
    simp only [tlF]
    rw [show ((i + k : Nat) : Int) = (i : Int) + k by omega]
theorem vrR_kind {f g : Int → Int} {lo n i : Int} (h : vrR f g lo n) (hk : ∀ i, 0 ≤ i → i < n → 0 ≤ f (7 * i) ∧ f (7 * i) ≤ 5) (hlo : 0 ≤ lo) (i0 : 0 ≤ i) (i1 : i < n) : g (7 * i) = f (7 * i) ∧ g (7 * i + 6) = f (7 * i + 6) := by
  refine ⟨?_, ?_⟩
  · rcases h.1 (7 * i) (by omega) (by omega) with e | ⟨q, q0, q1, q2, q3⟩
    · exact e
    · have := mnp_b (hk q (by omega) q1)
      omega
  · rcases h.1 (7 * i + 6) (by omega) (by omega) with e | ⟨q, q0, q1, q2, q3⟩
    · exact e
    · have := mnp_b (hk q (by omega) q1)
      omega
theorem up_kind {f : Int → Int} {i v : Int} (hk : 0 ≤ f (7 * i) ∧ f (7 * i) ≤ 5) (q : Int) : up1 f (mnp f i) v (7 * q) = f (7 * q) ∧ up1 f (mnp f i) v (7 * q + 6) = f (7 * q + 6) := by
  have := mnp_b hk
  exact ⟨up1_ne (by omega), up1_ne (by omega)⟩
theorem up_mnp {f : Int → Int} {i v : Int} (hk : 0 ≤ f (7 * i) ∧ f (7 * i) ≤ 5) (q : Int) : mnp (up1 f (mnp f i) v) q = mnp f q := by
  unfold mnp
  rw [show up1 f (7 * i + 1 + xT 1 (f (7 * i))) v (7 * q) = f (7 * q) from (up_kind hk q).1]
theorem vrR_split {f g : Int → Int} {i lo n : Int} (hk : ∀ i, 0 ≤ i → i < n → 0 ≤ f (7 * i) ∧ f (7 * i) ≤ 5) (i0 : 0 ≤ i) (i1 : i < n) (hl : losP f i) (hlo : i < lo) (hgap : ∀ q, i < q → q < lo → ¬ losP f q) (h : vrR f g i n) : ∃ e, -1 ≤ e ∧ e ≤ 1 ∧ suF (f (7 * i)) (xT 1 (f (7 * i))) (f (mnp f i) + e) ∧ g (mnp f i) = f (mnp f i) + e ∧ vrR (up1 f (mnp f i) (f (mnp f i) + e)) g lo n := by
  obtain ⟨e, e0, e1, e2, e3⟩ := h.2 i (Int.le_refl _) i1 hl
  refine ⟨e, e0, e1, e3, e2, fun j j0 j1 => ?_, fun q q0 q1 q2 => ?_⟩
  · by_cases hj : j = mnp f i
    · subst hj
      rw [up1_same]
      exact Or.inl e2
    · rw [up1_ne hj]
      rcases h.1 j j0 j1 with a | ⟨q, q0, q1, q2, q3⟩
      · exact Or.inl a
      · refine Or.inr ⟨q, ?_, q1, ?_, ?_⟩
        · by_cases hq : lo ≤ q
          · exact hq
          · by_cases hqi : q = i
            · subst hqi
              exact absurd q3 hj
            · exact absurd q2 (hgap q (by omega) (by omega))
        · unfold losP
          rw [(up_kind (hk i i0 i1) q).2]
          exact q2
        · rw [up_mnp (hk i i0 i1)]
          exact q3
  · have k1 := up_kind (v := f (mnp f i) + e) (hk i i0 i1) q
    have q3 : losP f q := by
      unfold losP at q2
      rw [k1.2] at q2
      exact q2
    obtain ⟨e', a0, a1, a2, a3⟩ := h.2 q (by omega) q1 q3
    have b1 := mnp_b (hk q (by omega) q1)
    have b2 := mnp_b (hk i i0 i1)
    refine ⟨e', a0, a1, ?_, ?_⟩
    · rw [up_mnp (hk i i0 i1), up1_ne (by omega)]
      exact a2
    · rw [up_mnp (hk i i0 i1), k1.1, up1_ne (show mnp f q ≠ mnp f i by omega)]
      exact a3
theorem vrR_join {f g : Int → Int} {i lo n e : Int} (hk : ∀ i, 0 ≤ i → i < n → 0 ≤ f (7 * i) ∧ f (7 * i) ≤ 5) (i0 : 0 ≤ i) (i1 : i < n) (hl : losP f i) (hlo : i < lo) (hgap : ∀ q, i < q → q < lo → ¬ losP f q) (he : -1 ≤ e ∧ e ≤ 1) (hs : suF (f (7 * i)) (xT 1 (f (7 * i))) (f (mnp f i) + e)) (h : vrR (up1 f (mnp f i) (f (mnp f i) + e)) g lo n) : vrR f g i n ∧ g (mnp f i) = f (mnp f i) + e := by
  have b2 := mnp_b (hk i i0 i1)
  have key : g (mnp f i) = f (mnp f i) + e := by
    rcases h.1 (mnp f i) (by omega) (by omega) with a | ⟨q, q0, q1, q2, q3⟩
    · rw [a, up1_same]
    · rw [up_mnp (hk i i0 i1)] at q3
      have b1 := mnp_b (hk q (by omega) q1)
      omega
  refine ⟨⟨fun j j0 j1 => ?_, fun q q0 q1 q2 => ?_⟩, key⟩
  · by_cases hj : j = mnp f i
    · exact Or.inr ⟨i, Int.le_refl _, i1, hl, hj⟩
    · rcases h.1 j j0 j1 with a | ⟨q, q0, q1, q2, q3⟩
      · rw [up1_ne hj] at a
        exact Or.inl a
      · rw [up_mnp (hk i i0 i1)] at q3
        unfold losP at q2
        rw [(up_kind (hk i i0 i1) q).2] at q2
        exact Or.inr ⟨q, by omega, q1, q2, q3⟩
  · by_cases hq : q = i
    · subst hq
      exact ⟨e, he.1, he.2, key, hs⟩
    · have hq2 : lo ≤ q := by
        by_cases x : lo ≤ q
        · exact x
        · exact absurd q2 (hgap q (by omega) (by omega))
      have k1 := up_kind (v := f (mnp f i) + e) (hk i i0 i1) q
      obtain ⟨e', a0, a1, a2, a3⟩ := h.2 q hq2 q1 (by unfold losP; rw [k1.2]; exact q2)
      have b1 := mnp_b (hk q (by omega) q1)
      rw [up_mnp (hk i i0 i1), up1_ne (by omega)] at a2
      rw [up_mnp (hk i i0 i1), k1.1, up1_ne (show mnp f q ≠ mnp f i by omega)] at a3
      exact ⟨e', a0, a1, a2, a3⟩
theorem vrR_end {f g : Int → Int} {n : Int} (h : vrR f g n n) : ∀ j, 0 ≤ j → j < 7 * n → g j = f j := by
  intro j j0 j1
  rcases h.1 j j0 j1 with e | ⟨i, i0, i1, -, -⟩
  · exact e
  · omega
theorem vrR_refl {f : Int → Int} {lo n : Int} (hlo : 0 ≤ lo) (hE : ∀ i, 0 ≤ i → i < n → evOk f i) : vrR f f lo n := by
  refine ⟨fun j _ _ => Or.inl rfl, fun i i0 i1 hi => ⟨0, by decide, by decide, by omega, ?_⟩⟩
  have h := (hE i (by omega) i1).1
  have hk := h.1
  rw [Int.add_zero]
  unfold mnp
  obtain ⟨-, -, s0, s1, s2, s3, s4⟩ := h
  obtain ⟨k, hkk⟩ : ∃ k, f (7 * i) = k := ⟨_, rfl⟩
  rw [hkk] at s0 s1 s2 s3 s4 hk ⊢
  rcases (show k = 0 ∨ k = 1 ∨ k = 2 ∨ k = 3 ∨ k = 4 ∨ k = 5 by omega) with rfl | rfl | rfl | rfl | rfl | rfl
  · rw [show xT 1 0 = 1 by decide]; exact s1
  · rw [show xT 1 1 = 0 by decide]; exact s0
  · rw [show xT 1 2 = 1 by decide]; exact s1
  · rw [show xT 1 3 = 2 by decide]; exact s2
  · rw [show xT 1 4 = 0 by decide]; exact s0
  · rw [show xT 1 5 = 4 by decide]; exact s4
/-- an event with its main number changed within its bounds -/
theorem evOk_var {f : Int → Int} {i v : Int} (h : evOk f i) (hs : suF (f (7 * i)) (xT 1 (f (7 * i))) v) : evOk (up1 f (mnp f i) v) i ∧ -40 ≤ v ∧ v ≤ 39 := by
  have hk := h.k
  have e6 := h.2.2
  have u := up_kind (v := v) hk i
  obtain ⟨⟨-, hdc, s0, s1, s2, s3, s4⟩, hr, -⟩ := h
  obtain ⟨k, hkk⟩ : ∃ k, f (7 * i) = k := ⟨_, rfl⟩
  have hm : mnp f i = 7 * i + 1 + xT 1 k := by unfold mnp; rw [hkk]
  have hk' := hk
  rw [hkk] at hdc s0 s1 s2 s3 s4 hs hk'
  have hv : -40 ≤ v ∧ v ≤ 39 := by
    rcases (show k = 0 ∨ k = 1 ∨ k = 2 ∨ k = 3 ∨ k = 4 ∨ k = 5 by omega) with rfl | rfl | rfl | rfl | rfl | rfl
    · rw [show xT 1 0 = 1 by decide] at hs
      unfold suF at hs
      rw [show xT 0 0 = 2 by decide, show xT 2 (5 * 0 + 1) = 1 by decide, show xT 3 (5 * 0 + 1) = 8 by decide] at hs
      omega
    · rw [show xT 1 1 = 0 by decide] at hs
      unfold suF at hs
      rw [show xT 0 1 = 2 by decide, show xT 2 (5 * 1 + 0) = -8 by decide, show xT 3 (5 * 1 + 0) = 8 by decide] at hs
      omega
    · rw [show xT 1 2 = 1 by decide] at hs
      unfold suF at hs
      rw [show xT 0 2 = 4 by decide, show xT 2 (5 * 2 + 1) = -8 by decide, show xT 3 (5 * 2 + 1) = 8 by decide] at hs
      omega
    · rw [show xT 1 3 = 2 by decide] at hs
      unfold suF at hs
      rw [show xT 0 3 = 4 by decide, show xT 2 (5 * 3 + 2) = -16 by decide, show xT 3 (5 * 3 + 2) = 16 by decide] at hs
      omega
    · rw [show xT 1 4 = 0 by decide] at hs
      unfold suF at hs
      rw [show xT 0 4 = 3 by decide, show xT 2 (5 * 4 + 0) = -30 by decide, show xT 3 (5 * 4 + 0) = 39 by decide] at hs
      omega
    · rw [show xT 1 5 = 4 by decide] at hs
      unfold suF at hs
      rw [show xT 0 5 = 5 by decide, show xT 2 (5 * 5 + 4) = -40 by decide, show xT 3 (5 * 5 + 4) = 39 by decide] at hs
      omega
  refine ⟨⟨?_, fun p p0 p1 => ?_, by rw [u.2]; exact e6⟩, hv⟩
  · rw [u.1, hkk]
    rw [hm]
    rcases (show k = 0 ∨ k = 1 ∨ k = 2 ∨ k = 3 ∨ k = 4 ∨ k = 5 by omega) with rfl | rfl | rfl | rfl | rfl | rfl
    · rw [show xT 1 0 = 1 by decide] at *
      rw [up1_same, up1_ne (show 7 * i + 1 + 0 ≠ 7 * i + 1 + 1 by omega), up1_ne (show 7 * i + 1 + 2 ≠ 7 * i + 1 + 1 by omega), up1_ne (show 7 * i + 1 + 3 ≠ 7 * i + 1 + 1 by omega), up1_ne (show 7 * i + 1 + 4 ≠ 7 * i + 1 + 1 by omega)]
      exact ⟨by decide, fun q => absurd q.1 (by decide), s0, hs, s2, s3, s4⟩
    · rw [show xT 1 1 = 0 by decide] at *
      rw [up1_same, up1_ne (show 7 * i + 1 + 1 ≠ 7 * i + 1 + 0 by omega), up1_ne (show 7 * i + 1 + 2 ≠ 7 * i + 1 + 0 by omega), up1_ne (show 7 * i + 1 + 3 ≠ 7 * i + 1 + 0 by omega), up1_ne (show 7 * i + 1 + 4 ≠ 7 * i + 1 + 0 by omega)]
      exact ⟨by decide, fun q => absurd q.1 (by decide), hs, s1, s2, s3, s4⟩
    · rw [show xT 1 2 = 1 by decide] at *
      rw [up1_same, up1_ne (show 7 * i + 1 + 0 ≠ 7 * i + 1 + 1 by omega), up1_ne (show 7 * i + 1 + 2 ≠ 7 * i + 1 + 1 by omega), up1_ne (show 7 * i + 1 + 3 ≠ 7 * i + 1 + 1 by omega), up1_ne (show 7 * i + 1 + 4 ≠ 7 * i + 1 + 1 by omega)]
      exact ⟨by decide, fun q => absurd q.1 (by decide), s0, hs, s2, s3, s4⟩
    · rw [show xT 1 3 = 2 by decide] at *
      rw [up1_same, up1_ne (show 7 * i + 1 + 0 ≠ 7 * i + 1 + 2 by omega), up1_ne (show 7 * i + 1 + 1 ≠ 7 * i + 1 + 2 by omega), up1_ne (show 7 * i + 1 + 3 ≠ 7 * i + 1 + 2 by omega), up1_ne (show 7 * i + 1 + 4 ≠ 7 * i + 1 + 2 by omega)]
      exact ⟨by decide, fun q => absurd q.1 (by decide), s0, s1, hs, s3, s4⟩
    · rw [show xT 1 4 = 0 by decide] at *
      rw [up1_same, up1_ne (show 7 * i + 1 + 1 ≠ 7 * i + 1 + 0 by omega), up1_ne (show 7 * i + 1 + 2 ≠ 7 * i + 1 + 0 by omega), up1_ne (show 7 * i + 1 + 3 ≠ 7 * i + 1 + 0 by omega), up1_ne (show 7 * i + 1 + 4 ≠ 7 * i + 1 + 0 by omega)]
      exact ⟨by decide, fun q => absurd q.1 (by decide), hs, s1, s2, s3, s4⟩
    · rw [show xT 1 5 = 4 by decide] at *
      rw [up1_same, up1_ne (show 7 * i + 1 + 0 ≠ 7 * i + 1 + 4 by omega), up1_ne (show 7 * i + 1 + 1 ≠ 7 * i + 1 + 4 by omega), up1_ne (show 7 * i + 1 + 2 ≠ 7 * i + 1 + 4 by omega), up1_ne (show 7 * i + 1 + 3 ≠ 7 * i + 1 + 4 by omega)]
      exact ⟨by decide, hdc, s0, s1, s2, s3, hs⟩
  · by_cases q : 7 * i + 1 + p = mnp f i
    · rw [q, up1_same]
      exact hv
    · rw [up1_ne q]
      exact hr p p0 p1
theorem evOk_keep {f : Int → Int} {i q v : Int} (hk : 0 ≤ f (7 * i) ∧ f (7 * i) ≤ 5) (h : evOk f q) (hq : q ≠ i) : evOk (up1 f (mnp f i) v) q := by
  have b := mnp_b hk
  unfold evOk
  rw [up1_ne (show 7 * q ≠ mnp f i by omega), up1_ne (show 7 * q + 1 + 0 ≠ mnp f i by omega), up1_ne (show 7 * q + 1 + 1 ≠ mnp f i by omega), up1_ne (show 7 * q + 1 + 2 ≠ mnp f i by omega), up1_ne (show 7 * q + 1 + 3 ≠ mnp f i by omega), up1_ne (show 7 * q + 1 + 4 ≠ mnp f i by omega), up1_ne (show 7 * q + 6 ≠ mnp f i by omega)]
  refine ⟨h.1, fun p p0 p1 => ?_, h.2.2⟩
  rw [up1_ne (by omega)]
  exact h.2.1 p p0 p1
theorem c_X4_doubt {G : GT} {S : Shp} {σ : Sto} {a : Nat} (hA : IsEnds S a) : PMet G mX4_doubt 0 0 0 [.ref a] S σ (isP none S (upS σ a (up1 (σ a) 8 0))) := by
  obtain ⟨hA0, hA1, hA4, hA18, hA19, hA20, hA21⟩ := id hA
  refine PMet.of [(0, .ref a)] (by decide +kernel) rfl (Nat.le_of_ble_eq_true rfl) ?_
  refine PW.aload_n dX4_doubt_0 rfl ?_
  refine PW.iconst dX4_doubt_1 ?_
  refine PW.putI 8 fl_X4_47 rfl (fun h => absurd h (by decide)) (by assumption) rfl rfl rfl rfl dX4_doubt_2 ?_
  exact PW.vret rfl dX4_doubt_5 (⟨rfl, rfl, rfl⟩)
theorem c_X4_least {G : GT} {S : Shp} {σ : Sto} {a : Nat} {b : Int} (hA : IsEnds S a) (hb : 0 ≤ b ∧ b ≤ 15) : PMet G mX4_least 1 0 0 [.ref a, .int (iI (b))] S σ (isP (some (.int (iI (σ (a + 20) b)))) S (σ)) := by
  obtain ⟨hA0, hA1, hA4, hA18, hA19, hA20, hA21⟩ := id hA
  refine PMet.of [(0, .ref a), (1, .int (iI (b)))] (by decide +kernel) rfl (Nat.le_of_ble_eq_true rfl) ?_
  refine PW.aload_n dX4_least_0 rfl ?_
  refine PW.getR fl_X4_34 rfl (by assumption) rfl dX4_least_1 ?_
  refine PW.iload_n dX4_least_4 rfl ?_
  refine PW.callSr (c_X11_get (by assumption) (by first | assumption | (unfold inR; omega)) (by decide)) cs_X11_get lk_X4_51 dX4_least_5 rfl rfl rfl ?_
  exact PW.iret rfl rfl dX4_least_8 ⟨ret_eq (by unfold gI; rw [if_pos (by omega)] <;> first | rfl | (congr 1; omega)), rfl, rfl⟩
theorem c_X4_greatest {G : GT} {S : Shp} {σ : Sto} {a : Nat} {b : Int} (hA : IsEnds S a) (hb : 0 ≤ b ∧ b ≤ 15) : PMet G mX4_greatest 1 0 0 [.ref a, .int (iI (b))] S σ (isP (some (.int (iI (σ (a + 21) b)))) S (σ)) := by
  obtain ⟨hA0, hA1, hA4, hA18, hA19, hA20, hA21⟩ := id hA
  refine PMet.of [(0, .ref a), (1, .int (iI (b)))] (by decide +kernel) rfl (Nat.le_of_ble_eq_true rfl) ?_
  refine PW.aload_n dX4_greatest_0 rfl ?_
  refine PW.getR fl_X4_37 rfl (by assumption) rfl dX4_greatest_1 ?_
  refine PW.iload_n dX4_greatest_4 rfl ?_
  refine PW.callSr (c_X11_get (by assumption) (by first | assumption | (unfold inR; omega)) (by decide)) cs_X11_get lk_X4_51 dX4_greatest_5 rfl rfl rfl ?_
  exact PW.iret rfl rfl dX4_greatest_8 ⟨ret_eq (by unfold gI; rw [if_pos (by omega)] <;> first | rfl | (congr 1; omega)), rfl, rfl⟩
theorem c_X4_looseIndex {G : GT} {S : Shp} {σ : Sto} {a : Nat} {l c n : Int} (hA : IsEnds S a) (hc : σ a 6 = c) (hc4 : 0 ≤ c ∧ c ≤ 4) (hn : σ (a + 1) 2 = n) (hl : 0 ≤ l ∧ l ≤ 4) : PMet G mX4_looseIndex 1 0 0 [.ref a, .int (iI (l))] S σ (isP (some (.int (iI (liF (σ (a + 18)) c n l)))) S (σ)) := by
  obtain ⟨hA0, hA1, hA4, hA18, hA19, hA20, hA21⟩ := id hA
  have hT0 := hA1.1
  refine PMet.of [(0, .ref a), (1, .int (iI (l)))] (by decide +kernel) rfl (Nat.le_of_ble_eq_true rfl) ?_
  refine PW.iload_n dX4_looseIndex_0 rfl ?_
  refine PW.aload_n dX4_looseIndex_1 rfl ?_
  refine PW.getI 6 fl_X4_40 rfl (by assumption) rfl rfl dX4_looseIndex_2 ?_
  refine PW.top c hc ?_
  refine PW.icmp_ge 19 dX4_looseIndex_5 (by decide) (by first | assumption | (unfold inR; omega)) (by first | assumption | (unfold inR; omega)) (fun h5 => ?_) (fun h5 => ?_)
  · refine PW.aload_n dX4_looseIndex_19 rfl ?_
    refine PW.getR fl_X4_12 rfl (by assumption) rfl dX4_looseIndex_20 ?_
    refine PW.callVr (c_X8_size hA1) cv_X8_size lk_X4_87 (by first | assumption | exact And.left (by assumption)) dX4_looseIndex_23 rfl rfl rfl rfl ?_
    exact PW.iret rfl rfl dX4_looseIndex_26 ⟨ret_eq (by unfold liF; first | (rw [if_neg (by omega)]; exact hn) | (rw [if_pos (by omega)]; unfold gI; rw [if_pos (by omega)])), rfl, rfl⟩
  · refine PW.aload_n dX4_looseIndex_8 rfl ?_
    refine PW.getR fl_X4_27 rfl (by assumption) rfl dX4_looseIndex_9 ?_
    refine PW.iload_n dX4_looseIndex_12 rfl ?_
    refine PW.callSr (c_X11_get (by assumption) (by first | assumption | (unfold inR; omega)) (by decide)) cs_X11_get lk_X4_51 dX4_looseIndex_13 rfl rfl rfl ?_
    refine PW.goto 26 dX4_looseIndex_16 (by decide) ?_
    exact PW.iret rfl rfl dX4_looseIndex_26 ⟨ret_eq (by unfold liF; first | (rw [if_neg (by omega)]; exact hn) | (rw [if_pos (by omega)]; unfold gI; rw [if_pos (by omega)])), rfl, rfl⟩
def flFr (σ τ : Sto) (a : Nat) : Prop := (∀ b, b ≠ a → b ≠ a + 18 → τ b = σ b) ∧ ∀ j, j ≠ 6 → τ a j = σ a j
theorem fl_loop {G : GT} {S : Shp} {σ : Sto} {a : Nat} {n : Int} {Q : Option Value → Shp → Sto → Prop} (hA : IsEnds S a) (hT : taOk σ (a + 1)) (hn : σ (a + 1) 2 = n) (hc : looF (σ (a + 2)) n ≤ 4) (hQ : ∀ τ : Sto, flFr σ τ a → τ a 6 = looF (σ (a + 2)) n → losA (σ (a + 2)) (τ (a + 18)) n → Q none S τ) : ∀ (t : Nat) (i : Int) (τ : Sto), 0 ≤ i → i ≤ n → n - i < t → flFr σ τ a → τ a 6 = looF (σ (a + 2)) i → losA (σ (a + 2)) (τ (a + 18)) i → PW (fm G mX4_findLoose 2 0 0 Q) G S (τ) 0 0 7 [(0, .ref a), (1, .int (iI (i)))] [] := by
  obtain ⟨hA0, hA1, hA4, hA18, hA19, hA20, hA21⟩ := id hA
  have hT0 := hA1.1
  have hT1 := hT.1
  have hT2 := hT.2
  intro t
  induction t with
  | zero => intro i τ h1 h2 h3 g1 g2 g3; omega
  | succ t ih =>
    intro i τ h1 h2 h3 g1 g2 g3
    have e1 : τ (a + 1) = σ (a + 1) := g1.1 _ (by omega) (by omega)
    have e2 : τ (a + 1 + 1) = σ (a + 2) := g1.1 _ (by omega) (by omega)
    have fb := looF_b (σ (a + 2)) i h1
    have fm := looF_le (σ (a + 2)) h1 h2
    have es := looF_s (σ (a + 2)) h1
    refine PW.iload_n dX4_findLoose_7 rfl ?_
    refine PW.aload_n dX4_findLoose_8 rfl ?_
    refine PW.getR fl_X4_12 rfl (by assumption) rfl dX4_findLoose_9 ?_
    refine PW.callVr (c_X8_size hA1) cv_X8_size lk_X4_87 (by first | assumption | exact And.left (by assumption)) dX4_findLoose_12 rfl rfl rfl rfl ?_
    refine PW.top n (by rw [e1]; exact hn) ?_
    refine PW.icmp_ge 68 dX4_findLoose_15 (by decide) (by first | assumption | (unfold inR; omega)) (by first | assumption | (unfold inR; omega)) (fun h15 => ?_) (fun h15 => ?_)
    · have hi : i = n := by omega
      subst hi
      exact PW.vret rfl dX4_findLoose_68 (hQ τ g1 g2 g3)
    · have hEi := hT2 i h1 (by omega)
      refine PW.aload_n dX4_findLoose_18 rfl ?_
      refine PW.getR fl_X4_12 rfl (by assumption) rfl dX4_findLoose_19 ?_
      refine PW.iload_n dX4_findLoose_22 rfl ?_
      refine PW.callVr (c_X8_isLoose hA1 (by omega) (by rw [e2]; exact hEi.2.2)) cv_X8_isLoose lk_X4_91 (by first | assumption | exact And.left (by assumption)) dX4_findLoose_23 rfl rfl rfl rfl ?_
      rw [e2]
      refine PW.if_eqB 62 dX4_findLoose_26 (by decide) (fun h26 => ?_) (fun h26 => ?_)
      · refine PW.iinc [(0, _), (1, _)] dX4_findLoose_62 rfl rfl (Nat.le_of_ble_eq_true rfl) ?_
        refine PW.goto 7 dX4_findLoose_65 (by decide) ?_
        first
          | (rw [b01_t (by assumption)] at es
             refine ih (i + 1) _ (by omega) (by omega) (by omega) ⟨fun b b0 b1 => ?_, fun j hj => ?_⟩ ?_ (fun s s0 s1 s2 => ?_)
             · rw [if_pos (by omega), upS_ne b0, upS_ne b1]
               exact g1.1 b b0 b1
             · rw [if_pos (by omega), upS_same, up1_ne hj, upS_ne (by omega)]
               exact g1.2 j hj
             · rw [if_pos (by omega), upS_same, up1_same]
               omega
             · rw [if_pos (by omega), upS_ne (by omega), upS_same]
               by_cases e : s = i
               · subst e
                 rw [up1_same]
               · have := looF_lt (σ (a + 2)) s0 (show s < i by omega) s2
                 rw [up1_ne (by omega)]
                 exact g3 s s0 (by omega) s2)
          | (rw [b01_f (by assumption), Int.add_zero] at es
             refine ih (i + 1) τ (by omega) (by omega) (by omega) g1 (by rw [es]; exact g2) (fun s s0 s1 s2 => ?_)
             by_cases e : s = i
             · subst e
               exact absurd s2 (by assumption)
             · exact g3 s s0 (by omega) s2)
          | (exfalso; omega)
      · refine PW.aload_n dX4_findLoose_29 rfl ?_
        refine PW.getI 6 fl_X4_40 rfl (by assumption) rfl rfl dX4_findLoose_30 ?_
        refine PW.top (looF (σ (a + 2)) i) g2 ?_
        have fm2 := looF_lt (σ (a + 2)) h1 (show i < n by omega) h26
        refine PW.iconst dX4_findLoose_33 ?_
        refine PW.icmp_lt 40 dX4_findLoose_34 (by decide) (by first | assumption | (unfold inR; omega)) (by first | assumption | (unfold inR; omega)) (fun h34 => ?_) (fun h34 => ?_)
        · refine PW.aload_n dX4_findLoose_40 rfl ?_
          refine PW.getR fl_X4_27 rfl (by assumption) rfl dX4_findLoose_41 ?_
          refine PW.aload_n dX4_findLoose_44 rfl ?_
          refine PW.getI 6 fl_X4_40 rfl (by assumption) rfl rfl dX4_findLoose_45 ?_
          refine PW.top (looF (σ (a + 2)) i) g2 ?_
          refine PW.iload_n dX4_findLoose_48 rfl ?_
          refine PW.callSv (c_X11_put (by assumption) (by unfold inR; omega) (by decide)) cs_X11_put lk_X4_95 dX4_findLoose_49 rfl rfl rfl ?_
          refine PW.aload_n dX4_findLoose_52 rfl ?_
          refine PW.dup rfl dX4_findLoose_53 ?_
          refine PW.getI 6 fl_X4_40 rfl (by assumption) rfl rfl dX4_findLoose_54 ?_
          refine PW.top (looF (σ (a + 2)) i) (by rw [if_pos (by omega), upS_ne (by omega)]; exact g2) ?_
          refine PW.iconst dX4_findLoose_57 ?_
          refine PW.iadd dX4_findLoose_58 ?_
          refine PW.putI 6 fl_X4_40 rfl (fun h => absurd h (by decide)) (by assumption) rfl rfl rfl rfl dX4_findLoose_59 ?_
          refine PW.iinc [(0, _), (1, _)] dX4_findLoose_62 rfl rfl (Nat.le_of_ble_eq_true rfl) ?_
          refine PW.goto 7 dX4_findLoose_65 (by decide) ?_
          first
            | (rw [b01_t (by assumption)] at es
               refine ih (i + 1) _ (by omega) (by omega) (by omega) ⟨fun b b0 b1 => ?_, fun j hj => ?_⟩ ?_ (fun s s0 s1 s2 => ?_)
               · rw [if_pos (by omega), upS_ne b0, upS_ne b1]
                 exact g1.1 b b0 b1
               · rw [if_pos (by omega), upS_same, up1_ne hj, upS_ne (by omega)]
                 exact g1.2 j hj
               · rw [if_pos (by omega), upS_same, up1_same]
                 omega
               · rw [if_pos (by omega), upS_ne (by omega), upS_same]
                 by_cases e : s = i
                 · subst e
                   rw [up1_same]
                 · have := looF_lt (σ (a + 2)) s0 (show s < i by omega) s2
                   rw [up1_ne (by omega)]
                   exact g3 s s0 (by omega) s2)
            | (rw [b01_f (by assumption), Int.add_zero] at es
               refine ih (i + 1) τ (by omega) (by omega) (by omega) g1 (by rw [es]; exact g2) (fun s s0 s1 s2 => ?_)
               by_cases e : s = i
               · subst e
                 exact absurd s2 (by assumption)
               · exact g3 s s0 (by omega) s2)
            | (exfalso; omega)
        · refine PW.goto 62 dX4_findLoose_37 (by decide) ?_
          refine PW.iinc [(0, _), (1, _)] dX4_findLoose_62 rfl rfl (Nat.le_of_ble_eq_true rfl) ?_
          refine PW.goto 7 dX4_findLoose_65 (by decide) ?_
          first
            | (rw [b01_t (by assumption)] at es
               refine ih (i + 1) _ (by omega) (by omega) (by omega) ⟨fun b b0 b1 => ?_, fun j hj => ?_⟩ ?_ (fun s s0 s1 s2 => ?_)
               · rw [if_pos (by omega), upS_ne b0, upS_ne b1]
                 exact g1.1 b b0 b1
               · rw [if_pos (by omega), upS_same, up1_ne hj, upS_ne (by omega)]
                 exact g1.2 j hj
               · rw [if_pos (by omega), upS_same, up1_same]
                 omega
               · rw [if_pos (by omega), upS_ne (by omega), upS_same]
                 by_cases e : s = i
                 · subst e
                   rw [up1_same]
                 · have := looF_lt (σ (a + 2)) s0 (show s < i by omega) s2
                   rw [up1_ne (by omega)]
                   exact g3 s s0 (by omega) s2)
            | (rw [b01_f (by assumption), Int.add_zero] at es
               refine ih (i + 1) τ (by omega) (by omega) (by omega) g1 (by rw [es]; exact g2) (fun s s0 s1 s2 => ?_)
               by_cases e : s = i
               · subst e
                 exact absurd s2 (by assumption)
               · exact g3 s s0 (by omega) s2)
            | (exfalso; omega)
theorem c_X4_findLoose {G : GT} {S : Shp} {σ : Sto} {a : Nat} {n : Int} (hA : IsEnds S a) (hT : taOk σ (a + 1)) (hn : σ (a + 1) 2 = n) (hc : looF (σ (a + 2)) n ≤ 4) : PMet G mX4_findLoose 2 0 0 [.ref a] S σ (fun r S' σ' => r = none ∧ S' = S ∧ flFr σ σ' a ∧ σ' a 6 = looF (σ (a + 2)) n ∧ losA (σ (a + 2)) (σ' (a + 18)) n) := by
  obtain ⟨hA0, hA1, hA4, hA18, hA19, hA20, hA21⟩ := id hA
  have hT1 := hT.1
  refine PMet.of [(0, .ref a)] (by decide +kernel) rfl (Nat.le_of_ble_eq_true rfl) ?_
  refine PW.aload_n dX4_findLoose_0 rfl ?_
  refine PW.iconst dX4_findLoose_1 ?_
  refine PW.putI 6 fl_X4_40 rfl (fun h => absurd h (by decide)) (by assumption) rfl rfl rfl rfl dX4_findLoose_2 ?_
  refine PW.iconst dX4_findLoose_5 ?_
  refine PW.istore_n [(0, _), (1, _)] dX4_findLoose_6 rfl (Nat.le_of_ble_eq_true rfl) ?_
  refine fl_loop hA hT hn hc (fun τ p1 p2 p3 => ⟨rfl, rfl, p1, p2, p3⟩) 17 0 _ (by omega) (by omega) (by omega) ⟨fun b b0 b1 => upS_ne b0, fun j hj => ?_⟩ ?_ (fun s s0 s1 => by omega)
  · rw [upS_same, up1_ne hj]
  · rw [upS_same, up1_same]
    rfl
/-- the least of what stands for a bed in the rows of 16, and the greatest -/
def mnS (m : Int → Int) (b W v : Int) : Prop := (∀ w, 0 ≤ w → w < W → v ≤ m (w * 16 + b)) ∧ ∃ w, 0 ≤ w ∧ w < W ∧ v = m (w * 16 + b)
def mxS (m : Int → Int) (b W v : Int) : Prop := (∀ w, 0 ≤ w → w < W → m (w * 16 + b) ≤ v) ∧ ∃ w, 0 ≤ w ∧ w < W ∧ v = m (w * 16 + b)
theorem mnS_1 (m : Int → Int) (b : Int) : mnS m b 1 (m b) := ⟨fun w w0 w1 => by rw [show w * 16 + b = b by omega]; exact Int.le_refl _, 0, by decide, by decide, by rw [show 0 * 16 + b = b by omega]⟩
theorem mxS_1 (m : Int → Int) (b : Int) : mxS m b 1 (m b) := ⟨fun w w0 w1 => by rw [show w * 16 + b = b by omega]; exact Int.le_refl _, 0, by decide, by decide, by rw [show 0 * 16 + b = b by omega]⟩
theorem mnS_s {m : Int → Int} {b W v : Int} (h0 : 0 ≤ W) (h : mnS m b W v) : mnS m b (W + 1) (min v (m (W * 16 + b))) := by
  obtain ⟨h1, w, w0, w1, w2⟩ := h
  refine ⟨fun q q0 q1 => ?_, ?_⟩
  · by_cases e : q = W
    · rw [e]; omega
    · have := h1 q q0 (by omega)
      omega
  · rcases min3 v (m (W * 16 + b)) with e | e
    · exact ⟨w, w0, by omega, by rw [e]; exact w2⟩
    · exact ⟨W, h0, by omega, e⟩
theorem mxS_s {m : Int → Int} {b W v : Int} (h0 : 0 ≤ W) (h : mxS m b W v) : mxS m b (W + 1) (max v (m (W * 16 + b))) := by
  obtain ⟨h1, w, w0, w1, w2⟩ := h
  refine ⟨fun q q0 q1 => ?_, ?_⟩
  · by_cases e : q = W
    · rw [e]; omega
    · have := h1 q q0 (by omega)
      omega
  · rcases (show max v (m (W * 16 + b)) = v ∨ max v (m (W * 16 + b)) = m (W * 16 + b) by omega) with e | e
    · exact ⟨w, w0, by omega, by rw [e]; exact w2⟩
    · exact ⟨W, h0, by omega, e⟩
theorem mnS_b {m : Int → Int} {b W v : Int} (hr : ∀ j, 0 ≤ j → j < 1296 → 0 ≤ m j ∧ m j ≤ 1000000) (hb : 0 ≤ b ∧ b ≤ 15) (hW : W ≤ 81) (h : mnS m b W v) : 0 ≤ v ∧ v ≤ 1000000 := by
  obtain ⟨-, w, w0, w1, w2⟩ := h
  rw [w2]
  exact hr _ (by omega) (by omega)
theorem mxS_b {m : Int → Int} {b W v : Int} (hr : ∀ j, 0 ≤ j → j < 1296 → 0 ≤ m j ∧ m j ≤ 1000000) (hb : 0 ≤ b ∧ b ≤ 15) (hW : W ≤ 81) (h : mxS m b W v) : 0 ≤ v ∧ v ≤ 1000000 := by
  obtain ⟨-, w, w0, w1, w2⟩ := h
  rw [w2]
  exact hr _ (by omega) (by omega)
theorem upS_cm {σ : Sto} {a b : Nat} (L U L2 : Int → Int) (h : a ≠ b) : upS (upS (upS σ a L) b U) a L2 = upS (upS σ a L2) b U := by
  funext q
  unfold upS
  try dsimp only
  by_cases q1 : q = a
  · rw [if_pos q1, q1, if_neg h, if_pos rfl]
  · rw [if_neg q1]
    by_cases q2 : q = b
    · rw [if_pos q2, if_pos q2]
    · rw [if_neg q2, if_neg q1, if_neg q2, if_neg q1]
theorem mea_in {G : GT} {S : Shp} {σ : Sto} {a : Nat} {b W : Int} {m : Int → Int} {Q : Option Value → Shp → Sto → Prop} (hA : IsEnds S a) (hb : 0 ≤ b ∧ b ≤ 15) (hm : σ (a + 19) = m) (hW : σ a 7 = W) (hW1 : 1 ≤ W ∧ W ≤ 81) (hr : ∀ j, 0 ≤ j → j < 1296 → 0 ≤ m j ∧ m j ≤ 1000000) (hK : ∀ lo hi : Int, mnS m b W lo → mxS m b W hi → PW (fm G mX4_measure 2 0 0 Q) G S σ 0 0 75 [(0, .ref a), (1, .int (iI b)), (2, .int (iI lo)), (3, .int (iI hi)), (4, .int (iI W))] []) : ∀ (t : Nat) (i : Int) (lo : Int) (hi : Int), 1 ≤ i → i ≤ W → W - i < t → mnS m b i lo → mxS m b i hi → PW (fm G mX4_measure 2 0 0 Q) G S (σ) 0 0 22 [(0, .ref a), (1, .int (iI (b))), (2, .int (iI (lo))), (3, .int (iI (hi))), (4, .int (iI (i)))] [] := by
  obtain ⟨hA0, hA1, hA4, hA18, hA19, hA20, hA21⟩ := id hA
  intro t
  induction t with
  | zero => intro i lo hi h1 h2 h3 g1 g2; omega
  | succ t ih =>
    intro i lo hi h1 h2 h3 g1 g2
    have hlb := mnS_b hr hb (by omega) g1
    have hhb := mxS_b hr hb (by omega) g2
    refine PW.iload dX4_measure_22 rfl ?_
    refine PW.aload_n dX4_measure_24 rfl ?_
    refine PW.getI 7 fl_X4_44 rfl (by assumption) rfl rfl dX4_measure_25 ?_
    refine PW.top W hW ?_
    refine PW.icmp_ge 75 dX4_measure_28 (by decide) (by first | assumption | (unfold inR; omega)) (by first | assumption | (unfold inR; omega)) (fun h28 => ?_) (fun h28 => ?_)
    · have hi2 : i = W := by omega
      subst hi2
      exact hK lo hi g1 g2
    · have hv := hr (i * 16 + b) (by omega) (by omega)
      refine PW.iload_n dX4_measure_31 rfl ?_
      refine PW.aload_n dX4_measure_32 rfl ?_
      refine PW.getR fl_X4_31 rfl (by assumption) rfl dX4_measure_33 ?_
      refine PW.iload dX4_measure_36 rfl ?_
      refine PW.bipush (by decide) dX4_measure_38 ?_
      refine PW.imul dX4_measure_40 ?_
      refine PW.iload_n dX4_measure_41 rfl ?_
      refine PW.iadd dX4_measure_42 ?_
      refine PW.callSr (c_X11_get (by assumption) (by first | assumption | (unfold inR; omega)) (by decide)) cs_X11_get lk_X4_51 dX4_measure_43 rfl rfl rfl ?_
      refine PW.top (m (i * 16 + b)) (by unfold gI; rw [if_pos (by omega), hm]) ?_
      refine PW.callSr (c_J9_min_7cf53 (by first | assumption | (unfold inR; omega)) (by first | assumption | (unfold inR; omega))) cs_J9_min_7cf53 lk_X4_127 dX4_measure_46 rfl rfl rfl ?_
      refine PW.istore_n [(0, _), (1, _), (2, _), (3, _), (4, _)] dX4_measure_49 rfl (Nat.le_of_ble_eq_true rfl) ?_
      refine PW.iload_n dX4_measure_50 rfl ?_
      refine PW.aload_n dX4_measure_51 rfl ?_
      refine PW.getR fl_X4_31 rfl (by assumption) rfl dX4_measure_52 ?_
      refine PW.iload dX4_measure_55 rfl ?_
      refine PW.bipush (by decide) dX4_measure_57 ?_
      refine PW.imul dX4_measure_59 ?_
      refine PW.iload_n dX4_measure_60 rfl ?_
      refine PW.iadd dX4_measure_61 ?_
      refine PW.callSr (c_X11_get (by assumption) (by first | assumption | (unfold inR; omega)) (by decide)) cs_X11_get lk_X4_51 dX4_measure_62 rfl rfl rfl ?_
      refine PW.top (m (i * 16 + b)) (by unfold gI; rw [if_pos (by omega), hm]) ?_
      refine PW.callSr (c_J9_max_7cf53 (by first | assumption | (unfold inR; omega)) (by first | assumption | (unfold inR; omega))) cs_J9_max_7cf53 lk_X4_132 dX4_measure_65 rfl rfl rfl ?_
      refine PW.istore_n [(0, _), (1, _), (2, _), (3, _), (4, _)] dX4_measure_68 rfl (Nat.le_of_ble_eq_true rfl) ?_
      refine PW.iinc [(0, _), (1, _), (2, _), (3, _), (4, _)] dX4_measure_69 rfl rfl (Nat.le_of_ble_eq_true rfl) ?_
      refine PW.goto 22 dX4_measure_72 (by decide) ?_
      exact ih (i + 1) _ _ (by omega) (by omega) (by omega) (mnS_s (by omega) g1) (mxS_s (by omega) g2)
theorem mea_out {G : GT} {S : Shp} {σ : Sto} {a : Nat} {W : Int} {Q : Option Value → Shp → Sto → Prop} (hA : IsEnds S a) (hW : σ a 7 = W) (hW1 : 1 ≤ W ∧ W ≤ 81) (hr : ∀ j, 0 ≤ j → j < 1296 → 0 ≤ σ (a + 19) j ∧ σ (a + 19) j ≤ 1000000) (hQ : ∀ L U : Int → Int, (∀ b, 0 ≤ b → b < 16 → mnS (σ (a + 19)) b W (L b) ∧ mxS (σ (a + 19)) b W (U b)) → Q none S (upS (upS σ (a + 20) L) (a + 21) U)) : ∀ (t : Nat) (i : Int) (L : Int → Int) (U : Int → Int), 0 ≤ i → i ≤ 16 → 16 - i < t → (∀ b, 0 ≤ b → b < i → mnS (σ (a + 19)) b W (L b) ∧ mxS (σ (a + 19)) b W (U b)) → PW (fm G mX4_measure 2 0 0 Q) G S (upS (upS σ (a + 20) L) (a + 21) U) 0 0 2 [(0, .ref a), (1, .int (iI (i)))] [] := by
  obtain ⟨hA0, hA1, hA4, hA18, hA19, hA20, hA21⟩ := id hA
  intro t
  induction t with
  | zero => intro i L U h1 h2 h3 g1; omega
  | succ t ih =>
    intro i L U h1 h2 h3 g1
    have e19 : (upS (upS σ (a + 20) L) (a + 21) U) (a + 19) = σ (a + 19) := by rw [upS_ne (by omega), upS_ne (by omega)]
    have e0 : (upS (upS σ (a + 20) L) (a + 21) U) a = σ a := by rw [upS_ne (by omega), upS_ne (by omega)]
    refine PW.iload_n dX4_measure_2 rfl ?_
    refine PW.bipush (by decide) dX4_measure_3 ?_
    refine PW.icmp_ge 99 dX4_measure_5 (by decide) (by first | assumption | (unfold inR; omega)) (by first | assumption | (unfold inR; omega)) (fun h5 => ?_) (fun h5 => ?_)
    · have hi : i = 16 := by omega
      subst hi
      exact PW.vret rfl dX4_measure_99 (hQ L U g1)
    · refine PW.aload_n dX4_measure_8 rfl ?_
      refine PW.getR fl_X4_31 rfl (by assumption) rfl dX4_measure_9 ?_
      refine PW.iload_n dX4_measure_12 rfl ?_
      refine PW.callSr (c_X11_get (by assumption) (by first | assumption | (unfold inR; omega)) (by decide)) cs_X11_get lk_X4_51 dX4_measure_13 rfl rfl rfl ?_
      refine PW.top (σ (a + 19) i) (by unfold gI; rw [if_pos (by omega), e19]) ?_
      refine PW.istore_n [(0, _), (1, _), (2, _)] dX4_measure_16 rfl (Nat.le_of_ble_eq_true rfl) ?_
      refine PW.iload_n dX4_measure_17 rfl ?_
      refine PW.istore_n [(0, _), (1, _), (2, _), (3, _)] dX4_measure_18 rfl (Nat.le_of_ble_eq_true rfl) ?_
      refine PW.iconst dX4_measure_19 ?_
      refine PW.istore [(0, _), (1, _), (2, _), (3, _), (4, _)] dX4_measure_20 rfl (Nat.le_of_ble_eq_true rfl) ?_
      refine mea_in hA ⟨h1, by omega⟩ e19 (by rw [e0]; exact hW) hW1 hr (fun lo hi l1 l2 => ?_) 82 1 _ _ (by omega) (by omega) (by omega) (mnS_1 _ _) (mxS_1 _ _)
      refine PW.aload_n dX4_measure_75 rfl ?_
      refine PW.getR fl_X4_34 rfl (by assumption) rfl dX4_measure_76 ?_
      refine PW.iload_n dX4_measure_79 rfl ?_
      refine PW.iload_n dX4_measure_80 rfl ?_
      refine PW.callSv (c_X11_put (by assumption) (by first | assumption | (unfold inR; omega)) (by decide)) cs_X11_put lk_X4_95 dX4_measure_81 rfl rfl rfl ?_
      refine PW.st (upS (upS σ (a + 20) (up1 L i lo)) (a + 21) U) (by rw [if_pos (by omega), upS_cm _ _ _ (by omega), upS_ne (by omega), upS_same]) ?_
      refine PW.aload_n dX4_measure_84 rfl ?_
      refine PW.getR fl_X4_37 rfl (by assumption) rfl dX4_measure_85 ?_
      refine PW.iload_n dX4_measure_88 rfl ?_
      refine PW.iload_n dX4_measure_89 rfl ?_
      refine PW.callSv (c_X11_put (by assumption) (by first | assumption | (unfold inR; omega)) (by decide)) cs_X11_put lk_X4_95 dX4_measure_90 rfl rfl rfl ?_
      refine PW.st (upS (upS σ (a + 20) (up1 L i lo)) (a + 21) (up1 U i hi)) (by rw [if_pos (by omega), upS_upS, upS_same]) ?_
      refine PW.iinc [(0, _), (1, _), (2, _), (3, _), (4, _)] dX4_measure_93 rfl rfl (Nat.le_of_ble_eq_true rfl) ?_
      refine PW.goto 2 dX4_measure_96 (by decide) ?_
      refine PW.take 2 (ih (i + 1) _ _ (by omega) (by omega) (by omega) (fun b b0 b1 => ?_))
      by_cases e : b = i
      · subst e
        rw [up1_same, up1_same]
        exact ⟨l1, l2⟩
      · rw [up1_ne e, up1_ne e]
        exact g1 b b0 (by omega)
theorem c_X4_measure {G : GT} {S : Shp} {σ : Sto} {a : Nat} {W : Int} (hA : IsEnds S a) (hW : σ a 7 = W) (hW1 : 1 ≤ W ∧ W ≤ 81) (hr : ∀ j, 0 ≤ j → j < 1296 → 0 ≤ σ (a + 19) j ∧ σ (a + 19) j ≤ 1000000) : PMet G mX4_measure 2 0 0 [.ref a] S σ (fun r S' τ => r = none ∧ S' = S ∧ ∃ L U : Int → Int, τ = upS (upS σ (a + 20) L) (a + 21) U ∧ (∀ b, 0 ≤ b → b < 16 → mnS (σ (a + 19)) b W (L b) ∧ mxS (σ (a + 19)) b W (U b))) := by
  refine PMet.of [(0, .ref a)] (by decide +kernel) rfl (Nat.le_of_ble_eq_true rfl) ?_
  refine PW.iconst dX4_measure_0 ?_
  refine PW.istore_n [(0, _), (1, _)] dX4_measure_1 rfl (Nat.le_of_ble_eq_true rfl) ?_
  refine PW.st (upS (upS σ (a + 20) (σ (a + 20))) (a + 21) (σ (a + 21))) (by rw [upS_self, upS_self]) ?_
  exact mea_out hA hW hW1 hr (fun L U h => ⟨rfl, rfl, L, U, rfl, h⟩) 17 0 _ _ (by omega) (by omega) (by omega) (fun b b0 b1 => by omega)

theorem PW.take {x : FX} {G : GT} {S : Shp} {σ : Sto} {k n pc : Nat} {l : LV} {st : List Value} (j : Nat) (kk : PW x G S σ k n pc (l.take j) st) : PW x G S σ k n pc l st := PW.keep (l.take j) (fun _ h => List.mem_of_mem_take h) kk
def smF (f : Int → Int) (i : Int) : Int := sumI f i.toNat
theorem smF_0 (f : Int → Int) : smF f 0 = 0 := rfl
theorem smF_s (f : Int → Int) {i : Int} (h : 0 ≤ i) : smF f (i + 1) = smF f i + f i := sumI_succ f h
theorem smF_b {f : Int → Int} {lo hi i : Int} (h : 0 ≤ i) (hf : ∀ j : Int, 0 ≤ j → j < i → lo ≤ f j ∧ f j ≤ hi) : lo * i ≤ smF f i ∧ smF f i ≤ hi * i := by
  have := sumI_b (f := f) (lo := lo) (hi := hi) (n := i.toNat) (fun j h0 h1 => hf j h0 (by omega))
  rw [show ((i.toNat : Nat) : Int) = i by omega] at this
  exact this
theorem smF_01 {P : Int → Prop} [∀ j, Decidable (P j)] {i : Int} (h : 0 ≤ i) : 0 ≤ smF (fun j => b01 (P j)) i ∧ smF (fun j => b01 (P j)) i ≤ i := by
  have := smF_b (f := fun j => b01 (P j)) (lo := 0) (hi := 1) h (fun j _ _ => b01_b _)
  omega
theorem smF_congr {f g : Int → Int} {i : Int} (h : ∀ j : Int, 0 ≤ j → j < i → f j = g j) : smF f i = smF g i := sumI_congr (fun j h0 h1 => h j h0 (by omega))
abbrev hp (f : Int → Int) : Int → Int := f
def sbF (c : Int → Int) : Int := if skF c = -41 then -1 else c (skF c + 40)
abbrev clG (c : Int → Int) (b : Int) : Int → Int := smF (fun j => b01 (c j = b))
def clF (c : Int → Int) (b : Int) : Int := smF (fun j => b01 (c j = b)) 80
abbrev lieB (c : Int → Int) (b u : Int) : Int → Bool := fun j => decide (1 ≤ j ∧ c j = b ∧ c (j - 1) = u)
abbrev lieP (c : Int → Int) (b u : Int) : Prop := ¬ firI (lieB c b u) 80 = -1
def ulF (c e : Int → Int) : Int := smF (fun j => b01 (¬ c j = e j)) 80
abbrev likB (c e : Int → Int) : Int → Bool := fun j => decide (¬ c j = e j)
abbrev likP (c e : Int → Int) : Prop := firI (likB c e) 80 = -1
abbrev xcP (c B : Int → Int) (j : Int) : Prop := 1 ≤ j ∧ ¬ c j = -1 ∧ ¬ c (j - 1) = -1 ∧ B (c j) < B (c (j - 1))
def xcF (c B : Int → Int) : Int := smF (fun j => b01 (xcP c B j)) 80
theorem clF_b (c : Int → Int) (b : Int) : 0 ≤ clF c b ∧ clF c b ≤ 80 := smF_01 (by decide)
theorem ulF_b (c e : Int → Int) : 0 ≤ ulF c e ∧ ulF c e ≤ 80 := smF_01 (by decide)
theorem xcF_b (c B : Int → Int) : 0 ≤ xcF c B ∧ xcF c B ≤ 80 := smF_01 (by decide)
theorem sbF_b {c : Int → Int} (h : colOk c) : -1 ≤ sbF c ∧ sbF c ≤ 15 := by
  have := skF_b c
  unfold sbF
  split
  · omega
  · exact h _ (by omega) (by omega)
theorem c_X1_bedAt {G : GT} {S : Shp} {σ : Sto} {a : Nat} {h : Int} (hA : IsCol S a) (hh : -40 ≤ h ∧ h ≤ 39) : PMet G mX1_bedAt 1 0 0 [.ref a, .int (iI h)] S σ (isP (some (.int (iI (σ (a + 1) (h + 40))))) S σ) := by
  obtain ⟨hA0, hA1⟩ := id hA
  refine PMet.of [(0, .ref a), (1, .int (iI (h)))] (by decide +kernel) rfl (Nat.le_of_ble_eq_true rfl) ?_
  refine PW.aload_n dX1_bedAt_0 rfl ?_
  refine PW.getR fl_X1_9 rfl (by assumption) rfl dX1_bedAt_1 ?_
  refine PW.iload_n dX1_bedAt_4 rfl ?_
  refine PW.bipush (by decide) dX1_bedAt_5 ?_
  refine PW.isub dX1_bedAt_7 ?_
  refine PW.callSr (c_X11_get (by assumption) (by first | assumption | (unfold inR; omega)) (by decide)) cs_X11_get lk_X1_101 dX1_bedAt_8 rfl rfl rfl ?_
  exact PW.iret rfl rfl dX1_bedAt_11 ⟨ret_eq (by unfold gI; rw [if_pos (by omega)] ; first | rfl | (congr 1; omega)), rfl, rfl⟩
theorem c_X1_skinBed {G : GT} {S : Shp} {σ : Sto} {a : Nat} (hA : IsCol S a) (hC : colOk (σ (a + 1))) : PMet G mX1_skinBed 2 0 0 [.ref a] S σ (isP (some (.int (iI (sbF (σ (a + 1)))))) S σ) := by
  obtain ⟨hA0, hA1⟩ := id hA
  have hb := skF_b (σ (a + 1))
  refine PMet.of [(0, .ref a)] (by decide +kernel) rfl (Nat.le_of_ble_eq_true rfl) ?_
  refine PW.aload_n dX1_skinBed_0 rfl ?_
  refine PW.callVr (c_X1_skinHeight (by assumption) (by assumption)) cv_X1_skinHeight lk_X1_94 (by first | assumption | exact And.left (by assumption)) dX1_skinBed_1 rfl rfl rfl rfl ?_
  refine PW.istore_n [(0, _), (1, _)] dX1_skinBed_4 rfl (Nat.le_of_ble_eq_true rfl) ?_
  refine PW.iload_n dX1_skinBed_5 rfl ?_
  refine PW.bipush (by decide) dX1_skinBed_6 ?_
  refine PW.icmp_ne 15 dX1_skinBed_8 (by decide) (by first | assumption | (unfold inR; omega)) (by first | assumption | (unfold inR; omega)) (fun h8 => ?_) (fun h8 => ?_)
  · refine PW.aload_n dX1_skinBed_15 rfl ?_
    refine PW.iload_n dX1_skinBed_16 rfl ?_
    refine PW.callVr (c_X1_bedAt (by assumption) (by omega)) cv_X1_bedAt lk_X1_105 (by first | assumption | exact And.left (by assumption)) dX1_skinBed_17 rfl rfl rfl rfl ?_
    exact PW.iret rfl rfl dX1_skinBed_20 ⟨ret_eq (by unfold sbF; first | rw [if_neg (by assumption)] | rw [if_pos (by assumption)]), rfl, rfl⟩
  · refine PW.iconst dX1_skinBed_11 ?_
    refine PW.goto 20 dX1_skinBed_12 (by decide) ?_
    exact PW.iret rfl rfl dX1_skinBed_20 ⟨ret_eq (by unfold sbF; first | rw [if_neg (by assumption)] | rw [if_pos (by assumption)]), rfl, rfl⟩
theorem top_loop {G : GT} {S : Shp} {σ : Sto} {a : Nat} {b : Int} {Q : Option Value → Shp → Sto → Prop} (hA : IsCol S a) (hC : colOk (σ (a + 1))) (rb : inR b) (hQ : Q (some (.int (iI (toF (σ (a + 1)) b)))) S σ) : ∀ (t : Nat) (i : Int), -1 ≤ i → i < 80 → i < t → (∀ j, i < j → j < 80 → ¬ σ (a + 1) j = b) → PW (fm G mX1_topOf 0 0 0 Q) G S σ 0 0 8 [(0, .ref a), (1, .int (iI b)), (2, .int (iI i))] [] := by
  obtain ⟨hA0, hA1⟩ := id hA
  have fin : ∀ i : Int, -1 ≤ i → i < 80 → (∀ j, i < j → j < 80 → ¬ σ (a + 1) j = b) → (0 ≤ i → σ (a + 1) i = b) → toF (σ (a + 1)) b = i - 40 := by
    intro i h1 h2 hn hi
    unfold toF
    by_cases h0 : 0 ≤ i
    · rw [lasI_hit h0 (P := fun i => decide (σ (a + 1) i = b)) (decide_eq_true (hi h0)) (by omega) (fun j q1 q2 => decide_eq_false (hn j q1 (by omega)))]
    · rw [lasI_none (P := fun i => decide (σ (a + 1) i = b)) (fun j q1 q2 => decide_eq_false (hn j (by omega) (by omega)))]
      omega
  intro t
  induction t with
  | zero =>
    intro i h1 h2 h3 hn
    refine PW.iload_n dX1_topOf_8 rfl ?_
    refine PW.if_lt 33 dX1_topOf_9 (by decide) (by first | assumption | (unfold inR; omega)) (fun h9 => ?_) (fun h9 => ?_)
    · refine PW.bipush (by decide) dX1_topOf_33 ?_
      refine PW.iret rfl rfl dX1_topOf_35 ?_
      rw [fin i h1 h2 hn (by omega), show i - 40 = -41 by omega] at hQ
      exact hQ
    · omega
  | succ t ih =>
    intro i h1 h2 h3 hn
    refine PW.iload_n dX1_topOf_8 rfl ?_
    refine PW.if_lt 33 dX1_topOf_9 (by decide) (by first | assumption | (unfold inR; omega) | (have := hC i (by omega) (by omega); unfold inR; omega)) (fun h9 => ?_) (fun h9 => ?_)
    · refine PW.bipush (by decide) dX1_topOf_33 ?_
      refine PW.iret rfl rfl dX1_topOf_35 ?_
      rw [fin i h1 h2 hn (by omega), show i - 40 = -41 by omega] at hQ
      exact hQ
    · refine PW.aload_n dX1_topOf_12 rfl ?_
      refine PW.getR fl_X1_9 rfl (by assumption) rfl dX1_topOf_13 ?_
      refine PW.iload_n dX1_topOf_16 rfl ?_
      refine PW.iaload (by assumption) (by first | assumption | (unfold inR; omega) | (have := hC i (by omega) (by omega); unfold inR; omega)) (by omega) (by omega) dX1_topOf_17 ?_
      refine PW.iload_n dX1_topOf_18 rfl ?_
      refine PW.icmp_ne 27 dX1_topOf_19 (by decide) (by first | assumption | (unfold inR; omega) | (have := hC i (by omega) (by omega); unfold inR; omega)) (by first | assumption | (unfold inR; omega) | (have := hC i (by omega) (by omega); unfold inR; omega)) (fun h19 => ?_) (fun h19 => ?_)
      · refine PW.iinc [(0, _), (1, _), (2, _)] dX1_topOf_27 rfl rfl (Nat.le_of_ble_eq_true rfl) ?_
        refine PW.goto 8 dX1_topOf_30 (by decide) ?_
        refine ih (i + -1) (by omega) (by omega) (by omega) (fun j q1 q2 => ?_)
        by_cases hj : j = i
        · rw [hj]; assumption
        · exact hn j (by omega) q2
      · refine PW.iload_n dX1_topOf_22 rfl ?_
        refine PW.bipush (by decide) dX1_topOf_23 ?_
        refine PW.iadd dX1_topOf_25 ?_
        refine PW.iret rfl rfl dX1_topOf_26 ?_
        rw [fin i h1 h2 hn (fun _ => by assumption), show i - 40 = i + -40 by omega] at hQ
        exact hQ
theorem c_X1_topOf {G : GT} {S : Shp} {σ : Sto} {a : Nat} {b : Int} (hA : IsCol S a) (hC : colOk (σ (a + 1))) (rb : inR b) : PMet G mX1_topOf 0 0 0 [.ref a, .int (iI b)] S σ (isP (some (.int (iI (toF (σ (a + 1)) b)))) S σ) := by
  obtain ⟨hA0, hA1⟩ := id hA
  refine PMet.of [(0, .ref a), (1, .int (iI (b)))] (by decide +kernel) rfl (Nat.le_of_ble_eq_true rfl) ?_
  refine PW.aload_n dX1_topOf_0 rfl ?_
  refine PW.getR fl_X1_9 rfl (by assumption) rfl dX1_topOf_1 ?_
  refine PW.alen (by assumption) (by decide) dX1_topOf_4 ?_
  refine PW.iconst dX1_topOf_5 ?_
  refine PW.isub dX1_topOf_6 ?_
  refine PW.istore_n [(0, _), (1, _), (2, _)] dX1_topOf_7 rfl (Nat.le_of_ble_eq_true rfl) ?_
  exact top_loop hA hC rb ⟨rfl, rfl, rfl⟩ 81 79 (by omega) (by omega) (by omega) (fun j q1 q2 => by omega)
theorem cells_loop {G : GT} {S : Shp} {σ : Sto} {a : Nat} {b : Int} {Q : Option Value → Shp → Sto → Prop} (hA : IsCol S a) (hC : colOk (σ (a + 1))) (rb : inR b) (hQ : Q (some (.int (iI (clF (σ (a + 1)) b)))) S σ) : ∀ (t : Nat) (i : Int), 0 ≤ i → i ≤ 80 → 80 - i < t → PW (fm G mX1_cellsOf 0 0 0 Q) G S (σ) 0 0 4 [(0, .ref a), (1, .int (iI (b))), (2, .int (iI (smF (fun j => b01 (σ (a + 1) j = b)) i))), (3, .int (iI (i)))] [] := by
  obtain ⟨hA0, hA1⟩ := id hA
  intro t
  induction t with
  | zero => intro i h1 h2 h3; omega
  | succ t ih =>
    intro i h1 h2 h3
    have hb := smF_01 (P := fun j => σ (a + 1) j = b) h1
    refine PW.iload_n dX1_cellsOf_4 rfl ?_
    refine PW.aload_n dX1_cellsOf_5 rfl ?_
    refine PW.getR fl_X1_9 rfl (by assumption) rfl dX1_cellsOf_6 ?_
    refine PW.alen (by assumption) (by decide) dX1_cellsOf_9 ?_
    refine PW.icmp_ge 32 dX1_cellsOf_10 (by decide) (by first | assumption | (unfold inR; omega) | (have := hC i (by omega) (by omega); unfold inR; omega)) (by first | assumption | (unfold inR; omega) | (have := hC i (by omega) (by omega); unfold inR; omega)) (fun h10 => ?_) (fun h10 => ?_)
    · refine PW.iload_n dX1_cellsOf_32 rfl ?_
      have hi : i = 80 := by omega
      subst hi
      exact PW.iret rfl rfl dX1_cellsOf_33 hQ
    · refine PW.aload_n dX1_cellsOf_13 rfl ?_
      refine PW.getR fl_X1_9 rfl (by assumption) rfl dX1_cellsOf_14 ?_
      refine PW.iload_n dX1_cellsOf_17 rfl ?_
      refine PW.iaload (by assumption) (by first | assumption | (unfold inR; omega) | (have := hC i (by omega) (by omega); unfold inR; omega)) (by omega) (by omega) dX1_cellsOf_18 ?_
      refine PW.iload_n dX1_cellsOf_19 rfl ?_
      refine PW.icmp_ne 26 dX1_cellsOf_20 (by decide) (by first | assumption | (unfold inR; omega) | (have := hC i (by omega) (by omega); unfold inR; omega)) (by first | assumption | (unfold inR; omega) | (have := hC i (by omega) (by omega); unfold inR; omega)) (fun h20 => ?_) (fun h20 => ?_)
      · refine PW.iinc [(0, _), (1, _), (2, _), (3, _)] dX1_cellsOf_26 rfl rfl (Nat.le_of_ble_eq_true rfl) ?_
        refine PW.goto 4 dX1_cellsOf_29 (by decide) ?_
        have e := ih (i + 1) (by omega) (by omega) (by omega)
        rw [smF_s (fun j => b01 (σ (a + 1) j = b)) (by omega)] at e
        first
          | (rw [b01_t (by first | assumption | omega)] at e; exact e)
          | (rw [b01_f (by first | assumption | omega), Int.add_zero] at e; exact e)
      · refine PW.iinc [(0, _), (1, _), (2, _), (3, _)] dX1_cellsOf_23 rfl rfl (Nat.le_of_ble_eq_true rfl) ?_
        refine PW.iinc [(0, _), (1, _), (2, _), (3, _)] dX1_cellsOf_26 rfl rfl (Nat.le_of_ble_eq_true rfl) ?_
        refine PW.goto 4 dX1_cellsOf_29 (by decide) ?_
        have e := ih (i + 1) (by omega) (by omega) (by omega)
        rw [smF_s (fun j => b01 (σ (a + 1) j = b)) (by omega)] at e
        first
          | (rw [b01_t (by first | assumption | omega)] at e; exact e)
          | (rw [b01_f (by first | assumption | omega), Int.add_zero] at e; exact e)
theorem c_X1_cellsOf {G : GT} {S : Shp} {σ : Sto} {a : Nat} {b : Int} (hA : IsCol S a) (hC : colOk (σ (a + 1))) (rb : inR b) : PMet G mX1_cellsOf 0 0 0 [.ref a, .int (iI b)] S σ (isP (some (.int (iI (clF (σ (a + 1)) b)))) S σ) := by
  refine PMet.of [(0, .ref a), (1, .int (iI (b)))] (by decide +kernel) rfl (Nat.le_of_ble_eq_true rfl) ?_
  refine PW.iconst dX1_cellsOf_0 ?_
  refine PW.istore_n [(0, _), (1, _), (2, _)] dX1_cellsOf_1 rfl (Nat.le_of_ble_eq_true rfl) ?_
  refine PW.iconst dX1_cellsOf_2 ?_
  refine PW.istore_n [(0, _), (1, _), (2, _), (3, _)] dX1_cellsOf_3 rfl (Nat.le_of_ble_eq_true rfl) ?_
  exact cells_loop hA hC rb ⟨rfl, rfl, rfl⟩ 81 0 (by omega) (by omega) (by omega)
-- (not here: unl_loop)
-- (not here: c_X1_unlikeCells)
theorem like_loop {G : GT} {S : Shp} {σ : Sto} {a b : Nat} {Q : Option Value → Shp → Sto → Prop} (hA : IsCol S a) (hB : IsCol S b) (hC : colOk (σ (a + 1))) (hD : colOk (σ (b + 1))) (hQ : Q (some (.int (iI (b01 (likP (σ (a + 1)) (σ (b + 1))))))) S σ) : ∀ (t : Nat) (i : Int), 0 ≤ i → i ≤ 80 → 80 - i < t → (∀ j, 0 ≤ j → j < i → σ (a + 1) j = σ (b + 1) j) → PW (fm G mX1_isLike 0 0 0 Q) G S (σ) 0 0 13 [(0, .ref a), (1, .ref b), (2, .ref (b + 1)), (3, .int (iI (i)))] [] := by
  obtain ⟨hA0, hA1⟩ := id hA
  obtain ⟨hB0, hB1⟩ := id hB
  intro t
  induction t with
  | zero => intro i h1 h2 h3 g1; omega
  | succ t ih =>
    intro i h1 h2 h3 g1
    refine PW.iload_n dX1_isLike_13 rfl ?_
    refine PW.aload_n dX1_isLike_14 rfl ?_
    refine PW.getR fl_X1_9 rfl (by assumption) rfl dX1_isLike_15 ?_
    refine PW.alen (by assumption) (by decide) dX1_isLike_18 ?_
    refine PW.icmp_ge 48 dX1_isLike_19 (by decide) (by first | assumption | (unfold inR; omega) | (have := hC i (by omega) (by omega); unfold inR; omega) | (have := hD i (by omega) (by omega); unfold inR; omega)) (by first | assumption | (unfold inR; omega) | (have := hC i (by omega) (by omega); unfold inR; omega) | (have := hD i (by omega) (by omega); unfold inR; omega)) (fun h19 => ?_) (fun h19 => ?_)
    · refine PW.iconst dX1_isLike_48 ?_
      refine PW.iret rfl rfl dX1_isLike_49 ?_
      rw [b01_t (show likP (σ (a + 1)) (σ (b + 1)) from firI_none (fun j q1 q2 => decide_eq_false (fun h => h (g1 j q1 (by omega)))))] at hQ
      exact hQ
    · refine PW.iload_n dX1_isLike_22 rfl ?_
      refine PW.aload_n dX1_isLike_23 rfl ?_
      refine PW.alen (by assumption) (by decide) dX1_isLike_24 ?_
      refine PW.icmp_ge 48 dX1_isLike_25 (by decide) (by first | assumption | (unfold inR; omega) | (have := hC i (by omega) (by omega); unfold inR; omega) | (have := hD i (by omega) (by omega); unfold inR; omega)) (by first | assumption | (unfold inR; omega) | (have := hC i (by omega) (by omega); unfold inR; omega) | (have := hD i (by omega) (by omega); unfold inR; omega)) (fun h25 => ?_) (fun h25 => ?_)
      · omega
      · refine PW.aload_n dX1_isLike_28 rfl ?_
        refine PW.getR fl_X1_9 rfl (by assumption) rfl dX1_isLike_29 ?_
        refine PW.iload_n dX1_isLike_32 rfl ?_
        refine PW.iaload (by assumption) (by first | assumption | (unfold inR; omega) | (have := hC i (by omega) (by omega); unfold inR; omega) | (have := hD i (by omega) (by omega); unfold inR; omega)) (by omega) (by omega) dX1_isLike_33 ?_
        refine PW.aload_n dX1_isLike_34 rfl ?_
        refine PW.iload_n dX1_isLike_35 rfl ?_
        refine PW.iaload (by assumption) (by first | assumption | (unfold inR; omega) | (have := hC i (by omega) (by omega); unfold inR; omega) | (have := hD i (by omega) (by omega); unfold inR; omega)) (by omega) (by omega) dX1_isLike_36 ?_
        refine PW.icmp_eq 42 dX1_isLike_37 (by decide) (by first | assumption | (unfold inR; omega) | (have := hC i (by omega) (by omega); unfold inR; omega) | (have := hD i (by omega) (by omega); unfold inR; omega)) (by first | assumption | (unfold inR; omega) | (have := hC i (by omega) (by omega); unfold inR; omega) | (have := hD i (by omega) (by omega); unfold inR; omega)) (fun h37 => ?_) (fun h37 => ?_)
        · refine PW.iinc [(0, _), (1, _), (2, _), (3, _)] dX1_isLike_42 rfl rfl (Nat.le_of_ble_eq_true rfl) ?_
          refine PW.goto 13 dX1_isLike_45 (by decide) ?_
          refine ih (i + 1) (by omega) (by omega) (by omega) (fun j q1 q2 => ?_)
          by_cases hj : j = i
          · rw [hj]; assumption
          · exact g1 j q1 (by omega)
        · refine PW.iconst dX1_isLike_40 ?_
          refine PW.iret rfl rfl dX1_isLike_41 ?_
          have e : firI (likB (σ (a + 1)) (σ (b + 1))) 80 = i := firI_hit h1 (decide_eq_true (by assumption)) (fun j q1 q2 => decide_eq_false (fun h => h (g1 j q1 q2))) (by omega)
          rw [b01_f (show ¬ likP (σ (a + 1)) (σ (b + 1)) by show ¬ firI _ 80 = -1; rw [e]; omega)] at hQ
          exact hQ
theorem c_X1_isLike {G : GT} {S : Shp} {σ : Sto} {a b : Nat} (hA : IsCol S a) (hB : IsCol S b) (hC : colOk (σ (a + 1))) (hD : colOk (σ (b + 1))) : PMet G mX1_isLike 0 0 0 [.ref a, .ref b] S σ (isP (some (.int (iI (b01 (likP (σ (a + 1)) (σ (b + 1))))))) S σ) := by
  obtain ⟨hB0, hB1⟩ := id hB
  refine PMet.of [(0, .ref a), (1, .ref b)] (by decide +kernel) rfl (Nat.le_of_ble_eq_true rfl) ?_
  refine PW.aload_n dX1_isLike_0 rfl ?_
  refine PW.ifnonnull 6 dX1_isLike_1 (by decide) ?_
  refine PW.aload_n dX1_isLike_6 rfl ?_
  refine PW.getR fl_X1_9 rfl (by assumption) rfl dX1_isLike_7 ?_
  refine PW.astore_n [(0, _), (1, _), (2, _)] dX1_isLike_10 rfl (Nat.le_of_ble_eq_true rfl) ?_
  refine PW.iconst dX1_isLike_11 ?_
  refine PW.istore_n [(0, _), (1, _), (2, _), (3, _)] dX1_isLike_12 rfl (Nat.le_of_ble_eq_true rfl) ?_
  exact like_loop hA hB hC hD ⟨rfl, rfl, rfl⟩ 81 0 (by omega) (by omega) (by omega) (fun j q1 q2 => by omega)
theorem lie_loop {G : GT} {S : Shp} {σ : Sto} {a : Nat} {b u : Int} {Q : Option Value → Shp → Sto → Prop} (hA : IsCol S a) (hC : colOk (σ (a + 1))) (rb : inR b) (ru : inR u) (hQ : Q (some (.int (iI (b01 (lieP (σ (a + 1)) b u))))) S σ) : ∀ (t : Nat) (i : Int), 1 ≤ i → i ≤ 80 → 80 - i < t → (∀ j, 0 ≤ j → j < i → ¬ (1 ≤ j ∧ σ (a + 1) j = b ∧ σ (a + 1) (j - 1) = u)) → PW (fm G mX1_isLying 0 0 0 Q) G S (σ) 0 0 2 [(0, .ref a), (1, .int (iI (b))), (2, .int (iI (u))), (3, .int (iI (i)))] [] := by
  obtain ⟨hA0, hA1⟩ := id hA
  intro t
  induction t with
  | zero => intro i h1 h2 h3 g1; omega
  | succ t ih =>
    intro i h1 h2 h3 g1
    refine PW.iload_n dX1_isLying_2 rfl ?_
    refine PW.aload_n dX1_isLying_3 rfl ?_
    refine PW.getR fl_X1_9 rfl (by assumption) rfl dX1_isLying_4 ?_
    refine PW.alen (by assumption) (by decide) dX1_isLying_7 ?_
    refine PW.icmp_ge 41 dX1_isLying_8 (by decide) (by first | assumption | (unfold inR; omega) | (have := hC i (by omega) (by omega); unfold inR; omega) | (have := hC (i - 1) (by omega) (by omega); unfold inR; omega)) (by first | assumption | (unfold inR; omega) | (have := hC i (by omega) (by omega); unfold inR; omega) | (have := hC (i - 1) (by omega) (by omega); unfold inR; omega)) (fun h8 => ?_) (fun h8 => ?_)
    · refine PW.iconst dX1_isLying_41 ?_
      refine PW.iret rfl rfl dX1_isLying_42 ?_
      rw [b01_f (show ¬ lieP (σ (a + 1)) b u from fun h => h (firI_none (fun j q1 q2 => decide_eq_false (g1 j q1 (by omega)))))] at hQ
      exact hQ
    · refine PW.aload_n dX1_isLying_11 rfl ?_
      refine PW.getR fl_X1_9 rfl (by assumption) rfl dX1_isLying_12 ?_
      refine PW.iload_n dX1_isLying_15 rfl ?_
      refine PW.iaload (by assumption) (by first | assumption | (unfold inR; omega) | (have := hC i (by omega) (by omega); unfold inR; omega) | (have := hC (i - 1) (by omega) (by omega); unfold inR; omega)) (by omega) (by omega) dX1_isLying_16 ?_
      refine PW.iload_n dX1_isLying_17 rfl ?_
      refine PW.icmp_ne 35 dX1_isLying_18 (by decide) (by first | assumption | (unfold inR; omega) | (have := hC i (by omega) (by omega); unfold inR; omega) | (have := hC (i - 1) (by omega) (by omega); unfold inR; omega)) (by first | assumption | (unfold inR; omega) | (have := hC i (by omega) (by omega); unfold inR; omega) | (have := hC (i - 1) (by omega) (by omega); unfold inR; omega)) (fun h18 => ?_) (fun h18 => ?_)
      · refine PW.iinc [(0, _), (1, _), (2, _), (3, _)] dX1_isLying_35 rfl rfl (Nat.le_of_ble_eq_true rfl) ?_
        refine PW.goto 2 dX1_isLying_38 (by decide) ?_
        refine ih (i + 1) (by omega) (by omega) (by omega) (fun j q1 q2 => ?_)
        by_cases hj : j = i
        · subst hj; omega
        · exact g1 j q1 (by omega)
      · refine PW.aload_n dX1_isLying_21 rfl ?_
        refine PW.getR fl_X1_9 rfl (by assumption) rfl dX1_isLying_22 ?_
        refine PW.iload_n dX1_isLying_25 rfl ?_
        refine PW.iconst dX1_isLying_26 ?_
        refine PW.isub dX1_isLying_27 ?_
        refine PW.iaload (by assumption) (by first | assumption | (unfold inR; omega) | (have := hC i (by omega) (by omega); unfold inR; omega) | (have := hC (i - 1) (by omega) (by omega); unfold inR; omega)) (by omega) (by omega) dX1_isLying_28 ?_
        refine PW.iload_n dX1_isLying_29 rfl ?_
        refine PW.icmp_ne 35 dX1_isLying_30 (by decide) (by first | assumption | (unfold inR; omega) | (have := hC i (by omega) (by omega); unfold inR; omega) | (have := hC (i - 1) (by omega) (by omega); unfold inR; omega)) (by first | assumption | (unfold inR; omega) | (have := hC i (by omega) (by omega); unfold inR; omega) | (have := hC (i - 1) (by omega) (by omega); unfold inR; omega)) (fun h30 => ?_) (fun h30 => ?_)
        · refine PW.iinc [(0, _), (1, _), (2, _), (3, _)] dX1_isLying_35 rfl rfl (Nat.le_of_ble_eq_true rfl) ?_
          refine PW.goto 2 dX1_isLying_38 (by decide) ?_
          refine ih (i + 1) (by omega) (by omega) (by omega) (fun j q1 q2 => ?_)
          by_cases hj : j = i
          · subst hj; omega
          · exact g1 j q1 (by omega)
        · refine PW.iconst dX1_isLying_33 ?_
          refine PW.iret rfl rfl dX1_isLying_34 ?_
          have e : firI (lieB (σ (a + 1)) b u) 80 = i := firI_hit (by omega) (decide_eq_true (by omega)) (fun j q1 q2 => decide_eq_false (g1 j q1 q2)) (by omega)
          rw [b01_t (show lieP (σ (a + 1)) b u by show ¬ firI _ 80 = -1; rw [e]; omega)] at hQ
          exact hQ
theorem c_X1_isLying {G : GT} {S : Shp} {σ : Sto} {a : Nat} {b u : Int} (hA : IsCol S a) (hC : colOk (σ (a + 1))) (rb : inR b) (ru : inR u) : PMet G mX1_isLying 0 0 0 [.ref a, .int (iI b), .int (iI u)] S σ (isP (some (.int (iI (b01 (lieP (σ (a + 1)) b u))))) S σ) := by
  refine PMet.of [(0, .ref a), (1, .int (iI (b))), (2, .int (iI (u)))] (by decide +kernel) rfl (Nat.le_of_ble_eq_true rfl) ?_
  refine PW.iconst dX1_isLying_0 ?_
  refine PW.istore_n [(0, _), (1, _), (2, _), (3, _)] dX1_isLying_1 rfl (Nat.le_of_ble_eq_true rfl) ?_
  exact lie_loop hA hC rb ru ⟨rfl, rfl, rfl⟩ 80 1 (by omega) (by omega) (by omega) (fun j q1 q2 => by omega)
theorem birF_b (f : Int → Int) {n : Int} (b : Int) (h : 0 ≤ n ∧ n ≤ 16) : -1 ≤ birF f n b ∧ birF f n b ≤ 15 := by
  have := firI_b (P := fun j => decide ((f (7 * j) = 0 ∨ f (7 * j) = 5) ∧ f (7 * j + 1 + 0) = b)) (n := n.toNat)
  unfold birF
  omega
theorem cross_loop {G : GT} {S : Shp} {σ : Sto} {a b : Nat} {Q : Option Value → Shp → Sto → Prop} (hA : IsCol S a) (hB : IsTale S b) (hT : taOk σ b) (hC : colOk (σ (a + 1))) (hQ : Q (some (.int (iI (xcF (σ (a + 1)) (birF (σ (b + 1)) (σ b 2)))))) S σ) : ∀ (t : Nat) (i : Int), 1 ≤ i → i ≤ 80 → 80 - i < t → PW (fm G mX1_crossings 3 0 0 Q) G S (σ) 0 0 10 [(0, .ref a), (1, .ref b), (2, .int (iI (smF (fun j => b01 (xcP (σ (a + 1)) (birF (σ (b + 1)) (σ b 2)) j)) i))), (3, .int (iI (i)))] [] := by
  obtain ⟨hA0, hA1⟩ := id hA
  obtain ⟨hB0, hB1, hB2⟩ := id hB
  intro t
  induction t with
  | zero => intro i h1 h2 h3; omega
  | succ t ih =>
    intro i h1 h2 h3
    have hb := smF_01 (P := xcP (σ (a + 1)) (birF (σ (b + 1)) (σ b 2))) (show 0 ≤ i by omega)
    have r1 := birF_b (σ (b + 1)) (σ (a + 1) i) hT.1
    have r2 := birF_b (σ (b + 1)) (σ (a + 1) (i - 1)) hT.1
    refine PW.iload_n dX1_crossings_10 rfl ?_
    refine PW.aload_n dX1_crossings_11 rfl ?_
    refine PW.getR fl_X1_9 rfl (by assumption) rfl dX1_crossings_12 ?_
    refine PW.alen (by assumption) (by decide) dX1_crossings_15 ?_
    refine PW.icmp_ge 80 dX1_crossings_16 (by decide) (by first | assumption | (unfold inR; omega) | (have := hC i (by omega) (by omega); unfold inR; omega) | (have := hC (i - 1) (by omega) (by omega); unfold inR; omega)) (by first | assumption | (unfold inR; omega) | (have := hC i (by omega) (by omega); unfold inR; omega) | (have := hC (i - 1) (by omega) (by omega); unfold inR; omega)) (fun h16 => ?_) (fun h16 => ?_)
    · refine PW.iload_n dX1_crossings_80 rfl ?_
      have hi : i = 80 := by omega
      subst hi
      exact PW.iret rfl rfl dX1_crossings_81 hQ
    · refine PW.aload_n dX1_crossings_19 rfl ?_
      refine PW.getR fl_X1_9 rfl (by assumption) rfl dX1_crossings_20 ?_
      refine PW.iload_n dX1_crossings_23 rfl ?_
      refine PW.iaload (by assumption) (by first | assumption | (unfold inR; omega) | (have := hC i (by omega) (by omega); unfold inR; omega) | (have := hC (i - 1) (by omega) (by omega); unfold inR; omega)) (by omega) (by omega) dX1_crossings_24 ?_
      refine PW.istore [(0, _), (1, _), (2, _), (3, _), (4, _)] dX1_crossings_25 rfl (Nat.le_of_ble_eq_true rfl) ?_
      refine PW.aload_n dX1_crossings_27 rfl ?_
      refine PW.getR fl_X1_9 rfl (by assumption) rfl dX1_crossings_28 ?_
      refine PW.iload_n dX1_crossings_31 rfl ?_
      refine PW.iconst dX1_crossings_32 ?_
      refine PW.isub dX1_crossings_33 ?_
      refine PW.iaload (by assumption) (by first | assumption | (unfold inR; omega) | (have := hC i (by omega) (by omega); unfold inR; omega) | (have := hC (i - 1) (by omega) (by omega); unfold inR; omega)) (by omega) (by omega) dX1_crossings_34 ?_
      refine PW.istore [(0, _), (1, _), (2, _), (3, _), (4, _), (5, _)] dX1_crossings_35 rfl (Nat.le_of_ble_eq_true rfl) ?_
      refine PW.iload dX1_crossings_37 rfl ?_
      refine PW.iconst dX1_crossings_39 ?_
      refine PW.icmp_eq 74 dX1_crossings_40 (by decide) (by first | assumption | (unfold inR; omega) | (have := hC i (by omega) (by omega); unfold inR; omega) | (have := hC (i - 1) (by omega) (by omega); unfold inR; omega)) (by first | assumption | (unfold inR; omega) | (have := hC i (by omega) (by omega); unfold inR; omega) | (have := hC (i - 1) (by omega) (by omega); unfold inR; omega)) (fun h40 => ?_) (fun h40 => ?_)
      · refine PW.take 4 ?_
        refine PW.iinc [(0, _), (1, _), (2, _), (3, _)] dX1_crossings_74 rfl rfl (Nat.le_of_ble_eq_true rfl) ?_
        refine PW.goto 10 dX1_crossings_77 (by decide) ?_
        have e := ih (i + 1) (by omega) (by omega) (by omega)
        rw [smF_s (fun j => b01 (xcP (σ (a + 1)) (birF (σ (b + 1)) (σ b 2)) j)) (by omega)] at e
        first
          | (rw [b01_t (by exact ⟨by omega, by assumption, by assumption, by omega⟩)] at e; exact e)
          | (rw [b01_f (by intro q; first | (exact absurd (by assumption) q.2.1) | (exact absurd (by assumption) q.2.2.1) | (have q4 := q.2.2.2; rw [h53] at q4; omega) | omega), Int.add_zero] at e; exact e)
      · refine PW.iload dX1_crossings_43 rfl ?_
        refine PW.iconst dX1_crossings_45 ?_
        refine PW.icmp_eq 74 dX1_crossings_46 (by decide) (by first | assumption | (unfold inR; omega) | (have := hC i (by omega) (by omega); unfold inR; omega) | (have := hC (i - 1) (by omega) (by omega); unfold inR; omega)) (by first | assumption | (unfold inR; omega) | (have := hC i (by omega) (by omega); unfold inR; omega) | (have := hC (i - 1) (by omega) (by omega); unfold inR; omega)) (fun h46 => ?_) (fun h46 => ?_)
        · refine PW.take 4 ?_
          refine PW.iinc [(0, _), (1, _), (2, _), (3, _)] dX1_crossings_74 rfl rfl (Nat.le_of_ble_eq_true rfl) ?_
          refine PW.goto 10 dX1_crossings_77 (by decide) ?_
          have e := ih (i + 1) (by omega) (by omega) (by omega)
          rw [smF_s (fun j => b01 (xcP (σ (a + 1)) (birF (σ (b + 1)) (σ b 2)) j)) (by omega)] at e
          first
            | (rw [b01_t (by exact ⟨by omega, by assumption, by assumption, by omega⟩)] at e; exact e)
            | (rw [b01_f (by intro q; first | (exact absurd (by assumption) q.2.1) | (exact absurd (by assumption) q.2.2.1) | (have q4 := q.2.2.2; rw [h53] at q4; omega) | omega), Int.add_zero] at e; exact e)
        · refine PW.iload dX1_crossings_49 rfl ?_
          refine PW.iload dX1_crossings_51 rfl ?_
          refine PW.icmp_eq 74 dX1_crossings_53 (by decide) (by first | assumption | (unfold inR; omega) | (have := hC i (by omega) (by omega); unfold inR; omega) | (have := hC (i - 1) (by omega) (by omega); unfold inR; omega)) (by first | assumption | (unfold inR; omega) | (have := hC i (by omega) (by omega); unfold inR; omega) | (have := hC (i - 1) (by omega) (by omega); unfold inR; omega)) (fun h53 => ?_) (fun h53 => ?_)
          · refine PW.take 4 ?_
            refine PW.iinc [(0, _), (1, _), (2, _), (3, _)] dX1_crossings_74 rfl rfl (Nat.le_of_ble_eq_true rfl) ?_
            refine PW.goto 10 dX1_crossings_77 (by decide) ?_
            have e := ih (i + 1) (by omega) (by omega) (by omega)
            rw [smF_s (fun j => b01 (xcP (σ (a + 1)) (birF (σ (b + 1)) (σ b 2)) j)) (by omega)] at e
            first
              | (rw [b01_t (by exact ⟨by omega, by assumption, by assumption, by omega⟩)] at e; exact e)
              | (rw [b01_f (by intro q; first | (exact absurd (by assumption) q.2.1) | (exact absurd (by assumption) q.2.2.1) | (have q4 := q.2.2.2; rw [h53] at q4; omega) | omega), Int.add_zero] at e; exact e)
          · refine PW.aload_n dX1_crossings_56 rfl ?_
            refine PW.iload dX1_crossings_57 rfl ?_
            refine PW.callVr (c_X8_birthOf hB hT (by first | assumption | (unfold inR; omega) | (have := hC i (by omega) (by omega); unfold inR; omega) | (have := hC (i - 1) (by omega) (by omega); unfold inR; omega))) cv_X8_birthOf lk_X1_108 (by first | assumption | exact And.left (by assumption)) dX1_crossings_59 rfl rfl rfl rfl ?_
            refine PW.aload_n dX1_crossings_62 rfl ?_
            refine PW.iload dX1_crossings_63 rfl ?_
            refine PW.callVr (c_X8_birthOf hB hT (by first | assumption | (unfold inR; omega) | (have := hC i (by omega) (by omega); unfold inR; omega) | (have := hC (i - 1) (by omega) (by omega); unfold inR; omega))) cv_X8_birthOf lk_X1_108 (by first | assumption | exact And.left (by assumption)) dX1_crossings_65 rfl rfl rfl rfl ?_
            refine PW.icmp_ge 74 dX1_crossings_68 (by decide) (by first | assumption | (unfold inR; omega) | (have := hC i (by omega) (by omega); unfold inR; omega) | (have := hC (i - 1) (by omega) (by omega); unfold inR; omega)) (by first | assumption | (unfold inR; omega) | (have := hC i (by omega) (by omega); unfold inR; omega) | (have := hC (i - 1) (by omega) (by omega); unfold inR; omega)) (fun h68 => ?_) (fun h68 => ?_)
            · refine PW.take 4 ?_
              refine PW.iinc [(0, _), (1, _), (2, _), (3, _)] dX1_crossings_74 rfl rfl (Nat.le_of_ble_eq_true rfl) ?_
              refine PW.goto 10 dX1_crossings_77 (by decide) ?_
              have e := ih (i + 1) (by omega) (by omega) (by omega)
              rw [smF_s (fun j => b01 (xcP (σ (a + 1)) (birF (σ (b + 1)) (σ b 2)) j)) (by omega)] at e
              first
                | (rw [b01_t (by exact ⟨by omega, by assumption, by assumption, by omega⟩)] at e; exact e)
                | (rw [b01_f (by intro q; first | (exact absurd (by assumption) q.2.1) | (exact absurd (by assumption) q.2.2.1) | (have q4 := q.2.2.2; rw [h53] at q4; omega) | omega), Int.add_zero] at e; exact e)
            · refine PW.iinc [(0, _), (1, _), (2, _), (3, _), (4, _), (5, _)] dX1_crossings_71 rfl rfl (Nat.le_of_ble_eq_true rfl) ?_
              refine PW.take 4 ?_
              refine PW.iinc [(0, _), (1, _), (2, _), (3, _)] dX1_crossings_74 rfl rfl (Nat.le_of_ble_eq_true rfl) ?_
              refine PW.goto 10 dX1_crossings_77 (by decide) ?_
              have e := ih (i + 1) (by omega) (by omega) (by omega)
              rw [smF_s (fun j => b01 (xcP (σ (a + 1)) (birF (σ (b + 1)) (σ b 2)) j)) (by omega)] at e
              first
                | (rw [b01_t (by exact ⟨by omega, by assumption, by assumption, by omega⟩)] at e; exact e)
                | (rw [b01_f (by intro q; first | (exact absurd (by assumption) q.2.1) | (exact absurd (by assumption) q.2.2.1) | (have q4 := q.2.2.2; rw [h53] at q4; omega) | omega), Int.add_zero] at e; exact e)
theorem c_X1_crossings {G : GT} {S : Shp} {σ : Sto} {a b : Nat} (hA : IsCol S a) (hB : IsTale S b) (hT : taOk σ b) (hC : colOk (σ (a + 1))) : PMet G mX1_crossings 3 0 0 [.ref a, .ref b] S σ (isP (some (.int (iI (xcF (σ (a + 1)) (birF (σ (b + 1)) (σ b 2)))))) S σ) := by
  refine PMet.of [(0, .ref a), (1, .ref b)] (by decide +kernel) rfl (Nat.le_of_ble_eq_true rfl) ?_
  refine PW.aload_n dX1_crossings_0 rfl ?_
  refine PW.ifnonnull 6 dX1_crossings_1 (by decide) ?_
  refine PW.iconst dX1_crossings_6 ?_
  refine PW.istore_n [(0, _), (1, _), (2, _)] dX1_crossings_7 rfl (Nat.le_of_ble_eq_true rfl) ?_
  refine PW.iconst dX1_crossings_8 ?_
  refine PW.istore_n [(0, _), (1, _), (2, _), (3, _)] dX1_crossings_9 rfl (Nat.le_of_ble_eq_true rfl) ?_
  exact cross_loop hA hB hT hC ⟨rfl, rfl, rfl⟩ 80 1 (by omega) (by omega) (by omega)
def ciF (c m : Int → Int) (pl i : Int) : Int → Int := fun b => m b + (if pl ≤ b ∧ b < pl + 16 then clG c (b - pl) i else 0)
theorem ciF_0 (c m : Int → Int) (pl : Int) : ciF c m pl 0 = m := by
  funext b
  unfold ciF clG
  rw [smF_0]
  split <;> omega
theorem ciF_s (c m : Int → Int) {pl i : Int} (h : 0 ≤ i) (hc : -1 ≤ c i ∧ c i ≤ 15) : ciF c m pl (i + 1) = if c i = -1 then ciF c m pl i else up1 (ciF c m pl i) (pl + c i) (ciF c m pl i (pl + c i) + 1) := by
  funext b
  by_cases h1 : c i = -1
  · rw [if_pos h1]
    unfold ciF clG
    rw [smF_s _ h]
    split
    · rw [b01_f (by omega)]; omega
    · rfl
  · rw [if_neg h1]
    unfold up1
    by_cases h2 : b = pl + c i
    · rw [if_pos h2]
      unfold ciF clG
      subst h2
      rw [smF_s _ h, if_pos (by omega), if_pos (by omega), show pl + c i - pl = c i by omega, b01_t rfl]
      omega
    · rw [if_neg h2]
      unfold ciF clG
      rw [smF_s _ h, b01_f (fun q => h2 (by omega))]
      split <;> omega
theorem ci_loop {G : GT} {S : Shp} {σ : Sto} {a m N : Nat} {pl : Int} {Q : Option Value → Shp → Sto → Prop} (hA : IsCol S a) (hM : At S m (sA 0 N)) (hN : (N : Int) ≤ 1000000) (hp : 0 ≤ pl ∧ pl + 16 ≤ N) (hm : m ≠ a + 1) (hC : colOk (σ (a + 1))) (hr : ∀ b, pl ≤ b → b < pl + 16 → 0 ≤ σ m b ∧ σ m b ≤ 1000000) (hQ : Q none S (upS σ m (ciF (σ (a + 1)) (σ m) pl 80))) : ∀ (t : Nat) (i : Int), 0 ≤ i → i ≤ 80 → 80 - i < t → PW (fm G mX1_countInto 0 0 0 Q) G S (upS σ m (ciF (σ (a + 1)) (σ m) pl i)) 0 0 7 [(0, .ref a), (1, .ref m), (2, .int (iI (pl))), (3, .int (iI (i)))] [] := by
  obtain ⟨hA0, hA1⟩ := id hA
  intro t
  induction t with
  | zero => intro i h1 h2 h3; omega
  | succ t ih =>
    intro i h1 h2 h3
    have e1 : (upS σ m (ciF (σ (a + 1)) (σ m) pl i)) (a + 1) = σ (a + 1) := upS_ne (Ne.symm hm)
    have hc := hC i h1
    refine PW.iload_n dX1_countInto_7 rfl ?_
    refine PW.aload_n dX1_countInto_8 rfl ?_
    refine PW.getR fl_X1_9 rfl (by assumption) rfl dX1_countInto_9 ?_
    refine PW.alen (by assumption) (by decide) dX1_countInto_12 ?_
    refine PW.icmp_ge 62 dX1_countInto_13 (by decide) (by first | (unfold inR; omega) | (have := hc (by omega); unfold inR; omega)) (by first | (unfold inR; omega) | (have := hc (by omega); unfold inR; omega)) (fun h13 => ?_) (fun h13 => ?_)
    · have hi : i = 80 := by omega
      subst hi
      exact PW.vret rfl dX1_countInto_62 hQ
    · refine PW.iload_n dX1_countInto_16 rfl ?_
      refine PW.aload_n dX1_countInto_17 rfl ?_
      refine PW.getR fl_X1_9 rfl (by assumption) rfl dX1_countInto_18 ?_
      refine PW.iload_n dX1_countInto_21 rfl ?_
      refine PW.iaload (by assumption) (by first | (unfold inR; omega) | (have := hc (by omega); unfold inR; omega)) (by omega) (by omega) dX1_countInto_22 ?_
      refine PW.top (σ (a + 1) i) (by rw [e1]) ?_
      have hc2 := hc (by omega)
      refine PW.iadd dX1_countInto_23 ?_
      refine PW.istore [(0, _), (1, _), (2, _), (3, _), (4, _)] dX1_countInto_24 rfl (Nat.le_of_ble_eq_true rfl) ?_
      refine PW.aload_n dX1_countInto_26 rfl ?_
      refine PW.getR fl_X1_9 rfl (by assumption) rfl dX1_countInto_27 ?_
      refine PW.iload_n dX1_countInto_30 rfl ?_
      refine PW.iaload (by assumption) (by first | (unfold inR; omega) | (have := hc (by omega); unfold inR; omega)) (by omega) (by omega) dX1_countInto_31 ?_
      refine PW.top (σ (a + 1) i) (by rw [e1]) ?_
      refine PW.iconst dX1_countInto_32 ?_
      refine PW.icmp_eq 56 dX1_countInto_33 (by decide) (by first | (unfold inR; omega) | (have := hc (by omega); unfold inR; omega)) (by first | (unfold inR; omega) | (have := hc (by omega); unfold inR; omega)) (fun h33 => ?_) (fun h33 => ?_)
      · refine PW.keep [(0, .ref a), (1, .ref m), (2, .int (iI pl)), (3, .int (iI i))] (by simp) ?_
        refine PW.iinc [(0, _), (1, _), (2, _), (3, _)] dX1_countInto_56 rfl rfl (Nat.le_of_ble_eq_true rfl) ?_
        refine PW.goto 7 dX1_countInto_59 (by decide) ?_
        refine PW.st (upS σ m (ciF (σ (a + 1)) (σ m) pl (i + 1))) ?_ (ih (i + 1) (by omega) (by omega) (by omega))
        rw [ciF_s _ _ h1 hc2]
        first
          | rw [if_pos (by omega)]
          | (rw [if_neg (by omega)]; simp only [upS_upS, upS_same])
      · refine PW.iload dX1_countInto_36 rfl ?_
        refine PW.if_lt 56 dX1_countInto_38 (by decide) (by first | (unfold inR; omega) | (have := hc (by omega); unfold inR; omega)) (fun h38 => ?_) (fun h38 => ?_)
        · omega
        · refine PW.iload dX1_countInto_41 rfl ?_
          refine PW.aload_n dX1_countInto_43 rfl ?_
          refine PW.alen (by assumption) (by decide) dX1_countInto_44 ?_
          refine PW.icmp_ge 56 dX1_countInto_45 (by decide) (by first | (unfold inR; omega) | (have := hc (by omega); unfold inR; omega)) (by first | (unfold inR; omega) | (have := hc (by omega); unfold inR; omega)) (fun h45 => ?_) (fun h45 => ?_)
          · omega
          · refine PW.aload_n dX1_countInto_48 rfl ?_
            refine PW.iload dX1_countInto_49 rfl ?_
            refine PW.dup2 rfl rfl dX1_countInto_51 ?_
            refine PW.iaload (by assumption) (by first | (unfold inR; omega) | (have := hc (by omega); unfold inR; omega)) (by omega) (by omega) dX1_countInto_52 ?_
            refine PW.iconst dX1_countInto_53 ?_
            refine PW.iadd dX1_countInto_54 ?_
            refine PW.iastore (by assumption) (by first | (unfold inR; omega) | (have := hc (by omega); unfold inR; omega)) (by omega) (by omega) dX1_countInto_55 ?_
            refine PW.keep [(0, .ref a), (1, .ref m), (2, .int (iI pl)), (3, .int (iI i))] (by simp) ?_
            refine PW.iinc [(0, _), (1, _), (2, _), (3, _)] dX1_countInto_56 rfl rfl (Nat.le_of_ble_eq_true rfl) ?_
            refine PW.goto 7 dX1_countInto_59 (by decide) ?_
            refine PW.st (upS σ m (ciF (σ (a + 1)) (σ m) pl (i + 1))) ?_ (ih (i + 1) (by omega) (by omega) (by omega))
            rw [ciF_s _ _ h1 hc2]
            first
              | rw [if_pos (by omega)]
              | (rw [if_neg (by omega)]; simp only [upS_upS, upS_same])
theorem c_X1_countInto {G : GT} {S : Shp} {σ : Sto} {a m N : Nat} {pl : Int} (hA : IsCol S a) (hM : At S m (sA 0 N)) (hN : (N : Int) ≤ 1000000) (hp : 0 ≤ pl ∧ pl + 16 ≤ N) (hm : m ≠ a + 1) (hC : colOk (σ (a + 1))) (hr : ∀ b, pl ≤ b → b < pl + 16 → 0 ≤ σ m b ∧ σ m b ≤ 1000000) : PMet G mX1_countInto 0 0 0 [.ref a, .ref m, .int (iI pl)] S σ (isP none S (upS σ m (ciF (σ (a + 1)) (σ m) pl 80))) := by
  refine PMet.of [(0, .ref a), (1, .ref m), (2, .int (iI (pl)))] (by decide +kernel) rfl (Nat.le_of_ble_eq_true rfl) ?_
  refine PW.aload_n dX1_countInto_0 rfl ?_
  refine PW.ifnonnull 5 dX1_countInto_1 (by decide) ?_
  refine PW.iconst dX1_countInto_5 ?_
  refine PW.istore_n [(0, _), (1, _), (2, _), (3, _)] dX1_countInto_6 rfl (Nat.le_of_ble_eq_true rfl) ?_
  refine PW.st (upS σ m (ciF (σ (a + 1)) (σ m) pl 0)) (by rw [ciF_0, upS_self]) ?_
  exact ci_loop hA hM hN hp hm hC hr ⟨rfl, rfl, rfl⟩ 81 0 (by omega) (by omega) (by omega)

/-- what the kept lands look like -/
abbrev kpM (C : Int → Int) : Int → Int → Int → Int := fun c p x => C (5120 * p + 80 * c + x)
theorem fstP_0 (κ : Int → Int → Int) : fstP κ 0 := rfl
theorem unK_1 (κ : Int → Int → Int) : ∀ {n : Int}, 1 ≤ n → 1 ≤ unK κ n := by
  have key : ∀ k : Nat, 1 ≤ unK κ ((k : Int) + 1) := by
    intro k
    induction k with
    | zero =>
      have e := unK_s κ (i := 0) (by omega)
      rw [b01_t (fstP_0 κ)] at e
      have := (unK_b κ (i := 0) (by omega)).1
      show 1 ≤ unK κ (0 + 1)
      omega
    | succ k ih =>
      have e := unK_s κ (i := (k : Int) + 1) (by omega)
      have := b01_b (fstP κ ((k : Int) + 1))
      rw [show (((k + 1 : Nat) : Int)) = (k : Int) + 1 by omega]
      omega
  intro n hn
  have := key (n - 1).toNat
  rw [show (((n - 1).toNat : Nat) : Int) + 1 = n by omega] at this
  exact this
theorem nhF_at {κ : Int → Int → Int → Int} {n : Int} (hn : 1 ≤ n) : ∀ k : Nat, 1 ≤ k → 0 ≤ (nhF κ n k).1
  | 0, h => by omega
  | k + 1, _ => by
    have u1 := unK_1 (κ (k : Int)) hn
    simp only [nhF]
    by_cases h0 : k = 0
    · subst h0
      rw [if_neg (by simp only [nhF]; omega)]
      exact Int.le_refl _
    · have ih := nhF_at (κ := κ) hn k (by omega)
      split
      · exact ih
      · show (0 : Int) ≤ (k : Int)
        omega
def grM (κ : Int → Int → Int) (n i : Int) : Int := mxI (fun p => szK κ p n) i.toNat
theorem grM_s (κ : Int → Int → Int) (n : Int) {i : Int} (h : 0 ≤ i) : grM κ n (i + 1) = max (grM κ n i) (szK κ i n) := mxI_s _ h
theorem grM_b (κ : Int → Int → Int) {n : Int} (h : 0 ≤ n) (i : Int) : 0 ≤ grM κ n i ∧ grM κ n i ≤ n := by
  obtain ⟨h1, h2, h3⟩ := mxI_spec (fun p => szK κ p n) i.toNat
  unfold grM
  refine ⟨h1, ?_⟩
  rcases h3 with h3 | ⟨j, j0, j1, h3⟩
  · omega
  · have := szK_b κ j h
    try dsimp only at h3
    omega
theorem mo_lk_loop {G : GT} {S : Shp} {σ : Sto} {m : Nat} {a b c : Int} {Q : Option Value → Shp → Sto → Prop} (hA : IsMod S m) (hla : ∀ x, 0 ≤ x → x < 80 → -1 ≤ (kpM (σ (m + 33)) c) a x ∧ (kpM (σ (m + 33)) c) a x ≤ 15) (hlb : ∀ x, 0 ≤ x → x < 80 → -1 ≤ (kpM (σ (m + 33)) c) b x ∧ (kpM (σ (m + 33)) c) b x ≤ 15) (ha : 0 ≤ a ∧ a < 65) (hb : 0 ≤ b ∧ b < 65) (hc : 0 ≤ c ∧ c < 64) (hQ : Q (some (.int (iI (b01 (lkK (kpM (σ (m + 33)) c) a b))))) S σ) : ∀ (t : Nat) (i : Int), 0 ≤ i → i ≤ 80 → 80 - i < t → PW (fm G mX12_isLike 0 0 0 Q) G S (σ) 0 0 6 [(0, .ref m), (1, .int (iI (a))), (2, .int (iI (b))), (3, .int (iI (c))), (4, .int (iI (b01 (firI (likB ((kpM (σ (m + 33)) c) a) ((kpM (σ (m + 33)) c) b)) i.toNat = -1)))), (5, .int (iI (i)))] [] := by
  obtain ⟨hM0, hM1, hM2, hM3, hM4, hM5, hM6, hM7, hM8, hM9, hM10, hM11, hM12, hM13, hM14, hM15, hM16, hM17, hM18, hM19, hM20, hM21, hM22, hM23, hM24, hM25, hM26, hM27, hM28, hM29, hM30, hM31, hM32, hM33, hM34⟩ := id hA
  intro t
  induction t with
  | zero => intro i h1 h2 h3; omega
  | succ t ih =>
    intro i h1 h2 h3
    have f1 := firI_st (likB ((kpM (σ (m + 33)) c) a) ((kpM (σ (m + 33)) c) b)) h1
    refine PW.iload dX12_isLike_6 rfl ?_
    refine PW.bipush (by decide) dX12_isLike_8 ?_
    refine PW.icmp_ge 70 dX12_isLike_10 (by decide) (by first | assumption | (unfold inR; omega)) (by first | assumption | (unfold inR; omega)) (fun h10 => ?_) (fun h10 => ?_)
    · refine PW.iload dX12_isLike_70 rfl ?_
      have hi : i = 80 := by omega
      subst hi
      exact PW.iret rfl (narB _) dX12_isLike_72 hQ
    · refine PW.iload dX12_isLike_13 rfl ?_
      refine PW.if_eqB 61 dX12_isLike_15 (by decide) (fun h15 => ?_) (fun h15 => ?_)
      · refine PW.iconst dX12_isLike_61 ?_
        refine PW.istore [(0, _), (1, _), (2, _), (3, _), (4, _), (5, _)] dX12_isLike_62 rfl (Nat.le_of_ble_eq_true rfl) ?_
        refine PW.iinc [(0, _), (1, _), (2, _), (3, _), (4, _), (5, _)] dX12_isLike_64 rfl rfl (Nat.le_of_ble_eq_true rfl) ?_
        refine PW.goto 6 dX12_isLike_67 (by decide) ?_
        have e := ih (i + 1) (by omega) (by omega) (by omega)
        first
          | (rw [b01_t (f1.mpr ⟨by assumption, decide_eq_false (by omega)⟩)] at e
             exact e)
          | (rw [b01_f (fun q => by
               have := of_decide_eq_false (f1.mp q).2
               omega)] at e
             exact e)
          | (rw [b01_f (fun q => by have := (f1.mp q).1; contradiction)] at e
             exact e)
      · have va := hla i h1 (by omega)
        have vb := hlb i h1 (by omega)
        refine PW.aload_n dX12_isLike_18 rfl ?_
        refine PW.getR fl_X12_113 rfl (by assumption) rfl dX12_isLike_19 ?_
        refine PW.sipush (by decide) dX12_isLike_22 ?_
        refine PW.iload_n dX12_isLike_25 rfl ?_
        refine PW.imul dX12_isLike_26 ?_
        refine PW.bipush (by decide) dX12_isLike_27 ?_
        refine PW.iload_n dX12_isLike_29 rfl ?_
        refine PW.imul dX12_isLike_30 ?_
        refine PW.iadd dX12_isLike_31 ?_
        refine PW.iload dX12_isLike_32 rfl ?_
        refine PW.iadd dX12_isLike_34 ?_
        refine PW.baload (by assumption) (by unfold inR; omega) (by omega) (by omega) dX12_isLike_35 ?_
        refine PW.top ((kpM (σ (m + 33)) c) a i) rfl ?_
        refine PW.aload_n dX12_isLike_36 rfl ?_
        refine PW.getR fl_X12_113 rfl (by assumption) rfl dX12_isLike_37 ?_
        refine PW.sipush (by decide) dX12_isLike_40 ?_
        refine PW.iload_n dX12_isLike_43 rfl ?_
        refine PW.imul dX12_isLike_44 ?_
        refine PW.bipush (by decide) dX12_isLike_45 ?_
        refine PW.iload_n dX12_isLike_47 rfl ?_
        refine PW.imul dX12_isLike_48 ?_
        refine PW.iadd dX12_isLike_49 ?_
        refine PW.iload dX12_isLike_50 rfl ?_
        refine PW.iadd dX12_isLike_52 ?_
        refine PW.baload (by assumption) (by unfold inR; omega) (by omega) (by omega) dX12_isLike_53 ?_
        refine PW.top ((kpM (σ (m + 33)) c) b i) rfl ?_
        refine PW.icmp_ne 61 dX12_isLike_54 (by decide) (by first | assumption | (unfold inR; omega)) (by first | assumption | (unfold inR; omega)) (fun h54 => ?_) (fun h54 => ?_)
        · refine PW.iconst dX12_isLike_61 ?_
          refine PW.istore [(0, _), (1, _), (2, _), (3, _), (4, _), (5, _)] dX12_isLike_62 rfl (Nat.le_of_ble_eq_true rfl) ?_
          refine PW.iinc [(0, _), (1, _), (2, _), (3, _), (4, _), (5, _)] dX12_isLike_64 rfl rfl (Nat.le_of_ble_eq_true rfl) ?_
          refine PW.goto 6 dX12_isLike_67 (by decide) ?_
          have e := ih (i + 1) (by omega) (by omega) (by omega)
          first
            | (rw [b01_t (f1.mpr ⟨by assumption, decide_eq_false (by omega)⟩)] at e
               exact e)
            | (rw [b01_f (fun q => by
                 have := of_decide_eq_false (f1.mp q).2
                 omega)] at e
               exact e)
            | (rw [b01_f (fun q => by have := (f1.mp q).1; contradiction)] at e
               exact e)
        · refine PW.iconst dX12_isLike_57 ?_
          refine PW.goto 62 dX12_isLike_58 (by decide) ?_
          refine PW.istore [(0, _), (1, _), (2, _), (3, _), (4, _), (5, _)] dX12_isLike_62 rfl (Nat.le_of_ble_eq_true rfl) ?_
          refine PW.iinc [(0, _), (1, _), (2, _), (3, _), (4, _), (5, _)] dX12_isLike_64 rfl rfl (Nat.le_of_ble_eq_true rfl) ?_
          refine PW.goto 6 dX12_isLike_67 (by decide) ?_
          have e := ih (i + 1) (by omega) (by omega) (by omega)
          first
            | (rw [b01_t (f1.mpr ⟨by assumption, decide_eq_false (by omega)⟩)] at e
               exact e)
            | (rw [b01_f (fun q => by
                 have := of_decide_eq_false (f1.mp q).2
                 omega)] at e
               exact e)
            | (rw [b01_f (fun q => by have := (f1.mp q).1; contradiction)] at e
               exact e)
theorem c_X12_isLike {G : GT} {S : Shp} {σ : Sto} {m : Nat} {a b c : Int} (hA : IsMod S m) (hla : ∀ x, 0 ≤ x → x < 80 → -1 ≤ (kpM (σ (m + 33)) c) a x ∧ (kpM (σ (m + 33)) c) a x ≤ 15) (hlb : ∀ x, 0 ≤ x → x < 80 → -1 ≤ (kpM (σ (m + 33)) c) b x ∧ (kpM (σ (m + 33)) c) b x ≤ 15) (ha : 0 ≤ a ∧ a < 65) (hb : 0 ≤ b ∧ b < 65) (hc : 0 ≤ c ∧ c < 64) : PMet G mX12_isLike 0 0 0 [.ref m, .int (iI a), .int (iI b), .int (iI c)] S σ (isP (some (.int (iI (b01 (lkK (kpM (σ (m + 33)) c) a b))))) S σ) := by
  obtain ⟨hM0, hM1, hM2, hM3, hM4, hM5, hM6, hM7, hM8, hM9, hM10, hM11, hM12, hM13, hM14, hM15, hM16, hM17, hM18, hM19, hM20, hM21, hM22, hM23, hM24, hM25, hM26, hM27, hM28, hM29, hM30, hM31, hM32, hM33, hM34⟩ := id hA
  refine PMet.of [(0, .ref m), (1, .int (iI (a))), (2, .int (iI (b))), (3, .int (iI (c)))] (by decide +kernel) rfl (Nat.le_of_ble_eq_true rfl) ?_
  refine PW.iconst dX12_isLike_0 ?_
  refine PW.istore [(0, _), (1, _), (2, _), (3, _), (4, _)] dX12_isLike_1 rfl (Nat.le_of_ble_eq_true rfl) ?_
  refine PW.iconst dX12_isLike_3 ?_
  refine PW.istore [(0, _), (1, _), (2, _), (3, _), (4, _), (5, _)] dX12_isLike_4 rfl (Nat.le_of_ble_eq_true rfl) ?_
  have e0 : b01 (firI (likB ((kpM (σ (m + 33)) c) a) ((kpM (σ (m + 33)) c) b)) (0 : Int).toNat = -1) = 1 := b01_t rfl
  have kk := mo_lk_loop (G := G) (S := S) hA hla hlb ha hb hc (Q := isP (some (.int (iI (b01 (lkK (kpM (σ (m + 33)) c) a b))))) S σ) ⟨rfl, rfl, rfl⟩ 81 0 (by omega) (by omega) (by omega)
  rw [e0] at kk
  exact kk
theorem mo_fc_in {G : GT} {S : Shp} {σ : Sto} {m : Nat} {c F p u g : Int} {Q : Option Value → Shp → Sto → Prop} (hA : IsMod S m) (hF : σ m 41 = F) (hFb : 0 ≤ F ∧ F ≤ 65) (hl : ∀ p, 0 ≤ p → p < F → ∀ x, 0 ≤ x → x < 80 → -1 ≤ (kpM (σ (m + 33)) c) p x ∧ (kpM (σ (m + 33)) c) p x ≤ 15) (hc : 0 ≤ c ∧ c < 64) (hp : 0 ≤ p ∧ p < F) (hK : PW (fm G mX12_findContents 1 0 0 Q) G S (upS σ m (up1 (up1 (σ m) 46 (u)) 47 (g))) 0 0 84 [(0, .ref m), (1, .int (iI c)), (2, .int (iI p)), (3, .int (iI (szK (kpM (σ (m + 33)) c) p F))), (4, .int (iI (b01 (fstP (kpM (σ (m + 33)) c) p))))] []) : ∀ (t : Nat) (i : Int), 0 ≤ i → i ≤ F → F - i < t → PW (fm G mX12_findContents 1 0 0 Q) G S (upS σ m (up1 (up1 (σ m) 46 (u)) 47 (g))) 0 0 28 [(0, .ref m), (1, .int (iI (c))), (2, .int (iI (p))), (3, .int (iI (szK (kpM (σ (m + 33)) c) p i))), (4, .int (iI (b01 (firI (fun j => decide (lkK (kpM (σ (m + 33)) c) p j)) (min i p).toNat = -1)))), (5, .int (iI (i)))] [] := by
  obtain ⟨hM0, hM1, hM2, hM3, hM4, hM5, hM6, hM7, hM8, hM9, hM10, hM11, hM12, hM13, hM14, hM15, hM16, hM17, hM18, hM19, hM20, hM21, hM22, hM23, hM24, hM25, hM26, hM27, hM28, hM29, hM30, hM31, hM32, hM33, hM34⟩ := id hA
  intro t
  induction t with
  | zero => intro i h1 h2 h3; omega
  | succ t ih =>
    intro i h1 h2 h3
    have es := szK_s (kpM (σ (m + 33)) c) p h1
    have f1 := firI_st (fun j => decide (lkK (kpM (σ (m + 33)) c) p j)) h1
    have e33 : (upS σ m (up1 (up1 (σ m) 46 (u)) 47 (g))) (m + 33) = σ (m + 33) := upS_ne (by omega)
    refine PW.iload dX12_findContents_28 rfl ?_
    refine PW.aload_n dX12_findContents_30 rfl ?_
    refine PW.getI 41 fl_X12_396 rfl (by assumption) rfl rfl dX12_findContents_31 ?_
    refine PW.top F (by rw [upS_same, up1_ne (by omega), up1_ne (by omega)]; exact hF) ?_
    refine PW.icmp_ge 84 dX12_findContents_34 (by decide) (by first | assumption | (unfold inR; omega)) (by first | assumption | (unfold inR; omega)) (fun h34 => ?_) (fun h34 => ?_)
    · have hi : i = F := by omega
      subst hi
      refine PW.take 5 ?_
      rw [show min i p = p by omega]
      exact hK
    · refine PW.aload_n dX12_findContents_37 rfl ?_
      refine PW.iload_n dX12_findContents_38 rfl ?_
      refine PW.iload dX12_findContents_39 rfl ?_
      refine PW.iload_n dX12_findContents_41 rfl ?_
      refine PW.callVr (c_X12_isLike hA (by rw [e33]; exact hl p hp.1 hp.2) (by rw [e33]; exact hl i h1 (by omega)) (by omega) (by omega) hc) cv_X12_isLike lk_X12_418 (by first | assumption | exact And.left (by assumption)) dX12_findContents_42 rfl rfl rfl rfl ?_
      refine PW.top (b01 (lkK (kpM (σ (m + 33)) c) p i)) (by rw [e33]) ?_
      refine PW.istore [(0, _), (1, _), (2, _), (3, _), (4, _), (5, _), (6, _)] dX12_findContents_45 rfl (Nat.le_of_ble_eq_true rfl) ?_
      refine PW.iload_n dX12_findContents_47 rfl ?_
      refine PW.iload dX12_findContents_48 rfl ?_
      refine PW.callSr (c_X12_bit (b01_b _)) cs_X12_bit lk_X12_207 dX12_findContents_50 rfl rfl rfl ?_
      refine PW.iadd dX12_findContents_53 ?_
      refine PW.istore_n [(0, _), (1, _), (2, _), (3, _), (4, _), (5, _), (6, _)] dX12_findContents_54 rfl (Nat.le_of_ble_eq_true rfl) ?_
      refine PW.iload dX12_findContents_55 rfl ?_
      refine PW.if_eqB 75 dX12_findContents_57 (by decide) (fun h57 => ?_) (fun h57 => ?_)
      · refine PW.iconst dX12_findContents_75 ?_
        refine PW.istore [(0, _), (1, _), (2, _), (3, _), (4, _), (5, _), (6, _)] dX12_findContents_76 rfl (Nat.le_of_ble_eq_true rfl) ?_
        refine PW.iinc [(0, _), (1, _), (2, _), (3, _), (4, _), (5, _), (6, _)] dX12_findContents_78 rfl rfl (Nat.le_of_ble_eq_true rfl) ?_
        refine PW.goto 28 dX12_findContents_81 (by decide) ?_
        refine PW.take 6 ?_
        have e := ih (i + 1) (by omega) (by omega) (by omega)
        rw [es] at e
        by_cases hip : i < p
        · rw [show min (i + 1) p = i + 1 by omega] at e
          rw [show min i p = i by omega] at h57
          first
            | (exfalso; omega)
            | (rw [b01_t (f1.mpr ⟨h57, decide_eq_false h62⟩)] at e
               exact e)
            | (rw [b01_f (fun q => of_decide_eq_false (f1.mp q).2 h62)] at e
               exact e)
            | (rw [b01_f (fun q => h57 (f1.mp q).1)] at e
               exact e)
        · rw [show min (i + 1) p = p by omega] at e
          rw [show min i p = p by omega] at h57
          first
            | (exfalso; omega)
            | (rw [b01_t (show firI (fun j => decide (lkK (kpM (σ (m + 33)) c) p j)) p.toNat = -1 from h57)] at e
               exact e)
            | (rw [b01_f (show ¬ firI (fun j => decide (lkK (kpM (σ (m + 33)) c) p j)) p.toNat = -1 from h57)] at e
               exact e)
      · refine PW.iload dX12_findContents_60 rfl ?_
        refine PW.if_eqB 71 dX12_findContents_62 (by decide) (fun h62 => ?_) (fun h62 => ?_)
        · refine PW.iconst dX12_findContents_71 ?_
          refine PW.goto 76 dX12_findContents_72 (by decide) ?_
          refine PW.istore [(0, _), (1, _), (2, _), (3, _), (4, _), (5, _), (6, _)] dX12_findContents_76 rfl (Nat.le_of_ble_eq_true rfl) ?_
          refine PW.iinc [(0, _), (1, _), (2, _), (3, _), (4, _), (5, _), (6, _)] dX12_findContents_78 rfl rfl (Nat.le_of_ble_eq_true rfl) ?_
          refine PW.goto 28 dX12_findContents_81 (by decide) ?_
          refine PW.take 6 ?_
          have e := ih (i + 1) (by omega) (by omega) (by omega)
          rw [es] at e
          by_cases hip : i < p
          · rw [show min (i + 1) p = i + 1 by omega] at e
            rw [show min i p = i by omega] at h57
            first
              | (exfalso; omega)
              | (rw [b01_t (f1.mpr ⟨h57, decide_eq_false h62⟩)] at e
                 exact e)
              | (rw [b01_f (fun q => of_decide_eq_false (f1.mp q).2 h62)] at e
                 exact e)
              | (rw [b01_f (fun q => h57 (f1.mp q).1)] at e
                 exact e)
          · rw [show min (i + 1) p = p by omega] at e
            rw [show min i p = p by omega] at h57
            first
              | (exfalso; omega)
              | (rw [b01_t (show firI (fun j => decide (lkK (kpM (σ (m + 33)) c) p j)) p.toNat = -1 from h57)] at e
                 exact e)
              | (rw [b01_f (show ¬ firI (fun j => decide (lkK (kpM (σ (m + 33)) c) p j)) p.toNat = -1 from h57)] at e
                 exact e)
        · refine PW.iload dX12_findContents_65 rfl ?_
          refine PW.iload_n dX12_findContents_67 rfl ?_
          refine PW.icmp_lt 75 dX12_findContents_68 (by decide) (by first | assumption | (unfold inR; omega)) (by first | assumption | (unfold inR; omega)) (fun h68 => ?_) (fun h68 => ?_)
          · refine PW.iconst dX12_findContents_75 ?_
            refine PW.istore [(0, _), (1, _), (2, _), (3, _), (4, _), (5, _), (6, _)] dX12_findContents_76 rfl (Nat.le_of_ble_eq_true rfl) ?_
            refine PW.iinc [(0, _), (1, _), (2, _), (3, _), (4, _), (5, _), (6, _)] dX12_findContents_78 rfl rfl (Nat.le_of_ble_eq_true rfl) ?_
            refine PW.goto 28 dX12_findContents_81 (by decide) ?_
            refine PW.take 6 ?_
            have e := ih (i + 1) (by omega) (by omega) (by omega)
            rw [es] at e
            by_cases hip : i < p
            · rw [show min (i + 1) p = i + 1 by omega] at e
              rw [show min i p = i by omega] at h57
              first
                | (exfalso; omega)
                | (rw [b01_t (f1.mpr ⟨h57, decide_eq_false h62⟩)] at e
                   exact e)
                | (rw [b01_f (fun q => of_decide_eq_false (f1.mp q).2 h62)] at e
                   exact e)
                | (rw [b01_f (fun q => h57 (f1.mp q).1)] at e
                   exact e)
            · rw [show min (i + 1) p = p by omega] at e
              rw [show min i p = p by omega] at h57
              first
                | (exfalso; omega)
                | (rw [b01_t (show firI (fun j => decide (lkK (kpM (σ (m + 33)) c) p j)) p.toNat = -1 from h57)] at e
                   exact e)
                | (rw [b01_f (show ¬ firI (fun j => decide (lkK (kpM (σ (m + 33)) c) p j)) p.toNat = -1 from h57)] at e
                   exact e)
          · refine PW.iconst dX12_findContents_71 ?_
            refine PW.goto 76 dX12_findContents_72 (by decide) ?_
            refine PW.istore [(0, _), (1, _), (2, _), (3, _), (4, _), (5, _), (6, _)] dX12_findContents_76 rfl (Nat.le_of_ble_eq_true rfl) ?_
            refine PW.iinc [(0, _), (1, _), (2, _), (3, _), (4, _), (5, _), (6, _)] dX12_findContents_78 rfl rfl (Nat.le_of_ble_eq_true rfl) ?_
            refine PW.goto 28 dX12_findContents_81 (by decide) ?_
            refine PW.take 6 ?_
            have e := ih (i + 1) (by omega) (by omega) (by omega)
            rw [es] at e
            by_cases hip : i < p
            · rw [show min (i + 1) p = i + 1 by omega] at e
              rw [show min i p = i by omega] at h57
              first
                | (exfalso; omega)
                | (rw [b01_t (f1.mpr ⟨h57, decide_eq_false h62⟩)] at e
                   exact e)
                | (rw [b01_f (fun q => of_decide_eq_false (f1.mp q).2 h62)] at e
                   exact e)
                | (rw [b01_f (fun q => h57 (f1.mp q).1)] at e
                   exact e)
            · rw [show min (i + 1) p = p by omega] at e
              rw [show min i p = p by omega] at h57
              first
                | (exfalso; omega)
                | (rw [b01_t (show firI (fun j => decide (lkK (kpM (σ (m + 33)) c) p j)) p.toNat = -1 from h57)] at e
                   exact e)
                | (rw [b01_f (show ¬ firI (fun j => decide (lkK (kpM (σ (m + 33)) c) p j)) p.toNat = -1 from h57)] at e
                   exact e)
theorem mo_fc_out {G : GT} {S : Shp} {σ : Sto} {m : Nat} {c F : Int} {Q : Option Value → Shp → Sto → Prop} (hA : IsMod S m) (hF : σ m 41 = F) (hFb : 0 ≤ F ∧ F ≤ 65) (hl : ∀ p, 0 ≤ p → p < F → ∀ x, 0 ≤ x → x < 80 → -1 ≤ (kpM (σ (m + 33)) c) p x ∧ (kpM (σ (m + 33)) c) p x ≤ 15) (hc : 0 ≤ c ∧ c < 64) (hQ : Q none S (upS σ m (up1 (up1 (σ m) 46 (unK (kpM (σ (m + 33)) c) F)) 47 (grM (kpM (σ (m + 33)) c) F F)))) : ∀ (t : Nat) (p : Int), 0 ≤ p → p ≤ F → F - p < t → PW (fm G mX12_findContents 1 0 0 Q) G S (upS σ m (up1 (up1 (σ m) 46 (unK (kpM (σ (m + 33)) c) p)) 47 (grM (kpM (σ (m + 33)) c) F p))) 0 0 12 [(0, .ref m), (1, .int (iI (c))), (2, .int (iI (p)))] [] := by
  obtain ⟨hM0, hM1, hM2, hM3, hM4, hM5, hM6, hM7, hM8, hM9, hM10, hM11, hM12, hM13, hM14, hM15, hM16, hM17, hM18, hM19, hM20, hM21, hM22, hM23, hM24, hM25, hM26, hM27, hM28, hM29, hM30, hM31, hM32, hM33, hM34⟩ := id hA
  intro t
  induction t with
  | zero => intro p h1 h2 h3; omega
  | succ t ih =>
    intro p h1 h2 h3
    have hub := unK_b (kpM (σ (m + 33)) c) h1
    have hus := unK_s (kpM (σ (m + 33)) c) h1
    have hgb := grM_b (kpM (σ (m + 33)) c) hFb.1 p
    have hgs := grM_s (kpM (σ (m + 33)) c) F h1
    have hsb := szK_b (kpM (σ (m + 33)) c) p hFb.1
    have hbb := b01_b (fstP (kpM (σ (m + 33)) c) p)
    refine PW.iload_n dX12_findContents_12 rfl ?_
    refine PW.aload_n dX12_findContents_13 rfl ?_
    refine PW.getI 41 fl_X12_396 rfl (by assumption) rfl rfl dX12_findContents_14 ?_
    refine PW.top F (by rw [upS_same, up1_ne (by omega), up1_ne (by omega)]; exact hF) ?_
    refine PW.icmp_ge 124 dX12_findContents_17 (by decide) (by first | assumption | (unfold inR; omega)) (by first | assumption | (unfold inR; omega)) (fun h17 => ?_) (fun h17 => ?_)
    · have hp : p = F := by omega
      subst hp
      exact PW.vret rfl dX12_findContents_124 hQ
    · refine PW.iconst dX12_findContents_20 ?_
      refine PW.istore_n [(0, _), (1, _), (2, _), (3, _)] dX12_findContents_21 rfl (Nat.le_of_ble_eq_true rfl) ?_
      refine PW.iconst dX12_findContents_22 ?_
      refine PW.istore [(0, _), (1, _), (2, _), (3, _), (4, _)] dX12_findContents_23 rfl (Nat.le_of_ble_eq_true rfl) ?_
      refine PW.iconst dX12_findContents_25 ?_
      refine PW.istore [(0, _), (1, _), (2, _), (3, _), (4, _), (5, _)] dX12_findContents_26 rfl (Nat.le_of_ble_eq_true rfl) ?_
      have hK : PW (fm G mX12_findContents 1 0 0 Q) G S (upS σ m (up1 (up1 (σ m) 46 (unK (kpM (σ (m + 33)) c) p)) 47 (grM (kpM (σ (m + 33)) c) F p))) 0 0 84 [(0, .ref m), (1, .int (iI c)), (2, .int (iI p)), (3, .int (iI (szK (kpM (σ (m + 33)) c) p F))), (4, .int (iI (b01 (fstP (kpM (σ (m + 33)) c) p))))] [] := by
        refine PW.aload_n dX12_findContents_84 rfl ?_
        refine PW.dup rfl dX12_findContents_85 ?_
        refine PW.getI 46 fl_X12_412 rfl (by assumption) rfl rfl dX12_findContents_86 ?_
        refine PW.top (unK (kpM (σ (m + 33)) c) p) (by rw [upS_same, up1_ne (by omega), up1_same]) ?_
        refine PW.iload dX12_findContents_89 rfl ?_
        refine PW.callSr (c_X12_bit (b01_b _)) cs_X12_bit lk_X12_207 dX12_findContents_91 rfl rfl rfl ?_
        refine PW.iadd dX12_findContents_94 ?_
        refine PW.putI 46 fl_X12_412 rfl (fun h => absurd h (by decide)) (by assumption) rfl rfl rfl rfl dX12_findContents_95 ?_
        refine PW.aload_n dX12_findContents_98 rfl ?_
        refine PW.iload_n dX12_findContents_99 rfl ?_
        refine PW.aload_n dX12_findContents_100 rfl ?_
        refine PW.getI 47 fl_X12_415 rfl (by assumption) rfl rfl dX12_findContents_101 ?_
        refine PW.top (grM (kpM (σ (m + 33)) c) F p) (by rw [upS_same, up1_ne (by omega), upS_same, up1_same]) ?_
        refine PW.icmp_le 111 dX12_findContents_104 (by decide) (by first | (unfold inR; omega) | assumption) (by first | (unfold inR; omega) | assumption) (fun h104 => ?_) (fun h104 => ?_)
        · refine PW.aload_n dX12_findContents_111 rfl ?_
          refine PW.getI 47 fl_X12_415 rfl (by assumption) rfl rfl dX12_findContents_112 ?_
          refine PW.top (grM (kpM (σ (m + 33)) c) F p) (by rw [upS_same, up1_ne (by omega), upS_same, up1_same]) ?_
          refine PW.putI 47 fl_X12_415 rfl (fun h => absurd h (by decide)) (by assumption) rfl rfl rfl rfl dX12_findContents_115 ?_
          refine PW.iinc [(0, _), (1, _), (2, _), (3, _), (4, _)] dX12_findContents_118 rfl rfl (Nat.le_of_ble_eq_true rfl) ?_
          refine PW.goto 12 dX12_findContents_121 (by decide) ?_
          refine PW.take 3 ?_
          have e := ih (p + 1) (by omega) (by omega) (by omega)
          rw [hus, hgs] at e
          refine PW.st _ ?_ e
          simp only [upS_upS, upS_same]
          refine congrArg (upS σ m) (funext fun j => ?_)
          unfold up1
          first
            | rw [Int.max_eq_left (by omega)]
            | rw [Int.max_eq_right (by omega)]
          by_cases q7 : j = 47
          · subst q7; simp
          · by_cases q6 : j = 46
            · subst q6; simp
            · simp [q7, q6]
        · refine PW.iload_n dX12_findContents_107 rfl ?_
          refine PW.goto 115 dX12_findContents_108 (by decide) ?_
          refine PW.putI 47 fl_X12_415 rfl (fun h => absurd h (by decide)) (by assumption) rfl rfl rfl rfl dX12_findContents_115 ?_
          refine PW.iinc [(0, _), (1, _), (2, _), (3, _), (4, _)] dX12_findContents_118 rfl rfl (Nat.le_of_ble_eq_true rfl) ?_
          refine PW.goto 12 dX12_findContents_121 (by decide) ?_
          refine PW.take 3 ?_
          have e := ih (p + 1) (by omega) (by omega) (by omega)
          rw [hus, hgs] at e
          refine PW.st _ ?_ e
          simp only [upS_upS, upS_same]
          refine congrArg (upS σ m) (funext fun j => ?_)
          unfold up1
          first
            | rw [Int.max_eq_left (by omega)]
            | rw [Int.max_eq_right (by omega)]
          by_cases q7 : j = 47
          · subst q7; simp
          · by_cases q6 : j = 46
            · subst q6; simp
            · simp [q7, q6]
      have e0 : szK (kpM (σ (m + 33)) c) p 0 = 0 := rfl
      have e1 : b01 (firI (fun j => decide (lkK (kpM (σ (m + 33)) c) p j)) (min 0 p).toNat = -1) = 1 := by
        rw [show min 0 p = 0 by omega]
        exact b01_t rfl
      have kk := mo_fc_in (G := G) (S := S) hA hF hFb hl hc ⟨h1, by omega⟩ hK 66 0 (by omega) (by omega) (by omega)
      rw [e0, e1] at kk
      exact kk
theorem c_X12_findContents {G : GT} {S : Shp} {σ : Sto} {m : Nat} {c F : Int} (hA : IsMod S m) (hF : σ m 41 = F) (hFb : 0 ≤ F ∧ F ≤ 65) (hl : ∀ p, 0 ≤ p → p < F → ∀ x, 0 ≤ x → x < 80 → -1 ≤ (kpM (σ (m + 33)) c) p x ∧ (kpM (σ (m + 33)) c) p x ≤ 15) (hc : 0 ≤ c ∧ c < 64) : PMet G mX12_findContents 1 0 0 [.ref m, .int (iI c)] S σ (isP none S (upS σ m (up1 (up1 (σ m) 46 (unK (kpM (σ (m + 33)) c) F)) 47 (grK (kpM (σ (m + 33)) c) F)))) := by
  obtain ⟨hM0, hM1, hM2, hM3, hM4, hM5, hM6, hM7, hM8, hM9, hM10, hM11, hM12, hM13, hM14, hM15, hM16, hM17, hM18, hM19, hM20, hM21, hM22, hM23, hM24, hM25, hM26, hM27, hM28, hM29, hM30, hM31, hM32, hM33, hM34⟩ := id hA
  refine PMet.of [(0, .ref m), (1, .int (iI (c)))] (by decide +kernel) rfl (Nat.le_of_ble_eq_true rfl) ?_
  refine PW.aload_n dX12_findContents_0 rfl ?_
  refine PW.iconst dX12_findContents_1 ?_
  refine PW.putI 46 fl_X12_412 rfl (fun h => absurd h (by decide)) (by assumption) rfl rfl rfl rfl dX12_findContents_2 ?_
  refine PW.aload_n dX12_findContents_5 rfl ?_
  refine PW.iconst dX12_findContents_6 ?_
  refine PW.putI 47 fl_X12_415 rfl (fun h => absurd h (by decide)) (by assumption) rfl rfl rfl rfl dX12_findContents_7 ?_
  refine PW.iconst dX12_findContents_10 ?_
  refine PW.istore_n [(0, _), (1, _), (2, _)] dX12_findContents_11 rfl (Nat.le_of_ble_eq_true rfl) ?_
  refine PW.st (upS σ m (up1 (up1 (σ m) 46 (unK (kpM (σ (m + 33)) c) 0)) 47 (grM (kpM (σ (m + 33)) c) F 0))) (by rw [upS_upS, upS_same]; rfl) ?_
  exact mo_fc_out hA hF hFb hl hc ⟨rfl, rfl, rfl⟩ 66 0 (by omega) (by omega) (by omega)

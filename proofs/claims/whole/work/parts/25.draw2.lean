theorem up1_same (f : Int → Int) (i x : Int) : up1 f i x i = x := by simp [up1]
theorem up1_ne {f : Int → Int} {i x j : Int} (h : j ≠ i) : up1 f i x j = f j := by simp [up1, h]
theorem up1_up1 (f : Int → Int) (i x y : Int) : up1 (up1 f i x) i y = up1 f i y := by
  funext j
  unfold up1
  split <;> simp_all
theorem bg_st (σ : Sto) (a : Nat) (m v : Int) (h : Int → Int) : upS (upS (upS σ a (up1 (σ a) 6 m)) (a + 6) h) a (up1 ((upS (upS σ a (up1 (σ a) 6 m)) (a + 6) h) a) 6 v) = upS (upS σ a (up1 (σ a) 6 v)) (a + 6) h := by
  rw [upS_ne (show a ≠ a + 6 by omega), upS_same, up1_up1]
  funext q
  unfold upS
  try dsimp only
  by_cases q1 : q = a + 6
  · rw [if_neg (by omega), if_pos q1, if_pos q1]
  · rw [if_neg q1]
    by_cases q2 : q = a
    · rw [if_pos q2]
      first | rw [if_neg q1, if_pos q2] | rw [if_pos q2]
    · rw [if_neg q2, if_neg q2, if_neg q2, if_neg q1]
theorem up1_self (f : Int → Int) (i : Int) : up1 f i (f i) = f := by
  funext j
  unfold up1
  split <;> simp_all
theorem weigh_in {G : GT} {S : Shp} {σ : Sto} {a : Nat} {s b0 : Int} {Q : Option Value → Shp → Sto → Prop} (hA : IsDr S a) (hk : bndOk (σ (a + 1)) (σ (a + 2))) (hs : 1 ≤ s ∧ s ≤ 6) (hb : σ (a + 1) (s - 1) ≤ b0 ∧ b0 ≤ σ (a + 2) (s - 1)) (hK : ∀ f, restOk f (σ (a + 1)) (σ (a + 2)) (s + 1) → (∀ b c, σ (a + 1) (s - 1) ≤ b → b ≤ σ (a + 2) (s - 1) → σ (a + 1) s ≤ c → c ≤ σ (a + 2) s → (b < b0 + 1) → f (spF s b c) = drW (σ (a + 1)) (σ (a + 2)) s b c) → PW (fm G mX3_weigh 4 0 0 Q) G S (upS σ (a + 5) f) 0 0 72 [(0, .ref a), (1, .int (iI s)), (2, .int (iI b0))] []) : ∀ (t : Nat) (i : Int) (f : Int → Int), σ (a + 1) s ≤ i → i ≤ σ (a + 2) s + 1 → σ (a + 2) s + 1 - i < t → restOk f (σ (a + 1)) (σ (a + 2)) (s + 1) → (∀ b c, σ (a + 1) (s - 1) ≤ b → b ≤ σ (a + 2) (s - 1) → σ (a + 1) s ≤ c → c ≤ σ (a + 2) s → (b < b0 ∨ (b = b0 ∧ c < i)) → f (spF s b c) = drW (σ (a + 1)) (σ (a + 2)) s b c) → PW (fm G mX3_weigh 4 0 0 Q) G S (upS σ (a + 5) f) 0 0 34 [(0, .ref a), (1, .int (iI (s))), (2, .int (iI (b0))), (3, .int (iI (i)))] [] := by
  obtain ⟨hA0, hA1, hA2, hA3, hA4, hA5, hA6⟩ := id hA
  have k0 := hk s (by omega) (by omega)
  have k1 := hk (s - 1) (by omega) (by omega)
  intro t
  induction t with
  | zero => intro i f h1 h2 h3 g1 g2; omega
  | succ t ih =>
    intro i f h1 h2 h3 g1 g2
    have e1 : (upS σ (a + 5) f) (a + 1) = σ (a + 1) := upS_ne (by omega)
    have e2 : (upS σ (a + 5) f) (a + 2) = σ (a + 2) := upS_ne (by omega)
    have e5 : (upS σ (a + 5) f) (a + 5) = f := upS_same _ _ _
    refine PW.iload_n dX3_weigh_34 rfl ?_
    refine PW.aload_n dX3_weigh_35 rfl ?_
    refine PW.getR fl_X3_15 rfl (by assumption) rfl dX3_weigh_36 ?_
    refine PW.iload_n dX3_weigh_39 rfl ?_
    refine PW.callSr (c_X11_get (by assumption) (by first | assumption | (unfold inR; omega)) (by decide)) cs_X11_get lk_X3_42 dX3_weigh_40 rfl rfl rfl ?_
    refine PW.top (σ (a + 2) s) (by unfold gI; rw [if_pos (by omega)] <;> first | rfl | simp [upS]) ?_
    refine PW.icmp_gt 72 dX3_weigh_43 (by decide) (by first | assumption | (unfold inR; omega)) (by first | assumption | (unfold inR; omega)) (fun h43 => ?_) (fun h43 => ?_)
    · refine PW.take 3 ?_
      exact hK f g1 (fun b c q3 q4 q5 q6 q7 => g2 b c q3 q4 q5 q6 (by omega))
    · refine PW.aload_n dX3_weigh_46 rfl ?_
      refine PW.getR fl_X3_24 rfl (by assumption) rfl dX3_weigh_47 ?_
      refine PW.iload_n dX3_weigh_50 rfl ?_
      refine PW.iload_n dX3_weigh_51 rfl ?_
      refine PW.iload_n dX3_weigh_52 rfl ?_
      refine PW.callSr (c_X3_spot) cs_X3_spot lk_X3_77 dX3_weigh_53 rfl rfl rfl ?_
      refine PW.aload_n dX3_weigh_56 rfl ?_
      refine PW.iload_n dX3_weigh_57 rfl ?_
      refine PW.iload_n dX3_weigh_58 rfl ?_
      refine PW.iload_n dX3_weigh_59 rfl ?_
      refine PW.callVr (c_X3_leastAhead hA (by rw [e1, e2, e5]; exact g1) (by rw [e1, e2]; exact hk) hs (by omega) (by rw [e1, e2]; omega)) cv_X3_leastAhead lk_X3_81 (by first | assumption | exact And.left (by assumption)) dX3_weigh_60 rfl rfl rfl rfl ?_
      refine PW.top (drW (σ (a + 1)) (σ (a + 2)) s b0 i) (by rw [e1, e2]) ?_
      have wb := drW_b hk (s := s) (b := b0) (c := i) (by omega) (by omega) (by omega)
      refine PW.callSv (c_X11_put (by assumption) (by unfold spF inR; omega) (by decide)) cs_X11_put lk_X3_52 dX3_weigh_63 rfl rfl rfl ?_
      refine PW.st (upS σ (a + 5) (up1 f (spF s b0 i) (drW (σ (a + 1)) (σ (a + 2)) s b0 i))) (by rw [if_pos (by unfold spF; omega), upS_upS, upS_same]) ?_
      refine PW.iinc [(0, _), (1, _), (2, _), (3, _)] dX3_weigh_66 rfl rfl (Nat.le_of_ble_eq_true rfl) ?_
      refine PW.goto 34 dX3_weigh_69 (by decide) ?_
      refine ih (i + 1) _ (by omega) (by omega) (by omega) ?_ ?_
      · intro q b c q1 q2 q3 q4 q5 q6
        have kq := hk q (by omega) (by omega)
        have kr := hk (q - 1) (by omega) (by omega)
        rw [up1_ne (by unfold spF; omega)]
        exact g1 q b c q1 q2 q3 q4 q5 q6
      · intro b c q3 q4 q5 q6 q7
        by_cases e : b = b0 ∧ c = i
        · rw [e.1, e.2, up1_same]
        · rw [up1_ne (by unfold spF; omega)]
          exact g2 b c q3 q4 q5 q6 (by omega)
theorem weigh_out {G : GT} {S : Shp} {σ : Sto} {a : Nat} {s : Int} {Q : Option Value → Shp → Sto → Prop} (hA : IsDr S a) (hk : bndOk (σ (a + 1)) (σ (a + 2))) (hs : 1 ≤ s ∧ s ≤ 6) (hQ : ∀ f, restOk f (σ (a + 1)) (σ (a + 2)) s → Q none S (upS σ (a + 5) f)) : ∀ (t : Nat) (i : Int) (f : Int → Int), σ (a + 1) (s - 1) ≤ i → i ≤ σ (a + 2) (s - 1) + 1 → σ (a + 2) (s - 1) + 1 - i < t → restOk f (σ (a + 1)) (σ (a + 2)) (s + 1) → (∀ b c, σ (a + 1) (s - 1) ≤ b → b ≤ σ (a + 2) (s - 1) → σ (a + 1) s ≤ c → c ≤ σ (a + 2) s → (b < i) → f (spF s b c) = drW (σ (a + 1)) (σ (a + 2)) s b c) → PW (fm G mX3_weigh 4 0 0 Q) G S (upS σ (a + 5) f) 0 0 11 [(0, .ref a), (1, .int (iI (s))), (2, .int (iI (i)))] [] := by
  obtain ⟨hA0, hA1, hA2, hA3, hA4, hA5, hA6⟩ := id hA
  have k0 := hk s (by omega) (by omega)
  have k1 := hk (s - 1) (by omega) (by omega)
  intro t
  induction t with
  | zero => intro i f h1 h2 h3 g1 g2; omega
  | succ t ih =>
    intro i f h1 h2 h3 g1 g2
    have e1 : (upS σ (a + 5) f) (a + 1) = σ (a + 1) := upS_ne (by omega)
    have e2 : (upS σ (a + 5) f) (a + 2) = σ (a + 2) := upS_ne (by omega)
    have e5 : (upS σ (a + 5) f) (a + 5) = f := upS_same _ _ _
    refine PW.iload_n dX3_weigh_11 rfl ?_
    refine PW.aload_n dX3_weigh_12 rfl ?_
    refine PW.getR fl_X3_15 rfl (by assumption) rfl dX3_weigh_13 ?_
    refine PW.iload_n dX3_weigh_16 rfl ?_
    refine PW.iconst dX3_weigh_17 ?_
    refine PW.isub dX3_weigh_18 ?_
    refine PW.callSr (c_X11_get (by assumption) (by first | assumption | (unfold inR; omega)) (by decide)) cs_X11_get lk_X3_42 dX3_weigh_19 rfl rfl rfl ?_
    refine PW.top (σ (a + 2) (s - 1)) (by unfold gI; rw [if_pos (by omega)] <;> first | rfl | simp [upS]) ?_
    refine PW.icmp_gt 78 dX3_weigh_22 (by decide) (by first | assumption | (unfold inR; omega)) (by first | assumption | (unfold inR; omega)) (fun h22 => ?_) (fun h22 => ?_)
    · refine PW.vret rfl dX3_weigh_78 (hQ f fun q b c q1 q2 q3 q4 q5 q6 => ?_)
      by_cases e : q = s
      · subst e
        exact g2 b c q3 q4 q5 q6 (by omega)
      · exact g1 q b c (by omega) q2 q3 q4 q5 q6
    · refine PW.aload_n dX3_weigh_25 rfl ?_
      refine PW.getR fl_X3_9 rfl (by assumption) rfl dX3_weigh_26 ?_
      refine PW.iload_n dX3_weigh_29 rfl ?_
      refine PW.callSr (c_X11_get (by assumption) (by first | assumption | (unfold inR; omega)) (by decide)) cs_X11_get lk_X3_42 dX3_weigh_30 rfl rfl rfl ?_
      refine PW.top (σ (a + 1) s) (by unfold gI; rw [if_pos (by omega)] <;> first | rfl | simp [upS]) ?_
      refine PW.istore_n [(0, _), (1, _), (2, _), (3, _)] dX3_weigh_33 rfl (Nat.le_of_ble_eq_true rfl) ?_
      refine weigh_in hA hk hs (by omega) ?_ 100 _ f (by omega) (by omega) (by omega) g1 (fun b c q3 q4 q5 q6 q7 => g2 b c q3 q4 q5 q6 (by omega))
      intro f' p1 p2
      refine PW.iinc [(0, _), (1, _), (2, _)] dX3_weigh_72 rfl rfl (Nat.le_of_ble_eq_true rfl) ?_
      refine PW.goto 11 dX3_weigh_75 (by decide) ?_
      exact ih (i + 1) f' (by omega) (by omega) (by omega) p1 p2
theorem c_X3_weigh {G : GT} {S : Shp} {σ : Sto} {a : Nat} {s : Int} (hA : IsDr S a) (hk : bndOk (σ (a + 1)) (σ (a + 2))) (hs : 1 ≤ s ∧ s ≤ 6) (hr : restOk (σ (a + 5)) (σ (a + 1)) (σ (a + 2)) (s + 1)) : PMet G mX3_weigh 4 0 0 [.ref a, .int (iI s)] S σ (fun r S' σ' => r = none ∧ S' = S ∧ ∃ f, σ' = upS σ (a + 5) f ∧ restOk f (σ (a + 1)) (σ (a + 2)) s) := by
  obtain ⟨hA0, hA1, hA2, hA3, hA4, hA5, hA6⟩ := id hA
  have k0 := hk s (by omega) (by omega)
  have k1 := hk (s - 1) (by omega) (by omega)
  refine PMet.of [(0, .ref a), (1, .int (iI (s)))] (by decide +kernel) rfl (Nat.le_of_ble_eq_true rfl) ?_
  refine PW.aload_n dX3_weigh_0 rfl ?_
  refine PW.getR fl_X3_9 rfl (by assumption) rfl dX3_weigh_1 ?_
  refine PW.iload_n dX3_weigh_4 rfl ?_
  refine PW.iconst dX3_weigh_5 ?_
  refine PW.isub dX3_weigh_6 ?_
  refine PW.callSr (c_X11_get (by assumption) (by first | assumption | (unfold inR; omega)) (by decide)) cs_X11_get lk_X3_42 dX3_weigh_7 rfl rfl rfl ?_
  refine PW.top (σ (a + 1) (s - 1)) (by unfold gI; rw [if_pos (by omega)] <;> first | rfl | simp [upS]) ?_
  refine PW.istore_n [(0, _), (1, _), (2, _)] dX3_weigh_10 rfl (Nat.le_of_ble_eq_true rfl) ?_
  refine PW.st (upS σ (a + 5) (σ (a + 5))) (upS_self _ _).symm ?_
  exact weigh_out hA hk hs (fun f h => ⟨rfl, rfl, f, rfl, h⟩) 100 _ _ (by omega) (by omega) (by omega) hr (fun b c q1 q2 q3 q4 q5 => by omega)
theorem begin_in {G : GT} {S : Shp} {σ : Sto} {a : Nat} {b0 : Int} {Q : Option Value → Shp → Sto → Prop} (hA : IsDr S a) (hk : bndOk (σ (a + 1)) (σ (a + 2))) (hr : restOk (σ (a + 5)) (σ (a + 1)) (σ (a + 2)) 1) (hb : σ (a + 1) 0 ≤ b0 ∧ b0 ≤ σ (a + 2) 0) (hK : ∀ m h, (∀ x y, σ (a + 1) 0 ≤ x → x ≤ σ (a + 2) 0 → σ (a + 1) 1 ≤ y → y ≤ σ (a + 2) 1 → (x < b0 + 1) → m ≤ drW (σ (a + 1)) (σ (a + 2)) 1 x y ∧ (m = drW (σ (a + 1)) (σ (a + 2)) 1 x y → h 0 < x ∨ (h 0 = x ∧ h 1 ≤ y))) → (m = 1000000 ∨ ((σ (a + 1) 0 ≤ h 0 ∧ h 0 ≤ σ (a + 2) 0) ∧ (σ (a + 1) 1 ≤ h 1 ∧ h 1 ≤ σ (a + 2) 1) ∧ m = drW (σ (a + 1)) (σ (a + 2)) 1 (h 0) (h 1) ∧ (h 0 < b0 + 1))) → (0 ≤ m ∧ m ≤ 1000000) → PW (fm G mX3_begin 1 0 0 Q) G S (upS (upS σ a (up1 (σ a) 6 m)) (a + 6) h) 0 0 102 [(0, .ref a), (1, .int (iI b0))] []) : ∀ (t : Nat) (i : Int) (m : Int) (h : Int → Int), σ (a + 1) 1 ≤ i → i ≤ σ (a + 2) 1 + 1 → σ (a + 2) 1 + 1 - i < t → (∀ x y, σ (a + 1) 0 ≤ x → x ≤ σ (a + 2) 0 → σ (a + 1) 1 ≤ y → y ≤ σ (a + 2) 1 → (x < b0 ∨ (x = b0 ∧ y < i)) → m ≤ drW (σ (a + 1)) (σ (a + 2)) 1 x y ∧ (m = drW (σ (a + 1)) (σ (a + 2)) 1 x y → h 0 < x ∨ (h 0 = x ∧ h 1 ≤ y))) → (m = 1000000 ∨ ((σ (a + 1) 0 ≤ h 0 ∧ h 0 ≤ σ (a + 2) 0) ∧ (σ (a + 1) 1 ≤ h 1 ∧ h 1 ≤ σ (a + 2) 1) ∧ m = drW (σ (a + 1)) (σ (a + 2)) 1 (h 0) (h 1) ∧ (h 0 < b0 ∨ (h 0 = b0 ∧ h 1 < i)))) → (0 ≤ m ∧ m ≤ 1000000) → PW (fm G mX3_begin 1 0 0 Q) G S (upS (upS σ a (up1 (σ a) 6 m)) (a + 6) h) 0 0 36 [(0, .ref a), (1, .int (iI (b0))), (2, .int (iI (i)))] [] := by
  obtain ⟨hA0, hA1, hA2, hA3, hA4, hA5, hA6⟩ := id hA
  have k0 := hk 0 (by omega) (by omega)
  have k1 := hk 1 (by omega) (by omega)
  intro t
  induction t with
  | zero => intro i m h h1 h2 h3 g1 g2 g3; omega
  | succ t ih =>
    intro i m h h1 h2 h3 g1 g2 g3
    have e1 : (upS (upS σ a (up1 (σ a) 6 m)) (a + 6) h) (a + 1) = σ (a + 1) := by simp [upS]
    have e2 : (upS (upS σ a (up1 (σ a) 6 m)) (a + 6) h) (a + 2) = σ (a + 2) := by simp [upS]
    have e5 : (upS (upS σ a (up1 (σ a) 6 m)) (a + 6) h) (a + 5) = σ (a + 5) := by simp [upS]
    have e6 : (upS (upS σ a (up1 (σ a) 6 m)) (a + 6) h) a 6 = m := by simp [upS, up1]
    refine PW.iload_n dX3_begin_36 rfl ?_
    refine PW.aload_n dX3_begin_37 rfl ?_
    refine PW.getR fl_X3_15 rfl (by assumption) rfl dX3_begin_38 ?_
    refine PW.iconst dX3_begin_41 ?_
    refine PW.callSr (c_X11_get (by assumption) (by first | assumption | (unfold inR; omega)) (by decide)) cs_X11_get lk_X3_42 dX3_begin_42 rfl rfl rfl ?_
    refine PW.top (σ (a + 2) 1) (by unfold gI; rw [if_pos (by omega)] <;> first | rfl | simp [upS]) ?_
    refine PW.icmp_gt 102 dX3_begin_45 (by decide) (by first | assumption | (unfold inR; omega)) (by first | assumption | (unfold inR; omega)) (fun h45 => ?_) (fun h45 => ?_)
    · refine PW.take 2 ?_
      refine hK m h (fun x y q1 q2 q3 q4 q5 => g1 x y q1 q2 q3 q4 (by omega)) ?_ g3
      rcases g2 with g2 | g2
      · exact Or.inl g2
      · exact Or.inr ⟨g2.1, g2.2.1, g2.2.2.1, by omega⟩
    · refine PW.aload_n dX3_begin_48 rfl ?_
      refine PW.getR fl_X3_24 rfl (by assumption) rfl dX3_begin_49 ?_
      refine PW.iconst dX3_begin_52 ?_
      refine PW.iload_n dX3_begin_53 rfl ?_
      refine PW.iload_n dX3_begin_54 rfl ?_
      refine PW.callSr (c_X3_spot) cs_X3_spot lk_X3_77 dX3_begin_55 rfl rfl rfl ?_
      refine PW.callSr (c_X11_get (by assumption) (by unfold spF inR; omega) (by decide)) cs_X11_get lk_X3_42 dX3_begin_58 rfl rfl rfl ?_
      refine PW.top (drW (σ (a + 1)) (σ (a + 2)) 1 b0 i) (by
        unfold gI
        rw [if_pos (by unfold spF; omega), e5]
        exact hr 1 b0 i (by omega) (by omega) (by rw [show (1 : Int) - 1 = 0 from rfl]; omega) (by rw [show (1 : Int) - 1 = 0 from rfl]; omega) (by omega) (by omega)) ?_
      have wb := drW_b hk (s := 1) (b := b0) (c := i) (by omega) (by omega) (by omega)
      refine PW.istore_n [(0, _), (1, _), (2, _), (3, _)] dX3_begin_61 rfl (Nat.le_of_ble_eq_true rfl) ?_
      refine PW.iload_n dX3_begin_62 rfl ?_
      refine PW.aload_n dX3_begin_63 rfl ?_
      refine PW.getI 6 fl_X3_30 rfl (by assumption) rfl rfl dX3_begin_64 ?_
      refine PW.top m e6 ?_
      refine PW.icmp_lt 73 dX3_begin_67 (by decide) (by first | assumption | (unfold inR; omega)) (by first | assumption | (unfold inR; omega)) (fun h67 => ?_) (fun h67 => ?_)
      · refine PW.aload_n dX3_begin_73 rfl ?_
        refine PW.iload_n dX3_begin_74 rfl ?_
        refine PW.putI 6 fl_X3_30 rfl (fun h => absurd h (by decide)) (by assumption) rfl rfl rfl rfl dX3_begin_75 ?_
        refine PW.st (upS (upS σ a (up1 (σ a) 6 (drW (σ (a + 1)) (σ (a + 2)) 1 b0 i))) (a + 6) h) (bg_st _ _ _ _ _) ?_
        refine PW.aload_n dX3_begin_78 rfl ?_
        refine PW.getR fl_X3_27 rfl (by assumption) rfl dX3_begin_79 ?_
        refine PW.iconst dX3_begin_82 ?_
        refine PW.iload_n dX3_begin_83 rfl ?_
        refine PW.callSv (c_X11_put (by assumption) (by first | assumption | (unfold inR; omega)) (by decide)) cs_X11_put lk_X3_52 dX3_begin_84 rfl rfl rfl ?_
        refine PW.st (upS (upS σ a (up1 (σ a) 6 (drW (σ (a + 1)) (σ (a + 2)) 1 b0 i))) (a + 6) (up1 h 0 b0)) (by rw [if_pos (by omega), upS_upS, upS_same]) ?_
        refine PW.aload_n dX3_begin_87 rfl ?_
        refine PW.getR fl_X3_27 rfl (by assumption) rfl dX3_begin_88 ?_
        refine PW.iconst dX3_begin_91 ?_
        refine PW.iload_n dX3_begin_92 rfl ?_
        refine PW.callSv (c_X11_put (by assumption) (by first | assumption | (unfold inR; omega)) (by decide)) cs_X11_put lk_X3_52 dX3_begin_93 rfl rfl rfl ?_
        first
          | refine PW.st (upS (upS σ a (up1 (σ a) 6 (drW (σ (a + 1)) (σ (a + 2)) 1 b0 i))) (a + 6) (up1 (up1 h 0 b0) 1 i)) (by rw [if_pos (by omega), upS_upS, upS_same]) ?_
          | skip
        refine PW.take 3 ?_
        refine PW.iinc [(0, _), (1, _), (2, _)] dX3_begin_96 rfl rfl (Nat.le_of_ble_eq_true rfl) ?_
        refine PW.goto 36 dX3_begin_99 (by decide) ?_
        first
          | (refine ih (i + 1) m h (by omega) (by omega) (by omega) ?_ ?_ g3
             · intro x y q1 q2 q3 q4 q5
               by_cases e : x = b0 ∧ y = i
               · obtain ⟨rfl, rfl⟩ := e
                 omega
               · exact g1 x y q1 q2 q3 q4 (by omega)
             · rcases g2 with g2 | g2
               · exact Or.inl g2
               · exact Or.inr ⟨g2.1, g2.2.1, g2.2.2.1, by omega⟩)
          | (refine ih (i + 1) _ _ (by omega) (by omega) (by omega) ?_ ?_ (by omega)
             · intro x y q1 q2 q3 q4 q5
               have z0 : up1 (up1 h 0 b0) 1 i 0 = b0 := by simp [up1]
               have z1 : up1 (up1 h 0 b0) 1 i 1 = i := by simp [up1]
               rw [z0, z1]
               by_cases e : x = b0 ∧ y = i
               · obtain ⟨rfl, rfl⟩ := e
                 omega
               · have := g1 x y q1 q2 q3 q4 (by omega)
                 omega
             · have z0 : up1 (up1 h 0 b0) 1 i 0 = b0 := by simp [up1]
               have z1 : up1 (up1 h 0 b0) 1 i 1 = i := by simp [up1]
               rw [z0, z1]
               exact Or.inr ⟨by omega, by omega, rfl, by omega⟩)
      · refine PW.goto 96 dX3_begin_70 (by decide) ?_
        first
          | refine PW.st (upS (upS σ a (up1 (σ a) 6 (drW (σ (a + 1)) (σ (a + 2)) 1 b0 i))) (a + 6) (up1 (up1 h 0 b0) 1 i)) (by rw [if_pos (by omega), upS_upS, upS_same]) ?_
          | skip
        refine PW.take 3 ?_
        refine PW.iinc [(0, _), (1, _), (2, _)] dX3_begin_96 rfl rfl (Nat.le_of_ble_eq_true rfl) ?_
        refine PW.goto 36 dX3_begin_99 (by decide) ?_
        first
          | (refine ih (i + 1) m h (by omega) (by omega) (by omega) ?_ ?_ g3
             · intro x y q1 q2 q3 q4 q5
               by_cases e : x = b0 ∧ y = i
               · obtain ⟨rfl, rfl⟩ := e
                 omega
               · exact g1 x y q1 q2 q3 q4 (by omega)
             · rcases g2 with g2 | g2
               · exact Or.inl g2
               · exact Or.inr ⟨g2.1, g2.2.1, g2.2.2.1, by omega⟩)
          | (refine ih (i + 1) _ _ (by omega) (by omega) (by omega) ?_ ?_ (by omega)
             · intro x y q1 q2 q3 q4 q5
               have z0 : up1 (up1 h 0 b0) 1 i 0 = b0 := by simp [up1]
               have z1 : up1 (up1 h 0 b0) 1 i 1 = i := by simp [up1]
               rw [z0, z1]
               by_cases e : x = b0 ∧ y = i
               · obtain ⟨rfl, rfl⟩ := e
                 omega
               · have := g1 x y q1 q2 q3 q4 (by omega)
                 omega
             · have z0 : up1 (up1 h 0 b0) 1 i 0 = b0 := by simp [up1]
               have z1 : up1 (up1 h 0 b0) 1 i 1 = i := by simp [up1]
               rw [z0, z1]
               exact Or.inr ⟨by omega, by omega, rfl, by omega⟩)
theorem begin_out {G : GT} {S : Shp} {σ : Sto} {a : Nat} {Q : Option Value → Shp → Sto → Prop} (hA : IsDr S a) (hk : bndOk (σ (a + 1)) (σ (a + 2))) (hr : restOk (σ (a + 5)) (σ (a + 1)) (σ (a + 2)) 1) (hQ : ∀ m h, (σ (a + 1) 0 ≤ h 0 ∧ h 0 ≤ σ (a + 2) 0) → (σ (a + 1) 1 ≤ h 1 ∧ h 1 ≤ σ (a + 2) 1) → m = drW (σ (a + 1)) (σ (a + 2)) 1 (h 0) (h 1) → (∀ x y, σ (a + 1) 0 ≤ x → x ≤ σ (a + 2) 0 → σ (a + 1) 1 ≤ y → y ≤ σ (a + 2) 1 → m ≤ drW (σ (a + 1)) (σ (a + 2)) 1 x y ∧ (m = drW (σ (a + 1)) (σ (a + 2)) 1 x y → h 0 < x ∨ (h 0 = x ∧ h 1 ≤ y))) → Q none S (upS (upS σ a (up1 (σ a) 6 m)) (a + 6) h)) : ∀ (t : Nat) (i : Int) (m : Int) (h : Int → Int), σ (a + 1) 0 ≤ i → i ≤ σ (a + 2) 0 + 1 → σ (a + 2) 0 + 1 - i < t → (∀ x y, σ (a + 1) 0 ≤ x → x ≤ σ (a + 2) 0 → σ (a + 1) 1 ≤ y → y ≤ σ (a + 2) 1 → (x < i) → m ≤ drW (σ (a + 1)) (σ (a + 2)) 1 x y ∧ (m = drW (σ (a + 1)) (σ (a + 2)) 1 x y → h 0 < x ∨ (h 0 = x ∧ h 1 ≤ y))) → (m = 1000000 ∨ ((σ (a + 1) 0 ≤ h 0 ∧ h 0 ≤ σ (a + 2) 0) ∧ (σ (a + 1) 1 ≤ h 1 ∧ h 1 ≤ σ (a + 2) 1) ∧ m = drW (σ (a + 1)) (σ (a + 2)) 1 (h 0) (h 1) ∧ (h 0 < i))) → (0 ≤ m ∧ m ≤ 1000000) → PW (fm G mX3_begin 1 0 0 Q) G S (upS (upS σ a (up1 (σ a) 6 m)) (a + 6) h) 0 0 15 [(0, .ref a), (1, .int (iI (i)))] [] := by
  obtain ⟨hA0, hA1, hA2, hA3, hA4, hA5, hA6⟩ := id hA
  have k0 := hk 0 (by omega) (by omega)
  have k1 := hk 1 (by omega) (by omega)
  intro t
  induction t with
  | zero => intro i m h h1 h2 h3 g1 g2 g3; omega
  | succ t ih =>
    intro i m h h1 h2 h3 g1 g2 g3
    have e1 : (upS (upS σ a (up1 (σ a) 6 m)) (a + 6) h) (a + 1) = σ (a + 1) := by simp [upS]
    have e2 : (upS (upS σ a (up1 (σ a) 6 m)) (a + 6) h) (a + 2) = σ (a + 2) := by simp [upS]
    have e5 : (upS (upS σ a (up1 (σ a) 6 m)) (a + 6) h) (a + 5) = σ (a + 5) := by simp [upS]
    have e6 : (upS (upS σ a (up1 (σ a) 6 m)) (a + 6) h) a 6 = m := by simp [upS, up1]
    refine PW.iload_n dX3_begin_15 rfl ?_
    refine PW.aload_n dX3_begin_16 rfl ?_
    refine PW.getR fl_X3_15 rfl (by assumption) rfl dX3_begin_17 ?_
    refine PW.iconst dX3_begin_20 ?_
    refine PW.callSr (c_X11_get (by assumption) (by first | assumption | (unfold inR; omega)) (by decide)) cs_X11_get lk_X3_42 dX3_begin_21 rfl rfl rfl ?_
    refine PW.top (σ (a + 2) 0) (by unfold gI; rw [if_pos (by omega)] <;> first | rfl | simp [upS]) ?_
    refine PW.icmp_gt 108 dX3_begin_24 (by decide) (by first | assumption | (unfold inR; omega)) (by first | assumption | (unfold inR; omega)) (fun h24 => ?_) (fun h24 => ?_)
    · have w0 := drW_b hk (s := 1) (b := σ (a + 1) 0) (c := σ (a + 1) 1) (by omega) (by omega) (by omega)
      have w1 := g1 (σ (a + 1) 0) (σ (a + 1) 1) (by omega) (by omega) (by omega) (by omega) (by omega)
      rcases g2 with g2 | g2
      · omega
      · exact PW.vret rfl dX3_begin_108 (hQ m h g2.1 g2.2.1 g2.2.2.1 (fun x y q1 q2 q3 q4 => g1 x y q1 q2 q3 q4 (by omega)))
    · refine PW.aload_n dX3_begin_27 rfl ?_
      refine PW.getR fl_X3_9 rfl (by assumption) rfl dX3_begin_28 ?_
      refine PW.iconst dX3_begin_31 ?_
      refine PW.callSr (c_X11_get (by assumption) (by first | assumption | (unfold inR; omega)) (by decide)) cs_X11_get lk_X3_42 dX3_begin_32 rfl rfl rfl ?_
      refine PW.top (σ (a + 1) 1) (by unfold gI; rw [if_pos (by omega)] <;> first | rfl | simp [upS]) ?_
      refine PW.istore_n [(0, _), (1, _), (2, _)] dX3_begin_35 rfl (Nat.le_of_ble_eq_true rfl) ?_
      refine begin_in hA hk hr (by omega) ?_ 100 _ m h (by omega) (by omega) (by omega) (fun x y q1 q2 q3 q4 q5 => g1 x y q1 q2 q3 q4 (by omega)) ?_ g3
      · intro m' h' p1 p2 p3
        refine PW.iinc [(0, _), (1, _)] dX3_begin_102 rfl rfl (Nat.le_of_ble_eq_true rfl) ?_
        refine PW.goto 15 dX3_begin_105 (by decide) ?_
        exact ih (i + 1) m' h' (by omega) (by omega) (by omega) p1 p2 p3
      · rcases g2 with g2 | g2
        · exact Or.inl g2
        · exact Or.inr ⟨g2.1, g2.2.1, g2.2.2.1, by omega⟩
theorem c_X3_begin {G : GT} {S : Shp} {σ : Sto} {a : Nat} (hA : IsDr S a) (hk : bndOk (σ (a + 1)) (σ (a + 2))) (hr : restOk (σ (a + 5)) (σ (a + 1)) (σ (a + 2)) 1) : PMet G mX3_begin 1 0 0 [.ref a] S σ (fun r S' σ' => r = none ∧ S' = S ∧ ∃ m h, σ' = upS (upS σ a (up1 (σ a) 6 m)) (a + 6) h ∧ (σ (a + 1) 0 ≤ h 0 ∧ h 0 ≤ σ (a + 2) 0) ∧ (σ (a + 1) 1 ≤ h 1 ∧ h 1 ≤ σ (a + 2) 1) ∧ m = drW (σ (a + 1)) (σ (a + 2)) 1 (h 0) (h 1) ∧ (∀ x y, σ (a + 1) 0 ≤ x → x ≤ σ (a + 2) 0 → σ (a + 1) 1 ≤ y → y ≤ σ (a + 2) 1 → m ≤ drW (σ (a + 1)) (σ (a + 2)) 1 x y ∧ (m = drW (σ (a + 1)) (σ (a + 2)) 1 x y → h 0 < x ∨ (h 0 = x ∧ h 1 ≤ y)))) := by
  obtain ⟨hA0, hA1, hA2, hA3, hA4, hA5, hA6⟩ := id hA
  have k0 := hk 0 (by omega) (by omega)
  have k1 := hk 1 (by omega) (by omega)
  refine PMet.of [(0, .ref a)] (by decide +kernel) rfl (Nat.le_of_ble_eq_true rfl) ?_
  refine PW.aload_n dX3_begin_0 rfl ?_
  refine PW.ldc (1000000) kc_X3_84 rfl rfl dX3_begin_1 ?_
  refine PW.putI 6 fl_X3_30 rfl (fun h => absurd h (by decide)) (by assumption) rfl rfl rfl rfl dX3_begin_3 ?_
  refine PW.aload_n dX3_begin_6 rfl ?_
  refine PW.getR fl_X3_9 rfl (by assumption) rfl dX3_begin_7 ?_
  refine PW.iconst dX3_begin_10 ?_
  refine PW.callSr (c_X11_get (by assumption) (by first | assumption | (unfold inR; omega)) (by decide)) cs_X11_get lk_X3_42 dX3_begin_11 rfl rfl rfl ?_
  refine PW.top (σ (a + 1) 0) (by unfold gI; rw [if_pos (by omega)] <;> first | rfl | simp [upS]) ?_
  refine PW.istore_n [(0, _), (1, _)] dX3_begin_14 rfl (Nat.le_of_ble_eq_true rfl) ?_
  refine PW.st (upS (upS σ a (up1 (σ a) 6 1000000)) (a + 6) (σ (a + 6))) (by
    funext q
    unfold upS
    try dsimp only
    by_cases q1 : q = a + 6
    · rw [if_pos q1, q1, if_neg (by omega)]
    · rw [if_neg q1]) ?_
  exact begin_out hA hk hr (fun m h p1 p2 p3 p4 => ⟨rfl, rfl, m, h, rfl, p1, p2, p3, p4⟩) 100 _ _ _ (by omega) (by omega) (by omega) (fun x y q1 q2 q3 q4 q5 => by omega) (Or.inl rfl) (by omega)
theorem goOn_loop {G : GT} {S : Shp} {σ : Sto} {a : Nat} {s : Int} {Q : Option Value → Shp → Sto → Prop} (hA : IsDr S a) (hk : bndOk (σ (a + 1)) (σ (a + 2))) (hr : restOk (σ (a + 5)) (σ (a + 1)) (σ (a + 2)) 1) (hs : 1 ≤ s ∧ s ≤ 6) (h0 : σ (a + 1) (s - 1) ≤ σ (a + 6) (s - 1) ∧ σ (a + 6) (s - 1) ≤ σ (a + 2) (s - 1)) (h1 : σ (a + 1) s ≤ σ (a + 6) s ∧ σ (a + 6) s ≤ σ (a + 2) s) (hQ : ∀ v, (σ (a + 1) (s + 1) ≤ v ∧ v ≤ σ (a + 2) (s + 1)) ∧ drG (σ (a + 1)) (σ (a + 2)) s (σ (a + 6) (s - 1)) (σ (a + 6) s) v = drW (σ (a + 1)) (σ (a + 2)) s (σ (a + 6) (s - 1)) (σ (a + 6) s) ∧ (∀ e, σ (a + 1) (s + 1) ≤ e → e < v → drG (σ (a + 1)) (σ (a + 2)) s (σ (a + 6) (s - 1)) (σ (a + 6) s) e ≠ drW (σ (a + 1)) (σ (a + 2)) s (σ (a + 6) (s - 1)) (σ (a + 6) s)) → Q none S (upS σ (a + 6) (up1 (σ (a + 6)) (s + 1) v))) : ∀ (t : Nat) (i : Int) (v : Int), σ (a + 1) (s + 1) - 1 ≤ i → i ≤ σ (a + 2) (s + 1) → i - σ (a + 1) (s + 1) + 1 < t → (∀ e, i < e → e ≤ σ (a + 2) (s + 1) → drG (σ (a + 1)) (σ (a + 2)) s (σ (a + 6) (s - 1)) (σ (a + 6) s) e = drW (σ (a + 1)) (σ (a + 2)) s (σ (a + 6) (s - 1)) (σ (a + 6) s) → (drG (σ (a + 1)) (σ (a + 2)) s (σ (a + 6) (s - 1)) (σ (a + 6) s) v = drW (σ (a + 1)) (σ (a + 2)) s (σ (a + 6) (s - 1)) (σ (a + 6) s) ∧ i < v ∧ v ≤ e)) → PW (fm G mX3_goOn 2 0 0 Q) G S (upS σ (a + 6) (up1 (σ (a + 6)) (s + 1) v)) 0 0 41 [(0, .ref a), (1, .int (iI (s))), (2, .int (iI (σ (a + 6) (s - 1)))), (3, .int (iI (σ (a + 6) s))), (4, .int (iI (drW (σ (a + 1)) (σ (a + 2)) s (σ (a + 6) (s - 1)) (σ (a + 6) s)))), (5, .int (iI (i)))] [] := by
  obtain ⟨hA0, hA1, hA2, hA3, hA4, hA5, hA6⟩ := id hA
  have k0 := hk s (by omega) (by omega)
  have k1 := hk (s + 1) (by omega) (by omega)
  have k2 := hk (s - 1) (by omega) (by omega)
  have wb := drW_b hk (s := s) (b := σ (a + 6) (s - 1)) (c := σ (a + 6) s) (by omega) (by omega) (by omega)
  intro t
  induction t with
  | zero => intro i v h1 h2 h3 g1; omega
  | succ t ih =>
    intro i v h1 h2 h3 g1
    have e1 : (upS σ (a + 6) (up1 (σ (a + 6)) (s + 1) v)) (a + 1) = σ (a + 1) := by simp [upS]
    have e2 : (upS σ (a + 6) (up1 (σ (a + 6)) (s + 1) v)) (a + 2) = σ (a + 2) := by simp [upS]
    have e5 : (upS σ (a + 6) (up1 (σ (a + 6)) (s + 1) v)) (a + 5) = σ (a + 5) := by simp [upS]
    refine PW.iload dX3_goOn_41 rfl ?_
    refine PW.aload_n dX3_goOn_43 rfl ?_
    refine PW.getR fl_X3_9 rfl (by assumption) rfl dX3_goOn_44 ?_
    refine PW.iload_n dX3_goOn_47 rfl ?_
    refine PW.iconst dX3_goOn_48 ?_
    refine PW.iadd dX3_goOn_49 ?_
    refine PW.callSr (c_X11_get (by assumption) (by first | assumption | (unfold inR; omega)) (by decide)) cs_X11_get lk_X3_42 dX3_goOn_50 rfl rfl rfl ?_
    refine PW.top (σ (a + 1) (s + 1)) (by unfold gI; rw [if_pos (by omega)] <;> first | rfl | simp [upS]) ?_
    refine PW.icmp_lt 88 dX3_goOn_53 (by decide) (by first | assumption | (unfold inR; omega)) (by first | assumption | (unfold inR; omega)) (fun h53 => ?_) (fun h53 => ?_)
    · obtain ⟨e, q1, q2, q3⟩ := drW_at hk (s := s) (b := σ (a + 6) (s - 1)) (c := σ (a + 6) s) (by omega) (by omega) (by omega)
      obtain ⟨p1, p2, p3⟩ := g1 e (by omega) q2 q3.symm
      refine PW.vret rfl dX3_goOn_88 (hQ v ⟨⟨by omega, by omega⟩, p1, fun x x0 x1 x2 => ?_⟩)
      have := g1 x (by omega) (by omega) x2
      omega
    · refine PW.aload_n dX3_goOn_56 rfl ?_
      refine PW.iload_n dX3_goOn_57 rfl ?_
      refine PW.iload_n dX3_goOn_58 rfl ?_
      refine PW.iload_n dX3_goOn_59 rfl ?_
      refine PW.iload dX3_goOn_60 rfl ?_
      refine PW.callVr (c_X3_bendFrom hA (by rw [e1, e2, e5]; exact fun q b c q1 q2 => hr q b c (by omega) q2) (by rw [e1, e2]; exact hk) hs (by omega) (by rw [e1, e2]; omega) (by rw [e1, e2]; omega)) cv_X3_bendFrom lk_X3_85 (by first | assumption | exact And.left (by assumption)) dX3_goOn_62 rfl rfl rfl rfl ?_
      refine PW.top (drG (σ (a + 1)) (σ (a + 2)) s (σ (a + 6) (s - 1)) (σ (a + 6) s) i) (by rw [e1, e2]) ?_
      have gb := drG_b hk (s := s) (b := σ (a + 6) (s - 1)) (c := σ (a + 6) s) (e := i) (by omega) (by omega) (by omega) (by omega)
      refine PW.iload dX3_goOn_65 rfl ?_
      refine PW.icmp_ne 82 dX3_goOn_67 (by decide) (by first | assumption | (unfold inR; omega)) (by first | assumption | (unfold inR; omega)) (fun h67 => ?_) (fun h67 => ?_)
      · first
          | refine PW.st (upS σ (a + 6) (up1 (σ (a + 6)) (s + 1) i)) (by rw [if_pos (by omega), upS_upS, upS_same, up1_up1]) ?_
          | skip
        refine PW.iinc [(0, _), (1, _), (2, _), (3, _), (4, _), (5, _)] dX3_goOn_82 rfl rfl (Nat.le_of_ble_eq_true rfl) ?_
        refine PW.goto 41 dX3_goOn_85 (by decide) ?_
        refine ih (i + -1) _ (by omega) (by omega) (by omega) (fun e q1 q2 q3 => ?_)
        by_cases he : e = i
        · subst he
          first
            | exact absurd q3 (by assumption)
            | exact ⟨q3, by omega, by omega⟩
        · have := g1 e (by omega) q2 q3
          first
            | exact ⟨this.1, by omega, this.2.2⟩
            | exact ⟨by assumption, by omega, by omega⟩
      · refine PW.aload_n dX3_goOn_70 rfl ?_
        refine PW.getR fl_X3_27 rfl (by assumption) rfl dX3_goOn_71 ?_
        refine PW.iload_n dX3_goOn_74 rfl ?_
        refine PW.iconst dX3_goOn_75 ?_
        refine PW.iadd dX3_goOn_76 ?_
        refine PW.iload dX3_goOn_77 rfl ?_
        refine PW.callSv (c_X11_put (by assumption) (by first | assumption | (unfold inR; omega)) (by decide)) cs_X11_put lk_X3_52 dX3_goOn_79 rfl rfl rfl ?_
        first
          | refine PW.st (upS σ (a + 6) (up1 (σ (a + 6)) (s + 1) i)) (by rw [if_pos (by omega), upS_upS, upS_same, up1_up1]) ?_
          | skip
        refine PW.iinc [(0, _), (1, _), (2, _), (3, _), (4, _), (5, _)] dX3_goOn_82 rfl rfl (Nat.le_of_ble_eq_true rfl) ?_
        refine PW.goto 41 dX3_goOn_85 (by decide) ?_
        refine ih (i + -1) _ (by omega) (by omega) (by omega) (fun e q1 q2 q3 => ?_)
        by_cases he : e = i
        · subst he
          first
            | exact absurd q3 (by assumption)
            | exact ⟨q3, by omega, by omega⟩
        · have := g1 e (by omega) q2 q3
          first
            | exact ⟨this.1, by omega, this.2.2⟩
            | exact ⟨by assumption, by omega, by omega⟩
theorem c_X3_goOn {G : GT} {S : Shp} {σ : Sto} {a : Nat} {s : Int} (hA : IsDr S a) (hk : bndOk (σ (a + 1)) (σ (a + 2))) (hr : restOk (σ (a + 5)) (σ (a + 1)) (σ (a + 2)) 1) (hs : 1 ≤ s ∧ s ≤ 6) (h0 : σ (a + 1) (s - 1) ≤ σ (a + 6) (s - 1) ∧ σ (a + 6) (s - 1) ≤ σ (a + 2) (s - 1)) (h1 : σ (a + 1) s ≤ σ (a + 6) s ∧ σ (a + 6) s ≤ σ (a + 2) s) : PMet G mX3_goOn 2 0 0 [.ref a, .int (iI s)] S σ (fun r S' σ' => r = none ∧ S' = S ∧ ∃ v, σ' = upS σ (a + 6) (up1 (σ (a + 6)) (s + 1) v) ∧ (σ (a + 1) (s + 1) ≤ v ∧ v ≤ σ (a + 2) (s + 1)) ∧ drG (σ (a + 1)) (σ (a + 2)) s (σ (a + 6) (s - 1)) (σ (a + 6) s) v = drW (σ (a + 1)) (σ (a + 2)) s (σ (a + 6) (s - 1)) (σ (a + 6) s) ∧ (∀ e, σ (a + 1) (s + 1) ≤ e → e < v → drG (σ (a + 1)) (σ (a + 2)) s (σ (a + 6) (s - 1)) (σ (a + 6) s) e ≠ drW (σ (a + 1)) (σ (a + 2)) s (σ (a + 6) (s - 1)) (σ (a + 6) s))) := by
  obtain ⟨hA0, hA1, hA2, hA3, hA4, hA5, hA6⟩ := id hA
  have k0 := hk s (by omega) (by omega)
  have k1 := hk (s + 1) (by omega) (by omega)
  have k2 := hk (s - 1) (by omega) (by omega)
  have wb := drW_b hk (s := s) (b := σ (a + 6) (s - 1)) (c := σ (a + 6) s) (by omega) (by omega) (by omega)
  refine PMet.of [(0, .ref a), (1, .int (iI (s)))] (by decide +kernel) rfl (Nat.le_of_ble_eq_true rfl) ?_
  refine PW.aload_n dX3_goOn_0 rfl ?_
  refine PW.iload_n dX3_goOn_1 rfl ?_
  refine PW.iconst dX3_goOn_2 ?_
  refine PW.isub dX3_goOn_3 ?_
  refine PW.callVr (c_X3_height (by assumption) (by omega)) cv_X3_height lk_X3_89 (by first | assumption | exact And.left (by assumption)) dX3_goOn_4 rfl rfl rfl rfl ?_
  refine PW.istore_n [(0, _), (1, _), (2, _)] dX3_goOn_7 rfl (Nat.le_of_ble_eq_true rfl) ?_
  refine PW.aload_n dX3_goOn_8 rfl ?_
  refine PW.iload_n dX3_goOn_9 rfl ?_
  refine PW.callVr (c_X3_height (by assumption) (by omega)) cv_X3_height lk_X3_89 (by first | assumption | exact And.left (by assumption)) dX3_goOn_10 rfl rfl rfl rfl ?_
  refine PW.istore_n [(0, _), (1, _), (2, _), (3, _)] dX3_goOn_13 rfl (Nat.le_of_ble_eq_true rfl) ?_
  refine PW.aload_n dX3_goOn_14 rfl ?_
  refine PW.getR fl_X3_24 rfl (by assumption) rfl dX3_goOn_15 ?_
  refine PW.iload_n dX3_goOn_18 rfl ?_
  refine PW.iload_n dX3_goOn_19 rfl ?_
  refine PW.iload_n dX3_goOn_20 rfl ?_
  refine PW.callSr (c_X3_spot) cs_X3_spot lk_X3_77 dX3_goOn_21 rfl rfl rfl ?_
  refine PW.callSr (c_X11_get (by assumption) (by unfold spF inR; omega) (by decide)) cs_X11_get lk_X3_42 dX3_goOn_24 rfl rfl rfl ?_
  refine PW.top (drW (σ (a + 1)) (σ (a + 2)) s (σ (a + 6) (s - 1)) (σ (a + 6) s)) (by
    unfold gI
    rw [if_pos (by unfold spF; omega)]
    exact hr s _ _ (by omega) (by omega) (by omega) (by omega) (by omega) (by omega)) ?_
  refine PW.istore [(0, _), (1, _), (2, _), (3, _), (4, _)] dX3_goOn_27 rfl (Nat.le_of_ble_eq_true rfl) ?_
  refine PW.aload_n dX3_goOn_29 rfl ?_
  refine PW.getR fl_X3_15 rfl (by assumption) rfl dX3_goOn_30 ?_
  refine PW.iload_n dX3_goOn_33 rfl ?_
  refine PW.iconst dX3_goOn_34 ?_
  refine PW.iadd dX3_goOn_35 ?_
  refine PW.callSr (c_X11_get (by assumption) (by first | assumption | (unfold inR; omega)) (by decide)) cs_X11_get lk_X3_42 dX3_goOn_36 rfl rfl rfl ?_
  refine PW.top (σ (a + 2) (s + 1)) (by unfold gI; rw [if_pos (by omega)] <;> first | rfl | simp [upS]) ?_
  refine PW.istore [(0, _), (1, _), (2, _), (3, _), (4, _), (5, _)] dX3_goOn_39 rfl (Nat.le_of_ble_eq_true rfl) ?_
  refine PW.st (upS σ (a + 6) (up1 (σ (a + 6)) (s + 1) (σ (a + 6) (s + 1)))) (by rw [up1_self, upS_self]) ?_
  exact goOn_loop hA hk hr hs h0 h1 (fun v h => ⟨rfl, rfl, v, rfl, h⟩) 100 _ _ (by omega) (by omega) (by omega) (fun e q1 q2 q3 => by omega)

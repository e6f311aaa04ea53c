theorem add_0 {G : GT} {S : Shp} {σ : Sto} {a : Nat} {n c0 c1 c2 c3 c4 : Int} (hA : IsTale S a) (hn : σ a 2 = n) (h0 : 0 ≤ n ∧ n ≤ 15) : PMet G mX8_add 3 0 0 [.ref a, .int (iI (0)), .int (iI (c0)), .int (iI (c1)), .int (iI (c2)), .int (iI (c3)), .int (iI (c4))] S σ (isP none S (upS (upS σ (a + 1) (adF (σ (a + 1)) n 0 c0 c1 c2 c3 c4)) a (up1 (σ a) 2 (n + 1)))) := by
  obtain ⟨hA0, hA1, hA2⟩ := id hA
  refine PMet.of [(0, .ref a), (1, .int (iI (0))), (2, .int (iI (c0))), (3, .int (iI (c1))), (4, .int (iI (c2))), (5, .int (iI (c3))), (6, .int (iI (c4)))] (by decide +kernel) rfl (Nat.le_of_ble_eq_true rfl) ?_
  refine PW.aload_n dX8_add_0 rfl ?_
  refine PW.getI 2 fl_X8_18 rfl (by assumption) rfl rfl dX8_add_1 ?_
  refine PW.top n (by simp [upS, hn]) ?_
  refine PW.bipush (by decide) dX8_add_4 ?_
  refine PW.icmp_lt 10 dX8_add_6 (by decide) (by unfold inR; omega) (by unfold inR; omega) (fun h6 => ?_) (fun h6 => ?_)
  · refine PW.iload_n dX8_add_10 rfl ?_
    refine PW.callSr (c_X5_numbers (by omega)) cs_X5_numbers lk_X8_42 dX8_add_11 rfl rfl rfl ?_
    refine PW.top 2 (by decide) ?_
    refine PW.istore [(0, _), (1, _), (2, _), (3, _), (4, _), (5, _), (6, _), (7, _)] dX8_add_14 rfl (Nat.le_of_ble_eq_true rfl) ?_
    refine PW.aload_n dX8_add_16 rfl ?_
    refine PW.getI 2 fl_X8_18 rfl (by assumption) rfl rfl dX8_add_17 ?_
    refine PW.top n (by simp [upS, hn]) ?_
    refine PW.bipush (by decide) dX8_add_20 ?_
    refine PW.imul dX8_add_22 ?_
    refine PW.istore [(0, _), (1, _), (2, _), (3, _), (4, _), (5, _), (6, _), (7, _), (8, _)] dX8_add_23 rfl (Nat.le_of_ble_eq_true rfl) ?_
    refine PW.aload_n dX8_add_25 rfl ?_
    refine PW.getR fl_X8_11 rfl (by assumption) rfl dX8_add_26 ?_
    refine PW.iload dX8_add_29 rfl ?_
    refine PW.iload dX8_add_31 rfl ?_
    refine PW.bipush (by decide) dX8_add_33 ?_
    refine PW.iadd dX8_add_35 ?_
    refine PW.iconst dX8_add_36 ?_
    refine PW.callSv (c_X11_fill (by assumption) (by decide) (by first | assumption | (unfold inR; omega)) (by first | assumption | (unfold inR; omega))) cs_X11_fill lk_X8_48 dX8_add_37 rfl rfl rfl ?_
    refine PW.aload_n dX8_add_40 rfl ?_
    refine PW.getR fl_X8_11 rfl (by assumption) rfl dX8_add_41 ?_
    refine PW.iload dX8_add_44 rfl ?_
    refine PW.iload_n dX8_add_46 rfl ?_
    refine PW.callSv (c_X11_put (by assumption) (by first | assumption | (unfold inR; omega)) (by decide)) cs_X11_put lk_X8_30 dX8_add_47 rfl rfl rfl ?_
    refine PW.st (upS σ (a + 1) (up1 (flI (σ (a + 1)) (n * 7) (n * 7 + 7) 112 0) (n * 7) 0)) (by rw [if_pos (by omega), upS_upS, upS_same]) ?_
    refine PW.iload dX8_add_50 rfl ?_
    refine PW.if_le 65 dX8_add_52 (by decide) (by unfold inR; omega) (fun h52 => ?_) (fun h52 => ?_)
    · omega
    · refine PW.aload_n dX8_add_55 rfl ?_
      refine PW.aload_n dX8_add_56 rfl ?_
      refine PW.getI 2 fl_X8_18 rfl (by assumption) rfl rfl dX8_add_57 ?_
      refine PW.top n (by simp [upS, hn]) ?_
      refine PW.iconst dX8_add_60 ?_
      refine PW.iload_n dX8_add_61 rfl ?_
      refine PW.callVv (c_X8_setNumber (by assumption) (by omega) (by omega)) cv_X8_setNumber lk_X8_52 (by first | assumption | exact And.left (by assumption)) dX8_add_62 rfl rfl rfl rfl ?_
      refine PW.st (upS σ (a + 1) (up1 (up1 (flI (σ (a + 1)) (n * 7) (n * 7 + 7) 112 0) (n * 7) 0) (7 * n + 1 + 0) c0)) (by rw [upS_upS, upS_same]) ?_
      refine PW.iload dX8_add_65 rfl ?_
      refine PW.iconst dX8_add_67 ?_
      refine PW.icmp_le 81 dX8_add_68 (by decide) (by unfold inR; omega) (by unfold inR; omega) (fun h68 => ?_) (fun h68 => ?_)
      · omega
      · refine PW.aload_n dX8_add_71 rfl ?_
        refine PW.aload_n dX8_add_72 rfl ?_
        refine PW.getI 2 fl_X8_18 rfl (by assumption) rfl rfl dX8_add_73 ?_
        refine PW.top n (by simp [upS, hn]) ?_
        refine PW.iconst dX8_add_76 ?_
        refine PW.iload_n dX8_add_77 rfl ?_
        refine PW.callVv (c_X8_setNumber (by assumption) (by omega) (by omega)) cv_X8_setNumber lk_X8_52 (by first | assumption | exact And.left (by assumption)) dX8_add_78 rfl rfl rfl rfl ?_
        refine PW.st (upS σ (a + 1) (up1 (up1 (up1 (flI (σ (a + 1)) (n * 7) (n * 7 + 7) 112 0) (n * 7) 0) (7 * n + 1 + 0) c0) (7 * n + 1 + 1) c1)) (by rw [upS_upS, upS_same]) ?_
        refine PW.iload dX8_add_81 rfl ?_
        refine PW.iconst dX8_add_83 ?_
        refine PW.icmp_le 98 dX8_add_84 (by decide) (by unfold inR; omega) (by unfold inR; omega) (fun h84 => ?_) (fun h84 => ?_)
        · refine PW.iload dX8_add_98 rfl ?_
          refine PW.iconst dX8_add_100 ?_
          refine PW.icmp_le 115 dX8_add_101 (by decide) (by unfold inR; omega) (by unfold inR; omega) (fun h101 => ?_) (fun h101 => ?_)
          · refine PW.iload dX8_add_115 rfl ?_
            refine PW.iconst dX8_add_117 ?_
            refine PW.icmp_le 132 dX8_add_118 (by decide) (by unfold inR; omega) (by unfold inR; omega) (fun h118 => ?_) (fun h118 => ?_)
            · refine PW.aload_n dX8_add_132 rfl ?_
              refine PW.dup rfl dX8_add_133 ?_
              refine PW.getI 2 fl_X8_18 rfl (by assumption) rfl rfl dX8_add_134 ?_
              refine PW.top n (by simp [upS, hn]) ?_
              refine PW.iconst dX8_add_137 ?_
              refine PW.iadd dX8_add_138 ?_
              refine PW.putI 2 fl_X8_18 rfl (fun h => absurd h (by decide)) (by assumption) rfl rfl rfl rfl dX8_add_139 ?_
              refine PW.vret rfl dX8_add_142 ⟨rfl, rfl, ?_⟩
              rw [upS_ne (show a ≠ a + 1 by omega)]
              refine congrArg (fun z => upS (upS σ (a + 1) z) a (up1 (σ a) 2 (n + 1))) ?_
              funext j
              simp only [up1, flI, adF, rowF, show xT 0 0 = 2 by decide]
              grind
            · omega
          · omega
        · omega
  · omega
theorem add_1 {G : GT} {S : Shp} {σ : Sto} {a : Nat} {n c0 c1 c2 c3 c4 : Int} (hA : IsTale S a) (hn : σ a 2 = n) (h0 : 0 ≤ n ∧ n ≤ 15) : PMet G mX8_add 3 0 0 [.ref a, .int (iI (1)), .int (iI (c0)), .int (iI (c1)), .int (iI (c2)), .int (iI (c3)), .int (iI (c4))] S σ (isP none S (upS (upS σ (a + 1) (adF (σ (a + 1)) n 1 c0 c1 c2 c3 c4)) a (up1 (σ a) 2 (n + 1)))) := by
  obtain ⟨hA0, hA1, hA2⟩ := id hA
  refine PMet.of [(0, .ref a), (1, .int (iI (1))), (2, .int (iI (c0))), (3, .int (iI (c1))), (4, .int (iI (c2))), (5, .int (iI (c3))), (6, .int (iI (c4)))] (by decide +kernel) rfl (Nat.le_of_ble_eq_true rfl) ?_
  refine PW.aload_n dX8_add_0 rfl ?_
  refine PW.getI 2 fl_X8_18 rfl (by assumption) rfl rfl dX8_add_1 ?_
  refine PW.top n (by simp [upS, hn]) ?_
  refine PW.bipush (by decide) dX8_add_4 ?_
  refine PW.icmp_lt 10 dX8_add_6 (by decide) (by unfold inR; omega) (by unfold inR; omega) (fun h6 => ?_) (fun h6 => ?_)
  · refine PW.iload_n dX8_add_10 rfl ?_
    refine PW.callSr (c_X5_numbers (by omega)) cs_X5_numbers lk_X8_42 dX8_add_11 rfl rfl rfl ?_
    refine PW.top 2 (by decide) ?_
    refine PW.istore [(0, _), (1, _), (2, _), (3, _), (4, _), (5, _), (6, _), (7, _)] dX8_add_14 rfl (Nat.le_of_ble_eq_true rfl) ?_
    refine PW.aload_n dX8_add_16 rfl ?_
    refine PW.getI 2 fl_X8_18 rfl (by assumption) rfl rfl dX8_add_17 ?_
    refine PW.top n (by simp [upS, hn]) ?_
    refine PW.bipush (by decide) dX8_add_20 ?_
    refine PW.imul dX8_add_22 ?_
    refine PW.istore [(0, _), (1, _), (2, _), (3, _), (4, _), (5, _), (6, _), (7, _), (8, _)] dX8_add_23 rfl (Nat.le_of_ble_eq_true rfl) ?_
    refine PW.aload_n dX8_add_25 rfl ?_
    refine PW.getR fl_X8_11 rfl (by assumption) rfl dX8_add_26 ?_
    refine PW.iload dX8_add_29 rfl ?_
    refine PW.iload dX8_add_31 rfl ?_
    refine PW.bipush (by decide) dX8_add_33 ?_
    refine PW.iadd dX8_add_35 ?_
    refine PW.iconst dX8_add_36 ?_
    refine PW.callSv (c_X11_fill (by assumption) (by decide) (by first | assumption | (unfold inR; omega)) (by first | assumption | (unfold inR; omega))) cs_X11_fill lk_X8_48 dX8_add_37 rfl rfl rfl ?_
    refine PW.aload_n dX8_add_40 rfl ?_
    refine PW.getR fl_X8_11 rfl (by assumption) rfl dX8_add_41 ?_
    refine PW.iload dX8_add_44 rfl ?_
    refine PW.iload_n dX8_add_46 rfl ?_
    refine PW.callSv (c_X11_put (by assumption) (by first | assumption | (unfold inR; omega)) (by decide)) cs_X11_put lk_X8_30 dX8_add_47 rfl rfl rfl ?_
    refine PW.st (upS σ (a + 1) (up1 (flI (σ (a + 1)) (n * 7) (n * 7 + 7) 112 0) (n * 7) 1)) (by rw [if_pos (by omega), upS_upS, upS_same]) ?_
    refine PW.iload dX8_add_50 rfl ?_
    refine PW.if_le 65 dX8_add_52 (by decide) (by unfold inR; omega) (fun h52 => ?_) (fun h52 => ?_)
    · omega
    · refine PW.aload_n dX8_add_55 rfl ?_
      refine PW.aload_n dX8_add_56 rfl ?_
      refine PW.getI 2 fl_X8_18 rfl (by assumption) rfl rfl dX8_add_57 ?_
      refine PW.top n (by simp [upS, hn]) ?_
      refine PW.iconst dX8_add_60 ?_
      refine PW.iload_n dX8_add_61 rfl ?_
      refine PW.callVv (c_X8_setNumber (by assumption) (by omega) (by omega)) cv_X8_setNumber lk_X8_52 (by first | assumption | exact And.left (by assumption)) dX8_add_62 rfl rfl rfl rfl ?_
      refine PW.st (upS σ (a + 1) (up1 (up1 (flI (σ (a + 1)) (n * 7) (n * 7 + 7) 112 0) (n * 7) 1) (7 * n + 1 + 0) c0)) (by rw [upS_upS, upS_same]) ?_
      refine PW.iload dX8_add_65 rfl ?_
      refine PW.iconst dX8_add_67 ?_
      refine PW.icmp_le 81 dX8_add_68 (by decide) (by unfold inR; omega) (by unfold inR; omega) (fun h68 => ?_) (fun h68 => ?_)
      · omega
      · refine PW.aload_n dX8_add_71 rfl ?_
        refine PW.aload_n dX8_add_72 rfl ?_
        refine PW.getI 2 fl_X8_18 rfl (by assumption) rfl rfl dX8_add_73 ?_
        refine PW.top n (by simp [upS, hn]) ?_
        refine PW.iconst dX8_add_76 ?_
        refine PW.iload_n dX8_add_77 rfl ?_
        refine PW.callVv (c_X8_setNumber (by assumption) (by omega) (by omega)) cv_X8_setNumber lk_X8_52 (by first | assumption | exact And.left (by assumption)) dX8_add_78 rfl rfl rfl rfl ?_
        refine PW.st (upS σ (a + 1) (up1 (up1 (up1 (flI (σ (a + 1)) (n * 7) (n * 7 + 7) 112 0) (n * 7) 1) (7 * n + 1 + 0) c0) (7 * n + 1 + 1) c1)) (by rw [upS_upS, upS_same]) ?_
        refine PW.iload dX8_add_81 rfl ?_
        refine PW.iconst dX8_add_83 ?_
        refine PW.icmp_le 98 dX8_add_84 (by decide) (by unfold inR; omega) (by unfold inR; omega) (fun h84 => ?_) (fun h84 => ?_)
        · refine PW.iload dX8_add_98 rfl ?_
          refine PW.iconst dX8_add_100 ?_
          refine PW.icmp_le 115 dX8_add_101 (by decide) (by unfold inR; omega) (by unfold inR; omega) (fun h101 => ?_) (fun h101 => ?_)
          · refine PW.iload dX8_add_115 rfl ?_
            refine PW.iconst dX8_add_117 ?_
            refine PW.icmp_le 132 dX8_add_118 (by decide) (by unfold inR; omega) (by unfold inR; omega) (fun h118 => ?_) (fun h118 => ?_)
            · refine PW.aload_n dX8_add_132 rfl ?_
              refine PW.dup rfl dX8_add_133 ?_
              refine PW.getI 2 fl_X8_18 rfl (by assumption) rfl rfl dX8_add_134 ?_
              refine PW.top n (by simp [upS, hn]) ?_
              refine PW.iconst dX8_add_137 ?_
              refine PW.iadd dX8_add_138 ?_
              refine PW.putI 2 fl_X8_18 rfl (fun h => absurd h (by decide)) (by assumption) rfl rfl rfl rfl dX8_add_139 ?_
              refine PW.vret rfl dX8_add_142 ⟨rfl, rfl, ?_⟩
              rw [upS_ne (show a ≠ a + 1 by omega)]
              refine congrArg (fun z => upS (upS σ (a + 1) z) a (up1 (σ a) 2 (n + 1))) ?_
              funext j
              simp only [up1, flI, adF, rowF, show xT 0 1 = 2 by decide]
              grind
            · omega
          · omega
        · omega
  · omega
theorem add_2 {G : GT} {S : Shp} {σ : Sto} {a : Nat} {n c0 c1 c2 c3 c4 : Int} (hA : IsTale S a) (hn : σ a 2 = n) (h0 : 0 ≤ n ∧ n ≤ 15) : PMet G mX8_add 3 0 0 [.ref a, .int (iI (2)), .int (iI (c0)), .int (iI (c1)), .int (iI (c2)), .int (iI (c3)), .int (iI (c4))] S σ (isP none S (upS (upS σ (a + 1) (adF (σ (a + 1)) n 2 c0 c1 c2 c3 c4)) a (up1 (σ a) 2 (n + 1)))) := by
  obtain ⟨hA0, hA1, hA2⟩ := id hA
  refine PMet.of [(0, .ref a), (1, .int (iI (2))), (2, .int (iI (c0))), (3, .int (iI (c1))), (4, .int (iI (c2))), (5, .int (iI (c3))), (6, .int (iI (c4)))] (by decide +kernel) rfl (Nat.le_of_ble_eq_true rfl) ?_
  refine PW.aload_n dX8_add_0 rfl ?_
  refine PW.getI 2 fl_X8_18 rfl (by assumption) rfl rfl dX8_add_1 ?_
  refine PW.top n (by simp [upS, hn]) ?_
  refine PW.bipush (by decide) dX8_add_4 ?_
  refine PW.icmp_lt 10 dX8_add_6 (by decide) (by unfold inR; omega) (by unfold inR; omega) (fun h6 => ?_) (fun h6 => ?_)
  · refine PW.iload_n dX8_add_10 rfl ?_
    refine PW.callSr (c_X5_numbers (by omega)) cs_X5_numbers lk_X8_42 dX8_add_11 rfl rfl rfl ?_
    refine PW.top 4 (by decide) ?_
    refine PW.istore [(0, _), (1, _), (2, _), (3, _), (4, _), (5, _), (6, _), (7, _)] dX8_add_14 rfl (Nat.le_of_ble_eq_true rfl) ?_
    refine PW.aload_n dX8_add_16 rfl ?_
    refine PW.getI 2 fl_X8_18 rfl (by assumption) rfl rfl dX8_add_17 ?_
    refine PW.top n (by simp [upS, hn]) ?_
    refine PW.bipush (by decide) dX8_add_20 ?_
    refine PW.imul dX8_add_22 ?_
    refine PW.istore [(0, _), (1, _), (2, _), (3, _), (4, _), (5, _), (6, _), (7, _), (8, _)] dX8_add_23 rfl (Nat.le_of_ble_eq_true rfl) ?_
    refine PW.aload_n dX8_add_25 rfl ?_
    refine PW.getR fl_X8_11 rfl (by assumption) rfl dX8_add_26 ?_
    refine PW.iload dX8_add_29 rfl ?_
    refine PW.iload dX8_add_31 rfl ?_
    refine PW.bipush (by decide) dX8_add_33 ?_
    refine PW.iadd dX8_add_35 ?_
    refine PW.iconst dX8_add_36 ?_
    refine PW.callSv (c_X11_fill (by assumption) (by decide) (by first | assumption | (unfold inR; omega)) (by first | assumption | (unfold inR; omega))) cs_X11_fill lk_X8_48 dX8_add_37 rfl rfl rfl ?_
    refine PW.aload_n dX8_add_40 rfl ?_
    refine PW.getR fl_X8_11 rfl (by assumption) rfl dX8_add_41 ?_
    refine PW.iload dX8_add_44 rfl ?_
    refine PW.iload_n dX8_add_46 rfl ?_
    refine PW.callSv (c_X11_put (by assumption) (by first | assumption | (unfold inR; omega)) (by decide)) cs_X11_put lk_X8_30 dX8_add_47 rfl rfl rfl ?_
    refine PW.st (upS σ (a + 1) (up1 (flI (σ (a + 1)) (n * 7) (n * 7 + 7) 112 0) (n * 7) 2)) (by rw [if_pos (by omega), upS_upS, upS_same]) ?_
    refine PW.iload dX8_add_50 rfl ?_
    refine PW.if_le 65 dX8_add_52 (by decide) (by unfold inR; omega) (fun h52 => ?_) (fun h52 => ?_)
    · omega
    · refine PW.aload_n dX8_add_55 rfl ?_
      refine PW.aload_n dX8_add_56 rfl ?_
      refine PW.getI 2 fl_X8_18 rfl (by assumption) rfl rfl dX8_add_57 ?_
      refine PW.top n (by simp [upS, hn]) ?_
      refine PW.iconst dX8_add_60 ?_
      refine PW.iload_n dX8_add_61 rfl ?_
      refine PW.callVv (c_X8_setNumber (by assumption) (by omega) (by omega)) cv_X8_setNumber lk_X8_52 (by first | assumption | exact And.left (by assumption)) dX8_add_62 rfl rfl rfl rfl ?_
      refine PW.st (upS σ (a + 1) (up1 (up1 (flI (σ (a + 1)) (n * 7) (n * 7 + 7) 112 0) (n * 7) 2) (7 * n + 1 + 0) c0)) (by rw [upS_upS, upS_same]) ?_
      refine PW.iload dX8_add_65 rfl ?_
      refine PW.iconst dX8_add_67 ?_
      refine PW.icmp_le 81 dX8_add_68 (by decide) (by unfold inR; omega) (by unfold inR; omega) (fun h68 => ?_) (fun h68 => ?_)
      · omega
      · refine PW.aload_n dX8_add_71 rfl ?_
        refine PW.aload_n dX8_add_72 rfl ?_
        refine PW.getI 2 fl_X8_18 rfl (by assumption) rfl rfl dX8_add_73 ?_
        refine PW.top n (by simp [upS, hn]) ?_
        refine PW.iconst dX8_add_76 ?_
        refine PW.iload_n dX8_add_77 rfl ?_
        refine PW.callVv (c_X8_setNumber (by assumption) (by omega) (by omega)) cv_X8_setNumber lk_X8_52 (by first | assumption | exact And.left (by assumption)) dX8_add_78 rfl rfl rfl rfl ?_
        refine PW.st (upS σ (a + 1) (up1 (up1 (up1 (flI (σ (a + 1)) (n * 7) (n * 7 + 7) 112 0) (n * 7) 2) (7 * n + 1 + 0) c0) (7 * n + 1 + 1) c1)) (by rw [upS_upS, upS_same]) ?_
        refine PW.iload dX8_add_81 rfl ?_
        refine PW.iconst dX8_add_83 ?_
        refine PW.icmp_le 98 dX8_add_84 (by decide) (by unfold inR; omega) (by unfold inR; omega) (fun h84 => ?_) (fun h84 => ?_)
        · omega
        · refine PW.aload_n dX8_add_87 rfl ?_
          refine PW.aload_n dX8_add_88 rfl ?_
          refine PW.getI 2 fl_X8_18 rfl (by assumption) rfl rfl dX8_add_89 ?_
          refine PW.top n (by simp [upS, hn]) ?_
          refine PW.iconst dX8_add_92 ?_
          refine PW.iload dX8_add_93 rfl ?_
          refine PW.callVv (c_X8_setNumber (by assumption) (by omega) (by omega)) cv_X8_setNumber lk_X8_52 (by first | assumption | exact And.left (by assumption)) dX8_add_95 rfl rfl rfl rfl ?_
          refine PW.st (upS σ (a + 1) (up1 (up1 (up1 (up1 (flI (σ (a + 1)) (n * 7) (n * 7 + 7) 112 0) (n * 7) 2) (7 * n + 1 + 0) c0) (7 * n + 1 + 1) c1) (7 * n + 1 + 2) c2)) (by rw [upS_upS, upS_same]) ?_
          refine PW.iload dX8_add_98 rfl ?_
          refine PW.iconst dX8_add_100 ?_
          refine PW.icmp_le 115 dX8_add_101 (by decide) (by unfold inR; omega) (by unfold inR; omega) (fun h101 => ?_) (fun h101 => ?_)
          · omega
          · refine PW.aload_n dX8_add_104 rfl ?_
            refine PW.aload_n dX8_add_105 rfl ?_
            refine PW.getI 2 fl_X8_18 rfl (by assumption) rfl rfl dX8_add_106 ?_
            refine PW.top n (by simp [upS, hn]) ?_
            refine PW.iconst dX8_add_109 ?_
            refine PW.iload dX8_add_110 rfl ?_
            refine PW.callVv (c_X8_setNumber (by assumption) (by omega) (by omega)) cv_X8_setNumber lk_X8_52 (by first | assumption | exact And.left (by assumption)) dX8_add_112 rfl rfl rfl rfl ?_
            refine PW.st (upS σ (a + 1) (up1 (up1 (up1 (up1 (up1 (flI (σ (a + 1)) (n * 7) (n * 7 + 7) 112 0) (n * 7) 2) (7 * n + 1 + 0) c0) (7 * n + 1 + 1) c1) (7 * n + 1 + 2) c2) (7 * n + 1 + 3) c3)) (by rw [upS_upS, upS_same]) ?_
            refine PW.iload dX8_add_115 rfl ?_
            refine PW.iconst dX8_add_117 ?_
            refine PW.icmp_le 132 dX8_add_118 (by decide) (by unfold inR; omega) (by unfold inR; omega) (fun h118 => ?_) (fun h118 => ?_)
            · refine PW.aload_n dX8_add_132 rfl ?_
              refine PW.dup rfl dX8_add_133 ?_
              refine PW.getI 2 fl_X8_18 rfl (by assumption) rfl rfl dX8_add_134 ?_
              refine PW.top n (by simp [upS, hn]) ?_
              refine PW.iconst dX8_add_137 ?_
              refine PW.iadd dX8_add_138 ?_
              refine PW.putI 2 fl_X8_18 rfl (fun h => absurd h (by decide)) (by assumption) rfl rfl rfl rfl dX8_add_139 ?_
              refine PW.vret rfl dX8_add_142 ⟨rfl, rfl, ?_⟩
              rw [upS_ne (show a ≠ a + 1 by omega)]
              refine congrArg (fun z => upS (upS σ (a + 1) z) a (up1 (σ a) 2 (n + 1))) ?_
              funext j
              simp only [up1, flI, adF, rowF, show xT 0 2 = 4 by decide]
              grind
            · omega
  · omega
theorem add_3 {G : GT} {S : Shp} {σ : Sto} {a : Nat} {n c0 c1 c2 c3 c4 : Int} (hA : IsTale S a) (hn : σ a 2 = n) (h0 : 0 ≤ n ∧ n ≤ 15) : PMet G mX8_add 3 0 0 [.ref a, .int (iI (3)), .int (iI (c0)), .int (iI (c1)), .int (iI (c2)), .int (iI (c3)), .int (iI (c4))] S σ (isP none S (upS (upS σ (a + 1) (adF (σ (a + 1)) n 3 c0 c1 c2 c3 c4)) a (up1 (σ a) 2 (n + 1)))) := by
  obtain ⟨hA0, hA1, hA2⟩ := id hA
  refine PMet.of [(0, .ref a), (1, .int (iI (3))), (2, .int (iI (c0))), (3, .int (iI (c1))), (4, .int (iI (c2))), (5, .int (iI (c3))), (6, .int (iI (c4)))] (by decide +kernel) rfl (Nat.le_of_ble_eq_true rfl) ?_
  refine PW.aload_n dX8_add_0 rfl ?_
  refine PW.getI 2 fl_X8_18 rfl (by assumption) rfl rfl dX8_add_1 ?_
  refine PW.top n (by simp [upS, hn]) ?_
  refine PW.bipush (by decide) dX8_add_4 ?_
  refine PW.icmp_lt 10 dX8_add_6 (by decide) (by unfold inR; omega) (by unfold inR; omega) (fun h6 => ?_) (fun h6 => ?_)
  · refine PW.iload_n dX8_add_10 rfl ?_
    refine PW.callSr (c_X5_numbers (by omega)) cs_X5_numbers lk_X8_42 dX8_add_11 rfl rfl rfl ?_
    refine PW.top 4 (by decide) ?_
    refine PW.istore [(0, _), (1, _), (2, _), (3, _), (4, _), (5, _), (6, _), (7, _)] dX8_add_14 rfl (Nat.le_of_ble_eq_true rfl) ?_
    refine PW.aload_n dX8_add_16 rfl ?_
    refine PW.getI 2 fl_X8_18 rfl (by assumption) rfl rfl dX8_add_17 ?_
    refine PW.top n (by simp [upS, hn]) ?_
    refine PW.bipush (by decide) dX8_add_20 ?_
    refine PW.imul dX8_add_22 ?_
    refine PW.istore [(0, _), (1, _), (2, _), (3, _), (4, _), (5, _), (6, _), (7, _), (8, _)] dX8_add_23 rfl (Nat.le_of_ble_eq_true rfl) ?_
    refine PW.aload_n dX8_add_25 rfl ?_
    refine PW.getR fl_X8_11 rfl (by assumption) rfl dX8_add_26 ?_
    refine PW.iload dX8_add_29 rfl ?_
    refine PW.iload dX8_add_31 rfl ?_
    refine PW.bipush (by decide) dX8_add_33 ?_
    refine PW.iadd dX8_add_35 ?_
    refine PW.iconst dX8_add_36 ?_
    refine PW.callSv (c_X11_fill (by assumption) (by decide) (by first | assumption | (unfold inR; omega)) (by first | assumption | (unfold inR; omega))) cs_X11_fill lk_X8_48 dX8_add_37 rfl rfl rfl ?_
    refine PW.aload_n dX8_add_40 rfl ?_
    refine PW.getR fl_X8_11 rfl (by assumption) rfl dX8_add_41 ?_
    refine PW.iload dX8_add_44 rfl ?_
    refine PW.iload_n dX8_add_46 rfl ?_
    refine PW.callSv (c_X11_put (by assumption) (by first | assumption | (unfold inR; omega)) (by decide)) cs_X11_put lk_X8_30 dX8_add_47 rfl rfl rfl ?_
    refine PW.st (upS σ (a + 1) (up1 (flI (σ (a + 1)) (n * 7) (n * 7 + 7) 112 0) (n * 7) 3)) (by rw [if_pos (by omega), upS_upS, upS_same]) ?_
    refine PW.iload dX8_add_50 rfl ?_
    refine PW.if_le 65 dX8_add_52 (by decide) (by unfold inR; omega) (fun h52 => ?_) (fun h52 => ?_)
    · omega
    · refine PW.aload_n dX8_add_55 rfl ?_
      refine PW.aload_n dX8_add_56 rfl ?_
      refine PW.getI 2 fl_X8_18 rfl (by assumption) rfl rfl dX8_add_57 ?_
      refine PW.top n (by simp [upS, hn]) ?_
      refine PW.iconst dX8_add_60 ?_
      refine PW.iload_n dX8_add_61 rfl ?_
      refine PW.callVv (c_X8_setNumber (by assumption) (by omega) (by omega)) cv_X8_setNumber lk_X8_52 (by first | assumption | exact And.left (by assumption)) dX8_add_62 rfl rfl rfl rfl ?_
      refine PW.st (upS σ (a + 1) (up1 (up1 (flI (σ (a + 1)) (n * 7) (n * 7 + 7) 112 0) (n * 7) 3) (7 * n + 1 + 0) c0)) (by rw [upS_upS, upS_same]) ?_
      refine PW.iload dX8_add_65 rfl ?_
      refine PW.iconst dX8_add_67 ?_
      refine PW.icmp_le 81 dX8_add_68 (by decide) (by unfold inR; omega) (by unfold inR; omega) (fun h68 => ?_) (fun h68 => ?_)
      · omega
      · refine PW.aload_n dX8_add_71 rfl ?_
        refine PW.aload_n dX8_add_72 rfl ?_
        refine PW.getI 2 fl_X8_18 rfl (by assumption) rfl rfl dX8_add_73 ?_
        refine PW.top n (by simp [upS, hn]) ?_
        refine PW.iconst dX8_add_76 ?_
        refine PW.iload_n dX8_add_77 rfl ?_
        refine PW.callVv (c_X8_setNumber (by assumption) (by omega) (by omega)) cv_X8_setNumber lk_X8_52 (by first | assumption | exact And.left (by assumption)) dX8_add_78 rfl rfl rfl rfl ?_
        refine PW.st (upS σ (a + 1) (up1 (up1 (up1 (flI (σ (a + 1)) (n * 7) (n * 7 + 7) 112 0) (n * 7) 3) (7 * n + 1 + 0) c0) (7 * n + 1 + 1) c1)) (by rw [upS_upS, upS_same]) ?_
        refine PW.iload dX8_add_81 rfl ?_
        refine PW.iconst dX8_add_83 ?_
        refine PW.icmp_le 98 dX8_add_84 (by decide) (by unfold inR; omega) (by unfold inR; omega) (fun h84 => ?_) (fun h84 => ?_)
        · omega
        · refine PW.aload_n dX8_add_87 rfl ?_
          refine PW.aload_n dX8_add_88 rfl ?_
          refine PW.getI 2 fl_X8_18 rfl (by assumption) rfl rfl dX8_add_89 ?_
          refine PW.top n (by simp [upS, hn]) ?_
          refine PW.iconst dX8_add_92 ?_
          refine PW.iload dX8_add_93 rfl ?_
          refine PW.callVv (c_X8_setNumber (by assumption) (by omega) (by omega)) cv_X8_setNumber lk_X8_52 (by first | assumption | exact And.left (by assumption)) dX8_add_95 rfl rfl rfl rfl ?_
          refine PW.st (upS σ (a + 1) (up1 (up1 (up1 (up1 (flI (σ (a + 1)) (n * 7) (n * 7 + 7) 112 0) (n * 7) 3) (7 * n + 1 + 0) c0) (7 * n + 1 + 1) c1) (7 * n + 1 + 2) c2)) (by rw [upS_upS, upS_same]) ?_
          refine PW.iload dX8_add_98 rfl ?_
          refine PW.iconst dX8_add_100 ?_
          refine PW.icmp_le 115 dX8_add_101 (by decide) (by unfold inR; omega) (by unfold inR; omega) (fun h101 => ?_) (fun h101 => ?_)
          · omega
          · refine PW.aload_n dX8_add_104 rfl ?_
            refine PW.aload_n dX8_add_105 rfl ?_
            refine PW.getI 2 fl_X8_18 rfl (by assumption) rfl rfl dX8_add_106 ?_
            refine PW.top n (by simp [upS, hn]) ?_
            refine PW.iconst dX8_add_109 ?_
            refine PW.iload dX8_add_110 rfl ?_
            refine PW.callVv (c_X8_setNumber (by assumption) (by omega) (by omega)) cv_X8_setNumber lk_X8_52 (by first | assumption | exact And.left (by assumption)) dX8_add_112 rfl rfl rfl rfl ?_
            refine PW.st (upS σ (a + 1) (up1 (up1 (up1 (up1 (up1 (flI (σ (a + 1)) (n * 7) (n * 7 + 7) 112 0) (n * 7) 3) (7 * n + 1 + 0) c0) (7 * n + 1 + 1) c1) (7 * n + 1 + 2) c2) (7 * n + 1 + 3) c3)) (by rw [upS_upS, upS_same]) ?_
            refine PW.iload dX8_add_115 rfl ?_
            refine PW.iconst dX8_add_117 ?_
            refine PW.icmp_le 132 dX8_add_118 (by decide) (by unfold inR; omega) (by unfold inR; omega) (fun h118 => ?_) (fun h118 => ?_)
            · refine PW.aload_n dX8_add_132 rfl ?_
              refine PW.dup rfl dX8_add_133 ?_
              refine PW.getI 2 fl_X8_18 rfl (by assumption) rfl rfl dX8_add_134 ?_
              refine PW.top n (by simp [upS, hn]) ?_
              refine PW.iconst dX8_add_137 ?_
              refine PW.iadd dX8_add_138 ?_
              refine PW.putI 2 fl_X8_18 rfl (fun h => absurd h (by decide)) (by assumption) rfl rfl rfl rfl dX8_add_139 ?_
              refine PW.vret rfl dX8_add_142 ⟨rfl, rfl, ?_⟩
              rw [upS_ne (show a ≠ a + 1 by omega)]
              refine congrArg (fun z => upS (upS σ (a + 1) z) a (up1 (σ a) 2 (n + 1))) ?_
              funext j
              simp only [up1, flI, adF, rowF, show xT 0 3 = 4 by decide]
              grind
            · omega
  · omega
theorem add_4 {G : GT} {S : Shp} {σ : Sto} {a : Nat} {n c0 c1 c2 c3 c4 : Int} (hA : IsTale S a) (hn : σ a 2 = n) (h0 : 0 ≤ n ∧ n ≤ 15) : PMet G mX8_add 3 0 0 [.ref a, .int (iI (4)), .int (iI (c0)), .int (iI (c1)), .int (iI (c2)), .int (iI (c3)), .int (iI (c4))] S σ (isP none S (upS (upS σ (a + 1) (adF (σ (a + 1)) n 4 c0 c1 c2 c3 c4)) a (up1 (σ a) 2 (n + 1)))) := by
  obtain ⟨hA0, hA1, hA2⟩ := id hA
  refine PMet.of [(0, .ref a), (1, .int (iI (4))), (2, .int (iI (c0))), (3, .int (iI (c1))), (4, .int (iI (c2))), (5, .int (iI (c3))), (6, .int (iI (c4)))] (by decide +kernel) rfl (Nat.le_of_ble_eq_true rfl) ?_
  refine PW.aload_n dX8_add_0 rfl ?_
  refine PW.getI 2 fl_X8_18 rfl (by assumption) rfl rfl dX8_add_1 ?_
  refine PW.top n (by simp [upS, hn]) ?_
  refine PW.bipush (by decide) dX8_add_4 ?_
  refine PW.icmp_lt 10 dX8_add_6 (by decide) (by unfold inR; omega) (by unfold inR; omega) (fun h6 => ?_) (fun h6 => ?_)
  · refine PW.iload_n dX8_add_10 rfl ?_
    refine PW.callSr (c_X5_numbers (by omega)) cs_X5_numbers lk_X8_42 dX8_add_11 rfl rfl rfl ?_
    refine PW.top 3 (by decide) ?_
    refine PW.istore [(0, _), (1, _), (2, _), (3, _), (4, _), (5, _), (6, _), (7, _)] dX8_add_14 rfl (Nat.le_of_ble_eq_true rfl) ?_
    refine PW.aload_n dX8_add_16 rfl ?_
    refine PW.getI 2 fl_X8_18 rfl (by assumption) rfl rfl dX8_add_17 ?_
    refine PW.top n (by simp [upS, hn]) ?_
    refine PW.bipush (by decide) dX8_add_20 ?_
    refine PW.imul dX8_add_22 ?_
    refine PW.istore [(0, _), (1, _), (2, _), (3, _), (4, _), (5, _), (6, _), (7, _), (8, _)] dX8_add_23 rfl (Nat.le_of_ble_eq_true rfl) ?_
    refine PW.aload_n dX8_add_25 rfl ?_
    refine PW.getR fl_X8_11 rfl (by assumption) rfl dX8_add_26 ?_
    refine PW.iload dX8_add_29 rfl ?_
    refine PW.iload dX8_add_31 rfl ?_
    refine PW.bipush (by decide) dX8_add_33 ?_
    refine PW.iadd dX8_add_35 ?_
    refine PW.iconst dX8_add_36 ?_
    refine PW.callSv (c_X11_fill (by assumption) (by decide) (by first | assumption | (unfold inR; omega)) (by first | assumption | (unfold inR; omega))) cs_X11_fill lk_X8_48 dX8_add_37 rfl rfl rfl ?_
    refine PW.aload_n dX8_add_40 rfl ?_
    refine PW.getR fl_X8_11 rfl (by assumption) rfl dX8_add_41 ?_
    refine PW.iload dX8_add_44 rfl ?_
    refine PW.iload_n dX8_add_46 rfl ?_
    refine PW.callSv (c_X11_put (by assumption) (by first | assumption | (unfold inR; omega)) (by decide)) cs_X11_put lk_X8_30 dX8_add_47 rfl rfl rfl ?_
    refine PW.st (upS σ (a + 1) (up1 (flI (σ (a + 1)) (n * 7) (n * 7 + 7) 112 0) (n * 7) 4)) (by rw [if_pos (by omega), upS_upS, upS_same]) ?_
    refine PW.iload dX8_add_50 rfl ?_
    refine PW.if_le 65 dX8_add_52 (by decide) (by unfold inR; omega) (fun h52 => ?_) (fun h52 => ?_)
    · omega
    · refine PW.aload_n dX8_add_55 rfl ?_
      refine PW.aload_n dX8_add_56 rfl ?_
      refine PW.getI 2 fl_X8_18 rfl (by assumption) rfl rfl dX8_add_57 ?_
      refine PW.top n (by simp [upS, hn]) ?_
      refine PW.iconst dX8_add_60 ?_
      refine PW.iload_n dX8_add_61 rfl ?_
      refine PW.callVv (c_X8_setNumber (by assumption) (by omega) (by omega)) cv_X8_setNumber lk_X8_52 (by first | assumption | exact And.left (by assumption)) dX8_add_62 rfl rfl rfl rfl ?_
      refine PW.st (upS σ (a + 1) (up1 (up1 (flI (σ (a + 1)) (n * 7) (n * 7 + 7) 112 0) (n * 7) 4) (7 * n + 1 + 0) c0)) (by rw [upS_upS, upS_same]) ?_
      refine PW.iload dX8_add_65 rfl ?_
      refine PW.iconst dX8_add_67 ?_
      refine PW.icmp_le 81 dX8_add_68 (by decide) (by unfold inR; omega) (by unfold inR; omega) (fun h68 => ?_) (fun h68 => ?_)
      · omega
      · refine PW.aload_n dX8_add_71 rfl ?_
        refine PW.aload_n dX8_add_72 rfl ?_
        refine PW.getI 2 fl_X8_18 rfl (by assumption) rfl rfl dX8_add_73 ?_
        refine PW.top n (by simp [upS, hn]) ?_
        refine PW.iconst dX8_add_76 ?_
        refine PW.iload_n dX8_add_77 rfl ?_
        refine PW.callVv (c_X8_setNumber (by assumption) (by omega) (by omega)) cv_X8_setNumber lk_X8_52 (by first | assumption | exact And.left (by assumption)) dX8_add_78 rfl rfl rfl rfl ?_
        refine PW.st (upS σ (a + 1) (up1 (up1 (up1 (flI (σ (a + 1)) (n * 7) (n * 7 + 7) 112 0) (n * 7) 4) (7 * n + 1 + 0) c0) (7 * n + 1 + 1) c1)) (by rw [upS_upS, upS_same]) ?_
        refine PW.iload dX8_add_81 rfl ?_
        refine PW.iconst dX8_add_83 ?_
        refine PW.icmp_le 98 dX8_add_84 (by decide) (by unfold inR; omega) (by unfold inR; omega) (fun h84 => ?_) (fun h84 => ?_)
        · omega
        · refine PW.aload_n dX8_add_87 rfl ?_
          refine PW.aload_n dX8_add_88 rfl ?_
          refine PW.getI 2 fl_X8_18 rfl (by assumption) rfl rfl dX8_add_89 ?_
          refine PW.top n (by simp [upS, hn]) ?_
          refine PW.iconst dX8_add_92 ?_
          refine PW.iload dX8_add_93 rfl ?_
          refine PW.callVv (c_X8_setNumber (by assumption) (by omega) (by omega)) cv_X8_setNumber lk_X8_52 (by first | assumption | exact And.left (by assumption)) dX8_add_95 rfl rfl rfl rfl ?_
          refine PW.st (upS σ (a + 1) (up1 (up1 (up1 (up1 (flI (σ (a + 1)) (n * 7) (n * 7 + 7) 112 0) (n * 7) 4) (7 * n + 1 + 0) c0) (7 * n + 1 + 1) c1) (7 * n + 1 + 2) c2)) (by rw [upS_upS, upS_same]) ?_
          refine PW.iload dX8_add_98 rfl ?_
          refine PW.iconst dX8_add_100 ?_
          refine PW.icmp_le 115 dX8_add_101 (by decide) (by unfold inR; omega) (by unfold inR; omega) (fun h101 => ?_) (fun h101 => ?_)
          · refine PW.iload dX8_add_115 rfl ?_
            refine PW.iconst dX8_add_117 ?_
            refine PW.icmp_le 132 dX8_add_118 (by decide) (by unfold inR; omega) (by unfold inR; omega) (fun h118 => ?_) (fun h118 => ?_)
            · refine PW.aload_n dX8_add_132 rfl ?_
              refine PW.dup rfl dX8_add_133 ?_
              refine PW.getI 2 fl_X8_18 rfl (by assumption) rfl rfl dX8_add_134 ?_
              refine PW.top n (by simp [upS, hn]) ?_
              refine PW.iconst dX8_add_137 ?_
              refine PW.iadd dX8_add_138 ?_
              refine PW.putI 2 fl_X8_18 rfl (fun h => absurd h (by decide)) (by assumption) rfl rfl rfl rfl dX8_add_139 ?_
              refine PW.vret rfl dX8_add_142 ⟨rfl, rfl, ?_⟩
              rw [upS_ne (show a ≠ a + 1 by omega)]
              refine congrArg (fun z => upS (upS σ (a + 1) z) a (up1 (σ a) 2 (n + 1))) ?_
              funext j
              simp only [up1, flI, adF, rowF, show xT 0 4 = 3 by decide]
              grind
            · omega
          · omega
  · omega
theorem add_5 {G : GT} {S : Shp} {σ : Sto} {a : Nat} {n c0 c1 c2 c3 c4 : Int} (hA : IsTale S a) (hn : σ a 2 = n) (h0 : 0 ≤ n ∧ n ≤ 15) : PMet G mX8_add 3 0 0 [.ref a, .int (iI (5)), .int (iI (c0)), .int (iI (c1)), .int (iI (c2)), .int (iI (c3)), .int (iI (c4))] S σ (isP none S (upS (upS σ (a + 1) (adF (σ (a + 1)) n 5 c0 c1 c2 c3 c4)) a (up1 (σ a) 2 (n + 1)))) := by
  obtain ⟨hA0, hA1, hA2⟩ := id hA
  refine PMet.of [(0, .ref a), (1, .int (iI (5))), (2, .int (iI (c0))), (3, .int (iI (c1))), (4, .int (iI (c2))), (5, .int (iI (c3))), (6, .int (iI (c4)))] (by decide +kernel) rfl (Nat.le_of_ble_eq_true rfl) ?_
  refine PW.aload_n dX8_add_0 rfl ?_
  refine PW.getI 2 fl_X8_18 rfl (by assumption) rfl rfl dX8_add_1 ?_
  refine PW.top n (by simp [upS, hn]) ?_
  refine PW.bipush (by decide) dX8_add_4 ?_
  refine PW.icmp_lt 10 dX8_add_6 (by decide) (by unfold inR; omega) (by unfold inR; omega) (fun h6 => ?_) (fun h6 => ?_)
  · refine PW.iload_n dX8_add_10 rfl ?_
    refine PW.callSr (c_X5_numbers (by omega)) cs_X5_numbers lk_X8_42 dX8_add_11 rfl rfl rfl ?_
    refine PW.top 5 (by decide) ?_
    refine PW.istore [(0, _), (1, _), (2, _), (3, _), (4, _), (5, _), (6, _), (7, _)] dX8_add_14 rfl (Nat.le_of_ble_eq_true rfl) ?_
    refine PW.aload_n dX8_add_16 rfl ?_
    refine PW.getI 2 fl_X8_18 rfl (by assumption) rfl rfl dX8_add_17 ?_
    refine PW.top n (by simp [upS, hn]) ?_
    refine PW.bipush (by decide) dX8_add_20 ?_
    refine PW.imul dX8_add_22 ?_
    refine PW.istore [(0, _), (1, _), (2, _), (3, _), (4, _), (5, _), (6, _), (7, _), (8, _)] dX8_add_23 rfl (Nat.le_of_ble_eq_true rfl) ?_
    refine PW.aload_n dX8_add_25 rfl ?_
    refine PW.getR fl_X8_11 rfl (by assumption) rfl dX8_add_26 ?_
    refine PW.iload dX8_add_29 rfl ?_
    refine PW.iload dX8_add_31 rfl ?_
    refine PW.bipush (by decide) dX8_add_33 ?_
    refine PW.iadd dX8_add_35 ?_
    refine PW.iconst dX8_add_36 ?_
    refine PW.callSv (c_X11_fill (by assumption) (by decide) (by first | assumption | (unfold inR; omega)) (by first | assumption | (unfold inR; omega))) cs_X11_fill lk_X8_48 dX8_add_37 rfl rfl rfl ?_
    refine PW.aload_n dX8_add_40 rfl ?_
    refine PW.getR fl_X8_11 rfl (by assumption) rfl dX8_add_41 ?_
    refine PW.iload dX8_add_44 rfl ?_
    refine PW.iload_n dX8_add_46 rfl ?_
    refine PW.callSv (c_X11_put (by assumption) (by first | assumption | (unfold inR; omega)) (by decide)) cs_X11_put lk_X8_30 dX8_add_47 rfl rfl rfl ?_
    refine PW.st (upS σ (a + 1) (up1 (flI (σ (a + 1)) (n * 7) (n * 7 + 7) 112 0) (n * 7) 5)) (by rw [if_pos (by omega), upS_upS, upS_same]) ?_
    refine PW.iload dX8_add_50 rfl ?_
    refine PW.if_le 65 dX8_add_52 (by decide) (by unfold inR; omega) (fun h52 => ?_) (fun h52 => ?_)
    · omega
    · refine PW.aload_n dX8_add_55 rfl ?_
      refine PW.aload_n dX8_add_56 rfl ?_
      refine PW.getI 2 fl_X8_18 rfl (by assumption) rfl rfl dX8_add_57 ?_
      refine PW.top n (by simp [upS, hn]) ?_
      refine PW.iconst dX8_add_60 ?_
      refine PW.iload_n dX8_add_61 rfl ?_
      refine PW.callVv (c_X8_setNumber (by assumption) (by omega) (by omega)) cv_X8_setNumber lk_X8_52 (by first | assumption | exact And.left (by assumption)) dX8_add_62 rfl rfl rfl rfl ?_
      refine PW.st (upS σ (a + 1) (up1 (up1 (flI (σ (a + 1)) (n * 7) (n * 7 + 7) 112 0) (n * 7) 5) (7 * n + 1 + 0) c0)) (by rw [upS_upS, upS_same]) ?_
      refine PW.iload dX8_add_65 rfl ?_
      refine PW.iconst dX8_add_67 ?_
      refine PW.icmp_le 81 dX8_add_68 (by decide) (by unfold inR; omega) (by unfold inR; omega) (fun h68 => ?_) (fun h68 => ?_)
      · omega
      · refine PW.aload_n dX8_add_71 rfl ?_
        refine PW.aload_n dX8_add_72 rfl ?_
        refine PW.getI 2 fl_X8_18 rfl (by assumption) rfl rfl dX8_add_73 ?_
        refine PW.top n (by simp [upS, hn]) ?_
        refine PW.iconst dX8_add_76 ?_
        refine PW.iload_n dX8_add_77 rfl ?_
        refine PW.callVv (c_X8_setNumber (by assumption) (by omega) (by omega)) cv_X8_setNumber lk_X8_52 (by first | assumption | exact And.left (by assumption)) dX8_add_78 rfl rfl rfl rfl ?_
        refine PW.st (upS σ (a + 1) (up1 (up1 (up1 (flI (σ (a + 1)) (n * 7) (n * 7 + 7) 112 0) (n * 7) 5) (7 * n + 1 + 0) c0) (7 * n + 1 + 1) c1)) (by rw [upS_upS, upS_same]) ?_
        refine PW.iload dX8_add_81 rfl ?_
        refine PW.iconst dX8_add_83 ?_
        refine PW.icmp_le 98 dX8_add_84 (by decide) (by unfold inR; omega) (by unfold inR; omega) (fun h84 => ?_) (fun h84 => ?_)
        · omega
        · refine PW.aload_n dX8_add_87 rfl ?_
          refine PW.aload_n dX8_add_88 rfl ?_
          refine PW.getI 2 fl_X8_18 rfl (by assumption) rfl rfl dX8_add_89 ?_
          refine PW.top n (by simp [upS, hn]) ?_
          refine PW.iconst dX8_add_92 ?_
          refine PW.iload dX8_add_93 rfl ?_
          refine PW.callVv (c_X8_setNumber (by assumption) (by omega) (by omega)) cv_X8_setNumber lk_X8_52 (by first | assumption | exact And.left (by assumption)) dX8_add_95 rfl rfl rfl rfl ?_
          refine PW.st (upS σ (a + 1) (up1 (up1 (up1 (up1 (flI (σ (a + 1)) (n * 7) (n * 7 + 7) 112 0) (n * 7) 5) (7 * n + 1 + 0) c0) (7 * n + 1 + 1) c1) (7 * n + 1 + 2) c2)) (by rw [upS_upS, upS_same]) ?_
          refine PW.iload dX8_add_98 rfl ?_
          refine PW.iconst dX8_add_100 ?_
          refine PW.icmp_le 115 dX8_add_101 (by decide) (by unfold inR; omega) (by unfold inR; omega) (fun h101 => ?_) (fun h101 => ?_)
          · omega
          · refine PW.aload_n dX8_add_104 rfl ?_
            refine PW.aload_n dX8_add_105 rfl ?_
            refine PW.getI 2 fl_X8_18 rfl (by assumption) rfl rfl dX8_add_106 ?_
            refine PW.top n (by simp [upS, hn]) ?_
            refine PW.iconst dX8_add_109 ?_
            refine PW.iload dX8_add_110 rfl ?_
            refine PW.callVv (c_X8_setNumber (by assumption) (by omega) (by omega)) cv_X8_setNumber lk_X8_52 (by first | assumption | exact And.left (by assumption)) dX8_add_112 rfl rfl rfl rfl ?_
            refine PW.st (upS σ (a + 1) (up1 (up1 (up1 (up1 (up1 (flI (σ (a + 1)) (n * 7) (n * 7 + 7) 112 0) (n * 7) 5) (7 * n + 1 + 0) c0) (7 * n + 1 + 1) c1) (7 * n + 1 + 2) c2) (7 * n + 1 + 3) c3)) (by rw [upS_upS, upS_same]) ?_
            refine PW.iload dX8_add_115 rfl ?_
            refine PW.iconst dX8_add_117 ?_
            refine PW.icmp_le 132 dX8_add_118 (by decide) (by unfold inR; omega) (by unfold inR; omega) (fun h118 => ?_) (fun h118 => ?_)
            · omega
            · refine PW.aload_n dX8_add_121 rfl ?_
              refine PW.aload_n dX8_add_122 rfl ?_
              refine PW.getI 2 fl_X8_18 rfl (by assumption) rfl rfl dX8_add_123 ?_
              refine PW.top n (by simp [upS, hn]) ?_
              refine PW.iconst dX8_add_126 ?_
              refine PW.iload dX8_add_127 rfl ?_
              refine PW.callVv (c_X8_setNumber (by assumption) (by omega) (by omega)) cv_X8_setNumber lk_X8_52 (by first | assumption | exact And.left (by assumption)) dX8_add_129 rfl rfl rfl rfl ?_
              refine PW.st (upS σ (a + 1) (up1 (up1 (up1 (up1 (up1 (up1 (flI (σ (a + 1)) (n * 7) (n * 7 + 7) 112 0) (n * 7) 5) (7 * n + 1 + 0) c0) (7 * n + 1 + 1) c1) (7 * n + 1 + 2) c2) (7 * n + 1 + 3) c3) (7 * n + 1 + 4) c4)) (by rw [upS_upS, upS_same]) ?_
              refine PW.aload_n dX8_add_132 rfl ?_
              refine PW.dup rfl dX8_add_133 ?_
              refine PW.getI 2 fl_X8_18 rfl (by assumption) rfl rfl dX8_add_134 ?_
              refine PW.top n (by simp [upS, hn]) ?_
              refine PW.iconst dX8_add_137 ?_
              refine PW.iadd dX8_add_138 ?_
              refine PW.putI 2 fl_X8_18 rfl (fun h => absurd h (by decide)) (by assumption) rfl rfl rfl rfl dX8_add_139 ?_
              refine PW.vret rfl dX8_add_142 ⟨rfl, rfl, ?_⟩
              rw [upS_ne (show a ≠ a + 1 by omega)]
              refine congrArg (fun z => upS (upS σ (a + 1) z) a (up1 (σ a) 2 (n + 1))) ?_
              funext j
              simp only [up1, flI, adF, rowF, show xT 0 5 = 5 by decide]
              grind
  · omega
theorem c_X8_add {G : GT} {S : Shp} {σ : Sto} {a : Nat} {n k c0 c1 c2 c3 c4 : Int} (hA : IsTale S a) (hn : σ a 2 = n) (h0 : 0 ≤ n ∧ n ≤ 15) (hk : 0 ≤ k ∧ k ≤ 5) : PMet G mX8_add 3 0 0 [.ref a, .int (iI (k)), .int (iI (c0)), .int (iI (c1)), .int (iI (c2)), .int (iI (c3)), .int (iI (c4))] S σ (isP none S (upS (upS σ (a + 1) (adF (σ (a + 1)) n k c0 c1 c2 c3 c4)) a (up1 (σ a) 2 (n + 1)))) := by
  rcases (show k = 0 ∨ k = 1 ∨ k = 2 ∨ k = 3 ∨ k = 4 ∨ k = 5 by omega) with rfl | rfl | rfl | rfl | rfl | rfl
  · exact add_0 hA hn h0
  · exact add_1 hA hn h0
  · exact add_2 hA hn h0
  · exact add_3 hA hn h0
  · exact add_4 hA hn h0
  · exact add_5 hA hn h0

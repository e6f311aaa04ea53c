theorem sgOk_0 {x y bd : Int} (hx : 0 ≤ x ∧ x < 8) (hy : 0 ≤ y ∧ y < 8) (hbd : 0 ≤ bd ∧ bd ≤ 4) : sgOk 0 x y (bdF bd) 0 0 := by
  refine ⟨by decide, hx, hy, ?_, fun q => absurd q (by decide), fun q => absurd q (by decide), fun q => absurd q (by decide), fun q => absurd q (by decide)⟩
  unfold bdF
  split
  · exact Or.inl (by decide)
  · split
    · exact Or.inr ⟨rfl, by decide⟩
    · exact Or.inl (by omega)
theorem okEv_4 {k w0 w1 w2 w3 : Int} (hk : 0 ≤ k ∧ k ≤ 4) (s0 : suF k 0 w0) (s1 : suF k 1 w1) (s2 : suF k 2 w2) (s3 : suF k 3 w3) : okEv k w0 w1 w2 w3 0 := by
  have hx := xT0_4 hk
  refine ⟨⟨hk.1, by omega⟩, fun q => ?_, s0, s1, s2, s3, Or.inl (by omega)⟩
  have := q.1
  omega
theorem suF_lay {w : Int} (h : 0 ≤ w ∧ w ≤ 2) : suF 0 0 w := by
  refine Or.inr ⟨?_, ?_⟩
  · rw [show xT 2 (5 * 0 + 0) = 0 by decide]; omega
  · rw [show xT 3 (5 * 0 + 0) = 14 by decide]; omega
/-- a drawn number -/
def drK (k i w : Int) : Prop := suF k i w
theorem drK_of {k i w : Int} (h : suF k i w) : drK k i w := h
set_option maxRecDepth 20000 in
theorem law_453 {G : GT} {b k n : Nat} {S : Shp} {σ : Sto} {nb m x y bd : Int} {f g sg0 K A B C D : Int → Int}  (hkn : k ≤ 100000 ∧ n ≤ 1000000) (hS0 : S.1 = 478) (hk0 : k = 478) (hn0 : n = 33902) (hnb : 0 ≤ nb ∧ nb ≤ 3) (hm : 0 ≤ m ∧ m ≤ 2) (hx : 0 ≤ x ∧ x < 8) (hy : 0 ≤ y ∧ y < 8) (hbd : 0 ≤ bd ∧ bd ≤ 4) (hrw : ∀ q, 0 ≤ q → q < nb → rwOk f q) (hmg : MG m g K A B C D) (hA1 : At S 473 (sA 0 2)) (hA2 : At S 474 (sA 0 2)) (hA3 : At S 475 (sA 0 2)) (hA4 : At S 476 (sA 0 2)) (hA5 : At S 477 (sA 0 2)) (hc1 : σ 473 = K) (hc2 : σ 474 = A) (hc3 : σ 475 = B) (hc4 : σ 476 = C) (hc5 : σ 477 = D) (hO : Ob S σ 0 0 nb f m g 0 sg0) : PW (xL b (gB G)) G S (σ) k n 453 [(0, .ref 1000021), (1, .ref 0), (2, .int (iI (nb))), (3, .int (iI (m))), (4, .ref 473), (5, .ref 474), (6, .ref 475), (7, .ref 476), (8, .ref 477), (9, .int (iI (x))), (10, .int (iI (y))), (11, .int (iI (bd)))] [.int (iI (bdF bd)), .int (iI y), .int (iI x), .int (iI 0), .ref 0] := by
  have bb := bdF_b hbd
  have hsg := sgOk_0 hx hy hbd
  have nb5 := nS_b (m := m) (by omega)
  have n5 : nS m ≤ 5 := by
    rcases (show m = 0 ∨ m = 1 ∨ m = 2 by omega) with rfl | rfl | rfl
    · rw [nS_3.1]; decide
    · rw [nS_3.2.1]; decide
    · rw [nS_3.2.2]; decide
  refine PW.iconst (eL dL_law_453) ?_
  refine PW.iconst (eL dL_law_454) ?_
  refine PW.callVg (v_sight hO hsg (by decide) (by unfold inR; omega) (by unfold inR; omega) (by unfold inR; omega)) cv_X11_sight lk_L_40 hO.1.1 (eL dL_law_455) rfl rfl rfl (okC_mk rfl (Nat.le_of_ble_eq_true rfl) (Nat.le_of_ble_eq_true rfl) (Nat.le_of_ble_eq_true rfl) (lawC hkn.1) (lawS hkn.2)) (fun r S' τ455 hq => ?_)
  obtain ⟨hS, rfl, hF, hO1⟩ := hq
  have hS2 := hS.symm
  subst hS2
  clear hsg
  have hO2 : Ob S τ455 0 0 nb f m g 1 (sgF sg0 0 0 (8 * y + x) (bdF bd) 0 0) := hO1
  have hL : LD S τ455 0 nb f m g (sgF sg0 0 0 (8 * y + x) (bdF bd) 0 0) K A B C D := ⟨by omega, ⟨hA1, hA2, hA3, hA4, hA5⟩, hO2, by rw [hF _ (by omega)]; exact hc1, by rw [hF _ (by omega)]; exact hc2, by rw [hF _ (by omega)]; exact hc3, by rw [hF _ (by omega)]; exact hc4, by rw [hF _ (by omega)]; exact hc5⟩
  refine PW.if_eq 463 (eL dL_law_458) (by decide) (by first | assumption | (unfold inR; omega)) (fun h458 => ?_) (fun h458 => ?_)
  · refine PW.iload_n (eL dL_law_463) rfl ?_
    refine PW.if_ne 471 (eL dL_law_464) (by decide) (by first | assumption | (unfold inR; omega)) (fun h464 => ?_) (fun h464 => ?_)
    · refine PW.iload_n (eL dL_law_471) rfl ?_
      refine PW.iconst (eL dL_law_472) ?_
      refine PW.icmp_ne 480 (eL dL_law_473) (by decide) (by first | assumption | (unfold inR; omega)) (by first | assumption | (unfold inR; omega)) (fun h473 => ?_) (fun h473 => ?_)
      · refine PW.iconst (eL dL_law_480) ?_
        refine PW.top (nS m) (by first | (rw [show m = 0 by omega, nS_3.1]) | (rw [show m = 1 by omega, nS_3.2.1]) | (rw [show m = 2 by omega, nS_3.2.2])) ?_
        refine PW.istore [(0, _), (1, _), (2, _), (3, _), (4, _), (5, _), (6, _), (7, _), (8, _), (9, _), (10, _), (11, _), (12, _)] (eL dL_law_481) rfl (Nat.le_of_ble_eq_true rfl) ?_
        refine PW.aload_n (eL dL_law_483) rfl ?_
        refine PW.iconst (eL dL_law_484) ?_
        refine PW.callVg (v_stories hO2 (k := 0) (by omega) (by omega) (by omega)) cv_X11_stories lk_L_43 hO2.1.1 (eL dL_law_485) rfl rfl rfl (okC_mk rfl (Nat.le_of_ble_eq_true rfl) (Nat.le_of_ble_eq_true rfl) (Nat.le_of_ble_eq_true rfl) (lawC hkn.1) (lawS hkn.2)) (fun r S' τ485 hq => ?_)
        obtain ⟨hS, rfl, hF, hO3⟩ := hq
        have hS2 := hS.symm
        subst hS2
        have hL3 := hL.o hF hO3
        refine PW.top (nS m) (ftC_all (fun s => uP_0 _ _ _ _ _ s) (by omega)) ?_
        refine PW.iload (eL dL_law_488) rfl ?_
        refine PW.icmp_eq 495 (eL dL_law_490) (by decide) (by first | assumption | (unfold inR; omega)) (by first | assumption | (unfold inR; omega)) (fun h490 => ?_) (fun h490 => ?_)
        · refine PW.iconst (eL dL_law_495) ?_
          refine PW.istore [(0, _), (1, _), (2, _), (3, _), (4, _), (5, _), (6, _), (7, _), (8, _), (9, _), (10, _), (11, _), (12, _), (13, _)] (eL dL_law_496) rfl (Nat.le_of_ble_eq_true rfl) ?_
          refine PW.iconst (eL dL_law_498) ?_
          refine PW.istore [(0, _), (1, _), (2, _), (3, _), (4, _), (5, _), (6, _), (7, _), (8, _), (9, _), (10, _), (11, _), (12, _), (13, _), (14, _)] (eL dL_law_499) rfl (Nat.le_of_ble_eq_true rfl) ?_
          exact law_501 hnb hm hx hy hbd hrw hmg 6 0 _ 0 S _ _ _ (by omega) (by omega) (by omega) hL3 (by omega) rfl (by omega) (by omega) (by omega)
        · omega
      · refine PW.iconst (eL dL_law_476) ?_
        refine PW.goto 481 (eL dL_law_477) (by decide) ?_
        refine PW.top (nS m) (by first | (rw [show m = 0 by omega, nS_3.1]) | (rw [show m = 1 by omega, nS_3.2.1]) | (rw [show m = 2 by omega, nS_3.2.2])) ?_
        refine PW.istore [(0, _), (1, _), (2, _), (3, _), (4, _), (5, _), (6, _), (7, _), (8, _), (9, _), (10, _), (11, _), (12, _)] (eL dL_law_481) rfl (Nat.le_of_ble_eq_true rfl) ?_
        refine PW.aload_n (eL dL_law_483) rfl ?_
        refine PW.iconst (eL dL_law_484) ?_
        refine PW.callVg (v_stories hO2 (k := 0) (by omega) (by omega) (by omega)) cv_X11_stories lk_L_43 hO2.1.1 (eL dL_law_485) rfl rfl rfl (okC_mk rfl (Nat.le_of_ble_eq_true rfl) (Nat.le_of_ble_eq_true rfl) (Nat.le_of_ble_eq_true rfl) (lawC hkn.1) (lawS hkn.2)) (fun r S' τ485 hq => ?_)
        obtain ⟨hS, rfl, hF, hO3⟩ := hq
        have hS2 := hS.symm
        subst hS2
        have hL3 := hL.o hF hO3
        refine PW.top (nS m) (ftC_all (fun s => uP_0 _ _ _ _ _ s) (by omega)) ?_
        refine PW.iload (eL dL_law_488) rfl ?_
        refine PW.icmp_eq 495 (eL dL_law_490) (by decide) (by first | assumption | (unfold inR; omega)) (by first | assumption | (unfold inR; omega)) (fun h490 => ?_) (fun h490 => ?_)
        · refine PW.iconst (eL dL_law_495) ?_
          refine PW.istore [(0, _), (1, _), (2, _), (3, _), (4, _), (5, _), (6, _), (7, _), (8, _), (9, _), (10, _), (11, _), (12, _), (13, _)] (eL dL_law_496) rfl (Nat.le_of_ble_eq_true rfl) ?_
          refine PW.iconst (eL dL_law_498) ?_
          refine PW.istore [(0, _), (1, _), (2, _), (3, _), (4, _), (5, _), (6, _), (7, _), (8, _), (9, _), (10, _), (11, _), (12, _), (13, _), (14, _)] (eL dL_law_499) rfl (Nat.le_of_ble_eq_true rfl) ?_
          exact law_501 hnb hm hx hy hbd hrw hmg 6 0 _ 0 S _ _ _ (by omega) (by omega) (by omega) hL3 (by omega) rfl (by omega) (by omega) (by omega)
        · omega
    · refine PW.iconst (eL dL_law_467) ?_
      refine PW.goto 481 (eL dL_law_468) (by decide) ?_
      refine PW.top (nS m) (by first | (rw [show m = 0 by omega, nS_3.1]) | (rw [show m = 1 by omega, nS_3.2.1]) | (rw [show m = 2 by omega, nS_3.2.2])) ?_
      refine PW.istore [(0, _), (1, _), (2, _), (3, _), (4, _), (5, _), (6, _), (7, _), (8, _), (9, _), (10, _), (11, _), (12, _)] (eL dL_law_481) rfl (Nat.le_of_ble_eq_true rfl) ?_
      refine PW.aload_n (eL dL_law_483) rfl ?_
      refine PW.iconst (eL dL_law_484) ?_
      refine PW.callVg (v_stories hO2 (k := 0) (by omega) (by omega) (by omega)) cv_X11_stories lk_L_43 hO2.1.1 (eL dL_law_485) rfl rfl rfl (okC_mk rfl (Nat.le_of_ble_eq_true rfl) (Nat.le_of_ble_eq_true rfl) (Nat.le_of_ble_eq_true rfl) (lawC hkn.1) (lawS hkn.2)) (fun r S' τ485 hq => ?_)
      obtain ⟨hS, rfl, hF, hO3⟩ := hq
      have hS2 := hS.symm
      subst hS2
      have hL3 := hL.o hF hO3
      refine PW.top (nS m) (ftC_all (fun s => uP_0 _ _ _ _ _ s) (by omega)) ?_
      refine PW.iload (eL dL_law_488) rfl ?_
      refine PW.icmp_eq 495 (eL dL_law_490) (by decide) (by first | assumption | (unfold inR; omega)) (by first | assumption | (unfold inR; omega)) (fun h490 => ?_) (fun h490 => ?_)
      · refine PW.iconst (eL dL_law_495) ?_
        refine PW.istore [(0, _), (1, _), (2, _), (3, _), (4, _), (5, _), (6, _), (7, _), (8, _), (9, _), (10, _), (11, _), (12, _), (13, _)] (eL dL_law_496) rfl (Nat.le_of_ble_eq_true rfl) ?_
        refine PW.iconst (eL dL_law_498) ?_
        refine PW.istore [(0, _), (1, _), (2, _), (3, _), (4, _), (5, _), (6, _), (7, _), (8, _), (9, _), (10, _), (11, _), (12, _), (13, _), (14, _)] (eL dL_law_499) rfl (Nat.le_of_ble_eq_true rfl) ?_
        exact law_501 hnb hm hx hy hbd hrw hmg 6 0 _ 0 S _ _ _ (by omega) (by omega) (by omega) hL3 (by omega) rfl (by omega) (by omega) (by omega)
      · omega
  · omega
set_option maxRecDepth 20000 in
theorem law_386 {G : GT} {b k n : Nat} {S : Shp} {σ : Sto} {nb m : Int} {f g sg0 K A B C D : Int → Int}  (hkn : k ≤ 100000 ∧ n ≤ 1000000) (hS0 : S.1 = 478) (hk0 : k = 478) (hn0 : n = 33902) (hnb : 0 ≤ nb ∧ nb ≤ 3) (hm : 0 ≤ m ∧ m ≤ 2) (hrw : ∀ q, 0 ≤ q → q < nb → rwOk f q) (hmg : MG m g K A B C D) (hA1 : At S 473 (sA 0 2)) (hA2 : At S 474 (sA 0 2)) (hA3 : At S 475 (sA 0 2)) (hA4 : At S 476 (sA 0 2)) (hA5 : At S 477 (sA 0 2)) (hc1 : σ 473 = K) (hc2 : σ 474 = A) (hc3 : σ 475 = B) (hc4 : σ 476 = C) (hc5 : σ 477 = D) (hO : Ob S σ 0 0 nb f m g 0 sg0) : PW (xL b (gB G)) G S (σ) k n 386 [(0, .ref 1000021), (1, .ref 0), (2, .int (iI (nb))), (3, .int (iI (m))), (4, .ref 473), (5, .ref 474), (6, .ref 475), (7, .ref 476), (8, .ref 477)] [] := by
  have hx := loF_b (ceF G 50) (n := 8) (by decide)
  have hy := loF_b (ceF G 51) (n := 8) (by decide)
  have hbd := loF_b (ceF G 52) (n := 5) (by decide)
  refine PW.aload_n (eL dL_law_386) rfl ?_
  refine PW.bipush (by decide) (eL dL_law_387) ?_
  refine PW.callSr (c_L_cell (by omega)) cs_L_cell lk_L_25 (eL dL_law_389) rfl rfl (okC_mk rfl (Nat.le_of_ble_eq_true rfl) (Nat.le_of_ble_eq_true rfl) (Nat.le_of_ble_eq_true rfl) (lawC hkn.1) (lawS hkn.2)) ?_
  refine PW.bipush (by decide) (eL dL_law_392) ?_
  refine PW.callSr (c_L_low (by omega)) cs_L_low lk_L_19 (eL dL_law_394) rfl rfl (okC_mk rfl (Nat.le_of_ble_eq_true rfl) (Nat.le_of_ble_eq_true rfl) (Nat.le_of_ble_eq_true rfl) (lawC hkn.1) (lawS hkn.2)) ?_
  refine PW.istore [(0, _), (1, _), (2, _), (3, _), (4, _), (5, _), (6, _), (7, _), (8, _), (9, _)] (eL dL_law_397) rfl (Nat.le_of_ble_eq_true rfl) ?_
  refine PW.aload_n (eL dL_law_399) rfl ?_
  refine PW.bipush (by decide) (eL dL_law_400) ?_
  refine PW.callSr (c_L_cell (by omega)) cs_L_cell lk_L_25 (eL dL_law_402) rfl rfl (okC_mk rfl (Nat.le_of_ble_eq_true rfl) (Nat.le_of_ble_eq_true rfl) (Nat.le_of_ble_eq_true rfl) (lawC hkn.1) (lawS hkn.2)) ?_
  refine PW.bipush (by decide) (eL dL_law_405) ?_
  refine PW.callSr (c_L_low (by omega)) cs_L_low lk_L_19 (eL dL_law_407) rfl rfl (okC_mk rfl (Nat.le_of_ble_eq_true rfl) (Nat.le_of_ble_eq_true rfl) (Nat.le_of_ble_eq_true rfl) (lawC hkn.1) (lawS hkn.2)) ?_
  refine PW.istore [(0, _), (1, _), (2, _), (3, _), (4, _), (5, _), (6, _), (7, _), (8, _), (9, _), (10, _)] (eL dL_law_410) rfl (Nat.le_of_ble_eq_true rfl) ?_
  refine PW.aload_n (eL dL_law_412) rfl ?_
  refine PW.bipush (by decide) (eL dL_law_413) ?_
  refine PW.callSr (c_L_cell (by omega)) cs_L_cell lk_L_25 (eL dL_law_415) rfl rfl (okC_mk rfl (Nat.le_of_ble_eq_true rfl) (Nat.le_of_ble_eq_true rfl) (Nat.le_of_ble_eq_true rfl) (lawC hkn.1) (lawS hkn.2)) ?_
  refine PW.iconst (eL dL_law_418) ?_
  refine PW.callSr (c_L_low (by omega)) cs_L_low lk_L_19 (eL dL_law_419) rfl rfl (okC_mk rfl (Nat.le_of_ble_eq_true rfl) (Nat.le_of_ble_eq_true rfl) (Nat.le_of_ble_eq_true rfl) (lawC hkn.1) (lawS hkn.2)) ?_
  refine PW.istore [(0, _), (1, _), (2, _), (3, _), (4, _), (5, _), (6, _), (7, _), (8, _), (9, _), (10, _), (11, _)] (eL dL_law_422) rfl (Nat.le_of_ble_eq_true rfl) ?_
  refine PW.aload_n (eL dL_law_424) rfl ?_
  refine PW.iconst (eL dL_law_425) ?_
  refine PW.iload (eL dL_law_426) rfl ?_
  refine PW.iload (eL dL_law_428) rfl ?_
  refine PW.iload (eL dL_law_430) rfl ?_
  refine PW.iconst (eL dL_law_432) ?_
  refine PW.icmp_ne 441 (eL dL_law_433) (by decide) (by first | assumption | (unfold inR; omega)) (by first | assumption | (unfold inR; omega)) (fun h433 => ?_) (fun h433 => ?_)
  · refine PW.iload (eL dL_law_441) rfl ?_
    refine PW.iconst (eL dL_law_443) ?_
    refine PW.icmp_ne 451 (eL dL_law_444) (by decide) (by first | assumption | (unfold inR; omega)) (by first | assumption | (unfold inR; omega)) (fun h444 => ?_) (fun h444 => ?_)
    · refine PW.iload (eL dL_law_451) rfl ?_
      refine PW.top (bdF (loF (ceF G 52) 5)) (by unfold bdF; first | (rw [if_pos (by omega)]) | (rw [if_neg (by omega), if_pos (by omega)]) | (rw [if_neg (by omega), if_neg (by omega)])) ?_
      exact law_453 hkn hS0 hk0 hn0 hnb hm hx hy (by omega) hrw hmg hA1 hA2 hA3 hA4 hA5 hc1 hc2 hc3 hc4 hc5 hO
    · refine PW.iconst (eL dL_law_447) ?_
      refine PW.goto 453 (eL dL_law_448) (by decide) ?_
      refine PW.top (bdF (loF (ceF G 52) 5)) (by unfold bdF; first | (rw [if_pos (by omega)]) | (rw [if_neg (by omega), if_pos (by omega)]) | (rw [if_neg (by omega), if_neg (by omega)])) ?_
      exact law_453 hkn hS0 hk0 hn0 hnb hm hx hy (by omega) hrw hmg hA1 hA2 hA3 hA4 hA5 hc1 hc2 hc3 hc4 hc5 hO
  · refine PW.bipush (by decide) (eL dL_law_436) ?_
    refine PW.goto 453 (eL dL_law_438) (by decide) ?_
    refine PW.top (bdF (loF (ceF G 52) 5)) (by unfold bdF; first | (rw [if_pos (by omega)]) | (rw [if_neg (by omega), if_pos (by omega)]) | (rw [if_neg (by omega), if_neg (by omega)])) ?_
    exact law_453 hkn hS0 hk0 hn0 hnb hm hx hy (by omega) hrw hmg hA1 hA2 hA3 hA4 hA5 hc1 hc2 hc3 hc4 hc5 hO
set_option maxRecDepth 20000 in
theorem law_264 {G : GT} {b k n : Nat} {S : Shp} {σ : Sto} {nb m i : Int} {f g sg0 : Int → Int} {kk w0 : Int}  (hkn : k ≤ 100000 ∧ n ≤ 1000000) (hK : ∀ (τ : Sto) (g2 : Int → Int), Ob S τ 0 0 nb f (i + 1) g2 0 sg0 → MG (i + 1) g2 (τ 473) (τ 474) (τ 475) (τ 476) (τ 477) → PW (xL b (gB G)) G S τ k n 185 [(0, .ref 1000021), (1, .ref 0), (2, .int (iI (nb))), (3, .int (iI (m))), (4, .ref 473), (5, .ref 474), (6, .ref 475), (7, .ref 476), (8, .ref 477), (9, .int (iI (i + 1)))] []) (hi : 0 ≤ i ∧ i < 2) (hO : Ob S σ 0 0 nb f i g 0 sg0) (hA1 : At S 473 (sA 0 2)) (hA2 : At S 474 (sA 0 2)) (hA3 : At S 475 (sA 0 2)) (hA4 : At S 476 (sA 0 2)) (hA5 : At S 477 (sA 0 2)) (hmg : MG i g (σ 473) (σ 474) (σ 475) (σ 476) (σ 477)) (hkk : 0 ≤ kk ∧ kk ≤ 4) (d0 : drK kk 0 w0) (b0 : -40 ≤ w0 ∧ w0 ≤ 39) : PW (xL b (gB G)) G S ((upS σ 473 (up1 (σ 473) i kk))) k n 264 [(0, .ref 1000021), (1, .ref 0), (2, .int (iI (nb))), (3, .int (iI (m))), (4, .ref 473), (5, .ref 474), (6, .ref 475), (7, .ref 476), (8, .ref 477), (9, .int (iI (i)))] [.int (iI w0), .int (iI i), .ref 474] := by
  have hS0 := hA5.2
  refine PW.iastore (by assumption) (by first | assumption | (unfold inR; omega)) (by omega) (by omega) (eL dL_law_264) ?_
  refine PW.gst (fun τ2 e2 => ?_)
  have k2 : τ2 473 i = kk := by rw [e2, upS_ne (by omega), upS_same, up1_same]
  refine PW.aload (eL dL_law_265) rfl ?_
  refine PW.iload (eL dL_law_267) rfl ?_
  refine PW.aload (eL dL_law_269) rfl ?_
  refine PW.iload (eL dL_law_271) rfl ?_
  refine PW.iaload (by assumption) (by first | assumption | (unfold inR; omega)) (by omega) (by omega) (eL dL_law_273) ?_
  refine PW.top kk (by rw [k2]) ?_
  refine PW.iconst (eL dL_law_274) ?_
  refine PW.aload_n (eL dL_law_275) rfl ?_
  refine PW.bipush (by decide) (eL dL_law_276) ?_
  refine PW.bipush (by decide) (eL dL_law_278) ?_
  refine PW.iload (eL dL_law_280) rfl ?_
  refine PW.imul (eL dL_law_282) ?_
  refine PW.iadd (eL dL_law_283) ?_
  refine PW.callSr (c_L_cell (by omega)) cs_L_cell lk_L_25 (eL dL_law_284) rfl rfl (okC_mk rfl (Nat.le_of_ble_eq_true rfl) (Nat.le_of_ble_eq_true rfl) (Nat.le_of_ble_eq_true rfl) (lawC hkn.1) (lawS hkn.2)) ?_
  refine PW.callSg (c_L_draw hkk (i := 1) (by decide)) cs_L_draw lk_L_29 (eL dL_law_287) rfl rfl (okC_mk rfl (Nat.le_of_ble_eq_true rfl) (Nat.le_of_ble_eq_true rfl) (Nat.le_of_ble_eq_true rfl) (lawC hkn.1) (lawS hkn.2)) (fun r S' τ287 hq => ?_)
  obtain ⟨-, w1, rfl, hS, rfl, d1, b1⟩ := hq
  have hS2 := hS.symm
  subst hS2
  replace d1 := drK_of d1
  refine PW.iastore (by assumption) (by first | assumption | (unfold inR; omega)) (by omega) (by omega) (eL dL_law_290) ?_
  refine PW.gst (fun τ3 e3 => ?_)
  have k3 : τ3 473 i = kk := by rw [e3, upS_ne (by omega)]; exact k2
  refine PW.aload (eL dL_law_291) rfl ?_
  refine PW.iload (eL dL_law_293) rfl ?_
  refine PW.aload (eL dL_law_295) rfl ?_
  refine PW.iload (eL dL_law_297) rfl ?_
  refine PW.iaload (by assumption) (by first | assumption | (unfold inR; omega)) (by omega) (by omega) (eL dL_law_299) ?_
  refine PW.top kk (by rw [k3]) ?_
  refine PW.iconst (eL dL_law_300) ?_
  refine PW.aload_n (eL dL_law_301) rfl ?_
  refine PW.bipush (by decide) (eL dL_law_302) ?_
  refine PW.bipush (by decide) (eL dL_law_304) ?_
  refine PW.iload (eL dL_law_306) rfl ?_
  refine PW.imul (eL dL_law_308) ?_
  refine PW.iadd (eL dL_law_309) ?_
  refine PW.callSr (c_L_cell (by omega)) cs_L_cell lk_L_25 (eL dL_law_310) rfl rfl (okC_mk rfl (Nat.le_of_ble_eq_true rfl) (Nat.le_of_ble_eq_true rfl) (Nat.le_of_ble_eq_true rfl) (lawC hkn.1) (lawS hkn.2)) ?_
  refine PW.callSg (c_L_draw hkk (i := 2) (by decide)) cs_L_draw lk_L_29 (eL dL_law_313) rfl rfl (okC_mk rfl (Nat.le_of_ble_eq_true rfl) (Nat.le_of_ble_eq_true rfl) (Nat.le_of_ble_eq_true rfl) (lawC hkn.1) (lawS hkn.2)) (fun r S' τ313 hq => ?_)
  obtain ⟨-, w2, rfl, hS, rfl, d2, b2⟩ := hq
  have hS2 := hS.symm
  subst hS2
  replace d2 := drK_of d2
  refine PW.iastore (by assumption) (by first | assumption | (unfold inR; omega)) (by omega) (by omega) (eL dL_law_316) ?_
  refine PW.gst (fun τ4 e4 => ?_)
  have k4 : τ4 473 i = kk := by rw [e4, upS_ne (by omega)]; exact k3
  refine PW.aload (eL dL_law_317) rfl ?_
  refine PW.iload (eL dL_law_319) rfl ?_
  refine PW.aload (eL dL_law_321) rfl ?_
  refine PW.iload (eL dL_law_323) rfl ?_
  refine PW.iaload (by assumption) (by first | assumption | (unfold inR; omega)) (by omega) (by omega) (eL dL_law_325) ?_
  refine PW.top kk (by rw [k4]) ?_
  refine PW.iconst (eL dL_law_326) ?_
  refine PW.aload_n (eL dL_law_327) rfl ?_
  refine PW.bipush (by decide) (eL dL_law_328) ?_
  refine PW.bipush (by decide) (eL dL_law_330) ?_
  refine PW.iload (eL dL_law_332) rfl ?_
  refine PW.imul (eL dL_law_334) ?_
  refine PW.iadd (eL dL_law_335) ?_
  refine PW.callSr (c_L_cell (by omega)) cs_L_cell lk_L_25 (eL dL_law_336) rfl rfl (okC_mk rfl (Nat.le_of_ble_eq_true rfl) (Nat.le_of_ble_eq_true rfl) (Nat.le_of_ble_eq_true rfl) (lawC hkn.1) (lawS hkn.2)) ?_
  refine PW.callSg (c_L_draw hkk (i := 3) (by decide)) cs_L_draw lk_L_29 (eL dL_law_339) rfl rfl (okC_mk rfl (Nat.le_of_ble_eq_true rfl) (Nat.le_of_ble_eq_true rfl) (Nat.le_of_ble_eq_true rfl) (lawC hkn.1) (lawS hkn.2)) (fun r S' τ339 hq => ?_)
  obtain ⟨-, w3, rfl, hS, rfl, d3, b3⟩ := hq
  have hS2 := hS.symm
  subst hS2
  replace d3 := drK_of d3
  refine PW.iastore (by assumption) (by first | assumption | (unfold inR; omega)) (by omega) (by omega) (eL dL_law_342) ?_
  refine PW.gst (fun τ5 e5 => ?_)
  have k5 : τ5 473 = up1 (σ 473) i kk := by rw [e5, upS_ne (by omega), e4, upS_ne (by omega), e3, upS_ne (by omega), e2, upS_ne (by omega), upS_same]
  have a5 : τ5 474 = up1 (σ 474) i w0 := by rw [e5, upS_ne (by omega), e4, upS_ne (by omega), e3, upS_ne (by omega), e2, upS_same, upS_ne (by omega)]
  have c5 : τ5 475 = up1 (σ 475) i w1 := by rw [e5, upS_ne (by omega), e4, upS_ne (by omega), e3, upS_same, e2, upS_ne (by omega), upS_ne (by omega)]
  have f5 : τ5 476 = up1 (σ 476) i w2 := by rw [e5, upS_ne (by omega), e4, upS_same, e3, upS_ne (by omega), e2, upS_ne (by omega), upS_ne (by omega)]
  have g5 : τ5 477 = up1 (σ 477) i w3 := by rw [e5, upS_same, e4, upS_ne (by omega), e3, upS_ne (by omega), e2, upS_ne (by omega), upS_ne (by omega)]
  have o5 : ∀ q, q < 473 → τ5 q = σ q := fun q hq => by rw [e5, upS_ne (by omega), e4, upS_ne (by omega), e3, upS_ne (by omega), e2, upS_ne (by omega), upS_ne (by omega)]
  have hO5 := hO.fr (S' := S) (τ := τ5) (fun _ _ _ => rfl) (fun q _ q1 => o5 q (by omega)) (by omega)
  clear e2 e3 e4 e5 k2 k3 k4 o5
  have hok := okEv_4 hkk d0 d1 d2 d3
  refine PW.aload_n (eL dL_law_343) rfl ?_
  refine PW.aload (eL dL_law_344) rfl ?_
  refine PW.iload (eL dL_law_346) rfl ?_
  refine PW.iaload (by assumption) (by first | assumption | (unfold inR; omega)) (by omega) (by omega) (eL dL_law_348) ?_
  refine PW.top kk (by rw [k5, up1_same]) ?_
  refine PW.aload (eL dL_law_349) rfl ?_
  refine PW.iload (eL dL_law_351) rfl ?_
  refine PW.iaload (by assumption) (by first | assumption | (unfold inR; omega)) (by omega) (by omega) (eL dL_law_353) ?_
  refine PW.top w0 (by rw [a5, up1_same]) ?_
  refine PW.aload (eL dL_law_354) rfl ?_
  refine PW.iload (eL dL_law_356) rfl ?_
  refine PW.iaload (by assumption) (by first | assumption | (unfold inR; omega)) (by omega) (by omega) (eL dL_law_358) ?_
  refine PW.top w1 (by rw [c5, up1_same]) ?_
  refine PW.aload (eL dL_law_359) rfl ?_
  refine PW.iload (eL dL_law_361) rfl ?_
  refine PW.iaload (by assumption) (by first | assumption | (unfold inR; omega)) (by omega) (by omega) (eL dL_law_363) ?_
  refine PW.top w2 (by rw [f5, up1_same]) ?_
  refine PW.aload (eL dL_law_364) rfl ?_
  refine PW.iload (eL dL_law_366) rfl ?_
  refine PW.iaload (by assumption) (by first | assumption | (unfold inR; omega)) (by omega) (by omega) (eL dL_law_368) ?_
  refine PW.top w3 (by rw [g5, up1_same]) ?_
  refine PW.iconst (eL dL_law_369) ?_
  refine PW.callVg (v_maybe hO5 hok (by omega) (by unfold inR; omega) (by unfold inR; omega) (by unfold inR; omega) (by unfold inR; omega) (by unfold inR; omega) (by unfold inR; omega)) cv_X11_maybe lk_L_37 hO5.1.1 (eL dL_law_370) rfl rfl rfl (okC_mk rfl (Nat.le_of_ble_eq_true rfl) (Nat.le_of_ble_eq_true rfl) (Nat.le_of_ble_eq_true rfl) (lawC hkn.1) (lawS hkn.2)) (fun r S' τ370 hq => ?_)
  obtain ⟨hS, rfl, hF, hO6⟩ := hq
  have hS2 := hS.symm
  subst hS2
  clear hok
  refine PW.iload (eL dL_law_373) rfl ?_
  refine PW.icmp_eq 380 (eL dL_law_375) (by decide) (by first | assumption | (unfold inR; omega)) (by first | assumption | (unfold inR; omega)) (fun h375 => ?_) (fun h375 => ?_)
  · refine PW.iinc [(0, _), (1, _), (2, _), (3, _), (4, _), (5, _), (6, _), (7, _), (8, _), (9, _)] (eL dL_law_380) rfl rfl (Nat.le_of_ble_eq_true rfl) ?_
    refine PW.goto 185 (eL dL_law_383) (by decide) ?_
    refine hK _ _ hO6 (fun q q0 q1 => ?_)
    rw [hF 473 (by omega), hF 474 (by omega), hF 475 (by omega), hF 476 (by omega), hF 477 (by omega), k5, a5, c5, f5, g5]
    by_cases e : q = i
    · subst e
      refine ⟨⟨?_, fun p p0 p1 => ?_⟩, ?_⟩
      · rw [up1_same, up1_same, up1_same, up1_same, up1_same]
        exact okEv_4 hkk d0 d1 d2 d3
      · rw [up1_same, up1_same, up1_same, up1_same, up1_same]
        exact adF_at p0 (by omega)
      · rw [up1_same, up1_same, up1_same, up1_same, up1_same]
        unfold inR
        omega
    · have h := hmg q q0 (by omega)
      refine ⟨⟨?_, fun p p0 p1 => ?_⟩, ?_⟩
      · rw [up1_ne e, up1_ne e, up1_ne e, up1_ne e, up1_ne e]
        exact h.1.1
      · rw [up1_ne e, up1_ne e, up1_ne e, up1_ne e, up1_ne e, adF_ne (by omega)]
        exact h.1.2 p p0 p1
      · rw [up1_ne e, up1_ne e, up1_ne e, up1_ne e, up1_ne e]
        exact h.2
  · omega
set_option maxRecDepth 20000 in
theorem law_185 {G : GT} {b k n : Nat} {S : Shp} {nb m : Int} {f sg0 : Int → Int} (hkn : k ≤ 100000 ∧ n ≤ 1000000) (hS0 : S.1 = 478) (hk0 : k = 478) (hn0 : n = 33902) (hnb : 0 ≤ nb ∧ nb ≤ 3) (hm : 0 ≤ m ∧ m ≤ 2) (hrw : ∀ q, 0 ≤ q → q < nb → rwOk f q) (hA1 : At S 473 (sA 0 2)) (hA2 : At S 474 (sA 0 2)) (hA3 : At S 475 (sA 0 2)) (hA4 : At S 476 (sA 0 2)) (hA5 : At S 477 (sA 0 2)) : ∀ (fuel : Nat) (i : Int) (σ : Sto) (g : Int → Int), 0 ≤ i → i ≤ m → m - i < fuel → Ob S σ 0 0 nb f i g 0 sg0 → MG i g (σ 473) (σ 474) (σ 475) (σ 476) (σ 477) → PW (xL b (gB G)) G S σ k n 185 [(0, .ref 1000021), (1, .ref 0), (2, .int (iI (nb))), (3, .int (iI (m))), (4, .ref 473), (5, .ref 474), (6, .ref 475), (7, .ref 476), (8, .ref 477), (9, .int (iI (i)))] [] := by
  intro fuel
  induction fuel with
  | zero => intro i σ g h1 h2 h3; omega
  | succ fuel ih =>
    intro i σ g h1 h2 h3 hO hmg
    have hb5 := loF_b (ceF G (31 + 6 * i)) (n := 5) (by decide)
    have hb3 := loF_b (ceF G (32 + 6 * i)) (n := 3) (by decide)
    refine PW.iload (eL dL_law_185) rfl ?_
    refine PW.iload_n (eL dL_law_187) rfl ?_
    refine PW.icmp_ge 386 (eL dL_law_188) (by decide) (by first | assumption | (unfold inR; omega)) (by first | assumption | (unfold inR; omega)) (fun h188 => ?_) (fun h188 => ?_)
    · have hi2 : i = m := by omega
      subst hi2
      exact PW.take 9 (law_386 hkn hS0 hk0 hn0 hnb hm hrw hmg hA1 hA2 hA3 hA4 hA5 rfl rfl rfl rfl rfl hO)
    · refine PW.aload (eL dL_law_191) rfl ?_
      refine PW.iload (eL dL_law_193) rfl ?_
      refine PW.aload_n (eL dL_law_195) rfl ?_
      refine PW.bipush (by decide) (eL dL_law_196) ?_
      refine PW.bipush (by decide) (eL dL_law_198) ?_
      refine PW.iload (eL dL_law_200) rfl ?_
      refine PW.imul (eL dL_law_202) ?_
      refine PW.iadd (eL dL_law_203) ?_
      refine PW.callSr (c_L_cell (by omega)) cs_L_cell lk_L_25 (eL dL_law_204) rfl rfl (okC_mk rfl (Nat.le_of_ble_eq_true rfl) (Nat.le_of_ble_eq_true rfl) (Nat.le_of_ble_eq_true rfl) (lawC hkn.1) (lawS hkn.2)) ?_
      refine PW.iconst (eL dL_law_207) ?_
      refine PW.callSr (c_L_low (by omega)) cs_L_low lk_L_19 (eL dL_law_208) rfl rfl (okC_mk rfl (Nat.le_of_ble_eq_true rfl) (Nat.le_of_ble_eq_true rfl) (Nat.le_of_ble_eq_true rfl) (lawC hkn.1) (lawS hkn.2)) ?_
      refine PW.iastore (by assumption) (by first | assumption | (unfold inR; omega)) (by omega) (by omega) (eL dL_law_211) ?_
      refine PW.aload (eL dL_law_212) rfl ?_
      refine PW.iload (eL dL_law_214) rfl ?_
      refine PW.aload (eL dL_law_216) rfl ?_
      refine PW.iload (eL dL_law_218) rfl ?_
      refine PW.iaload (by assumption) (by first | assumption | (unfold inR; omega)) (by omega) (by omega) (eL dL_law_220) ?_
      refine PW.top (loF (ceF G (31 + 6 * i)) 5) (by rw [upS_same, up1_same]) ?_
      refine PW.if_ne 243 (eL dL_law_221) (by decide) (by first | assumption | (unfold inR; omega)) (fun h221 => ?_) (fun h221 => ?_)
      · refine PW.aload (eL dL_law_243) rfl ?_
        refine PW.iload (eL dL_law_245) rfl ?_
        refine PW.iaload (by assumption) (by first | assumption | (unfold inR; omega)) (by omega) (by omega) (eL dL_law_247) ?_
        refine PW.top (loF (ceF G (31 + 6 * i)) 5) (by rw [upS_same, up1_same]) ?_
        refine PW.iconst (eL dL_law_248) ?_
        refine PW.aload_n (eL dL_law_249) rfl ?_
        refine PW.bipush (by decide) (eL dL_law_250) ?_
        refine PW.bipush (by decide) (eL dL_law_252) ?_
        refine PW.iload (eL dL_law_254) rfl ?_
        refine PW.imul (eL dL_law_256) ?_
        refine PW.iadd (eL dL_law_257) ?_
        refine PW.callSr (c_L_cell (by omega)) cs_L_cell lk_L_25 (eL dL_law_258) rfl rfl (okC_mk rfl (Nat.le_of_ble_eq_true rfl) (Nat.le_of_ble_eq_true rfl) (Nat.le_of_ble_eq_true rfl) (lawC hkn.1) (lawS hkn.2)) ?_
        refine PW.callSg (c_L_draw (k := loF (ceF G (31 + 6 * i)) 5) (by omega) (i := 0) (by decide)) cs_L_draw lk_L_29 (eL dL_law_261) rfl rfl (okC_mk rfl (Nat.le_of_ble_eq_true rfl) (Nat.le_of_ble_eq_true rfl) (Nat.le_of_ble_eq_true rfl) (lawC hkn.1) (lawS hkn.2)) (fun r S' τ261 hq => ?_)
        obtain ⟨-, w0, rfl, hS, rfl, d0, b0⟩ := hq
        have hS2 := hS.symm
        subst hS2
        replace d0 := drK_of d0
        first
          | exact law_264 hkn (fun τ g2 hO2 hM2 => ih (i + 1) τ g2 (by omega) (by omega) (by omega) hO2 hM2) (by omega) hO hA1 hA2 hA3 hA4 hA5 hmg (by omega) d0 b0
          | exact law_264 hkn (fun τ g2 hO2 hM2 => ih (i + 1) τ g2 (by omega) (by omega) (by omega) hO2 hM2) (by omega) hO hA1 hA2 hA3 hA4 hA5 hmg (by omega) (by rw [show loF (ceF G (31 + 6 * i)) 5 = 0 by omega]; exact drK_of (suF_lay (by omega))) (by omega)
      · refine PW.aload_n (eL dL_law_224) rfl ?_
        refine PW.bipush (by decide) (eL dL_law_225) ?_
        refine PW.bipush (by decide) (eL dL_law_227) ?_
        refine PW.iload (eL dL_law_229) rfl ?_
        refine PW.imul (eL dL_law_231) ?_
        refine PW.iadd (eL dL_law_232) ?_
        refine PW.callSr (c_L_cell (by omega)) cs_L_cell lk_L_25 (eL dL_law_233) rfl rfl (okC_mk rfl (Nat.le_of_ble_eq_true rfl) (Nat.le_of_ble_eq_true rfl) (Nat.le_of_ble_eq_true rfl) (lawC hkn.1) (lawS hkn.2)) ?_
        refine PW.iconst (eL dL_law_236) ?_
        refine PW.callSr (c_L_low (by omega)) cs_L_low lk_L_19 (eL dL_law_237) rfl rfl (okC_mk rfl (Nat.le_of_ble_eq_true rfl) (Nat.le_of_ble_eq_true rfl) (Nat.le_of_ble_eq_true rfl) (lawC hkn.1) (lawS hkn.2)) ?_
        refine PW.goto 264 (eL dL_law_240) (by decide) ?_
        first
          | exact law_264 hkn (fun τ g2 hO2 hM2 => ih (i + 1) τ g2 (by omega) (by omega) (by omega) hO2 hM2) (by omega) hO hA1 hA2 hA3 hA4 hA5 hmg (by omega) d0 b0
          | exact law_264 hkn (fun τ g2 hO2 hM2 => ih (i + 1) τ g2 (by omega) (by omega) (by omega) hO2 hM2) (by omega) hO hA1 hA2 hA3 hA4 hA5 hmg (by omega) (by rw [show loF (ceF G (31 + 6 * i)) 5 = 0 by omega]; exact drK_of (suF_lay (by omega))) (by omega)
set_option maxRecDepth 20000 in
theorem law_146 {G : GT} {b k n : Nat} {S : Shp} {σ : Sto} {nb : Int} {f g sg : Int → Int}  (hkn : k ≤ 100000 ∧ n ≤ 1000000) (hS0 : S.1 = 473) (hk0 : k = 473) (hn0 : n = 33892) (hnb : 0 ≤ nb ∧ nb ≤ 3) (hrw : ∀ q, 0 ≤ q → q < nb → rwOk f q) (hO : Ob S σ 0 0 nb f 0 g 0 sg) : PW (xL b (gB G)) G S (σ) k n 146 [(0, .ref 1000021), (1, .ref 0), (2, .int (iI (nb))), (3, .int (iI (nb)))] [] := by
  have hm := loF_b (ceF G 30) (n := 3) (by decide)
  refine PW.aload_n (eL dL_law_146) rfl ?_
  refine PW.bipush (by decide) (eL dL_law_147) ?_
  refine PW.callSr (c_L_cell (by omega)) cs_L_cell lk_L_25 (eL dL_law_149) rfl rfl (okC_mk rfl (Nat.le_of_ble_eq_true rfl) (Nat.le_of_ble_eq_true rfl) (Nat.le_of_ble_eq_true rfl) (lawC hkn.1) (lawS hkn.2)) ?_
  refine PW.iconst (eL dL_law_152) ?_
  refine PW.callSr (c_L_low (by omega)) cs_L_low lk_L_19 (eL dL_law_153) rfl rfl (okC_mk rfl (Nat.le_of_ble_eq_true rfl) (Nat.le_of_ble_eq_true rfl) (Nat.le_of_ble_eq_true rfl) (lawC hkn.1) (lawS hkn.2)) ?_
  refine PW.istore_n [(0, _), (1, _), (2, _), (3, _)] (eL dL_law_156) rfl (Nat.le_of_ble_eq_true rfl) ?_
  refine PW.iconst (eL dL_law_157) ?_
  refine PW.newA 473 2 0 (atype := .int) hS0 (by decide) ka_int (fun _ => rfl) rfl (by decide) (by omega) (by show k + 1 ≤ 600000; omega) (by show n + 2 ≤ 7302250; omega) (eL dL_law_158) (fun S0 p0 q0 r0 => ?_)
  refine PW.gst (fun τ0 e0 => ?_)
  refine PW.astore [(0, _), (1, _), (2, _), (3, _), (4, _)] (eL dL_law_160) rfl (Nat.le_of_ble_eq_true rfl) ?_
  refine PW.iconst (eL dL_law_162) ?_
  refine PW.newA 474 2 0 (atype := .int) p0 (by decide) ka_int (fun _ => rfl) rfl (by decide) (by omega) (by show k + 1 + 1 ≤ 600000; omega) (by show n + 2 + 2 ≤ 7302250; omega) (eL dL_law_163) (fun S1 p1 q1 r1 => ?_)
  refine PW.gst (fun τ1 e1 => ?_)
  refine PW.astore [(0, _), (1, _), (2, _), (3, _), (4, _), (5, _)] (eL dL_law_165) rfl (Nat.le_of_ble_eq_true rfl) ?_
  refine PW.iconst (eL dL_law_167) ?_
  refine PW.newA 475 2 0 (atype := .int) p1 (by decide) ka_int (fun _ => rfl) rfl (by decide) (by omega) (by show k + 1 + 1 + 1 ≤ 600000; omega) (by show n + 2 + 2 + 2 ≤ 7302250; omega) (eL dL_law_168) (fun S2 p2 q2 r2 => ?_)
  refine PW.gst (fun τ2 e2 => ?_)
  refine PW.astore [(0, _), (1, _), (2, _), (3, _), (4, _), (5, _), (6, _)] (eL dL_law_170) rfl (Nat.le_of_ble_eq_true rfl) ?_
  refine PW.iconst (eL dL_law_172) ?_
  refine PW.newA 476 2 0 (atype := .int) p2 (by decide) ka_int (fun _ => rfl) rfl (by decide) (by omega) (by show k + 1 + 1 + 1 + 1 ≤ 600000; omega) (by show n + 2 + 2 + 2 + 2 ≤ 7302250; omega) (eL dL_law_173) (fun S3 p3 q3 r3 => ?_)
  refine PW.gst (fun τ3 e3 => ?_)
  refine PW.astore [(0, _), (1, _), (2, _), (3, _), (4, _), (5, _), (6, _), (7, _)] (eL dL_law_175) rfl (Nat.le_of_ble_eq_true rfl) ?_
  refine PW.iconst (eL dL_law_177) ?_
  refine PW.newA 477 2 0 (atype := .int) p3 (by decide) ka_int (fun _ => rfl) rfl (by decide) (by omega) (by show k + 1 + 1 + 1 + 1 + 1 ≤ 600000; omega) (by show n + 2 + 2 + 2 + 2 + 2 ≤ 7302250; omega) (eL dL_law_178) (fun S4 p4 q4 r4 => ?_)
  refine PW.gst (fun τ4 e4 => ?_)
  refine PW.astore [(0, _), (1, _), (2, _), (3, _), (4, _), (5, _), (6, _), (7, _), (8, _)] (eL dL_law_180) rfl (Nat.le_of_ble_eq_true rfl) ?_
  refine PW.room (k' := 478) (n' := 33902) (by omega) (by omega) ?_
  have q00 := q0
  have hb1 : At S4 473 (sA 0 2) := ((((r0.fr (q1 _ (by omega)) (by omega)).fr (q2 _ (by omega)) (by omega)).fr (q3 _ (by omega)) (by omega)).fr (q4 _ (by omega)) (by omega))
  have hb2 : At S4 474 (sA 0 2) := (((r1.fr (q2 _ (by omega)) (by omega)).fr (q3 _ (by omega)) (by omega)).fr (q4 _ (by omega)) (by omega))
  have hb3 : At S4 475 (sA 0 2) := ((r2.fr (q3 _ (by omega)) (by omega)).fr (q4 _ (by omega)) (by omega))
  have hb4 : At S4 476 (sA 0 2) := (r3.fr (q4 _ (by omega)) (by omega))
  have hO4 : Ob S4 τ4 0 0 nb f 0 g 0 sg := hO.fr (fun q q0 q9 => by rw [q4 _ (by omega), q3 _ (by omega), q2 _ (by omega), q1 _ (by omega)]; exact q00 q (by omega)) (fun q q0 q9 => by rw [e4, upS_ne (by omega), e3, upS_ne (by omega), e2, upS_ne (by omega), e1, upS_ne (by omega), e0, upS_ne (by omega)]) (by omega)
  refine PW.iconst (eL dL_law_182) ?_
  refine PW.istore [(0, _), (1, _), (2, _), (3, _), (4, _), (5, _), (6, _), (7, _), (8, _), (9, _)] (eL dL_law_183) rfl (Nat.le_of_ble_eq_true rfl) ?_
  exact law_185 (by omega) (by omega) rfl rfl hnb (by omega) hrw hb1 hb2 hb3 hb4 r4 3 0 _ _ (by omega) (by omega) (by omega) hO4 (fun q z0 z1 => by omega)
set_option maxRecDepth 20000 in
theorem law_82 {G : GT} {b k n : Nat} {S : Shp} {σ : Sto} {nb i kk w0 : Int} {f g sg : Int → Int}  (hkn : k ≤ 100000 ∧ n ≤ 1000000) (hK : ∀ (τ : Sto) (f2 : Int → Int), Ob S τ 0 0 (i + 1) f2 0 g 0 sg → (∀ q, 0 ≤ q → q < i + 1 → rwOk f2 q) → PW (xL b (gB G)) G S τ k n 20 [(0, .ref 1000021), (1, .ref 0), (2, .int (iI (nb))), (3, .int (iI (i + 1)))] []) (hi : 0 ≤ i ∧ i < 3) (hO : Ob S σ 0 0 i f 0 g 0 sg) (hrw : ∀ q, 0 ≤ q → q < i → rwOk f q) (hkk : 0 ≤ kk ∧ kk ≤ 4) (d0 : drK kk 0 w0) (b0 : -40 ≤ w0 ∧ w0 ≤ 39) : PW (xL b (gB G)) G S (σ) k n 82 [(0, .ref 1000021), (1, .ref 0), (2, .int (iI (nb))), (3, .int (iI (i))), (4, .int (iI (kk)))] [.int (iI w0), .int (iI kk), .ref 0] := by
  refine PW.iload (eL dL_law_82) rfl ?_
  refine PW.iconst (eL dL_law_84) ?_
  refine PW.aload_n (eL dL_law_85) rfl ?_
  refine PW.iconst (eL dL_law_86) ?_
  refine PW.bipush (by decide) (eL dL_law_87) ?_
  refine PW.iload_n (eL dL_law_89) rfl ?_
  refine PW.imul (eL dL_law_90) ?_
  refine PW.iadd (eL dL_law_91) ?_
  refine PW.callSr (c_L_cell (by omega)) cs_L_cell lk_L_25 (eL dL_law_92) rfl rfl (okC_mk rfl (Nat.le_of_ble_eq_true rfl) (Nat.le_of_ble_eq_true rfl) (Nat.le_of_ble_eq_true rfl) (lawC hkn.1) (lawS hkn.2)) ?_
  refine PW.callSg (c_L_draw hkk (i := 1) (by decide)) cs_L_draw lk_L_29 (eL dL_law_95) rfl rfl (okC_mk rfl (Nat.le_of_ble_eq_true rfl) (Nat.le_of_ble_eq_true rfl) (Nat.le_of_ble_eq_true rfl) (lawC hkn.1) (lawS hkn.2)) (fun r S' τ95 hq => ?_)
  obtain ⟨-, w1, rfl, hS, rfl, d1, b1⟩ := hq
  have hS2 := hS.symm
  subst hS2
  replace d1 := drK_of d1
  refine PW.iload (eL dL_law_98) rfl ?_
  refine PW.iconst (eL dL_law_100) ?_
  refine PW.aload_n (eL dL_law_101) rfl ?_
  refine PW.iconst (eL dL_law_102) ?_
  refine PW.bipush (by decide) (eL dL_law_103) ?_
  refine PW.iload_n (eL dL_law_105) rfl ?_
  refine PW.imul (eL dL_law_106) ?_
  refine PW.iadd (eL dL_law_107) ?_
  refine PW.callSr (c_L_cell (by omega)) cs_L_cell lk_L_25 (eL dL_law_108) rfl rfl (okC_mk rfl (Nat.le_of_ble_eq_true rfl) (Nat.le_of_ble_eq_true rfl) (Nat.le_of_ble_eq_true rfl) (lawC hkn.1) (lawS hkn.2)) ?_
  refine PW.callSg (c_L_draw hkk (i := 2) (by decide)) cs_L_draw lk_L_29 (eL dL_law_111) rfl rfl (okC_mk rfl (Nat.le_of_ble_eq_true rfl) (Nat.le_of_ble_eq_true rfl) (Nat.le_of_ble_eq_true rfl) (lawC hkn.1) (lawS hkn.2)) (fun r S' τ111 hq => ?_)
  obtain ⟨-, w2, rfl, hS, rfl, d2, b2⟩ := hq
  have hS2 := hS.symm
  subst hS2
  replace d2 := drK_of d2
  refine PW.iload (eL dL_law_114) rfl ?_
  refine PW.iconst (eL dL_law_116) ?_
  refine PW.aload_n (eL dL_law_117) rfl ?_
  refine PW.iconst (eL dL_law_118) ?_
  refine PW.bipush (by decide) (eL dL_law_119) ?_
  refine PW.iload_n (eL dL_law_121) rfl ?_
  refine PW.imul (eL dL_law_122) ?_
  refine PW.iadd (eL dL_law_123) ?_
  refine PW.callSr (c_L_cell (by omega)) cs_L_cell lk_L_25 (eL dL_law_124) rfl rfl (okC_mk rfl (Nat.le_of_ble_eq_true rfl) (Nat.le_of_ble_eq_true rfl) (Nat.le_of_ble_eq_true rfl) (lawC hkn.1) (lawS hkn.2)) ?_
  refine PW.callSg (c_L_draw hkk (i := 3) (by decide)) cs_L_draw lk_L_29 (eL dL_law_127) rfl rfl (okC_mk rfl (Nat.le_of_ble_eq_true rfl) (Nat.le_of_ble_eq_true rfl) (Nat.le_of_ble_eq_true rfl) (lawC hkn.1) (lawS hkn.2)) (fun r S' τ127 hq => ?_)
  obtain ⟨-, w3, rfl, hS, rfl, d3, b3⟩ := hq
  have hS2 := hS.symm
  subst hS2
  replace d3 := drK_of d3
  refine PW.iconst (eL dL_law_130) ?_
  refine PW.callVg (v_event hO (okEv_4 hkk d0 d1 d2 d3) (by omega) (by unfold inR; omega) (by unfold inR; omega) (by unfold inR; omega) (by unfold inR; omega) (by unfold inR; omega) (by unfold inR; omega)) cv_X11_event lk_L_33 hO.1.1 (eL dL_law_131) rfl rfl rfl (okC_mk rfl (Nat.le_of_ble_eq_true rfl) (Nat.le_of_ble_eq_true rfl) (Nat.le_of_ble_eq_true rfl) (lawC hkn.1) (lawS hkn.2)) (fun r S' τ131 hq => ?_)
  obtain ⟨hS, rfl, hF, hO6⟩ := hq
  have hS2 := hS.symm
  subst hS2
  refine PW.iload_n (eL dL_law_134) rfl ?_
  refine PW.icmp_eq 140 (eL dL_law_135) (by decide) (by first | assumption | (unfold inR; omega)) (by first | assumption | (unfold inR; omega)) (fun h135 => ?_) (fun h135 => ?_)
  · refine PW.iinc [(0, _), (1, _), (2, _), (3, _), (4, _)] (eL dL_law_140) rfl rfl (Nat.le_of_ble_eq_true rfl) ?_
    refine PW.goto 20 (eL dL_law_143) (by decide) ?_
    refine PW.take 4 ?_
    refine hK _ _ hO6 (fun q q0 q1 => ?_)
    by_cases e : q = i
    · rw [e]
      exact rwOk_new hkk
    · exact rwOk_old (hrw q q0 (by omega)) (by omega)
  · omega
set_option maxRecDepth 20000 in
theorem law_20 {G : GT} {b k n : Nat} {S : Shp} {nb : Int} {g sg : Int → Int} (hkn : k ≤ 100000 ∧ n ≤ 1000000) (hS0 : S.1 = 473) (hk0 : k = 473) (hn0 : n = 33892) (hnb : 0 ≤ nb ∧ nb ≤ 3) : ∀ (fuel : Nat) (i : Int) (σ : Sto) (f : Int → Int), 0 ≤ i → i ≤ nb → nb - i < fuel → Ob S σ 0 0 i f 0 g 0 sg → (∀ q, 0 ≤ q → q < i → rwOk f q) → PW (xL b (gB G)) G S σ k n 20 [(0, .ref 1000021), (1, .ref 0), (2, .int (iI (nb))), (3, .int (iI (i)))] [] := by
  intro fuel
  induction fuel with
  | zero => intro i σ f h1 h2 h3; omega
  | succ fuel ih =>
    intro i σ f h1 h2 h3 hO hrw
    have hb5 := loF_b (ceF G (1 + 6 * i)) (n := 5) (by decide)
    have hb3 := loF_b (ceF G (2 + 6 * i)) (n := 3) (by decide)
    refine PW.iload_n (eL dL_law_20) rfl ?_
    refine PW.iload_n (eL dL_law_21) rfl ?_
    refine PW.icmp_ge 146 (eL dL_law_22) (by decide) (by first | assumption | (unfold inR; omega)) (by first | assumption | (unfold inR; omega)) (fun h22 => ?_) (fun h22 => ?_)
    · have hi2 : i = nb := by omega
      subst hi2
      exact law_146 hkn hS0 hk0 hn0 hnb hrw hO
    · refine PW.aload_n (eL dL_law_25) rfl ?_
      refine PW.iconst (eL dL_law_26) ?_
      refine PW.bipush (by decide) (eL dL_law_27) ?_
      refine PW.iload_n (eL dL_law_29) rfl ?_
      refine PW.imul (eL dL_law_30) ?_
      refine PW.iadd (eL dL_law_31) ?_
      refine PW.callSr (c_L_cell (by omega)) cs_L_cell lk_L_25 (eL dL_law_32) rfl rfl (okC_mk rfl (Nat.le_of_ble_eq_true rfl) (Nat.le_of_ble_eq_true rfl) (Nat.le_of_ble_eq_true rfl) (lawC hkn.1) (lawS hkn.2)) ?_
      refine PW.iconst (eL dL_law_35) ?_
      refine PW.callSr (c_L_low (by omega)) cs_L_low lk_L_19 (eL dL_law_36) rfl rfl (okC_mk rfl (Nat.le_of_ble_eq_true rfl) (Nat.le_of_ble_eq_true rfl) (Nat.le_of_ble_eq_true rfl) (lawC hkn.1) (lawS hkn.2)) ?_
      refine PW.istore [(0, _), (1, _), (2, _), (3, _), (4, _)] (eL dL_law_39) rfl (Nat.le_of_ble_eq_true rfl) ?_
      refine PW.aload_n (eL dL_law_41) rfl ?_
      refine PW.iload (eL dL_law_42) rfl ?_
      refine PW.iload (eL dL_law_44) rfl ?_
      refine PW.if_ne 66 (eL dL_law_46) (by decide) (by first | assumption | (unfold inR; omega)) (fun h46 => ?_) (fun h46 => ?_)
      · refine PW.iload (eL dL_law_66) rfl ?_
        refine PW.iconst (eL dL_law_68) ?_
        refine PW.aload_n (eL dL_law_69) rfl ?_
        refine PW.iconst (eL dL_law_70) ?_
        refine PW.bipush (by decide) (eL dL_law_71) ?_
        refine PW.iload_n (eL dL_law_73) rfl ?_
        refine PW.imul (eL dL_law_74) ?_
        refine PW.iadd (eL dL_law_75) ?_
        refine PW.callSr (c_L_cell (by omega)) cs_L_cell lk_L_25 (eL dL_law_76) rfl rfl (okC_mk rfl (Nat.le_of_ble_eq_true rfl) (Nat.le_of_ble_eq_true rfl) (Nat.le_of_ble_eq_true rfl) (lawC hkn.1) (lawS hkn.2)) ?_
        refine PW.callSg (c_L_draw (k := loF (ceF G (1 + 6 * i)) 5) (by omega) (i := 0) (by decide)) cs_L_draw lk_L_29 (eL dL_law_79) rfl rfl (okC_mk rfl (Nat.le_of_ble_eq_true rfl) (Nat.le_of_ble_eq_true rfl) (Nat.le_of_ble_eq_true rfl) (lawC hkn.1) (lawS hkn.2)) (fun r S' τ79 hq => ?_)
        obtain ⟨-, w0, rfl, hS, rfl, d0, b0⟩ := hq
        have hS2 := hS.symm
        subst hS2
        replace d0 := drK_of d0
        first
          | exact law_82 hkn (fun τ f2 hO2 hM2 => ih (i + 1) τ f2 (by omega) (by omega) (by omega) hO2 hM2) (by omega) hO hrw (by omega) d0 b0
          | exact law_82 hkn (fun τ f2 hO2 hM2 => ih (i + 1) τ f2 (by omega) (by omega) (by omega) hO2 hM2) (by omega) hO hrw (by omega) (by rw [show loF (ceF G (1 + 6 * i)) 5 = 0 by omega]; exact drK_of (suF_lay (by omega))) (by omega)
      · refine PW.aload_n (eL dL_law_49) rfl ?_
        refine PW.iconst (eL dL_law_50) ?_
        refine PW.bipush (by decide) (eL dL_law_51) ?_
        refine PW.iload_n (eL dL_law_53) rfl ?_
        refine PW.imul (eL dL_law_54) ?_
        refine PW.iadd (eL dL_law_55) ?_
        refine PW.callSr (c_L_cell (by omega)) cs_L_cell lk_L_25 (eL dL_law_56) rfl rfl (okC_mk rfl (Nat.le_of_ble_eq_true rfl) (Nat.le_of_ble_eq_true rfl) (Nat.le_of_ble_eq_true rfl) (lawC hkn.1) (lawS hkn.2)) ?_
        refine PW.iconst (eL dL_law_59) ?_
        refine PW.callSr (c_L_low (by omega)) cs_L_low lk_L_19 (eL dL_law_60) rfl rfl (okC_mk rfl (Nat.le_of_ble_eq_true rfl) (Nat.le_of_ble_eq_true rfl) (Nat.le_of_ble_eq_true rfl) (lawC hkn.1) (lawS hkn.2)) ?_
        refine PW.goto 82 (eL dL_law_63) (by decide) ?_
        first
          | exact law_82 hkn (fun τ f2 hO2 hM2 => ih (i + 1) τ f2 (by omega) (by omega) (by omega) hO2 hM2) (by omega) hO hrw (by omega) d0 b0
          | exact law_82 hkn (fun τ f2 hO2 hM2 => ih (i + 1) τ f2 (by omega) (by omega) (by omega) hO2 hM2) (by omega) hO hrw (by omega) (by rw [show loF (ceF G (1 + 6 * i)) 5 = 0 by omega]; exact drK_of (suF_lay (by omega))) (by omega)
set_option maxRecDepth 20000 in
theorem law_run {G : GT} {S : Shp} {σ : Sto} {b : Nat} (hS : S.1 = 0) : PW (xL b (gB G)) G S σ 0 0 0 [(0, .ref 1000021)] [] := by
  refine PW.newOA 0 (ci := 10) (ty := tyX11) [fN, fN, fN, fN, fN, fN, fN, fN, fN, fN, fN, fN, fN, fN] hS rfl iw_X11 kl_L_22 ki_X11 kn_X11 tyX11_ok (by decide) rfl (by omega) (by show 0 + 1 ≤ 600000; omega) (by show 0 + 14 ≤ 7302250; omega) (eL dL_law_0) (fun S1 p1 q1 r1 => ?_)
  refine PW.gst (fun τ1 e1 => ?_)
  refine PW.dup rfl (eL dL_law_3) ?_
  refine PW.callI (c_X11_init p1 r1 (by rw [e1]; exact upS_same _ _ _) (by omega)) ci_X11_init lk_L_24 rfl r1.2 rfl rfl (Nat.le_of_ble_eq_true rfl) ⟨(Nat.le_of_ble_eq_true rfl), (Nat.le_of_ble_eq_true rfl)⟩ ⟨by show 0 + 1 + 472 ≤ 600000; omega, by show 0 + 14 + 33878 ≤ 7302250; omega⟩ (eL dL_law_4) (fun r S2 τ2 hq => ?_)
  obtain ⟨rfl, p2, f2, hH, z2⟩ := hq
  refine PW.room (k' := 473) (n' := 33892) (by omega) (by omega) ?_
  have hO := hill0_Ob hH z2
  have hkn : 473 ≤ 100000 ∧ 33892 ≤ 1000000 := by decide
  have hnb := loF_b (ceF G 0) (n := 4) (by decide)
  refine PW.astore_n [(0, _), (1, _)] (eL dL_law_7) rfl (Nat.le_of_ble_eq_true rfl) ?_
  refine PW.aload_n (eL dL_law_8) rfl ?_
  refine PW.iconst (eL dL_law_9) ?_
  refine PW.callSr (c_L_cell (by omega)) cs_L_cell lk_L_25 (eL dL_law_10) rfl rfl (okC_mk rfl (Nat.le_of_ble_eq_true rfl) (Nat.le_of_ble_eq_true rfl) (Nat.le_of_ble_eq_true rfl) (lawC hkn.1) (lawS hkn.2)) ?_
  refine PW.iconst (eL dL_law_13) ?_
  refine PW.callSr (c_L_low (by omega)) cs_L_low lk_L_19 (eL dL_law_14) rfl rfl (okC_mk rfl (Nat.le_of_ble_eq_true rfl) (Nat.le_of_ble_eq_true rfl) (Nat.le_of_ble_eq_true rfl) (lawC hkn.1) (lawS hkn.2)) ?_
  refine PW.istore_n [(0, _), (1, _), (2, _)] (eL dL_law_17) rfl (Nat.le_of_ble_eq_true rfl) ?_
  refine PW.iconst (eL dL_law_18) ?_
  refine PW.istore_n [(0, _), (1, _), (2, _), (3, _)] (eL dL_law_19) rfl (Nat.le_of_ble_eq_true rfl) ?_
  exact law_20 hkn (by omega) rfl rfl (by omega) 4 0 _ _ (by omega) (by omega) (by omega) hO (fun q q0 q1 => by omega)

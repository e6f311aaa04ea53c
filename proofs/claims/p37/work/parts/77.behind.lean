theorem kn_1 : knF 1 1 = 1 := rfl
theorem kn_m : knF 1 (-1) = 1 := rfl
theorem kn_0 : knF 1 0 = 0 := rfl
/-- what a story that fits is, by its place among those that fit -/
theorem sty {U F : Int → Int} {m i j w : Int} (hG : ftG U F (nS m)) (h0 : 0 ≤ i) (hs : i < nS m) (hu : U i = 0) (hw : w = ftC U i) : (if ¬ (0 ≤ w ∧ w < ftC U (nS m)) then -1 else if j = -1 then lnE m (F w) else prt m (F w) j) = if j = -1 then lnE m i else prt m i j := by
  have b1 := ftC_b U h0
  have b2 := ftC_lt U h0 hs hu
  rw [hw, if_neg (by omega), hG i h0 hs hu]
theorem sty_no {U F : Int → Int} {m j w : Int} (hw : w = ftC U (nS m)) : (if ¬ (0 ≤ w ∧ w < ftC U (nS m)) then -1 else if j = -1 then lnE m (F w) else prt m (F w) j) = -1 := if_pos (by omega)
set_option maxRecDepth 20000 in
theorem law_947 {G : GT} {b k n : Nat} {S : Shp} {σ : Sto} {R nb m : Int} {f g sg : Int → Int} (hkn : k ≤ 100000 ∧ n ≤ 1000000) (hO : Ob S σ 0 R nb f m g 1 sg) : PW (xL b (gB G)) G S (σ) k n 947 [(0, .ref 1000021), (1, .ref 0), (2, .int (iI (nb))), (3, .int (iI (m)))] [] := by
  have hb := hO.b
  have h60 := loF_b (ceF G 60) (n := 8) (by decide)
  refine PW.aload_n (eL dL_law_947) rfl ?_
  refine PW.callVg (v_clear hO) cv_X11_clear lk_L_63 hO.1.1 (eL dL_law_948) rfl rfl rfl (okC_mk rfl (Nat.le_of_ble_eq_true rfl) (Nat.le_of_ble_eq_true rfl) (Nat.le_of_ble_eq_true rfl) (lawC hkn.1) (lawS hkn.2)) (fun r S' τ948 hq => ?_)
  obtain ⟨hS, rfl, hF, hO1⟩ := hq
  have hS2 := hS.symm
  subst hS2
  refine PW.iload_n (eL dL_law_951) rfl ?_
  refine PW.icmp_ne 963 (eL dL_law_952) (by decide) (by first | assumption | (unfold inR; omega)) (by first | assumption | (unfold inR; omega)) (fun h952 => ?_) (fun h952 => ?_)
  · omega
  · refine PW.aload_n (eL dL_law_955) rfl ?_
    refine PW.callVg (v_never hO1) cv_X11_never lk_L_67 hO1.1.1 (eL dL_law_956) rfl rfl rfl (okC_mk rfl (Nat.le_of_ble_eq_true rfl) (Nat.le_of_ble_eq_true rfl) (Nat.le_of_ble_eq_true rfl) (lawC hkn.1) (lawS hkn.2)) (fun r S' τ956 hq => ?_)
    obtain ⟨hS, rfl, hF, hO2⟩ := hq
    have hS2 := hS.symm
    subst hS2
    refine PW.iload_n (eL dL_law_959) rfl ?_
    refine PW.icmp_eq 965 (eL dL_law_960) (by decide) (by first | assumption | (unfold inR; omega)) (by first | assumption | (unfold inR; omega)) (fun h960 => ?_) (fun h960 => ?_)
    · refine PW.iconst (eL dL_law_965) ?_
      refine PW.aload_n (eL dL_law_966) rfl ?_
      refine PW.bipush (by decide) (eL dL_law_967) ?_
      refine PW.callSr (c_L_cell (by omega)) cs_L_cell lk_L_25 (eL dL_law_969) rfl rfl (okC_mk rfl (Nat.le_of_ble_eq_true rfl) (Nat.le_of_ble_eq_true rfl) (Nat.le_of_ble_eq_true rfl) (lawC hkn.1) (lawS hkn.2)) ?_
      refine PW.bipush (by decide) (eL dL_law_972) ?_
      refine PW.callSr (c_L_low (by omega)) cs_L_low lk_L_19 (eL dL_law_974) rfl rfl (okC_mk rfl (Nat.le_of_ble_eq_true rfl) (Nat.le_of_ble_eq_true rfl) (Nat.le_of_ble_eq_true rfl) (lawC hkn.1) (lawS hkn.2)) ?_
      refine PW.iadd (eL dL_law_977) ?_
      refine PW.istore [(0, _), (1, _), (2, _), (3, _), (14, _)] (eL dL_law_978) rfl (Nat.le_of_ble_eq_true rfl) ?_
      refine PW.ldc (100000) kc_L_70 rfl rfl (eL dL_law_980) ?_
      refine PW.istore [(0, _), (1, _), (2, _), (3, _), (14, _), (15, _)] (eL dL_law_982) rfl (Nat.le_of_ble_eq_true rfl) ?_
      refine PW.iconst (eL dL_law_984) ?_
      refine PW.istore [(0, _), (1, _), (2, _), (3, _), (14, _), (15, _), (16, _)] (eL dL_law_985) rfl (Nat.le_of_ble_eq_true rfl) ?_
      refine PW.iload (eL dL_law_987) rfl ?_
      refine PW.iconst (eL dL_law_989) ?_
      refine PW.isub (eL dL_law_990) ?_
      refine PW.istore [(0, _), (1, _), (2, _), (3, _), (14, _), (15, _), (16, _), (17, _)] (eL dL_law_991) rfl (Nat.le_of_ble_eq_true rfl) ?_
      refine PW.keep [(0, .ref 1000021), (1, .ref 0), (14, .int (iI (1 + loF (ceF G 60) 8))), (15, .int (iI 100000)), (16, .int (iI (-1))), (17, .int (iI (1 + loF (ceF G 60) 8 - 1)))] (by simp) ?_
      exact law_993 hkn (by omega) 4 _ _ _ _ _ (by omega) (by omega) (by omega) hO2 ⟨fun u u0 u1 => by omega, Or.inl rfl⟩ ⟨fun u u0 u1 => by omega, Or.inl rfl⟩
    · omega
set_option maxRecDepth 20000 in
theorem law_922 {G : GT} {b k n : Nat} {S : Shp} {σ : Sto} {R nb m ft : Int} {f g sg : Int → Int} (hkn : k ≤ 100000 ∧ n ≤ 1000000) (hO4 : Ob S σ 0 R nb f m g 1 sg) (hnb : 0 ≤ nb ∧ nb ≤ 3) (hm : 0 ≤ m ∧ m ≤ 2) (hR : 0 ≤ R ∧ R ≤ 200000) (hft : ft = ftC (uP nb f m g sg 1) (nS m)) : PW (xL b (gB G)) G S (σ) k n 922 [(0, .ref 1000021), (1, .ref 0), (2, .int (iI (nb))), (3, .int (iI (m))), (12, .int (iI (nS m))), (13, .int (iI (ft)))] [] := by
  have nb5 := nS_b (m := m) (by omega)
  have fb := ftC_b (uP nb f m g sg 1) (i := nS m) (by omega)
  have ft0 : ftC (uP nb f m g sg 0) (nS m) = nS m := ftC_all (fun s => uP_0 _ _ _ _ _ s) (by omega)
  refine PW.aload_n (eL dL_law_922) rfl ?_
  refine PW.iconst (eL dL_law_923) ?_
  refine PW.iload (eL dL_law_924) rfl ?_
  refine PW.callVg (v_take hO4 (k := 1) (i := ft) (by omega) (by omega) (by omega) (by unfold inR; omega) (by show ¬ (0 ≤ ft ∧ ft < ftC (uP nb f m g sg 1) (nS m)); omega)) cv_X11_take lk_L_60 hO4.1.1 (eL dL_law_926) rfl rfl rfl (okC_mk rfl (Nat.le_of_ble_eq_true rfl) (Nat.le_of_ble_eq_true rfl) (Nat.le_of_ble_eq_true rfl) (lawC hkn.1) (lawS hkn.2)) (fun r S' τ926 hq => ?_)
  obtain ⟨hS, rfl, hF, hO5⟩ := hq
  have hS2 := hS.symm
  subst hS2
  refine PW.ldc (-100003) kc_L_59 rfl rfl (eL dL_law_929) ?_
  refine PW.icmp_ne 945 (eL dL_law_931) (by decide) (by first | assumption | (unfold inR; omega)) (by first | assumption | (unfold inR; omega)) (fun h931 => ?_) (fun h931 => ?_)
  · omega
  · refine PW.aload_n (eL dL_law_934) rfl ?_
    refine PW.iconst (eL dL_law_935) ?_
    refine PW.iconst (eL dL_law_936) ?_
    refine PW.callVg (v_next hO5 (k := 0) (by omega) (by omega) (by omega)) cv_X11_next lk_L_56 hO5.1.1 (eL dL_law_937) rfl rfl rfl (okC_mk rfl (Nat.le_of_ble_eq_true rfl) (Nat.le_of_ble_eq_true rfl) (Nat.le_of_ble_eq_true rfl) (lawC hkn.1) (lawS hkn.2)) (fun r S' τ937 hq => ?_)
    obtain ⟨hS, hF, hO6, v6, rfl, n6a, n6b⟩ := hq
    have hS2 := hS.symm
    subst hS2
    have m6b : ¬ ftC (uP nb f m g sg 0) (nS m) = 0 → 0 ≤ v6 ∧ v6 ≤ ftC (uP nb f m g sg 0) (nS m) := n6b
    rw [ft0] at m6b
    clear n6a n6b
    have hv6 := m6b (by omega)
    refine PW.iload (eL dL_law_940) rfl ?_
    refine PW.icmp_le 947 (eL dL_law_942) (by decide) (by first | assumption | (unfold inR; omega)) (by first | assumption | (unfold inR; omega)) (fun h942 => ?_) (fun h942 => ?_)
    · exact PW.take 4 (law_947 hkn hO6)
    · omega
set_option maxRecDepth 20000 in
theorem law_861 {G : GT} {b k n : Nat} {S : Shp} {σ : Sto} {R nb m ft : Int} {f g sg : Int → Int} (hkn : k ≤ 100000 ∧ n ≤ 1000000) (hO : Ob S σ 0 R nb f m g 1 sg) (hnb : 0 ≤ nb ∧ nb ≤ 3) (hm : 0 ≤ m ∧ m ≤ 2) (hR : 0 ≤ R ∧ R ≤ 100000) (hft : ft = ftC (uP nb f m g sg 1) (nS m)) : PW (xL b (gB G)) G S (σ) k n 861 [(0, .ref 1000021), (1, .ref 0), (2, .int (iI (nb))), (3, .int (iI (m))), (12, .int (iI (nS m))), (13, .int (iI (ft)))] [] := by
  have nb5 := nS_b (m := m) (by omega)
  have fb := ftC_b (uP nb f m g sg 1) (i := nS m) (by omega)
  have ft0 : ftC (uP nb f m g sg 0) (nS m) = nS m := ftC_all (fun s => uP_0 _ _ _ _ _ s) (by omega)
  refine PW.aload_n (eL dL_law_861) rfl ?_
  refine PW.iconst (eL dL_law_862) ?_
  refine PW.callVg (v_stories hO (k := 1) (by omega) (by omega) (by omega)) cv_X11_stories lk_L_43 hO.1.1 (eL dL_law_863) rfl rfl rfl (okC_mk rfl (Nat.le_of_ble_eq_true rfl) (Nat.le_of_ble_eq_true rfl) (Nat.le_of_ble_eq_true rfl) (lawC hkn.1) (lawS hkn.2)) (fun r S' τ863 hq => ?_)
  obtain ⟨hS, rfl, hF, hO1⟩ := hq
  have hS2 := hS.symm
  subst hS2
  refine PW.top ft hft.symm ?_
  refine PW.iload (eL dL_law_866) rfl ?_
  refine PW.icmp_ne 945 (eL dL_law_868) (by decide) (by first | assumption | (unfold inR; omega) | (have : -100003 ≤ v4 ∧ v4 ≤ 65 := by { by_cases q : ft = 0 <;> omega }; unfold inR; omega)) (by first | assumption | (unfold inR; omega) | (have : -100003 ≤ v4 ∧ v4 ≤ 65 := by { by_cases q : ft = 0 <;> omega }; unfold inR; omega)) (fun h868 => ?_) (fun h868 => ?_)
  · omega
  · refine PW.aload_n (eL dL_law_871) rfl ?_
    refine PW.iconst (eL dL_law_872) ?_
    refine PW.callVg (v_stories hO1 (k := -1) (by omega) (by omega) (by omega)) cv_X11_stories lk_L_43 hO1.1.1 (eL dL_law_873) rfl rfl rfl (okC_mk rfl (Nat.le_of_ble_eq_true rfl) (Nat.le_of_ble_eq_true rfl) (Nat.le_of_ble_eq_true rfl) (lawC hkn.1) (lawS hkn.2)) (fun r S' τ873 hq => ?_)
    obtain ⟨hS, rfl, hF, hO2⟩ := hq
    have hS2 := hS.symm
    subst hS2
    refine PW.top ft hft.symm ?_
    refine PW.iload (eL dL_law_876) rfl ?_
    refine PW.icmp_ne 945 (eL dL_law_878) (by decide) (by first | assumption | (unfold inR; omega) | (have : -100003 ≤ v4 ∧ v4 ≤ 65 := by { by_cases q : ft = 0 <;> omega }; unfold inR; omega)) (by first | assumption | (unfold inR; omega) | (have : -100003 ≤ v4 ∧ v4 ≤ 65 := by { by_cases q : ft = 0 <;> omega }; unfold inR; omega)) (fun h878 => ?_) (fun h878 => ?_)
    · omega
    · refine PW.aload_n (eL dL_law_881) rfl ?_
      refine PW.iconst (eL dL_law_882) ?_
      refine PW.iload (eL dL_law_883) rfl ?_
      refine PW.iconst (eL dL_law_885) ?_
      refine PW.callVg (v_story hO2 (k := 1) (i := ft) (j := -1) (by omega) (by omega) (by omega) (by unfold inR; omega) (by unfold inR; omega)) cv_X11_story lk_L_47 hO2.1.1 (eL dL_law_886) rfl rfl rfl (okC_mk rfl (Nat.le_of_ble_eq_true rfl) (Nat.le_of_ble_eq_true rfl) (Nat.le_of_ble_eq_true rfl) (lawC hkn.1) (lawS hkn.2)) (fun r S' τ886 hq => ?_)
      obtain ⟨hS, hF, hO3, F3, hG3, rfl⟩ := hq
      have hS2 := hS.symm
      subst hS2
      refine PW.top (-1) (sty_no hft) ?_
      refine PW.iconst (eL dL_law_889) ?_
      refine PW.icmp_ne 945 (eL dL_law_890) (by decide) (by first | assumption | (unfold inR; omega) | (have : -100003 ≤ v4 ∧ v4 ≤ 65 := by { by_cases q : ft = 0 <;> omega }; unfold inR; omega)) (by first | assumption | (unfold inR; omega) | (have : -100003 ≤ v4 ∧ v4 ≤ 65 := by { by_cases q : ft = 0 <;> omega }; unfold inR; omega)) (fun h890 => ?_) (fun h890 => ?_)
      · omega
      · refine PW.aload_n (eL dL_law_893) rfl ?_
        refine PW.iconst (eL dL_law_894) ?_
        refine PW.iconst (eL dL_law_895) ?_
        refine PW.callVg (v_next hO3 (k := 1) (by omega) (by omega) (by omega)) cv_X11_next lk_L_56 hO3.1.1 (eL dL_law_896) rfl rfl rfl (okC_mk rfl (Nat.le_of_ble_eq_true rfl) (Nat.le_of_ble_eq_true rfl) (Nat.le_of_ble_eq_true rfl) (lawC hkn.1) (lawS hkn.2)) (fun r S' τ896 hq => ?_)
        obtain ⟨hS, hF, hO4, v4, rfl, n4a, n4b⟩ := hq
        have hS2 := hS.symm
        subst hS2
        have m4a : ftC (uP nb f m g sg 1) (nS m) = 0 → v4 = -100003 := n4a
        have m4b : ¬ ftC (uP nb f m g sg 1) (nS m) = 0 → 0 ≤ v4 ∧ v4 ≤ ftC (uP nb f m g sg 1) (nS m) := n4b
        rw [← hft] at m4a m4b
        clear n4a n4b
        refine PW.ldc (-100003) kc_L_59 rfl rfl (eL dL_law_899) ?_
        refine PW.icmp_ne 908 (eL dL_law_901) (by decide) (by first | assumption | (unfold inR; omega) | (have : -100003 ≤ v4 ∧ v4 ≤ 65 := by { by_cases q : ft = 0 <;> omega }; unfold inR; omega)) (by first | assumption | (unfold inR; omega) | (have : -100003 ≤ v4 ∧ v4 ≤ 65 := by { by_cases q : ft = 0 <;> omega }; unfold inR; omega)) (fun h901 => ?_) (fun h901 => ?_)
        · refine PW.iconst (eL dL_law_908) ?_
          refine PW.iload (eL dL_law_909) rfl ?_
          refine PW.if_ne 918 (eL dL_law_911) (by decide) (by first | assumption | (unfold inR; omega) | (have : -100003 ≤ v4 ∧ v4 ≤ 65 := by { by_cases q : ft = 0 <;> omega }; unfold inR; omega)) (fun h911 => ?_) (fun h911 => ?_)
          · refine PW.iconst (eL dL_law_918) ?_
            refine PW.icmp_ne 945 (eL dL_law_919) (by decide) (by first | assumption | (unfold inR; omega) | (have : -100003 ≤ v4 ∧ v4 ≤ 65 := by { by_cases q : ft = 0 <;> omega }; unfold inR; omega)) (by first | assumption | (unfold inR; omega) | (have : -100003 ≤ v4 ∧ v4 ≤ 65 := by { by_cases q : ft = 0 <;> omega }; unfold inR; omega)) (fun h919 => ?_) (fun h919 => ?_)
            · exfalso; omega
            · refine law_922 hkn hO4 hnb hm (by omega) hft
          · refine PW.iconst (eL dL_law_914) ?_
            refine PW.goto 919 (eL dL_law_915) (by decide) ?_
            refine PW.icmp_ne 945 (eL dL_law_919) (by decide) (by first | assumption | (unfold inR; omega) | (have : -100003 ≤ v4 ∧ v4 ≤ 65 := by { by_cases q : ft = 0 <;> omega }; unfold inR; omega)) (by first | assumption | (unfold inR; omega) | (have : -100003 ≤ v4 ∧ v4 ≤ 65 := by { by_cases q : ft = 0 <;> omega }; unfold inR; omega)) (fun h919 => ?_) (fun h919 => ?_)
            · exfalso; omega
            · refine law_922 hkn hO4 hnb hm (by omega) hft
        · refine PW.iconst (eL dL_law_904) ?_
          refine PW.goto 909 (eL dL_law_905) (by decide) ?_
          refine PW.iload (eL dL_law_909) rfl ?_
          refine PW.if_ne 918 (eL dL_law_911) (by decide) (by first | assumption | (unfold inR; omega) | (have : -100003 ≤ v4 ∧ v4 ≤ 65 := by { by_cases q : ft = 0 <;> omega }; unfold inR; omega)) (fun h911 => ?_) (fun h911 => ?_)
          · refine PW.iconst (eL dL_law_918) ?_
            refine PW.icmp_ne 945 (eL dL_law_919) (by decide) (by first | assumption | (unfold inR; omega) | (have : -100003 ≤ v4 ∧ v4 ≤ 65 := by { by_cases q : ft = 0 <;> omega }; unfold inR; omega)) (by first | assumption | (unfold inR; omega) | (have : -100003 ≤ v4 ∧ v4 ≤ 65 := by { by_cases q : ft = 0 <;> omega }; unfold inR; omega)) (fun h919 => ?_) (fun h919 => ?_)
            · exfalso; omega
            · refine law_922 hkn hO4 hnb hm (by omega) hft
          · refine PW.iconst (eL dL_law_914) ?_
            refine PW.goto 919 (eL dL_law_915) (by decide) ?_
            refine PW.icmp_ne 945 (eL dL_law_919) (by decide) (by first | assumption | (unfold inR; omega) | (have : -100003 ≤ v4 ∧ v4 ≤ 65 := by { by_cases q : ft = 0 <;> omega }; unfold inR; omega)) (by first | assumption | (unfold inR; omega) | (have : -100003 ≤ v4 ∧ v4 ≤ 65 := by { by_cases q : ft = 0 <;> omega }; unfold inR; omega)) (fun h919 => ?_) (fun h919 => ?_)
            · exfalso; omega
            · refine law_922 hkn hO4 hnb hm (by omega) hft

/-- the events lay and cut of the law's last part, with a thickness -/
def R2 (g : Int → Int) (hh u : Int) : Prop := (∀ p, 0 ≤ p → p ≤ 5 → g (7 * 0 + p) = rowF 0 1 u 0 0 0 p) ∧ ∀ p, 0 ≤ p → p ≤ 5 → g (7 * 1 + p) = rowF 4 hh 1 1 0 0 p
def AM (hh u : Int) : Int := amF (adF (adF zF 0 0 1 u 0 0 0) 1 4 hh 1 1 0 0) 2 1
theorem R2_ad (f : Int → Int) (hh u : Int) : R2 (adF (adF f 0 0 1 u 0 0 0) 1 4 hh 1 1 0 0) hh u :=
  ⟨fun p p0 p1 => by rw [adF_ne (by omega), adF_at p0 (by omega)], fun p p0 p1 => by rw [adF_at p0 (by omega)]⟩
theorem R2_am {g : Int → Int} {hh u : Int} (h : R2 g hh u) : amF g 2 1 = AM hh u := by
  have h' := R2_ad zF hh u
  unfold AM amF
  refine smF_congr fun c c0 c1 => ?_
  rw [tlF_cg (f := adF (adF zF 0 0 1 u 0 0 0) 1 4 hh 1 1 0 0) (f' := g) (k := (2 : Int).toNat) (fun q p q0 q1 p0 p1 => ?_)]
  have q2 : q < 2 := q1
  rcases (show q = 0 ∨ q = 1 by omega) with rfl | rfl
  · rw [h.1 p p0 p1, h'.1 p p0 p1]
  · rw [h.2 p p0 p1, h'.2 p p0 p1]
theorem AM_b (hh u : Int) : 0 ≤ AM hh u ∧ AM hh u ≤ 5120 := amF_b _ _ _
theorem looF_2 (f : Int → Int) : looF f 2 = b01 (losP f 0) + b01 (losP f 1) := by
  have h1 := looF_s f (i := 0) (Int.le_refl 0)
  have h2 := looF_s f (i := 1) (by decide)
  rw [show (0 : Int) + 1 = 1 from rfl, show looF f 0 = 0 from rfl] at h1
  rw [show (1 : Int) + 1 = 2 from rfl] at h2
  omega
theorem lst_no {f : Int → Int} {v : Int} (h0 : f (7 * 0 + 6) = 0) (h1 : f (7 * 1 + 6) = 0) (h : isLst f 2 1 v) : v = amF f 2 1 := by
  obtain ⟨g, g1, g2⟩ := h.2
  rw [g2]
  refine amF_congr (fun j j0 j1 => ?_) (by decide) 1
  rcases g1.1 j j0 (by omega) with e | ⟨i, i0, i1, i2, -⟩
  · exact e
  · rcases (show i = 0 ∨ i = 1 by omega) with rfl | rfl
    · exact absurd h0 i2
    · exact absurd h1 i2
/-- the least of the amounts by the thicknesses tried so far -/
def lsK (hh t i v : Int) : Prop := (∀ u, t - 1 ≤ u → u < i → 1 ≤ u → u ≤ 8 → v ≤ AM hh u) ∧ (v = 100000 ∨ ∃ u, t - 1 ≤ u ∧ u < i ∧ 1 ≤ u ∧ u ≤ 8 ∧ v = AM hh u)
def gsK (hh t i v : Int) : Prop := (∀ u, t - 1 ≤ u → u < i → 1 ≤ u → u ≤ 8 → AM hh u ≤ v) ∧ (v = -1 ∨ ∃ u, t - 1 ≤ u ∧ u < i ∧ 1 ≤ u ∧ u ≤ 8 ∧ v = AM hh u)
theorem lsK_b {hh t i v : Int} (h : lsK hh t i v) : 0 ≤ v ∧ v ≤ 100000 := by
  rcases h.2 with e | ⟨u, -, -, -, -, e⟩
  · omega
  · have := AM_b hh u
    omega
theorem gsK_b {hh t i v : Int} (h : gsK hh t i v) : -1 ≤ v ∧ v ≤ 5120 := by
  rcases h.2 with e | ⟨u, -, -, -, -, e⟩
  · omega
  · have := AM_b hh u
    omega
theorem lsK_s {hh t i v w : Int} (h : lsK hh t i v) (hi : t - 1 ≤ i ∧ 1 ≤ i ∧ i ≤ 8) (hw : w = if AM hh i < v then AM hh i else v) : lsK hh t (i + 1) w := by
  obtain ⟨h1, h2⟩ := h
  by_cases q : AM hh i < v
  · rw [if_pos q] at hw
    refine ⟨fun u u0 u1 u2 u3 => ?_, Or.inr ⟨i, by omega, by omega, by omega, by omega, hw⟩⟩
    by_cases e : u = i
    · rw [e]; omega
    · have := h1 u u0 (by omega) u2 u3
      omega
  · rw [if_neg q] at hw
    refine ⟨fun u u0 u1 u2 u3 => ?_, ?_⟩
    · by_cases e : u = i
      · rw [e]; omega
      · have := h1 u u0 (by omega) u2 u3
        omega
    · rcases h2 with e | ⟨u, a1, a2, a3, a4, a5⟩
      · exact Or.inl (by omega)
      · exact Or.inr ⟨u, a1, by omega, a3, a4, by omega⟩
theorem gsK_s {hh t i v w : Int} (h : gsK hh t i v) (hi : t - 1 ≤ i ∧ 1 ≤ i ∧ i ≤ 8) (hw : w = if v < AM hh i then AM hh i else v) : gsK hh t (i + 1) w := by
  obtain ⟨h1, h2⟩ := h
  by_cases q : v < AM hh i
  · rw [if_pos q] at hw
    refine ⟨fun u u0 u1 u2 u3 => ?_, Or.inr ⟨i, by omega, by omega, by omega, by omega, hw⟩⟩
    by_cases e : u = i
    · rw [e]; omega
    · have := h1 u u0 (by omega) u2 u3
      omega
  · rw [if_neg q] at hw
    refine ⟨fun u u0 u1 u2 u3 => ?_, ?_⟩
    · by_cases e : u = i
      · rw [e]; omega
      · have := h1 u u0 (by omega) u2 u3
        omega
    · rcases h2 with e | ⟨u, a1, a2, a3, a4, a5⟩
      · exact Or.inl (by omega)
      · exact Or.inr ⟨u, a1, by omega, a3, a4, by omega⟩
theorem lsK_skip {hh t i v : Int} (h : lsK hh t i v) (hi : i < 1 ∨ 8 < i) : lsK hh t (i + 1) v := ⟨fun u u0 u1 u2 u3 => h.1 u u0 (by omega) u2 u3, h.2.imp id fun ⟨u, a1, a2, a3⟩ => ⟨u, a1, by omega, a3⟩⟩
theorem gsK_skip {hh t i v : Int} (h : gsK hh t i v) (hi : i < 1 ∨ 8 < i) : gsK hh t (i + 1) v := ⟨fun u u0 u1 u2 u3 => h.1 u u0 (by omega) u2 u3, h.2.imp id fun ⟨u, a1, a2, a3⟩ => ⟨u, a1, by omega, a3⟩⟩
section LSE
variable {F f2 g : Int → Int} {hh t v : Int}
/-- the lands of the loose lay -/
theorem vr_lay (hF : R2 F hh t) (h13 : F (7 * 1 + 6) = 0) (he : f2 = up1 F (7 * 0 + 6) 1) (h : vrR f2 g 0 2) : ∃ u, t - 1 ≤ u ∧ u ≤ t + 1 ∧ 1 ≤ u ∧ u ≤ 8 ∧ R2 g hh u := by
  have hlo : losP f2 0 := by rw [he]; unfold losP; rw [up1_same]; decide
  have hl1 : ¬ losP f2 1 := fun q => q (by rw [he, up1_ne (by omega)]; exact h13)
  have k0 : f2 (7 * 0) = 0 := by
    have e := hF.1 0 (by omega) (by omega)
    rw [Int.add_zero] at e
    rw [he, up1_ne (by omega), e]
    rfl
  have hm : mnp f2 0 = 2 := by
    unfold mnp
    rw [k0]
    decide
  have f2t : f2 2 = t := by
    have e := hF.1 2 (by omega) (by omega)
    rw [he, up1_ne (by omega), show (2 : Int) = 7 * 0 + 2 from rfl, e]
    rfl
  obtain ⟨e, e0, e1, e2, e3⟩ := h.2 0 (by decide) (by decide) hlo
  rw [hm, f2t] at e2 e3
  rw [k0, show xT 1 0 = 1 by decide] at e3
  have e4 : 1 ≤ t + e ∧ t + e ≤ 8 := by
    rcases e3 with q | ⟨q1, q2⟩
    · exact absurd (show (1 : Int) < xT 0 0 by decide) q
    · rw [show xT 2 (5 * 0 + 1) = 1 by decide] at q1
      rw [show xT 3 (5 * 0 + 1) = 8 by decide] at q2
      exact ⟨q1, q2⟩
  have gj : ∀ j, 0 ≤ j → j < 14 → j ≠ 2 → g j = f2 j := fun j j0 j1 j2 => by
    rcases h.1 j j0 (by omega) with q | ⟨i, i0, i1, i2, i3⟩
    · exact q
    · rcases (show i = 0 ∨ i = 1 by omega) with rfl | rfl
      · rw [hm] at i3
        exact absurd i3 j2
      · exact absurd i2 hl1
  refine ⟨t + e, by omega, by omega, e4.1, e4.2, fun p p0 p1 => ?_, fun p p0 p1 => ?_⟩
  · by_cases q : p = 2
    · subst q
      exact e2
    · have e := hF.1 p p0 p1
      rw [gj _ (by omega) (by omega) (by omega), he, up1_ne (by omega), e]
      rcases (show p = 0 ∨ p = 1 ∨ p = 3 ∨ p = 4 ∨ p = 5 by omega) with rfl | rfl | rfl | rfl | rfl <;> rfl
  · rw [gj _ (by omega) (by omega) (by omega), he, up1_ne (by omega), hF.2 p p0 p1]
theorem vr_of {u : Int} (hF : R2 F hh t) (h13 : F (7 * 1 + 6) = 0) (he : f2 = up1 F (7 * 0 + 6) 1) (hu : t - 1 ≤ u ∧ u ≤ t + 1 ∧ 1 ≤ u ∧ u ≤ 8) : ∃ g, vrR f2 g 0 2 ∧ R2 g hh u := by
  have k0 : f2 (7 * 0) = 0 := by
    have e := hF.1 0 (by omega) (by omega)
    rw [Int.add_zero] at e
    rw [he, up1_ne (by omega), e]
    rfl
  have hm : mnp f2 0 = 2 := by
    unfold mnp
    rw [k0]
    decide
  have f2t : f2 2 = t := by
    have e := hF.1 2 (by omega) (by omega)
    rw [he, up1_ne (by omega), show (2 : Int) = 7 * 0 + 2 from rfl, e]
    rfl
  have hl1 : ¬ losP f2 1 := fun q => q (by rw [he, up1_ne (by omega)]; exact h13)
  have hlo : losP f2 0 := by rw [he]; unfold losP; rw [up1_same]; decide
  refine ⟨up1 f2 2 u, ⟨fun j j0 j1 => ?_, fun i i0 i1 i2 => ?_⟩, fun p p0 p1 => ?_, fun p p0 p1 => ?_⟩
  · by_cases q : j = 2
    · exact Or.inr ⟨0, by decide, by decide, hlo, by rw [hm]; exact q⟩
    · exact Or.inl (up1_ne q)
  · rcases (show i = 0 ∨ i = 1 by omega) with rfl | rfl
    · refine ⟨u - t, by omega, by omega, ?_, ?_⟩
      · rw [hm, up1_same, f2t]
        omega
      · rw [hm, f2t, k0, show xT 1 0 = 1 by decide]
        refine Or.inr ⟨?_, ?_⟩
        · rw [show xT 2 (5 * 0 + 1) = 1 by decide]; omega
        · rw [show xT 3 (5 * 0 + 1) = 8 by decide]; omega
    · exact absurd i2 hl1
  · by_cases q : p = 2
    · subst q
      show up1 f2 2 u 2 = _
      rw [up1_same]
      rfl
    · have e := hF.1 p p0 p1
      rw [up1_ne (by omega), he, up1_ne (by omega), e]
      rcases (show p = 0 ∨ p = 1 ∨ p = 3 ∨ p = 4 ∨ p = 5 by omega) with rfl | rfl | rfl | rfl | rfl <;> rfl
  · rw [up1_ne (by omega), he, up1_ne (by omega), hF.2 p p0 p1]
theorem lst_lo (hF : R2 F hh t) (h13 : F (7 * 1 + 6) = 0) (he : f2 = up1 F (7 * 0 + 6) 1) (ht : 1 ≤ t ∧ t ≤ 8) (h : lsK hh t (t + 2) v) : isLst f2 2 1 v := by
  refine ⟨fun g hg => ?_, ?_⟩
  · obtain ⟨u, u0, u1, u2, u3, u4⟩ := vr_lay hF h13 he hg
    rw [R2_am u4]
    exact h.1 u u0 (by omega) u2 u3
  · have a1 := h.1 t (by omega) (by omega) ht.1 ht.2
    have a2 := AM_b hh t
    rcases h.2 with e | ⟨u, u0, u1, u2, u3, e⟩
    · omega
    · obtain ⟨g, g1, g2⟩ := vr_of hF h13 he (u := u) ⟨u0, by omega, u2, u3⟩
      exact ⟨g, g1, by rw [R2_am g2]; exact e⟩
theorem grt_hi (hF : R2 F hh t) (h13 : F (7 * 1 + 6) = 0) (he : f2 = up1 F (7 * 0 + 6) 1) (ht : 1 ≤ t ∧ t ≤ 8) (h : gsK hh t (t + 2) v) : isGrt f2 2 1 v := by
  refine ⟨fun g hg => ?_, ?_⟩
  · obtain ⟨u, u0, u1, u2, u3, u4⟩ := vr_lay hF h13 he hg
    rw [R2_am u4]
    exact h.1 u u0 (by omega) u2 u3
  · have a1 := h.1 t (by omega) (by omega) ht.1 ht.2
    have a2 := AM_b hh t
    rcases h.2 with e | ⟨u, u0, u1, u2, u3, e⟩
    · omega
    · obtain ⟨g, g1, g2⟩ := vr_of hF h13 he (u := u) ⟨u0, by omega, u2, u3⟩
      exact ⟨g, g1, by rw [R2_am g2]; exact e⟩
end LSE
theorem okL {u : Int} (hu : 1 ≤ u ∧ u ≤ 8) : okEv 0 1 u 0 0 0 := by
  refine ⟨by decide, by decide, Or.inr ⟨by decide, by decide⟩, Or.inr ⟨?_, ?_⟩, Or.inl (by decide), Or.inl (by decide), Or.inl (by decide)⟩
  · rw [show xT 2 (5 * 0 + 1) = 1 by decide]; omega
  · rw [show xT 3 (5 * 0 + 1) = 8 by decide]; omega
theorem okC4 {hh : Int} (hu : -2 ≤ hh ∧ hh ≤ 9) : okEv 4 hh 1 1 0 0 := by
  refine ⟨by decide, by decide, Or.inr ⟨?_, ?_⟩, Or.inr ⟨by decide, by decide⟩, Or.inr ⟨by decide, by decide⟩, Or.inl (by decide), Or.inl (by decide)⟩
  · rw [show xT 2 (5 * 4 + 0) = -30 by decide]; omega
  · rw [show xT 3 (5 * 4 + 0) = 39 by decide]; omega
abbrev HHG (G : GT) : Int := loF (ceF G 61) 12 - 2
theorem HH_b (G : GT) : -2 ≤ HHG G ∧ HHG G ≤ 9 := by
  have := loF_b (ceF G 61) (n := 12) (by decide)
  unfold HHG
  omega
set_option maxRecDepth 20000 in
theorem law_1112 {G : GT} {b k n : Nat} {S : Shp} {σ : Sto} {R z t lo hi : Int} {f g sg : Int → Int} (hkn : k ≤ 100000 ∧ n ≤ 1000000) (hO : Ob S σ 0 R 0 f 0 g z sg) (ht : 1 ≤ t ∧ t ≤ 8) (hlo : lsK (HHG G) t (t + 2) lo) (hhi : gsK (HHG G) t (t + 2) hi) : PW (xL b (gB G)) G S (σ) k n 1112 [(0, .ref 1000021), (1, .ref 0), (14, .int (iI (t))), (15, .int (iI (lo))), (16, .int (iI (hi)))] [] := by
  have hhb := HH_b G
  have lob := lsK_b hlo
  have hib := gsK_b hhi
  refine PW.aload_n (eL dL_law_1112) rfl ?_
  refine PW.iconst (eL dL_law_1113) ?_
  refine PW.iconst (eL dL_law_1114) ?_
  refine PW.iload (eL dL_law_1115) rfl ?_
  refine PW.iconst (eL dL_law_1117) ?_
  refine PW.iconst (eL dL_law_1118) ?_
  refine PW.iconst (eL dL_law_1119) ?_
  refine PW.callVg (v_event hO (okL (u := t) (by omega)) (by decide) (by unfold inR; omega) (by unfold inR; omega) (by unfold inR; omega) (by unfold inR; omega) (by unfold inR; omega) (by unfold inR; omega)) cv_X11_event lk_L_33 hO.1.1 (eL dL_law_1120) rfl rfl rfl (okC_mk rfl (Nat.le_of_ble_eq_true rfl) (Nat.le_of_ble_eq_true rfl) (Nat.le_of_ble_eq_true rfl) (lawC hkn.1) (lawS hkn.2)) (fun r S' τ1120 hq => ?_)
  obtain ⟨hS, rfl, hF, hO1⟩ := hq
  have hS2 := hS.symm
  subst hS2
  refine PW.if_ne 1233 (eL dL_law_1123) (by decide) (by first | assumption | (unfold inR; omega)) (fun h1123 => ?_) (fun h1123 => ?_)
  · omega
  · refine PW.aload_n (eL dL_law_1126) rfl ?_
    refine PW.iconst (eL dL_law_1127) ?_
    refine PW.aload_n (eL dL_law_1128) rfl ?_
    refine PW.bipush (by decide) (eL dL_law_1129) ?_
    refine PW.callSr (c_L_cell (by omega)) cs_L_cell lk_L_25 (eL dL_law_1131) rfl rfl (okC_mk rfl (Nat.le_of_ble_eq_true rfl) (Nat.le_of_ble_eq_true rfl) (Nat.le_of_ble_eq_true rfl) (lawC hkn.1) (lawS hkn.2)) ?_
    refine PW.bipush (by decide) (eL dL_law_1134) ?_
    refine PW.callSr (c_L_low (by omega)) cs_L_low lk_L_19 (eL dL_law_1136) rfl rfl (okC_mk rfl (Nat.le_of_ble_eq_true rfl) (Nat.le_of_ble_eq_true rfl) (Nat.le_of_ble_eq_true rfl) (lawC hkn.1) (lawS hkn.2)) ?_
    refine PW.iconst (eL dL_law_1139) ?_
    refine PW.isub (eL dL_law_1140) ?_
    refine PW.iconst (eL dL_law_1141) ?_
    refine PW.iconst (eL dL_law_1142) ?_
    refine PW.iconst (eL dL_law_1143) ?_
    refine PW.iconst (eL dL_law_1144) ?_
    refine PW.callVg (v_event hO1 (okC4 hhb) (by decide) (by unfold inR; omega) (by unfold inR; omega) (by unfold inR; omega) (by unfold inR; omega) (by unfold inR; omega) (by unfold inR; omega)) cv_X11_event lk_L_33 hO1.1.1 (eL dL_law_1145) rfl rfl rfl (okC_mk rfl (Nat.le_of_ble_eq_true rfl) (Nat.le_of_ble_eq_true rfl) (Nat.le_of_ble_eq_true rfl) (lawC hkn.1) (lawS hkn.2)) (fun r S' τ1145 hq => ?_)
    obtain ⟨hS, rfl, hF, hO2⟩ := hq
    have hS2 := hS.symm
    subst hS2
    obtain ⟨F, hFe⟩ : ∃ F, adF (adF f 0 0 1 t 0 0 0) 1 4 (HHG G) 1 1 0 0 = F := ⟨_, rfl⟩
    have hO3 : Ob S τ1145 0 R 2 F 0 g z sg := by rw [← hFe]; exact hO2
    have hR2 : R2 F (HHG G) t := by rw [← hFe]; exact R2_ad _ _ _
    have h6 : F (7 * 0 + 6) = 0 := by rw [← hFe, adF_ne (by omega), adF_at (by omega) (by omega)]; rfl
    have h13 : F (7 * 1 + 6) = 0 := by rw [← hFe, adF_at (by omega) (by omega)]; rfl
    have hl0 : looF F 2 = 0 := by rw [looF_2, b01_f (fun q => q h6), b01_f (fun q => q h13)]; rfl
    have hab := AM_b (HHG G) (t)
    have ham := R2_am hR2
    clear hO2 hFe
    refine PW.iconst (eL dL_law_1148) ?_
    refine PW.icmp_ne 1233 (eL dL_law_1149) (by decide) (by first | assumption | (unfold inR; omega)) (by first | assumption | (unfold inR; omega)) (fun h1149 => ?_) (fun h1149 => ?_)
    · omega
    · refine PW.aload_n (eL dL_law_1152) rfl ?_
      refine PW.iconst (eL dL_law_1153) ?_
      refine PW.iconst (eL dL_law_1154) ?_
      refine PW.callVg (v_amount hO3 (b := 1) (w := 1) (by omega) (by omega) (by omega)) cv_X11_amount lk_L_71 hO3.1.1 (eL dL_law_1155) rfl rfl rfl (okC_mk rfl (Nat.le_of_ble_eq_true rfl) (Nat.le_of_ble_eq_true rfl) (Nat.le_of_ble_eq_true rfl) (lawC hkn.1) (lawS hkn.2)) (fun r S' τ1155 hq => ?_)
      obtain ⟨hS, hF, hO4, v1, rfl, am1, am2, am3, am4⟩ := hq
      have hS2 := hS.symm
      subst hS2
      have e1 : v1 = AM (HHG G) t := (lst_no h6 h13 (am3 (by decide) rfl)).trans ham
      subst e1
      refine PW.aload_n (eL dL_law_1158) rfl ?_
      refine PW.iconst (eL dL_law_1159) ?_
      refine PW.iconst (eL dL_law_1160) ?_
      refine PW.callVg (v_amount hO4 (b := 1) (w := 0) (by omega) (by omega) (by omega)) cv_X11_amount lk_L_71 hO4.1.1 (eL dL_law_1161) rfl rfl rfl (okC_mk rfl (Nat.le_of_ble_eq_true rfl) (Nat.le_of_ble_eq_true rfl) (Nat.le_of_ble_eq_true rfl) (lawC hkn.1) (lawS hkn.2)) (fun r S' τ1161 hq => ?_)
      obtain ⟨hS, hF, hO5, v0, rfl, am1, am2, am3, am4⟩ := hq
      have hS2 := hS.symm
      subst hS2
      have e0 : v0 = AM (HHG G) t := (am2 (by decide) rfl).trans ham
      subst e0
      refine PW.icmp_ne 1233 (eL dL_law_1164) (by decide) (by first | assumption | (unfold inR; omega)) (by first | assumption | (unfold inR; omega)) (fun h1164 => ?_) (fun h1164 => ?_)
      · omega
      · refine PW.aload_n (eL dL_law_1167) rfl ?_
        refine PW.iconst (eL dL_law_1168) ?_
        refine PW.iconst (eL dL_law_1169) ?_
        refine PW.top (b01 True) (b01_t trivial).symm ?_
        refine PW.callVg (v_loose (P := True) hO5 (i := 0) (by omega)) cv_X11_loose lk_L_74 hO5.1.1 (eL dL_law_1170) rfl rfl rfl (okC_mk rfl (Nat.le_of_ble_eq_true rfl) (Nat.le_of_ble_eq_true rfl) (Nat.le_of_ble_eq_true rfl) (lawC hkn.1) (lawS hkn.2)) (fun r S' τ1170 hq => ?_)
        obtain ⟨hS, rfl, hF, hO6⟩ := hq
        have hS2 := hS.symm
        subst hS2
        obtain ⟨f2, hf2⟩ : ∃ f2, up1 F (7 * 0 + 6) (b01 True) = f2 := ⟨_, rfl⟩
        rw [hf2] at hO6
        have he2 : f2 = up1 F (7 * 0 + 6) 1 := by rw [← hf2, b01_t trivial]
        have h26 : f2 (7 * 0 + 6) = 1 := by rw [he2, up1_same]
        have h213 : f2 (7 * 1 + 6) = 0 := by rw [he2, up1_ne (by omega)]; exact h13
        have hl1 : looF f2 2 = 1 := by rw [looF_2, b01_t (show losP f2 0 from fun q => by rw [h26] at q; exact absurd q (by decide)), b01_f (fun q => q h213)]; rfl
        refine PW.top 0 (b01_f (fun q => q h6)) ?_
        refine PW.if_ne 1233 (eL dL_law_1173) (by decide) (by first | assumption | (unfold inR; omega)) (fun h1173 => ?_) (fun h1173 => ?_)
        · omega
        · refine PW.aload_n (eL dL_law_1176) rfl ?_
          refine PW.iconst (eL dL_law_1177) ?_
          refine PW.iconst (eL dL_law_1178) ?_
          refine PW.callVg (v_amount hO6 (b := 1) (w := 1) (by omega) (by omega) (by omega)) cv_X11_amount lk_L_71 hO6.1.1 (eL dL_law_1179) rfl rfl rfl (okC_mk rfl (Nat.le_of_ble_eq_true rfl) (Nat.le_of_ble_eq_true rfl) (Nat.le_of_ble_eq_true rfl) (lawC hkn.1) (lawS hkn.2)) (fun r S' τ1179 hq => ?_)
          obtain ⟨hS, hF, hO7, v2, rfl, am1, am2, am3, am4⟩ := hq
          have hS2 := hS.symm
          subst hS2
          have e2 : v2 = lo := isLst_uniq (am3 (by decide) rfl) (lst_lo hR2 h13 he2 ht hlo)
          subst e2
          refine PW.iload (eL dL_law_1182) rfl ?_
          refine PW.icmp_ne 1233 (eL dL_law_1184) (by decide) (by first | assumption | (unfold inR; omega)) (by first | assumption | (unfold inR; omega)) (fun h1184 => ?_) (fun h1184 => ?_)
          · omega
          · refine PW.aload_n (eL dL_law_1187) rfl ?_
            refine PW.iconst (eL dL_law_1188) ?_
            refine PW.iconst (eL dL_law_1189) ?_
            refine PW.callVg (v_amount hO7 (b := 1) (w := 2) (by omega) (by omega) (by omega)) cv_X11_amount lk_L_71 hO7.1.1 (eL dL_law_1190) rfl rfl rfl (okC_mk rfl (Nat.le_of_ble_eq_true rfl) (Nat.le_of_ble_eq_true rfl) (Nat.le_of_ble_eq_true rfl) (lawC hkn.1) (lawS hkn.2)) (fun r S' τ1190 hq => ?_)
            obtain ⟨hS, hF, hO8, v3, rfl, am1, am2, am3, am4⟩ := hq
            have hS2 := hS.symm
            subst hS2
            have e3 : v3 = hi := isGrt_uniq (am4 (by decide) rfl) (grt_hi hR2 h13 he2 ht hhi)
            subst e3
            refine PW.iload (eL dL_law_1193) rfl ?_
            refine PW.icmp_ne 1233 (eL dL_law_1195) (by decide) (by first | assumption | (unfold inR; omega)) (by first | assumption | (unfold inR; omega)) (fun h1195 => ?_) (fun h1195 => ?_)
            · omega
            · refine PW.aload_n (eL dL_law_1198) rfl ?_
              refine PW.iconst (eL dL_law_1199) ?_
              refine PW.callVg (v_count hO8) cv_X11_count lk_L_78 hO8.1.1 (eL dL_law_1200) rfl rfl rfl (okC_mk rfl (Nat.le_of_ble_eq_true rfl) (Nat.le_of_ble_eq_true rfl) (Nat.le_of_ble_eq_true rfl) (lawC hkn.1) (lawS hkn.2)) (fun r S' τ1200 hq => ?_)
              obtain ⟨hS, rfl, hF, hO9⟩ := hq
              have hS2 := hS.symm
              subst hS2
              refine PW.top 1 hl1 ?_
              refine PW.iconst (eL dL_law_1203) ?_
              refine PW.icmp_ne 1233 (eL dL_law_1204) (by decide) (by first | assumption | (unfold inR; omega)) (by first | assumption | (unfold inR; omega)) (fun h1204 => ?_) (fun h1204 => ?_)
              · omega
              · refine PW.aload_n (eL dL_law_1207) rfl ?_
                refine PW.iconst (eL dL_law_1208) ?_
                refine PW.iconst (eL dL_law_1209) ?_
                refine PW.top (b01 False) (b01_f id).symm ?_
                refine PW.callVg (v_loose (P := False) hO9 (i := 0) (by omega)) cv_X11_loose lk_L_74 hO9.1.1 (eL dL_law_1210) rfl rfl rfl (okC_mk rfl (Nat.le_of_ble_eq_true rfl) (Nat.le_of_ble_eq_true rfl) (Nat.le_of_ble_eq_true rfl) (lawC hkn.1) (lawS hkn.2)) (fun r S' τ1210 hq => ?_)
                obtain ⟨hS, rfl, hF, hO10⟩ := hq
                have hS2 := hS.symm
                subst hS2
                have hl2 : looF (up1 f2 (7 * 0 + 6) (b01 False)) 2 = 0 := by rw [looF_2, b01_f (fun q => q (by rw [up1_same]; exact b01_f id)), b01_f (fun q => q (by rw [up1_ne (by omega)]; exact h213))]; rfl
                refine PW.top 1 (b01_t (fun q => by rw [h26] at q; exact absurd q (by decide))) ?_
                refine PW.iconst (eL dL_law_1213) ?_
                refine PW.icmp_ne 1233 (eL dL_law_1214) (by decide) (by first | assumption | (unfold inR; omega)) (by first | assumption | (unfold inR; omega)) (fun h1214 => ?_) (fun h1214 => ?_)
                · omega
                · refine PW.aload_n (eL dL_law_1217) rfl ?_
                  refine PW.bipush (by decide) (eL dL_law_1218) ?_
                  refine PW.iconst (eL dL_law_1220) ?_
                  refine PW.callVg (v_amount hO10 (b := 16) (w := 0) (by omega) (by omega) (by omega)) cv_X11_amount lk_L_71 hO10.1.1 (eL dL_law_1221) rfl rfl rfl (okC_mk rfl (Nat.le_of_ble_eq_true rfl) (Nat.le_of_ble_eq_true rfl) (Nat.le_of_ble_eq_true rfl) (lawC hkn.1) (lawS hkn.2)) (fun r S' τ1221 hq => ?_)
                  obtain ⟨hS, hF, hO11, v4, rfl, am1, am2, am3, am4⟩ := hq
                  have hS2 := hS.symm
                  subst hS2
                  have e4 : v4 = -100002 := am1 rfl
                  subst e4
                  refine PW.ldc (-100002) kc_L_81 rfl rfl (eL dL_law_1224) ?_
                  refine PW.icmp_ne 1233 (eL dL_law_1226) (by decide) (by first | assumption | (unfold inR; omega)) (by first | assumption | (unfold inR; omega)) (fun h1226 => ?_) (fun h1226 => ?_)
                  · omega
                  · refine PW.iconst (eL dL_law_1229) ?_
                    refine PW.goto 1234 (eL dL_law_1230) (by decide) ?_
                    exact PW.lend (by omega) (by omega)
set_option maxRecDepth 20000 in
theorem law_993 {G : GT} {b k n : Nat} {S : Shp} {R z t : Int} {g sg : Int → Int} (hkn : k ≤ 100000 ∧ n ≤ 1000000) (ht : 1 ≤ t ∧ t ≤ 8) : ∀ (fuel : Nat) (i : Int) (τ : Sto) (f : Int → Int) (lo : Int) (hi : Int), t - 1 ≤ i → i ≤ t + 2 → t + 2 - i < fuel → Ob S τ 0 R 0 f 0 g z sg → lsK (HHG G) t i lo → gsK (HHG G) t i hi → PW (xL b (gB G)) G S (τ) k n 993 [(0, .ref 1000021), (1, .ref 0), (14, .int (iI (t))), (15, .int (iI (lo))), (16, .int (iI (hi))), (17, .int (iI (i)))] [] := by
  have hhb := HH_b G
  intro fuel
  induction fuel with
  | zero => intro i τ f lo hi h1 h2 h3 g1 g2 g3; omega
  | succ fuel ih =>
    intro i τ f lo hi h1 h2 h3 g1 g2 g3
    have hO := g1
    have lob := lsK_b g2
    have hib := gsK_b g3
    refine PW.iload (eL dL_law_993) rfl ?_
    refine PW.iload (eL dL_law_995) rfl ?_
    refine PW.iconst (eL dL_law_997) ?_
    refine PW.iadd (eL dL_law_998) ?_
    refine PW.icmp_gt 1112 (eL dL_law_999) (by decide) (by first | assumption | (unfold inR; omega)) (by first | assumption | (unfold inR; omega)) (fun h999 => ?_) (fun h999 => ?_)
    · have hi2 : i = t + 2 := by omega
      subst hi2
      exact PW.take 5 (law_1112 hkn g1 ht g2 g3)
    · refine PW.iload (eL dL_law_1002) rfl ?_
      refine PW.if_le 1106 (eL dL_law_1004) (by decide) (by first | assumption | (unfold inR; omega)) (fun h1004 => ?_) (fun h1004 => ?_)
      · refine PW.take 6 ?_
        refine PW.iinc [(0, _), (1, _), (14, _), (15, _), (16, _), (17, _)] (eL dL_law_1106) rfl rfl (Nat.le_of_ble_eq_true rfl) ?_
        refine PW.goto 993 (eL dL_law_1109) (by decide) ?_
        first
          | exact ih (i + 1) _ _ _ _ (by omega) (by omega) (by omega) g1 (lsK_skip g2 (by omega)) (gsK_skip g3 (by omega))
          | exact ih (i + 1) _ _ _ _ (by omega) (by omega) (by omega) hO5 (lsK_s g2 (by omega) (by first | rw [if_pos (by omega)] | rw [if_neg (by omega)])) (gsK_s g3 (by omega) (by first | rw [if_pos (by omega)] | rw [if_neg (by omega)]))
      · refine PW.iload (eL dL_law_1007) rfl ?_
        refine PW.bipush (by decide) (eL dL_law_1009) ?_
        refine PW.icmp_ge 1106 (eL dL_law_1011) (by decide) (by first | assumption | (unfold inR; omega)) (by first | assumption | (unfold inR; omega)) (fun h1011 => ?_) (fun h1011 => ?_)
        · refine PW.take 6 ?_
          refine PW.iinc [(0, _), (1, _), (14, _), (15, _), (16, _), (17, _)] (eL dL_law_1106) rfl rfl (Nat.le_of_ble_eq_true rfl) ?_
          refine PW.goto 993 (eL dL_law_1109) (by decide) ?_
          first
            | exact ih (i + 1) _ _ _ _ (by omega) (by omega) (by omega) g1 (lsK_skip g2 (by omega)) (gsK_skip g3 (by omega))
            | exact ih (i + 1) _ _ _ _ (by omega) (by omega) (by omega) hO5 (lsK_s g2 (by omega) (by first | rw [if_pos (by omega)] | rw [if_neg (by omega)])) (gsK_s g3 (by omega) (by first | rw [if_pos (by omega)] | rw [if_neg (by omega)]))
        · refine PW.aload_n (eL dL_law_1014) rfl ?_
          refine PW.iconst (eL dL_law_1015) ?_
          refine PW.iconst (eL dL_law_1016) ?_
          refine PW.iload (eL dL_law_1017) rfl ?_
          refine PW.iconst (eL dL_law_1019) ?_
          refine PW.iconst (eL dL_law_1020) ?_
          refine PW.iconst (eL dL_law_1021) ?_
          refine PW.callVg (v_event hO (okL (u := i) (by omega)) (by decide) (by unfold inR; omega) (by unfold inR; omega) (by unfold inR; omega) (by unfold inR; omega) (by unfold inR; omega) (by unfold inR; omega)) cv_X11_event lk_L_33 hO.1.1 (eL dL_law_1022) rfl rfl rfl (okC_mk rfl (Nat.le_of_ble_eq_true rfl) (Nat.le_of_ble_eq_true rfl) (Nat.le_of_ble_eq_true rfl) (lawC hkn.1) (lawS hkn.2)) (fun r S' τ1022 hq => ?_)
          obtain ⟨hS, rfl, hF, hO1⟩ := hq
          have hS2 := hS.symm
          subst hS2
          refine PW.if_ne 1054 (eL dL_law_1025) (by decide) (by first | assumption | (unfold inR; omega)) (fun h1025 => ?_) (fun h1025 => ?_)
          · omega
          · refine PW.aload_n (eL dL_law_1028) rfl ?_
            refine PW.iconst (eL dL_law_1029) ?_
            refine PW.aload_n (eL dL_law_1030) rfl ?_
            refine PW.bipush (by decide) (eL dL_law_1031) ?_
            refine PW.callSr (c_L_cell (by omega)) cs_L_cell lk_L_25 (eL dL_law_1033) rfl rfl (okC_mk rfl (Nat.le_of_ble_eq_true rfl) (Nat.le_of_ble_eq_true rfl) (Nat.le_of_ble_eq_true rfl) (lawC hkn.1) (lawS hkn.2)) ?_
            refine PW.bipush (by decide) (eL dL_law_1036) ?_
            refine PW.callSr (c_L_low (by omega)) cs_L_low lk_L_19 (eL dL_law_1038) rfl rfl (okC_mk rfl (Nat.le_of_ble_eq_true rfl) (Nat.le_of_ble_eq_true rfl) (Nat.le_of_ble_eq_true rfl) (lawC hkn.1) (lawS hkn.2)) ?_
            refine PW.iconst (eL dL_law_1041) ?_
            refine PW.isub (eL dL_law_1042) ?_
            refine PW.iconst (eL dL_law_1043) ?_
            refine PW.iconst (eL dL_law_1044) ?_
            refine PW.iconst (eL dL_law_1045) ?_
            refine PW.iconst (eL dL_law_1046) ?_
            refine PW.callVg (v_event hO1 (okC4 hhb) (by decide) (by unfold inR; omega) (by unfold inR; omega) (by unfold inR; omega) (by unfold inR; omega) (by unfold inR; omega) (by unfold inR; omega)) cv_X11_event lk_L_33 hO1.1.1 (eL dL_law_1047) rfl rfl rfl (okC_mk rfl (Nat.le_of_ble_eq_true rfl) (Nat.le_of_ble_eq_true rfl) (Nat.le_of_ble_eq_true rfl) (lawC hkn.1) (lawS hkn.2)) (fun r S' τ1047 hq => ?_)
            obtain ⟨hS, rfl, hF, hO2⟩ := hq
            have hS2 := hS.symm
            subst hS2
            obtain ⟨F, hFe⟩ : ∃ F, adF (adF f 0 0 1 i 0 0 0) 1 4 (HHG G) 1 1 0 0 = F := ⟨_, rfl⟩
            have hO3 : Ob S τ1047 0 R 2 F 0 g z sg := by rw [← hFe]; exact hO2
            have hR2 : R2 F (HHG G) i := by rw [← hFe]; exact R2_ad _ _ _
            have h6 : F (7 * 0 + 6) = 0 := by rw [← hFe, adF_ne (by omega), adF_at (by omega) (by omega)]; rfl
            have h13 : F (7 * 1 + 6) = 0 := by rw [← hFe, adF_at (by omega) (by omega)]; rfl
            have hl0 : looF F 2 = 0 := by rw [looF_2, b01_f (fun q => q h6), b01_f (fun q => q h13)]; rfl
            have hab := AM_b (HHG G) (i)
            have ham := R2_am hR2
            clear hO2 hFe
            refine PW.iconst (eL dL_law_1050) ?_
            refine PW.icmp_eq 1056 (eL dL_law_1051) (by decide) (by first | assumption | (unfold inR; omega)) (by first | assumption | (unfold inR; omega)) (fun h1051 => ?_) (fun h1051 => ?_)
            · refine PW.aload_n (eL dL_law_1056) rfl ?_
              refine PW.iconst (eL dL_law_1057) ?_
              refine PW.iconst (eL dL_law_1058) ?_
              refine PW.callVg (v_amount hO3 (b := 1) (w := 0) (by omega) (by omega) (by omega)) cv_X11_amount lk_L_71 hO3.1.1 (eL dL_law_1059) rfl rfl rfl (okC_mk rfl (Nat.le_of_ble_eq_true rfl) (Nat.le_of_ble_eq_true rfl) (Nat.le_of_ble_eq_true rfl) (lawC hkn.1) (lawS hkn.2)) (fun r S' τ1059 hq => ?_)
              obtain ⟨hS, hF, hO4, v0, rfl, am1, am2, am3, am4⟩ := hq
              have hS2 := hS.symm
              subst hS2
              have e0 : v0 = AM (HHG G) i := (am2 (by decide) rfl).trans ham
              subst e0
              refine PW.istore [(0, _), (1, _), (14, _), (15, _), (16, _), (17, _), (18, _)] (eL dL_law_1062) rfl (Nat.le_of_ble_eq_true rfl) ?_
              refine PW.iload (eL dL_law_1064) rfl ?_
              refine PW.iload (eL dL_law_1066) rfl ?_
              refine PW.icmp_ge 1076 (eL dL_law_1068) (by decide) (by first | assumption | (unfold inR; omega)) (by first | assumption | (unfold inR; omega)) (fun h1068 => ?_) (fun h1068 => ?_)
              · refine PW.iload (eL dL_law_1076) rfl ?_
                refine PW.istore [(0, _), (1, _), (14, _), (15, _), (16, _), (17, _), (18, _)] (eL dL_law_1078) rfl (Nat.le_of_ble_eq_true rfl) ?_
                refine PW.iload (eL dL_law_1080) rfl ?_
                refine PW.iload (eL dL_law_1082) rfl ?_
                refine PW.icmp_le 1092 (eL dL_law_1084) (by decide) (by first | assumption | (unfold inR; omega)) (by first | assumption | (unfold inR; omega)) (fun h1084 => ?_) (fun h1084 => ?_)
                · refine PW.iload (eL dL_law_1092) rfl ?_
                  refine PW.istore [(0, _), (1, _), (14, _), (15, _), (16, _), (17, _), (18, _)] (eL dL_law_1094) rfl (Nat.le_of_ble_eq_true rfl) ?_
                  refine PW.aload_n (eL dL_law_1096) rfl ?_
                  refine PW.callVg (v_clear hO4) cv_X11_clear lk_L_63 hO4.1.1 (eL dL_law_1097) rfl rfl rfl (okC_mk rfl (Nat.le_of_ble_eq_true rfl) (Nat.le_of_ble_eq_true rfl) (Nat.le_of_ble_eq_true rfl) (lawC hkn.1) (lawS hkn.2)) (fun r S' τ1097 hq => ?_)
                  obtain ⟨hS, rfl, hF, hO5⟩ := hq
                  have hS2 := hS.symm
                  subst hS2
                  refine PW.iconst (eL dL_law_1100) ?_
                  refine PW.icmp_eq 1106 (eL dL_law_1101) (by decide) (by first | assumption | (unfold inR; omega)) (by first | assumption | (unfold inR; omega)) (fun h1101 => ?_) (fun h1101 => ?_)
                  · refine PW.take 6 ?_
                    refine PW.iinc [(0, _), (1, _), (14, _), (15, _), (16, _), (17, _)] (eL dL_law_1106) rfl rfl (Nat.le_of_ble_eq_true rfl) ?_
                    refine PW.goto 993 (eL dL_law_1109) (by decide) ?_
                    first
                      | exact ih (i + 1) _ _ _ _ (by omega) (by omega) (by omega) g1 (lsK_skip g2 (by omega)) (gsK_skip g3 (by omega))
                      | exact ih (i + 1) _ _ _ _ (by omega) (by omega) (by omega) hO5 (lsK_s g2 (by omega) (by first | rw [if_pos (by omega)] | rw [if_neg (by omega)])) (gsK_s g3 (by omega) (by first | rw [if_pos (by omega)] | rw [if_neg (by omega)]))
                  · omega
                · refine PW.iload (eL dL_law_1087) rfl ?_
                  refine PW.goto 1094 (eL dL_law_1089) (by decide) ?_
                  refine PW.istore [(0, _), (1, _), (14, _), (15, _), (16, _), (17, _), (18, _)] (eL dL_law_1094) rfl (Nat.le_of_ble_eq_true rfl) ?_
                  refine PW.aload_n (eL dL_law_1096) rfl ?_
                  refine PW.callVg (v_clear hO4) cv_X11_clear lk_L_63 hO4.1.1 (eL dL_law_1097) rfl rfl rfl (okC_mk rfl (Nat.le_of_ble_eq_true rfl) (Nat.le_of_ble_eq_true rfl) (Nat.le_of_ble_eq_true rfl) (lawC hkn.1) (lawS hkn.2)) (fun r S' τ1097 hq => ?_)
                  obtain ⟨hS, rfl, hF, hO5⟩ := hq
                  have hS2 := hS.symm
                  subst hS2
                  refine PW.iconst (eL dL_law_1100) ?_
                  refine PW.icmp_eq 1106 (eL dL_law_1101) (by decide) (by first | assumption | (unfold inR; omega)) (by first | assumption | (unfold inR; omega)) (fun h1101 => ?_) (fun h1101 => ?_)
                  · refine PW.take 6 ?_
                    refine PW.iinc [(0, _), (1, _), (14, _), (15, _), (16, _), (17, _)] (eL dL_law_1106) rfl rfl (Nat.le_of_ble_eq_true rfl) ?_
                    refine PW.goto 993 (eL dL_law_1109) (by decide) ?_
                    first
                      | exact ih (i + 1) _ _ _ _ (by omega) (by omega) (by omega) g1 (lsK_skip g2 (by omega)) (gsK_skip g3 (by omega))
                      | exact ih (i + 1) _ _ _ _ (by omega) (by omega) (by omega) hO5 (lsK_s g2 (by omega) (by first | rw [if_pos (by omega)] | rw [if_neg (by omega)])) (gsK_s g3 (by omega) (by first | rw [if_pos (by omega)] | rw [if_neg (by omega)]))
                  · omega
              · refine PW.iload (eL dL_law_1071) rfl ?_
                refine PW.goto 1078 (eL dL_law_1073) (by decide) ?_
                refine PW.istore [(0, _), (1, _), (14, _), (15, _), (16, _), (17, _), (18, _)] (eL dL_law_1078) rfl (Nat.le_of_ble_eq_true rfl) ?_
                refine PW.iload (eL dL_law_1080) rfl ?_
                refine PW.iload (eL dL_law_1082) rfl ?_
                refine PW.icmp_le 1092 (eL dL_law_1084) (by decide) (by first | assumption | (unfold inR; omega)) (by first | assumption | (unfold inR; omega)) (fun h1084 => ?_) (fun h1084 => ?_)
                · refine PW.iload (eL dL_law_1092) rfl ?_
                  refine PW.istore [(0, _), (1, _), (14, _), (15, _), (16, _), (17, _), (18, _)] (eL dL_law_1094) rfl (Nat.le_of_ble_eq_true rfl) ?_
                  refine PW.aload_n (eL dL_law_1096) rfl ?_
                  refine PW.callVg (v_clear hO4) cv_X11_clear lk_L_63 hO4.1.1 (eL dL_law_1097) rfl rfl rfl (okC_mk rfl (Nat.le_of_ble_eq_true rfl) (Nat.le_of_ble_eq_true rfl) (Nat.le_of_ble_eq_true rfl) (lawC hkn.1) (lawS hkn.2)) (fun r S' τ1097 hq => ?_)
                  obtain ⟨hS, rfl, hF, hO5⟩ := hq
                  have hS2 := hS.symm
                  subst hS2
                  refine PW.iconst (eL dL_law_1100) ?_
                  refine PW.icmp_eq 1106 (eL dL_law_1101) (by decide) (by first | assumption | (unfold inR; omega)) (by first | assumption | (unfold inR; omega)) (fun h1101 => ?_) (fun h1101 => ?_)
                  · refine PW.take 6 ?_
                    refine PW.iinc [(0, _), (1, _), (14, _), (15, _), (16, _), (17, _)] (eL dL_law_1106) rfl rfl (Nat.le_of_ble_eq_true rfl) ?_
                    refine PW.goto 993 (eL dL_law_1109) (by decide) ?_
                    first
                      | exact ih (i + 1) _ _ _ _ (by omega) (by omega) (by omega) g1 (lsK_skip g2 (by omega)) (gsK_skip g3 (by omega))
                      | exact ih (i + 1) _ _ _ _ (by omega) (by omega) (by omega) hO5 (lsK_s g2 (by omega) (by first | rw [if_pos (by omega)] | rw [if_neg (by omega)])) (gsK_s g3 (by omega) (by first | rw [if_pos (by omega)] | rw [if_neg (by omega)]))
                  · omega
                · refine PW.iload (eL dL_law_1087) rfl ?_
                  refine PW.goto 1094 (eL dL_law_1089) (by decide) ?_
                  refine PW.istore [(0, _), (1, _), (14, _), (15, _), (16, _), (17, _), (18, _)] (eL dL_law_1094) rfl (Nat.le_of_ble_eq_true rfl) ?_
                  refine PW.aload_n (eL dL_law_1096) rfl ?_
                  refine PW.callVg (v_clear hO4) cv_X11_clear lk_L_63 hO4.1.1 (eL dL_law_1097) rfl rfl rfl (okC_mk rfl (Nat.le_of_ble_eq_true rfl) (Nat.le_of_ble_eq_true rfl) (Nat.le_of_ble_eq_true rfl) (lawC hkn.1) (lawS hkn.2)) (fun r S' τ1097 hq => ?_)
                  obtain ⟨hS, rfl, hF, hO5⟩ := hq
                  have hS2 := hS.symm
                  subst hS2
                  refine PW.iconst (eL dL_law_1100) ?_
                  refine PW.icmp_eq 1106 (eL dL_law_1101) (by decide) (by first | assumption | (unfold inR; omega)) (by first | assumption | (unfold inR; omega)) (fun h1101 => ?_) (fun h1101 => ?_)
                  · refine PW.take 6 ?_
                    refine PW.iinc [(0, _), (1, _), (14, _), (15, _), (16, _), (17, _)] (eL dL_law_1106) rfl rfl (Nat.le_of_ble_eq_true rfl) ?_
                    refine PW.goto 993 (eL dL_law_1109) (by decide) ?_
                    first
                      | exact ih (i + 1) _ _ _ _ (by omega) (by omega) (by omega) g1 (lsK_skip g2 (by omega)) (gsK_skip g3 (by omega))
                      | exact ih (i + 1) _ _ _ _ (by omega) (by omega) (by omega) hO5 (lsK_s g2 (by omega) (by first | rw [if_pos (by omega)] | rw [if_neg (by omega)])) (gsK_s g3 (by omega) (by first | rw [if_pos (by omega)] | rw [if_neg (by omega)]))
                  · omega
            · omega

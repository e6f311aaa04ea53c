def bdF (bd : Int) : Int := if bd = 3 then 15 else if bd = 4 then -1 else bd
theorem bdF_b {bd : Int} (h : 0 ≤ bd ∧ bd ≤ 4) : -1 ≤ bdF bd ∧ bdF bd ≤ 15 := by
  unfold bdF
  split
  · omega
  · split <;> omega
/-- what stands: the first object, the law's five rows -/
def LD (S : Shp) (σ : Sto) (R nb : Int) (f : Int → Int) (m : Int) (g SG K A B C D : Int → Int) : Prop := 478 ≤ S.1 ∧ (At S 473 (sA 0 2) ∧ At S 474 (sA 0 2) ∧ At S 475 (sA 0 2) ∧ At S 476 (sA 0 2) ∧ At S 477 (sA 0 2)) ∧ Ob S σ 0 R nb f m g 1 SG ∧ (σ 473 = K ∧ σ 474 = A ∧ σ 475 = B ∧ σ 476 = C ∧ σ 477 = D)
def MG (m : Int) (g K A B C D : Int → Int) : Prop := ∀ q, 0 ≤ q → q < m → mgOk K A B C D g q ∧ (inR (K q) ∧ inR (A q) ∧ inR (B q) ∧ inR (C q) ∧ inR (D q))
section LDS
variable {S : Shp} {σ τ : Sto} {R R' nb m : Int} {f g SG K A B C D : Int → Int}
theorem LD.o (H : LD S σ R nb f m g SG K A B C D) (hF : hFr σ τ 0) (hO : Ob S τ 0 R' nb f m g 1 SG) : LD S τ R' nb f m g SG K A B C D := by
  obtain ⟨h1, h2, -, c1, c2, c3, c4, c5⟩ := H
  exact ⟨h1, h2, hO, by rw [hF _ (by omega)]; exact c1, by rw [hF _ (by omega)]; exact c2, by rw [hF _ (by omega)]; exact c3, by rw [hF _ (by omega)]; exact c4, by rw [hF _ (by omega)]; exact c5⟩
theorem LD.q {hq : Nat} (H : LD S σ R nb f m g SG K A B C D) (hF : hFr σ τ hq) (hd : 478 ≤ hq) : LD S τ R nb f m g SG K A B C D := by
  obtain ⟨h1, h2, hO, c1, c2, c3, c4, c5⟩ := H
  exact ⟨h1, h2, hO.old hF (by omega) (by omega), by rw [hF _ (by omega)]; exact c1, by rw [hF _ (by omega)]; exact c2, by rw [hF _ (by omega)]; exact c3, by rw [hF _ (by omega)]; exact c4, by rw [hF _ (by omega)]; exact c5⟩
theorem LD.fr {S' : Shp} (H : LD S σ R nb f m g SG K A B C D) (e : ∀ b, b < S.1 → S'.2 b = S.2 b ∧ τ b = σ b) (h3 : S.1 ≤ S'.1) : LD S' τ R nb f m g SG K A B C D := by
  obtain ⟨h1, ⟨a1, a2, a3, a4, a5⟩, hO, c1, c2, c3, c4, c5⟩ := H
  exact ⟨by omega, ⟨a1.fr (e _ (by omega)).1 (by omega), a2.fr (e _ (by omega)).1 (by omega), a3.fr (e _ (by omega)).1 (by omega), a4.fr (e _ (by omega)).1 (by omega), a5.fr (e _ (by omega)).1 (by omega)⟩, hO.fr (fun b b0 b1 => (e b (by omega)).1) (fun b b0 b1 => (e b (by omega)).2) (by omega), by rw [(e _ (by omega)).2]; exact c1, by rw [(e _ (by omega)).2]; exact c2, by rw [(e _ (by omega)).2]; exact c3, by rw [(e _ (by omega)).2]; exact c4, by rw [(e _ (by omega)).2]; exact c5⟩
end LDS
/-- a new object -/
theorem hill0_Ob {S : Shp} {τ : Sto} {h : Nat} (hA : IsHill S h) (H : hill0 τ h) : Ob S τ h 0 0 (τ (h + 1 + 1)) 0 (τ (h + 4 + 1)) 0 (τ (h + 171 + 1)) := by
  have hk := hill0_ok H
  obtain ⟨a1, a4, a7, a11, a12, a13, a148, a149, a171, a173, a174, a176, a183, -⟩ := H
  refine ⟨hA, ⟨hk, fun q => ?_, ?_⟩, ⟨by rw [a1], rfl⟩, ⟨by rw [a4], rfl⟩, by rw [a171], rfl⟩
  · rw [a183] at q
    exact absurd q (by decide)
  · rw [a183]
    decide
set_option maxRecDepth 20000 in
theorem law_815 {G : GT} {b k n : Nat} {S : Shp} {σ : Sto} {R nb m x y bd ft i : Int} {f g sg0 K A B C D : Int → Int}  (hkn : k ≤ 100000 ∧ n ≤ 1000000) (hL : LD S σ R nb f m g (sgF sg0 0 0 (8 * y + x) (bdF bd) 0 0) K A B C D) (hnb : 0 ≤ nb ∧ nb ≤ 3) (hm : 0 ≤ m ∧ m ≤ 2) (hx : 0 ≤ x ∧ x < 8) (hy : 0 ≤ y ∧ y < 8) (hbd : 0 ≤ bd ∧ bd ≤ 4) (hrw : ∀ q, 0 ≤ q → q < nb → rwOk f q) (hmg : MG m g K A B C D) (hR : 0 ≤ R ∧ R ≤ 100 * i + 30) (hi : 0 ≤ i ∧ i < nS m) (hft : ft = ftC (uP nb f m g (sgF sg0 0 0 (8 * y + x) (bdF bd) 0 0) 1) i) (hK : ∀ (τ : Sto) (R2 ft2 : Int), LD S τ R2 nb f m g (sgF sg0 0 0 (8 * y + x) (bdF bd) 0 0) K A B C D → 0 ≤ R2 ∧ R2 ≤ 100 * i + 100 → ft2 = ftC (uP nb f m g (sgF sg0 0 0 (8 * y + x) (bdF bd) 0 0) 1) (i + 1) → PW (xL b (gB G)) G S τ k n 855 [(0, .ref 1000021), (1, .ref 0), (2, .int (iI (nb))), (3, .int (iI (m))), (4, .ref 473), (5, .ref 474), (6, .ref 475), (7, .ref 476), (8, .ref 477), (9, .int (iI (x))), (10, .int (iI (y))), (11, .int (iI (bd))), (12, .int (iI (nS m))), (13, .int (iI (ft2))), (14, .int (iI (i)))] []) (hu : (uP nb f m g (sgF sg0 0 0 (8 * y + x) (bdF bd) 0 0) 1) i = 0) : PW (xL b (gB G)) G S (σ) k n 815 [(0, .ref 1000021), (1, .ref 0), (2, .int (iI (nb))), (3, .int (iI (m))), (4, .ref 473), (5, .ref 474), (6, .ref 475), (7, .ref 476), (8, .ref 477), (9, .int (iI (x))), (10, .int (iI (y))), (11, .int (iI (bd))), (12, .int (iI (nS m))), (13, .int (iI (ft))), (14, .int (iI (i))), (15, .int (iI (mny i))), (16, .int (iI (onE i)))] [] := by
  obtain ⟨hl1, ⟨hA1, hA2, hA3, hA4, hA5⟩, hO, hc1, hc2, hc3, hc4, hc5⟩ := id hL
  have nb5 := nS_b (m := m) (by omega)
  have mb := mny_b i
  have ob := onE_b i
  have bb := bdF_b hbd
  have sf := st_f hm hi.1 hi.2
  have fb := ftC_b (uP nb f m g (sgF sg0 0 0 (8 * y + x) (bdF bd) 0 0) 1) hi.1
  have hfs := ftC_s (uP nb f m g (sgF sg0 0 0 (8 * y + x) (bdF bd) 0 0) 1) hi.1
  rw [b01_t hu] at hfs
  refine PW.aload_n (eL dL_law_815) rfl ?_
  refine PW.iconst (eL dL_law_816) ?_
  refine PW.iload (eL dL_law_817) rfl ?_
  refine PW.iconst (eL dL_law_819) ?_
  refine PW.callVg (v_story hO (k := 1) (i := ft) (j := -1) (by omega) (by omega) (by omega) (by unfold inR; omega) (by unfold inR; omega)) cv_X11_story lk_L_47 hO.1.1 (eL dL_law_820) rfl rfl rfl (okC_mk rfl (Nat.le_of_ble_eq_true rfl) (Nat.le_of_ble_eq_true rfl) (Nat.le_of_ble_eq_true rfl) (lawC hkn.1) (lawS hkn.2)) (fun r S' τ820 hq => ?_)
  obtain ⟨hS, hF, hO1, F1, hG1, rfl⟩ := hq
  have hS2 := hS.symm
  subst hS2
  have hL1 := hL.o hF hO1
  refine PW.top (mny i) ((sty hG1 hi.1 hi.2 hu hft).trans ((if_pos rfl).trans sf.2.1)) ?_
  refine PW.iload (eL dL_law_823) rfl ?_
  refine PW.icmp_ne 850 (eL dL_law_825) (by decide) (by first | assumption | (unfold inR; omega)) (by first | assumption | (unfold inR; omega)) (fun h825 => ?_) (fun h825 => ?_)
  · omega
  · refine PW.aload_n (eL dL_law_828) rfl ?_
    refine PW.iconst (eL dL_law_829) ?_
    refine PW.iload (eL dL_law_830) rfl ?_
    refine PW.iconst (eL dL_law_832) ?_
    refine PW.callVg (v_story hO1 (k := -1) (i := ft) (j := 0) (by omega) (by omega) (by omega) (by unfold inR; omega) (by unfold inR; omega)) cv_X11_story lk_L_47 hO1.1.1 (eL dL_law_833) rfl rfl rfl (okC_mk rfl (Nat.le_of_ble_eq_true rfl) (Nat.le_of_ble_eq_true rfl) (Nat.le_of_ble_eq_true rfl) (lawC hkn.1) (lawS hkn.2)) (fun r S' τ833 hq => ?_)
    obtain ⟨hS, hF, hO2, F2, hG2, rfl⟩ := hq
    have hS2 := hS.symm
    subst hS2
    have hL2 := hL1.o hF hO2
    obtain ⟨w0, hw0⟩ : ∃ w : Int, (if mny i = 0 then -1 else onE i) = w := ⟨_, rfl⟩
    have hw1 : mny i = 0 → w0 = -1 := fun q => by rw [← hw0, if_pos q]
    have hw2 : ¬ mny i = 0 → w0 = onE i := fun q => by rw [← hw0, if_neg q]
    have hwb : -1 ≤ w0 ∧ w0 ≤ 1 := by
      by_cases q : mny i = 0
      · have := hw1 q
        omega
      · have := hw2 q
        omega
    refine PW.top w0 ((sty hG2 hi.1 hi.2 hu hft).trans ((if_neg (by decide)).trans (sf.2.2.1.trans hw0))) ?_
    refine PW.iload (eL dL_law_836) rfl ?_
    refine PW.if_ne 845 (eL dL_law_838) (by decide) (by first | assumption | (unfold inR; omega)) (fun h838 => ?_) (fun h838 => ?_)
    · refine PW.iload (eL dL_law_845) rfl ?_
      refine PW.icmp_eq 852 (eL dL_law_847) (by decide) (by first | assumption | (unfold inR; omega)) (by first | assumption | (unfold inR; omega)) (fun h847 => ?_) (fun h847 => ?_)
      · refine PW.iinc [(0, _), (1, _), (2, _), (3, _), (4, _), (5, _), (6, _), (7, _), (8, _), (9, _), (10, _), (11, _), (12, _), (13, _), (14, _), (15, _), (16, _)] (eL dL_law_852) rfl rfl (Nat.le_of_ble_eq_true rfl) ?_
        refine PW.keep [(0, .ref 1000021), (1, .ref 0), (2, .int (iI (nb))), (3, .int (iI (m))), (4, .ref 473), (5, .ref 474), (6, .ref 475), (7, .ref 476), (8, .ref 477), (9, .int (iI (x))), (10, .int (iI (y))), (11, .int (iI (bd))), (12, .int (iI (nS m))), (13, .int (iI (ft + 1))), (14, .int (iI (i)))] (by simp) ?_
        exact hK _ _ _ hL2 (by omega) (by omega)
      · omega
    · refine PW.iconst (eL dL_law_841) ?_
      refine PW.goto 847 (eL dL_law_842) (by decide) ?_
      refine PW.icmp_eq 852 (eL dL_law_847) (by decide) (by first | assumption | (unfold inR; omega)) (by first | assumption | (unfold inR; omega)) (fun h847 => ?_) (fun h847 => ?_)
      · refine PW.iinc [(0, _), (1, _), (2, _), (3, _), (4, _), (5, _), (6, _), (7, _), (8, _), (9, _), (10, _), (11, _), (12, _), (13, _), (14, _), (15, _), (16, _)] (eL dL_law_852) rfl rfl (Nat.le_of_ble_eq_true rfl) ?_
        refine PW.keep [(0, .ref 1000021), (1, .ref 0), (2, .int (iI (nb))), (3, .int (iI (m))), (4, .ref 473), (5, .ref 474), (6, .ref 475), (7, .ref 476), (8, .ref 477), (9, .int (iI (x))), (10, .int (iI (y))), (11, .int (iI (bd))), (12, .int (iI (nS m))), (13, .int (iI (ft + 1))), (14, .int (iI (i)))] (by simp) ?_
        exact hK _ _ _ hL2 (by omega) (by omega)
      · omega
set_option maxRecDepth 20000 in
theorem law_800 {G : GT} {b k n : Nat} {S : Shp} {σ : Sto} {R nb m x y bd ft i : Int} {f g sg0 K A B C D : Int → Int} {sk : Int} (hkn : k ≤ 100000 ∧ n ≤ 1000000) (hL : LD S σ R nb f m g (sgF sg0 0 0 (8 * y + x) (bdF bd) 0 0) K A B C D) (hnb : 0 ≤ nb ∧ nb ≤ 3) (hm : 0 ≤ m ∧ m ≤ 2) (hx : 0 ≤ x ∧ x < 8) (hy : 0 ≤ y ∧ y < 8) (hbd : 0 ≤ bd ∧ bd ≤ 4) (hrw : ∀ q, 0 ≤ q → q < nb → rwOk f q) (hmg : MG m g K A B C D) (hR : 0 ≤ R ∧ R ≤ 100 * i + 30) (hi : 0 ≤ i ∧ i < nS m) (hft : ft = ftC (uP nb f m g (sgF sg0 0 0 (8 * y + x) (bdF bd) 0 0) 1) i) (hK : ∀ (τ : Sto) (R2 ft2 : Int), LD S τ R2 nb f m g (sgF sg0 0 0 (8 * y + x) (bdF bd) 0 0) K A B C D → 0 ≤ R2 ∧ R2 ≤ 100 * i + 100 → ft2 = ftC (uP nb f m g (sgF sg0 0 0 (8 * y + x) (bdF bd) 0 0) 1) (i + 1) → PW (xL b (gB G)) G S τ k n 855 [(0, .ref 1000021), (1, .ref 0), (2, .int (iI (nb))), (3, .int (iI (m))), (4, .ref 473), (5, .ref 474), (6, .ref 475), (7, .ref 476), (8, .ref 477), (9, .int (iI (x))), (10, .int (iI (y))), (11, .int (iI (bd))), (12, .int (iI (nS m))), (13, .int (iI (ft2))), (14, .int (iI (i)))] []) (hsb : -1 ≤ sk ∧ sk ≤ 15) (hsk : sk = sbF (colS g (8 * y + x) (tlF f (8 * y + x) zF nb.toNat) (pth m i))) : PW (xL b (gB G)) G S (σ) k n 800 [(0, .ref 1000021), (1, .ref 0), (2, .int (iI (nb))), (3, .int (iI (m))), (4, .ref 473), (5, .ref 474), (6, .ref 475), (7, .ref 476), (8, .ref 477), (9, .int (iI (x))), (10, .int (iI (y))), (11, .int (iI (bd))), (12, .int (iI (nS m))), (13, .int (iI (ft))), (14, .int (iI (i))), (15, .int (iI (mny i))), (16, .int (iI (onE i)))] [.int (iI (bdF bd)), .int (iI sk)] := by
  obtain ⟨hl1, ⟨hA1, hA2, hA3, hA4, hA5⟩, hO, hc1, hc2, hc3, hc4, hc5⟩ := id hL
  have nb5 := nS_b (m := m) (by omega)
  have mb := mny_b i
  have ob := onE_b i
  have bb := bdF_b hbd
  have sf := st_f hm hi.1 hi.2
  have fb := ftC_b (uP nb f m g (sgF sg0 0 0 (8 * y + x) (bdF bd) 0 0) 1) hi.1
  have hfs := ftC_s (uP nb f m g (sgF sg0 0 0 (8 * y + x) (bdF bd) 0 0) 1) hi.1
  refine PW.icmp_ne 807 (eL dL_law_800) (by decide) (by first | assumption | (unfold inR; omega)) (by first | assumption | (unfold inR; omega)) (fun h800 => ?_) (fun h800 => ?_)
  · have hu : ¬ (uP nb f m g (sgF sg0 0 0 (8 * y + x) (bdF bd) 0 0) 1) i = 0 := fun q => by
      have h := uP_1.mp q
      rw [← hsk] at h
      omega
    rw [b01_f hu] at hfs
    refine PW.iconst (eL dL_law_807) ?_
    refine PW.istore [(0, _), (1, _), (2, _), (3, _), (4, _), (5, _), (6, _), (7, _), (8, _), (9, _), (10, _), (11, _), (12, _), (13, _), (14, _), (15, _), (16, _), (18, _)] (eL dL_law_808) rfl (Nat.le_of_ble_eq_true rfl) ?_
    refine PW.iload (eL dL_law_810) rfl ?_
    refine PW.if_eq 855 (eL dL_law_812) (by decide) (by first | assumption | (unfold inR; omega)) (fun h812 => ?_) (fun h812 => ?_)
    · refine PW.keep [(0, .ref 1000021), (1, .ref 0), (2, .int (iI (nb))), (3, .int (iI (m))), (4, .ref 473), (5, .ref 474), (6, .ref 475), (7, .ref 476), (8, .ref 477), (9, .int (iI (x))), (10, .int (iI (y))), (11, .int (iI (bd))), (12, .int (iI (nS m))), (13, .int (iI (ft))), (14, .int (iI (i)))] (by simp) ?_
      exact hK _ _ _ hL (by omega) (by omega)
    · omega
  · have hu : (uP nb f m g (sgF sg0 0 0 (8 * y + x) (bdF bd) 0 0) 1) i = 0 := uP_1.mpr (by rw [← hsk]; omega)
    refine PW.iconst (eL dL_law_803) ?_
    refine PW.goto 808 (eL dL_law_804) (by decide) ?_
    refine PW.istore [(0, _), (1, _), (2, _), (3, _), (4, _), (5, _), (6, _), (7, _), (8, _), (9, _), (10, _), (11, _), (12, _), (13, _), (14, _), (15, _), (16, _), (18, _)] (eL dL_law_808) rfl (Nat.le_of_ble_eq_true rfl) ?_
    refine PW.iload (eL dL_law_810) rfl ?_
    refine PW.if_eq 855 (eL dL_law_812) (by decide) (by first | assumption | (unfold inR; omega)) (fun h812 => ?_) (fun h812 => ?_)
    · omega
    · exact PW.take 17 (law_815 hkn hL hnb hm hx hy hbd hrw hmg hR hi hft hK hu)
set_option maxRecDepth 20000 in
theorem law_767 {G : GT} {b k n : Nat} {S : Shp} {σ : Sto} {R nb m x y bd ft i : Int} {f g sg0 K A B C D : Int → Int} {hq : Nat} {F gq sq : Int → Int} (hkn : k ≤ 100000 ∧ n ≤ 1000000) (hL : LD S σ R nb f m g (sgF sg0 0 0 (8 * y + x) (bdF bd) 0 0) K A B C D) (hnb : 0 ≤ nb ∧ nb ≤ 3) (hm : 0 ≤ m ∧ m ≤ 2) (hx : 0 ≤ x ∧ x < 8) (hy : 0 ≤ y ∧ y < 8) (hbd : 0 ≤ bd ∧ bd ≤ 4) (hrw : ∀ q, 0 ≤ q → q < nb → rwOk f q) (hmg : MG m g K A B C D) (hR : 0 ≤ R ∧ R ≤ 100 * i + 30) (hi : 0 ≤ i ∧ i < nS m) (hft : ft = ftC (uP nb f m g (sgF sg0 0 0 (8 * y + x) (bdF bd) 0 0) 1) i) (hK : ∀ (τ : Sto) (R2 ft2 : Int), LD S τ R2 nb f m g (sgF sg0 0 0 (8 * y + x) (bdF bd) 0 0) K A B C D → 0 ≤ R2 ∧ R2 ≤ 100 * i + 100 → ft2 = ftC (uP nb f m g (sgF sg0 0 0 (8 * y + x) (bdF bd) 0 0) 1) (i + 1) → PW (xL b (gB G)) G S τ k n 855 [(0, .ref 1000021), (1, .ref 0), (2, .int (iI (nb))), (3, .int (iI (m))), (4, .ref 473), (5, .ref 474), (6, .ref 475), (7, .ref 476), (8, .ref 477), (9, .int (iI (x))), (10, .int (iI (y))), (11, .int (iI (bd))), (12, .int (iI (nS m))), (13, .int (iI (ft2))), (14, .int (iI (i)))] []) (hq0 : 478 ≤ hq) (hqS : hq + 473 ≤ S.1) (hQ : Ob S σ hq 0 (nb + mny i) F 0 gq 0 sq) (hcol : tlF F (8 * y + x) zF (nb + mny i).toNat = (colS g (8 * y + x) (tlF f (8 * y + x) zF nb.toNat) (pth m i))) : PW (xL b (gB G)) G S (σ) k n 767 [(0, .ref 1000021), (1, .ref 0), (2, .int (iI (nb))), (3, .int (iI (m))), (4, .ref 473), (5, .ref 474), (6, .ref 475), (7, .ref 476), (8, .ref 477), (9, .int (iI (x))), (10, .int (iI (y))), (11, .int (iI (bd))), (12, .int (iI (nS m))), (13, .int (iI (ft))), (14, .int (iI (i))), (15, .int (iI (mny i))), (16, .int (iI (onE i))), (17, .ref hq)] [] := by
  obtain ⟨hl1, ⟨hA1, hA2, hA3, hA4, hA5⟩, hO, hc1, hc2, hc3, hc4, hc5⟩ := id hL
  have nb5 := nS_b (m := m) (by omega)
  have mb := mny_b i
  have ob := onE_b i
  have bb := bdF_b hbd
  have sf := st_f hm hi.1 hi.2
  have fb := ftC_b (uP nb f m g (sgF sg0 0 0 (8 * y + x) (bdF bd) 0 0) 1) hi.1
  have hQb := hQ.b
  have hsb := sbF_b (tlF_ok (f := F) (n := 8 * y + x) (c := zF) (k := (nb + mny i).toNat) (fun q q0 q1 => hQb.2.2.2.1 q q0 (by omega)))
  refine PW.aload (eL dL_law_767) rfl ?_
  refine PW.iload (eL dL_law_769) rfl ?_
  refine PW.iload (eL dL_law_771) rfl ?_
  refine PW.iconst (eL dL_law_773) ?_
  refine PW.callVg (v_skin hQ hx hy) cv_X11_skin lk_L_53 hQ.1.1 (eL dL_law_774) rfl rfl rfl (okC_mk rfl (Nat.le_of_ble_eq_true rfl) (Nat.le_of_ble_eq_true rfl) (Nat.le_of_ble_eq_true rfl) (lawC hkn.1) (lawS hkn.2)) (fun r S' τ774 hq => ?_)
  obtain ⟨hS, rfl, hF, hQ1⟩ := hq
  have hS2 := hS.symm
  subst hS2
  have hL1 := hL.q hF hq0
  refine PW.top (sbF (colS g (8 * y + x) (tlF f (8 * y + x) zF nb.toNat) (pth m i))) (by rw [hcol]) ?_
  rw [hcol] at hsb
  refine PW.iload (eL dL_law_777) rfl ?_
  refine PW.iconst (eL dL_law_779) ?_
  refine PW.icmp_ne 788 (eL dL_law_780) (by decide) (by first | assumption | (unfold inR; omega)) (by first | assumption | (unfold inR; omega)) (fun h780 => ?_) (fun h780 => ?_)
  · refine PW.iload (eL dL_law_788) rfl ?_
    refine PW.iconst (eL dL_law_790) ?_
    refine PW.icmp_ne 798 (eL dL_law_791) (by decide) (by first | assumption | (unfold inR; omega)) (by first | assumption | (unfold inR; omega)) (fun h791 => ?_) (fun h791 => ?_)
    · refine PW.iload (eL dL_law_798) rfl ?_
      refine PW.top (bdF bd) (by unfold bdF; first | (rw [if_pos (by omega)]) | (rw [if_neg (by omega), if_pos (by omega)]) | (rw [if_neg (by omega), if_neg (by omega)])) ?_
      exact PW.take 17 (law_800 hkn hL1 hnb hm hx hy hbd hrw hmg hR hi hft hK hsb rfl)
    · refine PW.iconst (eL dL_law_794) ?_
      refine PW.goto 800 (eL dL_law_795) (by decide) ?_
      refine PW.top (bdF bd) (by unfold bdF; first | (rw [if_pos (by omega)]) | (rw [if_neg (by omega), if_pos (by omega)]) | (rw [if_neg (by omega), if_neg (by omega)])) ?_
      exact PW.take 17 (law_800 hkn hL1 hnb hm hx hy hbd hrw hmg hR hi hft hK hsb rfl)
  · refine PW.bipush (by decide) (eL dL_law_783) ?_
    refine PW.goto 800 (eL dL_law_785) (by decide) ?_
    refine PW.top (bdF bd) (by unfold bdF; first | (rw [if_pos (by omega)]) | (rw [if_neg (by omega), if_pos (by omega)]) | (rw [if_neg (by omega), if_neg (by omega)])) ?_
    exact PW.take 17 (law_800 hkn hL1 hnb hm hx hy hbd hrw hmg hR hi hft hK hsb rfl)
set_option maxRecDepth 20000 in
theorem law_698 {G : GT} {b k n : Nat} {S : Shp} {R nb m x y bd ft i : Int} {f g sg0 K A B C D : Int → Int} {hq : Nat} {gq sq : Int → Int} (hkn : k ≤ 100000 ∧ n ≤ 1000000) (hnb : 0 ≤ nb ∧ nb ≤ 3) (hm : 0 ≤ m ∧ m ≤ 2) (hx : 0 ≤ x ∧ x < 8) (hy : 0 ≤ y ∧ y < 8) (hbd : 0 ≤ bd ∧ bd ≤ 4) (hrw : ∀ q, 0 ≤ q → q < nb → rwOk f q) (hmg : MG m g K A B C D) (hR : 0 ≤ R ∧ R ≤ 100 * i + 30) (hi : 0 ≤ i ∧ i < nS m) (hft : ft = ftC (uP nb f m g (sgF sg0 0 0 (8 * y + x) (bdF bd) 0 0) 1) i) (hK : ∀ (τ : Sto) (R2 ft2 : Int), LD S τ R2 nb f m g (sgF sg0 0 0 (8 * y + x) (bdF bd) 0 0) K A B C D → 0 ≤ R2 ∧ R2 ≤ 100 * i + 100 → ft2 = ftC (uP nb f m g (sgF sg0 0 0 (8 * y + x) (bdF bd) 0 0) 1) (i + 1) → PW (xL b (gB G)) G S τ k n 855 [(0, .ref 1000021), (1, .ref 0), (2, .int (iI (nb))), (3, .int (iI (m))), (4, .ref 473), (5, .ref 474), (6, .ref 475), (7, .ref 476), (8, .ref 477), (9, .int (iI (x))), (10, .int (iI (y))), (11, .int (iI (bd))), (12, .int (iI (nS m))), (13, .int (iI (ft2))), (14, .int (iI (i)))] []) (hq0 : 478 ≤ hq) (hqS : hq + 473 ≤ S.1)  : ∀ (fuel : Nat) (j : Int) (σ : Sto) (F : Int → Int), 0 ≤ j → j ≤ mny i → mny i - j < fuel → LD S σ R nb f m g (sgF sg0 0 0 (8 * y + x) (bdF bd) 0 0) K A B C D → Ob S σ hq 0 (nb + j) F 0 gq 0 sq → tlF F (8 * y + x) zF (nb + j).toNat = colS g (8 * y + x) (tlF f (8 * y + x) zF nb.toNat) ((pth m i).take j.toNat) → PW (xL b (gB G)) G S σ k n 698 [(0, .ref 1000021), (1, .ref 0), (2, .int (iI (nb))), (3, .int (iI (m))), (4, .ref 473), (5, .ref 474), (6, .ref 475), (7, .ref 476), (8, .ref 477), (9, .int (iI (x))), (10, .int (iI (y))), (11, .int (iI (bd))), (12, .int (iI (nS m))), (13, .int (iI (ft))), (14, .int (iI (i))), (15, .int (iI (mny i))), (16, .int (iI (onE i))), (17, .ref hq), (18, .int (iI (j)))] [] := by
  intro fuel
  induction fuel with
  | zero => intro j σ F g0 g1 g2; omega
  | succ fuel ih =>
    intro j σ F g0 g1 g2 hL hQ g5
    obtain ⟨hl1, ⟨hA1, hA2, hA3, hA4, hA5⟩, hO, hc1, hc2, hc3, hc4, hc5⟩ := id hL
    have nb5 := nS_b (m := m) (by omega)
    have mb := mny_b i
    have ob := onE_b i
    have bb := bdF_b hbd
    have sf := st_f hm hi.1 hi.2
    have fb := ftC_b (uP nb f m g (sgF sg0 0 0 (8 * y + x) (bdF bd) 0 0) 1) hi.1
    have pb := pj_b i j
    have hpa := pth_all hm hi.1 hi.2
    refine PW.iload (eL dL_law_698) rfl ?_
    refine PW.iload (eL dL_law_700) rfl ?_
    refine PW.icmp_ge 767 (eL dL_law_702) (by decide) (by first | assumption | (unfold inR; omega)) (by first | assumption | (unfold inR; omega)) (fun h702 => ?_) (fun h702 => ?_)
    · have hj : j = mny i := by omega
      subst hj
      rw [hpa] at g5
      exact PW.take 18 (law_767 hkn hL hnb hm hx hy hbd hrw hmg hR hi hft hK hq0 hqS hQ g5)
    · have htk := pth_tk hm hi.1 hi.2 g0 (show j < mny i by omega)
      have hmq := hmg (pj i j) htk.2.1 htk.2.2
      refine PW.iload (eL dL_law_705) rfl ?_
      refine PW.if_ne 715 (eL dL_law_707) (by decide) (by first | assumption | (unfold inR; omega)) (fun h707 => ?_) (fun h707 => ?_)
      · refine PW.iconst (eL dL_law_715) ?_
        refine PW.iload (eL dL_law_716) rfl ?_
        refine PW.isub (eL dL_law_718) ?_
        refine PW.top (pj i j) (by unfold pj; first | (rw [if_pos (by omega)]) | (rw [if_neg (by omega)])) ?_
        refine PW.istore [(0, _), (1, _), (2, _), (3, _), (4, _), (5, _), (6, _), (7, _), (8, _), (9, _), (10, _), (11, _), (12, _), (13, _), (14, _), (15, _), (16, _), (17, _), (18, _), (19, _)] (eL dL_law_719) rfl (Nat.le_of_ble_eq_true rfl) ?_
        refine PW.aload (eL dL_law_721) rfl ?_
        refine PW.aload (eL dL_law_723) rfl ?_
        refine PW.iload (eL dL_law_725) rfl ?_
        refine PW.iaload (by assumption) (by first | assumption | (unfold inR; omega)) (by omega) (by omega) (eL dL_law_727) ?_
        refine PW.top (K (pj i j)) (by rw [hc1]) ?_
        refine PW.aload (eL dL_law_728) rfl ?_
        refine PW.iload (eL dL_law_730) rfl ?_
        refine PW.iaload (by assumption) (by first | assumption | (unfold inR; omega)) (by omega) (by omega) (eL dL_law_732) ?_
        refine PW.top (A (pj i j)) (by rw [hc2]) ?_
        refine PW.aload (eL dL_law_733) rfl ?_
        refine PW.iload (eL dL_law_735) rfl ?_
        refine PW.iaload (by assumption) (by first | assumption | (unfold inR; omega)) (by omega) (by omega) (eL dL_law_737) ?_
        refine PW.top (B (pj i j)) (by rw [hc3]) ?_
        refine PW.aload (eL dL_law_738) rfl ?_
        refine PW.iload (eL dL_law_740) rfl ?_
        refine PW.iaload (by assumption) (by first | assumption | (unfold inR; omega)) (by omega) (by omega) (eL dL_law_742) ?_
        refine PW.top (C (pj i j)) (by rw [hc4]) ?_
        refine PW.aload (eL dL_law_743) rfl ?_
        refine PW.iload (eL dL_law_745) rfl ?_
        refine PW.iaload (by assumption) (by first | assumption | (unfold inR; omega)) (by omega) (by omega) (eL dL_law_747) ?_
        refine PW.top (D (pj i j)) (by rw [hc5]) ?_
        refine PW.iconst (eL dL_law_748) ?_
        refine PW.callVg (v_event hQ hmq.1.1 (by omega) hmq.2.1 hmq.2.2.1 hmq.2.2.2.1 hmq.2.2.2.2.1 hmq.2.2.2.2.2 (by unfold inR; omega)) cv_X11_event lk_L_33 hQ.1.1 (eL dL_law_749) rfl rfl rfl (okC_mk rfl (Nat.le_of_ble_eq_true rfl) (Nat.le_of_ble_eq_true rfl) (Nat.le_of_ble_eq_true rfl) (lawC hkn.1) (lawS hkn.2)) (fun r S' τ749 hq => ?_)
        obtain ⟨hS, rfl, hF, hQ1⟩ := hq
        have hS2 := hS.symm
        subst hS2
        have hL1 := hL.q hF hq0
        refine PW.iload_n (eL dL_law_752) rfl ?_
        refine PW.iload (eL dL_law_753) rfl ?_
        refine PW.iadd (eL dL_law_755) ?_
        refine PW.icmp_eq 761 (eL dL_law_756) (by decide) (by first | assumption | (unfold inR; omega)) (by first | assumption | (unfold inR; omega)) (fun h756 => ?_) (fun h756 => ?_)
        · refine PW.iinc [(0, _), (1, _), (2, _), (3, _), (4, _), (5, _), (6, _), (7, _), (8, _), (9, _), (10, _), (11, _), (12, _), (13, _), (14, _), (15, _), (16, _), (17, _), (18, _), (19, _)] (eL dL_law_761) rfl rfl (Nat.le_of_ble_eq_true rfl) ?_
          refine PW.goto 698 (eL dL_law_764) (by decide) ?_
          have e1 : nb + j + 1 = nb + (j + 1) := by omega
          rw [e1] at hQ1
          refine PW.keep [(0, .ref 1000021), (1, .ref 0), (2, .int (iI (nb))), (3, .int (iI (m))), (4, .ref 473), (5, .ref 474), (6, .ref 475), (7, .ref 476), (8, .ref 477), (9, .int (iI (x))), (10, .int (iI (y))), (11, .int (iI (bd))), (12, .int (iI (nS m))), (13, .int (iI (ft))), (14, .int (iI (i))), (15, .int (iI (mny i))), (16, .int (iI (onE i))), (17, .ref hq), (18, .int (iI (j + 1)))] (by simp) ?_
          exact ih (j + 1) _ _ (by omega) (by omega) (by omega) hL1 hQ1 (st_step (by omega) hm hi.1 hi.2 g0 (by omega) hmq.1 g5)
        · omega
      · refine PW.iload (eL dL_law_710) rfl ?_
        refine PW.goto 719 (eL dL_law_712) (by decide) ?_
        refine PW.top (pj i j) (by unfold pj; first | (rw [if_pos (by omega)]) | (rw [if_neg (by omega)])) ?_
        refine PW.istore [(0, _), (1, _), (2, _), (3, _), (4, _), (5, _), (6, _), (7, _), (8, _), (9, _), (10, _), (11, _), (12, _), (13, _), (14, _), (15, _), (16, _), (17, _), (18, _), (19, _)] (eL dL_law_719) rfl (Nat.le_of_ble_eq_true rfl) ?_
        refine PW.aload (eL dL_law_721) rfl ?_
        refine PW.aload (eL dL_law_723) rfl ?_
        refine PW.iload (eL dL_law_725) rfl ?_
        refine PW.iaload (by assumption) (by first | assumption | (unfold inR; omega)) (by omega) (by omega) (eL dL_law_727) ?_
        refine PW.top (K (pj i j)) (by rw [hc1]) ?_
        refine PW.aload (eL dL_law_728) rfl ?_
        refine PW.iload (eL dL_law_730) rfl ?_
        refine PW.iaload (by assumption) (by first | assumption | (unfold inR; omega)) (by omega) (by omega) (eL dL_law_732) ?_
        refine PW.top (A (pj i j)) (by rw [hc2]) ?_
        refine PW.aload (eL dL_law_733) rfl ?_
        refine PW.iload (eL dL_law_735) rfl ?_
        refine PW.iaload (by assumption) (by first | assumption | (unfold inR; omega)) (by omega) (by omega) (eL dL_law_737) ?_
        refine PW.top (B (pj i j)) (by rw [hc3]) ?_
        refine PW.aload (eL dL_law_738) rfl ?_
        refine PW.iload (eL dL_law_740) rfl ?_
        refine PW.iaload (by assumption) (by first | assumption | (unfold inR; omega)) (by omega) (by omega) (eL dL_law_742) ?_
        refine PW.top (C (pj i j)) (by rw [hc4]) ?_
        refine PW.aload (eL dL_law_743) rfl ?_
        refine PW.iload (eL dL_law_745) rfl ?_
        refine PW.iaload (by assumption) (by first | assumption | (unfold inR; omega)) (by omega) (by omega) (eL dL_law_747) ?_
        refine PW.top (D (pj i j)) (by rw [hc5]) ?_
        refine PW.iconst (eL dL_law_748) ?_
        refine PW.callVg (v_event hQ hmq.1.1 (by omega) hmq.2.1 hmq.2.2.1 hmq.2.2.2.1 hmq.2.2.2.2.1 hmq.2.2.2.2.2 (by unfold inR; omega)) cv_X11_event lk_L_33 hQ.1.1 (eL dL_law_749) rfl rfl rfl (okC_mk rfl (Nat.le_of_ble_eq_true rfl) (Nat.le_of_ble_eq_true rfl) (Nat.le_of_ble_eq_true rfl) (lawC hkn.1) (lawS hkn.2)) (fun r S' τ749 hq => ?_)
        obtain ⟨hS, rfl, hF, hQ1⟩ := hq
        have hS2 := hS.symm
        subst hS2
        have hL1 := hL.q hF hq0
        refine PW.iload_n (eL dL_law_752) rfl ?_
        refine PW.iload (eL dL_law_753) rfl ?_
        refine PW.iadd (eL dL_law_755) ?_
        refine PW.icmp_eq 761 (eL dL_law_756) (by decide) (by first | assumption | (unfold inR; omega)) (by first | assumption | (unfold inR; omega)) (fun h756 => ?_) (fun h756 => ?_)
        · refine PW.iinc [(0, _), (1, _), (2, _), (3, _), (4, _), (5, _), (6, _), (7, _), (8, _), (9, _), (10, _), (11, _), (12, _), (13, _), (14, _), (15, _), (16, _), (17, _), (18, _), (19, _)] (eL dL_law_761) rfl rfl (Nat.le_of_ble_eq_true rfl) ?_
          refine PW.goto 698 (eL dL_law_764) (by decide) ?_
          have e1 : nb + j + 1 = nb + (j + 1) := by omega
          rw [e1] at hQ1
          refine PW.keep [(0, .ref 1000021), (1, .ref 0), (2, .int (iI (nb))), (3, .int (iI (m))), (4, .ref 473), (5, .ref 474), (6, .ref 475), (7, .ref 476), (8, .ref 477), (9, .int (iI (x))), (10, .int (iI (y))), (11, .int (iI (bd))), (12, .int (iI (nS m))), (13, .int (iI (ft))), (14, .int (iI (i))), (15, .int (iI (mny i))), (16, .int (iI (onE i))), (17, .ref hq), (18, .int (iI (j + 1)))] (by simp) ?_
          exact ih (j + 1) _ _ (by omega) (by omega) (by omega) hL1 hQ1 (st_step (by omega) hm hi.1 hi.2 g0 (by omega) hmq.1 g5)
        · omega
set_option maxRecDepth 20000 in
theorem law_635 {G : GT} {b k n : Nat} {S : Shp} {R nb m x y bd ft i : Int} {f g sg0 K A B C D : Int → Int} {hq : Nat} {gq sq : Int → Int} (hkn : k ≤ 100000 ∧ n ≤ 1000000) (hnb : 0 ≤ nb ∧ nb ≤ 3) (hm : 0 ≤ m ∧ m ≤ 2) (hx : 0 ≤ x ∧ x < 8) (hy : 0 ≤ y ∧ y < 8) (hbd : 0 ≤ bd ∧ bd ≤ 4) (hrw : ∀ q, 0 ≤ q → q < nb → rwOk f q) (hmg : MG m g K A B C D) (hR : 0 ≤ R ∧ R ≤ 100 * i + 30) (hi : 0 ≤ i ∧ i < nS m) (hft : ft = ftC (uP nb f m g (sgF sg0 0 0 (8 * y + x) (bdF bd) 0 0) 1) i) (hK : ∀ (τ : Sto) (R2 ft2 : Int), LD S τ R2 nb f m g (sgF sg0 0 0 (8 * y + x) (bdF bd) 0 0) K A B C D → 0 ≤ R2 ∧ R2 ≤ 100 * i + 100 → ft2 = ftC (uP nb f m g (sgF sg0 0 0 (8 * y + x) (bdF bd) 0 0) 1) (i + 1) → PW (xL b (gB G)) G S τ k n 855 [(0, .ref 1000021), (1, .ref 0), (2, .int (iI (nb))), (3, .int (iI (m))), (4, .ref 473), (5, .ref 474), (6, .ref 475), (7, .ref 476), (8, .ref 477), (9, .int (iI (x))), (10, .int (iI (y))), (11, .int (iI (bd))), (12, .int (iI (nS m))), (13, .int (iI (ft2))), (14, .int (iI (i)))] []) (hq0 : 478 ≤ hq) (hqS : hq + 473 ≤ S.1)  : ∀ (fuel : Nat) (j : Int) (σ : Sto) (F : Int → Int), 0 ≤ j → j ≤ nb → nb - j < fuel → LD S σ R nb f m g (sgF sg0 0 0 (8 * y + x) (bdF bd) 0 0) K A B C D → Ob S σ hq 0 j F 0 gq 0 sq → (∀ q p, 0 ≤ q → q < j → 0 ≤ p → p ≤ 5 → F (7 * q + p) = f (7 * q + p)) → PW (xL b (gB G)) G S σ k n 635 [(0, .ref 1000021), (1, .ref 0), (2, .int (iI (nb))), (3, .int (iI (m))), (4, .ref 473), (5, .ref 474), (6, .ref 475), (7, .ref 476), (8, .ref 477), (9, .int (iI (x))), (10, .int (iI (y))), (11, .int (iI (bd))), (12, .int (iI (nS m))), (13, .int (iI (ft))), (14, .int (iI (i))), (15, .int (iI (mny i))), (16, .int (iI (onE i))), (17, .ref hq), (18, .int (iI (j)))] [] := by
  intro fuel
  induction fuel with
  | zero => intro j σ F g0 g1 g2; omega
  | succ fuel ih =>
    intro j σ F g0 g1 g2 hL hQ g5
    obtain ⟨hl1, ⟨hA1, hA2, hA3, hA4, hA5⟩, hO, hc1, hc2, hc3, hc4, hc5⟩ := id hL
    have nb5 := nS_b (m := m) (by omega)
    have mb := mny_b i
    have ob := onE_b i
    have bb := bdF_b hbd
    have sf := st_f hm hi.1 hi.2
    have fb := ftC_b (uP nb f m g (sgF sg0 0 0 (8 * y + x) (bdF bd) 0 0) 1) hi.1
    have hOb := hO.b
    refine PW.iload (eL dL_law_635) rfl ?_
    refine PW.iload_n (eL dL_law_637) rfl ?_
    refine PW.icmp_ge 695 (eL dL_law_638) (by decide) (by first | assumption | (unfold inR; omega)) (by first | assumption | (unfold inR; omega)) (fun h638 => ?_) (fun h638 => ?_)
    · refine PW.iconst (eL dL_law_695) ?_
      refine PW.istore [(0, _), (1, _), (2, _), (3, _), (4, _), (5, _), (6, _), (7, _), (8, _), (9, _), (10, _), (11, _), (12, _), (13, _), (14, _), (15, _), (16, _), (17, _), (18, _)] (eL dL_law_696) rfl (Nat.le_of_ble_eq_true rfl) ?_
      have hj : j = nb := by omega
      subst hj
      refine law_698 hkn hnb hm hx hy hbd hrw hmg hR hi hft hK hq0 hqS 3 0 _ F (by omega) (by omega) (by omega) hL (by rw [Int.add_zero]; exact hQ) ?_
      rw [Int.add_zero]
      exact tlF_cg (fun q p q0 q1 p0 p1 => g5 q p q0 (by omega) p0 p1)
    · have hE := hOb.2.2.2.1 j g0 (by omega)
      have hr := hrw j g0 (by omega)
      have hk := hE.k
      have e1 := hE.2.1 0 (by decide) (by decide)
      have e2 := hE.2.1 1 (by decide) (by decide)
      have e3 := hE.2.1 2 (by decide) (by decide)
      have e4 := hE.2.1 3 (by decide) (by decide)
      rw [show 7 * j + 1 + 0 = 7 * j + 1 by omega] at e1
      rw [show 7 * j + 1 + 1 = 7 * j + 2 by omega] at e2
      rw [show 7 * j + 1 + 2 = 7 * j + 3 by omega] at e3
      rw [show 7 * j + 1 + 3 = 7 * j + 4 by omega] at e4
      have hok := okEv_cp hE hr
      clear hE
      refine PW.aload (eL dL_law_641) rfl ?_
      refine PW.aload_n (eL dL_law_643) rfl ?_
      refine PW.iload (eL dL_law_644) rfl ?_
      refine PW.iconst (eL dL_law_646) ?_
      refine PW.callVg (v_told hO (i := j) (w := 0) (by omega) (by decide)) cv_X11_told lk_L_50 hO.1.1 (eL dL_law_647) rfl rfl rfl (okC_mk rfl (Nat.le_of_ble_eq_true rfl) (Nat.le_of_ble_eq_true rfl) (Nat.le_of_ble_eq_true rfl) (lawC hkn.1) (lawS hkn.2)) (fun r S' τ647 hq => ?_)
      obtain ⟨hS, rfl, hF, hO1⟩ := hq
      have hS2 := hS.symm
      subst hS2
      have hL1 := hL.o hF hO1
      have hQ1 := hQ.old hF (by omega) hqS
      refine PW.top (f (7 * j)) (by rw [Int.add_zero]) ?_
      refine PW.aload_n (eL dL_law_650) rfl ?_
      refine PW.iload (eL dL_law_651) rfl ?_
      refine PW.iconst (eL dL_law_653) ?_
      refine PW.callVg (v_told hO1 (i := j) (w := 1) (by omega) (by decide)) cv_X11_told lk_L_50 hO1.1.1 (eL dL_law_654) rfl rfl rfl (okC_mk rfl (Nat.le_of_ble_eq_true rfl) (Nat.le_of_ble_eq_true rfl) (Nat.le_of_ble_eq_true rfl) (lawC hkn.1) (lawS hkn.2)) (fun r S' τ654 hq => ?_)
      obtain ⟨hS, rfl, hF, hO2⟩ := hq
      have hS2 := hS.symm
      subst hS2
      have hL2 := hL1.o hF hO2
      have hQ2 := hQ1.old hF (by omega) hqS
      refine PW.aload_n (eL dL_law_657) rfl ?_
      refine PW.iload (eL dL_law_658) rfl ?_
      refine PW.iconst (eL dL_law_660) ?_
      refine PW.callVg (v_told hO2 (i := j) (w := 2) (by omega) (by decide)) cv_X11_told lk_L_50 hO2.1.1 (eL dL_law_661) rfl rfl rfl (okC_mk rfl (Nat.le_of_ble_eq_true rfl) (Nat.le_of_ble_eq_true rfl) (Nat.le_of_ble_eq_true rfl) (lawC hkn.1) (lawS hkn.2)) (fun r S' τ661 hq => ?_)
      obtain ⟨hS, rfl, hF, hO3⟩ := hq
      have hS2 := hS.symm
      subst hS2
      have hL3 := hL2.o hF hO3
      have hQ3 := hQ2.old hF (by omega) hqS
      refine PW.aload_n (eL dL_law_664) rfl ?_
      refine PW.iload (eL dL_law_665) rfl ?_
      refine PW.iconst (eL dL_law_667) ?_
      refine PW.callVg (v_told hO3 (i := j) (w := 3) (by omega) (by decide)) cv_X11_told lk_L_50 hO3.1.1 (eL dL_law_668) rfl rfl rfl (okC_mk rfl (Nat.le_of_ble_eq_true rfl) (Nat.le_of_ble_eq_true rfl) (Nat.le_of_ble_eq_true rfl) (lawC hkn.1) (lawS hkn.2)) (fun r S' τ668 hq => ?_)
      obtain ⟨hS, rfl, hF, hO4⟩ := hq
      have hS2 := hS.symm
      subst hS2
      have hL4 := hL3.o hF hO4
      have hQ4 := hQ3.old hF (by omega) hqS
      refine PW.aload_n (eL dL_law_671) rfl ?_
      refine PW.iload (eL dL_law_672) rfl ?_
      refine PW.iconst (eL dL_law_674) ?_
      refine PW.callVg (v_told hO4 (i := j) (w := 4) (by omega) (by decide)) cv_X11_told lk_L_50 hO4.1.1 (eL dL_law_675) rfl rfl rfl (okC_mk rfl (Nat.le_of_ble_eq_true rfl) (Nat.le_of_ble_eq_true rfl) (Nat.le_of_ble_eq_true rfl) (lawC hkn.1) (lawS hkn.2)) (fun r S' τ675 hq => ?_)
      obtain ⟨hS, rfl, hF, hO5⟩ := hq
      have hS2 := hS.symm
      subst hS2
      have hL5 := hL4.o hF hO5
      have hQ5 := hQ4.old hF (by omega) hqS
      refine PW.iconst (eL dL_law_678) ?_
      refine PW.callVg (v_event hQ5 hok (by omega) (by unfold inR; omega) (by unfold inR; omega) (by unfold inR; omega) (by unfold inR; omega) (by unfold inR; omega) (by unfold inR; omega)) cv_X11_event lk_L_33 hQ5.1.1 (eL dL_law_679) rfl rfl rfl (okC_mk rfl (Nat.le_of_ble_eq_true rfl) (Nat.le_of_ble_eq_true rfl) (Nat.le_of_ble_eq_true rfl) (lawC hkn.1) (lawS hkn.2)) (fun r S' τ679 hq => ?_)
      obtain ⟨hS, rfl, hF, hQ6⟩ := hq
      have hS2 := hS.symm
      subst hS2
      have hL6 := hL5.q hF hq0
      refine PW.iload (eL dL_law_682) rfl ?_
      refine PW.icmp_eq 689 (eL dL_law_684) (by decide) (by first | assumption | (unfold inR; omega)) (by first | assumption | (unfold inR; omega)) (fun h684 => ?_) (fun h684 => ?_)
      · refine PW.iinc [(0, _), (1, _), (2, _), (3, _), (4, _), (5, _), (6, _), (7, _), (8, _), (9, _), (10, _), (11, _), (12, _), (13, _), (14, _), (15, _), (16, _), (17, _), (18, _)] (eL dL_law_689) rfl rfl (Nat.le_of_ble_eq_true rfl) ?_
        refine PW.goto 635 (eL dL_law_692) (by decide) ?_
        refine ih (j + 1) _ _ (by omega) (by omega) (by omega) hL6 hQ6 (fun q p q0 q1 p0 p1 => ?_)
        by_cases e : q = j
        · rw [e]
          exact row_cp hr p p0 p1
        · rw [adF_ne (by omega)]
          exact g5 q p q0 (by omega) p0 p1
      · omega
set_option maxRecDepth 20000 in
theorem law_623 {G : GT} {b k n : Nat} {S : Shp} {σ : Sto} {R nb m x y bd ft i : Int} {f g sg0 K A B C D : Int → Int}  (hkn : k ≤ 100000 ∧ n ≤ 1000000) (hL : LD S σ R nb f m g (sgF sg0 0 0 (8 * y + x) (bdF bd) 0 0) K A B C D) (hnb : 0 ≤ nb ∧ nb ≤ 3) (hm : 0 ≤ m ∧ m ≤ 2) (hx : 0 ≤ x ∧ x < 8) (hy : 0 ≤ y ∧ y < 8) (hbd : 0 ≤ bd ∧ bd ≤ 4) (hrw : ∀ q, 0 ≤ q → q < nb → rwOk f q) (hmg : MG m g K A B C D) (hR : 0 ≤ R ∧ R ≤ 100 * i + 30) (hi : 0 ≤ i ∧ i < nS m) (hft : ft = ftC (uP nb f m g (sgF sg0 0 0 (8 * y + x) (bdF bd) 0 0) 1) i) (hK : ∀ (S2 : Shp) (τ : Sto) (R2 ft2 : Int), S2.1 = S.1 + 473 → LD S2 τ R2 nb f m g (sgF sg0 0 0 (8 * y + x) (bdF bd) 0 0) K A B C D → 0 ≤ R2 ∧ R2 ≤ 100 * i + 100 → ft2 = ftC (uP nb f m g (sgF sg0 0 0 (8 * y + x) (bdF bd) 0 0) 1) (i + 1) → PW (xL b (gB G)) G S2 τ (k + 473) (n + 33892) 855 [(0, .ref 1000021), (1, .ref 0), (2, .int (iI (nb))), (3, .int (iI (m))), (4, .ref 473), (5, .ref 474), (6, .ref 475), (7, .ref 476), (8, .ref 477), (9, .int (iI (x))), (10, .int (iI (y))), (11, .int (iI (bd))), (12, .int (iI (nS m))), (13, .int (iI (ft2))), (14, .int (iI (i)))] []) (hS6 : S.1 ≤ 900000) (hkn2 : k ≤ 90000 ∧ n ≤ 900000) : PW (xL b (gB G)) G S (σ) k n 623 [(0, .ref 1000021), (1, .ref 0), (2, .int (iI (nb))), (3, .int (iI (m))), (4, .ref 473), (5, .ref 474), (6, .ref 475), (7, .ref 476), (8, .ref 477), (9, .int (iI (x))), (10, .int (iI (y))), (11, .int (iI (bd))), (12, .int (iI (nS m))), (13, .int (iI (ft))), (14, .int (iI (i))), (15, .int (iI (mny i))), (16, .int (iI (onE i)))] [] := by
  obtain ⟨hl1, ⟨hA1, hA2, hA3, hA4, hA5⟩, hO, hc1, hc2, hc3, hc4, hc5⟩ := id hL
  have nb5 := nS_b (m := m) (by omega)
  have mb := mny_b i
  have ob := onE_b i
  have bb := bdF_b hbd
  have sf := st_f hm hi.1 hi.2
  have fb := ftC_b (uP nb f m g (sgF sg0 0 0 (8 * y + x) (bdF bd) 0 0) 1) hi.1
  refine PW.newOA (S.1) (ci := 10) (ty := tyX11) [fN, fN, fN, fN, fN, fN, fN, fN, fN, fN, fN, fN, fN, fN] rfl rfl iw_X11 kl_L_22 ki_X11 kn_X11 tyX11_ok (by decide) rfl (by omega) (by show k + 1 ≤ 600000; omega) (by show n + 14 ≤ 7302250; omega) (eL dL_law_623) (fun S1 p1 q1 r1 => ?_)
  refine PW.gst (fun τ1 e1 => ?_)
  refine PW.dup rfl (eL dL_law_626) ?_
  refine PW.callI (c_X11_init p1 r1 (by rw [e1]; exact upS_same _ _ _) (by omega)) ci_X11_init lk_L_24 rfl r1.2 rfl rfl (Nat.le_of_ble_eq_true rfl) ⟨(Nat.le_of_ble_eq_true rfl), (Nat.le_of_ble_eq_true rfl)⟩ ⟨by show k + 1 + 472 ≤ 600000; omega, by show n + 14 + 33878 ≤ 7302250; omega⟩ (eL dL_law_627) (fun r S2 τ2 hq => ?_)
  obtain ⟨rfl, p2, f2, hH, z2⟩ := hq
  refine PW.room (k' := k + 473) (n' := n + 33892) (by omega) (by omega) ?_
  have hL2 := hL.fr (S' := S2) (τ := τ2) (fun b hb => ⟨by rw [(f2 b (by omega)).1, q1 b (by omega)], by rw [(f2 b (by omega)).2, e1, upS_ne (by omega)]⟩) (by omega)
  have hQ := hill0_Ob hH z2
  have hkn : k + 473 ≤ 100000 ∧ n + 33892 ≤ 1000000 := by omega
  refine PW.astore [(0, _), (1, _), (2, _), (3, _), (4, _), (5, _), (6, _), (7, _), (8, _), (9, _), (10, _), (11, _), (12, _), (13, _), (14, _), (15, _), (16, _), (17, _)] (eL dL_law_630) rfl (Nat.le_of_ble_eq_true rfl) ?_
  refine PW.iconst (eL dL_law_632) ?_
  refine PW.istore [(0, _), (1, _), (2, _), (3, _), (4, _), (5, _), (6, _), (7, _), (8, _), (9, _), (10, _), (11, _), (12, _), (13, _), (14, _), (15, _), (16, _), (17, _), (18, _)] (eL dL_law_633) rfl (Nat.le_of_ble_eq_true rfl) ?_
  refine law_635 hkn hnb hm hx hy hbd hrw hmg hR hi hft (fun τ R2 ft2 h1 h2 h3 => hK S2 τ R2 ft2 p2 h1 h2 h3) hl1 (by omega) 4 0 _ _ (by omega) (by omega) (by omega) hL2 hQ (fun q p q0 q1 => by omega)
set_option maxRecDepth 20000 in
theorem law_609 {G : GT} {b k n : Nat} {S : Shp} {σ : Sto} {R nb m x y bd ft i : Int} {f g sg0 K A B C D : Int → Int}  (hkn : k ≤ 100000 ∧ n ≤ 1000000) (hL : LD S σ R nb f m g (sgF sg0 0 0 (8 * y + x) (bdF bd) 0 0) K A B C D) (hnb : 0 ≤ nb ∧ nb ≤ 3) (hm : 0 ≤ m ∧ m ≤ 2) (hx : 0 ≤ x ∧ x < 8) (hy : 0 ≤ y ∧ y < 8) (hbd : 0 ≤ bd ∧ bd ≤ 4) (hrw : ∀ q, 0 ≤ q → q < nb → rwOk f q) (hmg : MG m g K A B C D) (hR : 0 ≤ R ∧ R ≤ 100 * i + 20) (hi : 0 ≤ i ∧ i < nS m) (hft : ft = ftC (uP nb f m g (sgF sg0 0 0 (8 * y + x) (bdF bd) 0 0) 1) i) (hK : ∀ (S2 : Shp) (τ : Sto) (R2 ft2 : Int), S2.1 = S.1 + 473 → LD S2 τ R2 nb f m g (sgF sg0 0 0 (8 * y + x) (bdF bd) 0 0) K A B C D → 0 ≤ R2 ∧ R2 ≤ 100 * i + 100 → ft2 = ftC (uP nb f m g (sgF sg0 0 0 (8 * y + x) (bdF bd) 0 0) 1) (i + 1) → PW (xL b (gB G)) G S2 τ (k + 473) (n + 33892) 855 [(0, .ref 1000021), (1, .ref 0), (2, .int (iI (nb))), (3, .int (iI (m))), (4, .ref 473), (5, .ref 474), (6, .ref 475), (7, .ref 476), (8, .ref 477), (9, .int (iI (x))), (10, .int (iI (y))), (11, .int (iI (bd))), (12, .int (iI (nS m))), (13, .int (iI (ft2))), (14, .int (iI (i)))] []) (hS6 : S.1 ≤ 900000) (hkn2 : k ≤ 90000 ∧ n ≤ 900000)  : PW (xL b (gB G)) G S (σ) k n 609 [(0, .ref 1000021), (1, .ref 0), (2, .int (iI (nb))), (3, .int (iI (m))), (4, .ref 473), (5, .ref 474), (6, .ref 475), (7, .ref 476), (8, .ref 477), (9, .int (iI (x))), (10, .int (iI (y))), (11, .int (iI (bd))), (12, .int (iI (nS m))), (13, .int (iI (ft))), (14, .int (iI (i))), (15, .int (iI (mny i))), (16, .int (iI (onE i)))] [] := by
  obtain ⟨hl1, ⟨hA1, hA2, hA3, hA4, hA5⟩, hO, hc1, hc2, hc3, hc4, hc5⟩ := id hL
  have nb5 := nS_b (m := m) (by omega)
  have mb := mny_b i
  have ob := onE_b i
  have bb := bdF_b hbd
  have sf := st_f hm hi.1 hi.2
  have fb := ftC_b (uP nb f m g (sgF sg0 0 0 (8 * y + x) (bdF bd) 0 0) 1) hi.1
  have f0 : ftC (uP nb f m g (sgF sg0 0 0 (8 * y + x) (bdF bd) 0 0) 0) i = i := ftC_all (fun s => uP_0 _ _ _ _ _ s) hi.1
  refine PW.aload_n (eL dL_law_609) rfl ?_
  refine PW.iconst (eL dL_law_610) ?_
  refine PW.iload (eL dL_law_611) rfl ?_
  refine PW.iconst (eL dL_law_613) ?_
  refine PW.callVg (v_story hO (k := 0) (i := i) (j := 2) (by omega) (by omega) (by omega) (by unfold inR; omega) (by unfold inR; omega)) cv_X11_story lk_L_47 hO.1.1 (eL dL_law_614) rfl rfl rfl (okC_mk rfl (Nat.le_of_ble_eq_true rfl) (Nat.le_of_ble_eq_true rfl) (Nat.le_of_ble_eq_true rfl) (lawC hkn.1) (lawS hkn.2)) (fun r S' τ614 hq => ?_)
  obtain ⟨hS, hF, hO1, F1, hG1, rfl⟩ := hq
  have hS2 := hS.symm
  subst hS2
  have hL1 := hL.o hF hO1
  refine PW.top (-1) ((sty hG1 hi.1 hi.2 (uP_0 _ _ _ _ _ _) f0.symm).trans ((if_neg (by decide)).trans sf.2.2.2.2.1)) ?_
  refine PW.iconst (eL dL_law_617) ?_
  refine PW.icmp_eq 623 (eL dL_law_618) (by decide) (by first | assumption | (unfold inR; omega)) (by first | assumption | (unfold inR; omega)) (fun h618 => ?_) (fun h618 => ?_)
  · exact law_623 hkn hL1 hnb hm hx hy hbd hrw hmg (by omega) hi hft hK hS6 hkn2
  · omega
set_option maxRecDepth 20000 in
theorem law_584 {G : GT} {b k n : Nat} {S : Shp} {σ : Sto} {R nb m x y bd ft i : Int} {f g sg0 K A B C D : Int → Int}  (hkn : k ≤ 100000 ∧ n ≤ 1000000) (hL : LD S σ R nb f m g (sgF sg0 0 0 (8 * y + x) (bdF bd) 0 0) K A B C D) (hnb : 0 ≤ nb ∧ nb ≤ 3) (hm : 0 ≤ m ∧ m ≤ 2) (hx : 0 ≤ x ∧ x < 8) (hy : 0 ≤ y ∧ y < 8) (hbd : 0 ≤ bd ∧ bd ≤ 4) (hrw : ∀ q, 0 ≤ q → q < nb → rwOk f q) (hmg : MG m g K A B C D) (hR : 0 ≤ R ∧ R ≤ 100 * i + 10) (hi : 0 ≤ i ∧ i < nS m) (hft : ft = ftC (uP nb f m g (sgF sg0 0 0 (8 * y + x) (bdF bd) 0 0) 1) i) (hK : ∀ (S2 : Shp) (τ : Sto) (R2 ft2 : Int), S2.1 = S.1 + 473 → LD S2 τ R2 nb f m g (sgF sg0 0 0 (8 * y + x) (bdF bd) 0 0) K A B C D → 0 ≤ R2 ∧ R2 ≤ 100 * i + 100 → ft2 = ftC (uP nb f m g (sgF sg0 0 0 (8 * y + x) (bdF bd) 0 0) 1) (i + 1) → PW (xL b (gB G)) G S2 τ (k + 473) (n + 33892) 855 [(0, .ref 1000021), (1, .ref 0), (2, .int (iI (nb))), (3, .int (iI (m))), (4, .ref 473), (5, .ref 474), (6, .ref 475), (7, .ref 476), (8, .ref 477), (9, .int (iI (x))), (10, .int (iI (y))), (11, .int (iI (bd))), (12, .int (iI (nS m))), (13, .int (iI (ft2))), (14, .int (iI (i)))] []) (hS6 : S.1 ≤ 900000) (hkn2 : k ≤ 90000 ∧ n ≤ 900000)  : PW (xL b (gB G)) G S (σ) k n 584 [(0, .ref 1000021), (1, .ref 0), (2, .int (iI (nb))), (3, .int (iI (m))), (4, .ref 473), (5, .ref 474), (6, .ref 475), (7, .ref 476), (8, .ref 477), (9, .int (iI (x))), (10, .int (iI (y))), (11, .int (iI (bd))), (12, .int (iI (nS m))), (13, .int (iI (ft))), (14, .int (iI (i))), (15, .int (iI (mny i))), (16, .int (iI (onE i)))] [] := by
  obtain ⟨hl1, ⟨hA1, hA2, hA3, hA4, hA5⟩, hO, hc1, hc2, hc3, hc4, hc5⟩ := id hL
  have nb5 := nS_b (m := m) (by omega)
  have mb := mny_b i
  have ob := onE_b i
  have bb := bdF_b hbd
  have sf := st_f hm hi.1 hi.2
  have fb := ftC_b (uP nb f m g (sgF sg0 0 0 (8 * y + x) (bdF bd) 0 0) 1) hi.1
  have f0 : ftC (uP nb f m g (sgF sg0 0 0 (8 * y + x) (bdF bd) 0 0) 0) i = i := ftC_all (fun s => uP_0 _ _ _ _ _ s) hi.1
  refine PW.aload_n (eL dL_law_584) rfl ?_
  refine PW.iconst (eL dL_law_585) ?_
  refine PW.iload (eL dL_law_586) rfl ?_
  refine PW.iconst (eL dL_law_588) ?_
  refine PW.callVg (v_story hO (k := 0) (i := i) (j := 1) (by omega) (by omega) (by omega) (by unfold inR; omega) (by unfold inR; omega)) cv_X11_story lk_L_47 hO.1.1 (eL dL_law_589) rfl rfl rfl (okC_mk rfl (Nat.le_of_ble_eq_true rfl) (Nat.le_of_ble_eq_true rfl) (Nat.le_of_ble_eq_true rfl) (lawC hkn.1) (lawS hkn.2)) (fun r S' τ589 hq => ?_)
  obtain ⟨hS, hF, hO1, F1, hG1, rfl⟩ := hq
  have hS2 := hS.symm
  subst hS2
  have hL1 := hL.o hF hO1
  obtain ⟨w1, hw1⟩ : ∃ w : Int, (if mny i < 2 then -1 else 1 - onE i) = w := ⟨_, rfl⟩
  have hx1 : mny i < 2 → w1 = -1 := fun q => by rw [← hw1, if_pos q]
  have hy1 : ¬ mny i < 2 → w1 = 1 - onE i := fun q => by rw [← hw1, if_neg q]
  have hz1 : -1 ≤ w1 ∧ w1 ≤ 1 := by
    by_cases q : mny i < 2
    · have := hx1 q
      omega
    · have := hy1 q
      omega
  refine PW.top w1 ((sty hG1 hi.1 hi.2 (uP_0 _ _ _ _ _ _) f0.symm).trans ((if_neg (by decide)).trans (sf.2.2.2.1.trans hw1))) ?_
  refine PW.iload (eL dL_law_592) rfl ?_
  refine PW.iconst (eL dL_law_594) ?_
  refine PW.icmp_ge 602 (eL dL_law_595) (by decide) (by first | assumption | (unfold inR; omega)) (by first | assumption | (unfold inR; omega)) (fun h595 => ?_) (fun h595 => ?_)
  · refine PW.iconst (eL dL_law_602) ?_
    refine PW.iload (eL dL_law_603) rfl ?_
    refine PW.isub (eL dL_law_605) ?_
    refine PW.icmp_ne 621 (eL dL_law_606) (by decide) (by first | assumption | (unfold inR; omega)) (by first | assumption | (unfold inR; omega)) (fun h606 => ?_) (fun h606 => ?_)
    · omega
    · exact law_609 hkn hL1 hnb hm hx hy hbd hrw hmg (by omega) hi hft hK hS6 hkn2
  · refine PW.iconst (eL dL_law_598) ?_
    refine PW.goto 606 (eL dL_law_599) (by decide) ?_
    refine PW.icmp_ne 621 (eL dL_law_606) (by decide) (by first | assumption | (unfold inR; omega)) (by first | assumption | (unfold inR; omega)) (fun h606 => ?_) (fun h606 => ?_)
    · omega
    · exact law_609 hkn hL1 hnb hm hx hy hbd hrw hmg (by omega) hi hft hK hS6 hkn2
set_option maxRecDepth 20000 in
theorem law_549 {G : GT} {b k n : Nat} {S : Shp} {σ : Sto} {R nb m x y bd ft i : Int} {f g sg0 K A B C D : Int → Int}  (hkn : k ≤ 100000 ∧ n ≤ 1000000) (hL : LD S σ R nb f m g (sgF sg0 0 0 (8 * y + x) (bdF bd) 0 0) K A B C D) (hnb : 0 ≤ nb ∧ nb ≤ 3) (hm : 0 ≤ m ∧ m ≤ 2) (hx : 0 ≤ x ∧ x < 8) (hy : 0 ≤ y ∧ y < 8) (hbd : 0 ≤ bd ∧ bd ≤ 4) (hrw : ∀ q, 0 ≤ q → q < nb → rwOk f q) (hmg : MG m g K A B C D) (hR : 0 ≤ R ∧ R ≤ 100 * i + 1) (hi : 0 ≤ i ∧ i < nS m) (hft : ft = ftC (uP nb f m g (sgF sg0 0 0 (8 * y + x) (bdF bd) 0 0) 1) i) (hK : ∀ (S2 : Shp) (τ : Sto) (R2 ft2 : Int), S2.1 = S.1 + 473 → LD S2 τ R2 nb f m g (sgF sg0 0 0 (8 * y + x) (bdF bd) 0 0) K A B C D → 0 ≤ R2 ∧ R2 ≤ 100 * i + 100 → ft2 = ftC (uP nb f m g (sgF sg0 0 0 (8 * y + x) (bdF bd) 0 0) 1) (i + 1) → PW (xL b (gB G)) G S2 τ (k + 473) (n + 33892) 855 [(0, .ref 1000021), (1, .ref 0), (2, .int (iI (nb))), (3, .int (iI (m))), (4, .ref 473), (5, .ref 474), (6, .ref 475), (7, .ref 476), (8, .ref 477), (9, .int (iI (x))), (10, .int (iI (y))), (11, .int (iI (bd))), (12, .int (iI (nS m))), (13, .int (iI (ft2))), (14, .int (iI (i)))] []) (hS6 : S.1 ≤ 900000) (hkn2 : k ≤ 90000 ∧ n ≤ 900000)  : PW (xL b (gB G)) G S (σ) k n 549 [(0, .ref 1000021), (1, .ref 0), (2, .int (iI (nb))), (3, .int (iI (m))), (4, .ref 473), (5, .ref 474), (6, .ref 475), (7, .ref 476), (8, .ref 477), (9, .int (iI (x))), (10, .int (iI (y))), (11, .int (iI (bd))), (12, .int (iI (nS m))), (13, .int (iI (ft))), (14, .int (iI (i))), (15, .int (iI (mny i))), (16, .int (iI (onE i)))] [] := by
  obtain ⟨hl1, ⟨hA1, hA2, hA3, hA4, hA5⟩, hO, hc1, hc2, hc3, hc4, hc5⟩ := id hL
  have nb5 := nS_b (m := m) (by omega)
  have mb := mny_b i
  have ob := onE_b i
  have bb := bdF_b hbd
  have sf := st_f hm hi.1 hi.2
  have fb := ftC_b (uP nb f m g (sgF sg0 0 0 (8 * y + x) (bdF bd) 0 0) 1) hi.1
  have f0 : ftC (uP nb f m g (sgF sg0 0 0 (8 * y + x) (bdF bd) 0 0) 0) i = i := ftC_all (fun s => uP_0 _ _ _ _ _ s) hi.1
  refine PW.aload_n (eL dL_law_549) rfl ?_
  refine PW.iconst (eL dL_law_550) ?_
  refine PW.iload (eL dL_law_551) rfl ?_
  refine PW.iconst (eL dL_law_553) ?_
  refine PW.callVg (v_story hO (k := 0) (i := i) (j := -1) (by omega) (by omega) (by omega) (by unfold inR; omega) (by unfold inR; omega)) cv_X11_story lk_L_47 hO.1.1 (eL dL_law_554) rfl rfl rfl (okC_mk rfl (Nat.le_of_ble_eq_true rfl) (Nat.le_of_ble_eq_true rfl) (Nat.le_of_ble_eq_true rfl) (lawC hkn.1) (lawS hkn.2)) (fun r S' τ554 hq => ?_)
  obtain ⟨hS, hF, hO1, F1, hG1, rfl⟩ := hq
  have hS2 := hS.symm
  subst hS2
  have hL1 := hL.o hF hO1
  refine PW.top (mny i) ((sty hG1 hi.1 hi.2 (uP_0 _ _ _ _ _ _) f0.symm).trans ((if_pos rfl).trans sf.2.1)) ?_
  refine PW.iload (eL dL_law_557) rfl ?_
  refine PW.icmp_ne 621 (eL dL_law_559) (by decide) (by first | assumption | (unfold inR; omega)) (by first | assumption | (unfold inR; omega)) (fun h559 => ?_) (fun h559 => ?_)
  · omega
  · refine PW.aload_n (eL dL_law_562) rfl ?_
    refine PW.iconst (eL dL_law_563) ?_
    refine PW.iload (eL dL_law_564) rfl ?_
    refine PW.iconst (eL dL_law_566) ?_
    refine PW.callVg (v_story hO1 (k := 0) (i := i) (j := 0) (by omega) (by omega) (by omega) (by unfold inR; omega) (by unfold inR; omega)) cv_X11_story lk_L_47 hO1.1.1 (eL dL_law_567) rfl rfl rfl (okC_mk rfl (Nat.le_of_ble_eq_true rfl) (Nat.le_of_ble_eq_true rfl) (Nat.le_of_ble_eq_true rfl) (lawC hkn.1) (lawS hkn.2)) (fun r S' τ567 hq => ?_)
    obtain ⟨hS, hF, hO2, F2, hG2, rfl⟩ := hq
    have hS2 := hS.symm
    subst hS2
    have hL2 := hL1.o hF hO2
    obtain ⟨w2, hw2⟩ : ∃ w : Int, (if mny i = 0 then -1 else onE i) = w := ⟨_, rfl⟩
    have hx2 : mny i = 0 → w2 = -1 := fun q => by rw [← hw2, if_pos q]
    have hy2 : ¬ mny i = 0 → w2 = onE i := fun q => by rw [← hw2, if_neg q]
    have hz2 : -1 ≤ w2 ∧ w2 ≤ 1 := by
      by_cases q : mny i = 0
      · have := hx2 q
        omega
      · have := hy2 q
        omega
    refine PW.top w2 ((sty hG2 hi.1 hi.2 (uP_0 _ _ _ _ _ _) f0.symm).trans ((if_neg (by decide)).trans (sf.2.2.1.trans hw2))) ?_
    refine PW.iload (eL dL_law_570) rfl ?_
    refine PW.if_ne 579 (eL dL_law_572) (by decide) (by first | assumption | (unfold inR; omega)) (fun h572 => ?_) (fun h572 => ?_)
    · refine PW.iload (eL dL_law_579) rfl ?_
      refine PW.icmp_ne 621 (eL dL_law_581) (by decide) (by first | assumption | (unfold inR; omega)) (by first | assumption | (unfold inR; omega)) (fun h581 => ?_) (fun h581 => ?_)
      · omega
      · exact law_584 hkn hL2 hnb hm hx hy hbd hrw hmg (by omega) hi hft hK hS6 hkn2
    · refine PW.iconst (eL dL_law_575) ?_
      refine PW.goto 581 (eL dL_law_576) (by decide) ?_
      refine PW.icmp_ne 621 (eL dL_law_581) (by decide) (by first | assumption | (unfold inR; omega)) (by first | assumption | (unfold inR; omega)) (fun h581 => ?_) (fun h581 => ?_)
      · omega
      · exact law_584 hkn hL2 hnb hm hx hy hbd hrw hmg (by omega) hi hft hK hS6 hkn2
set_option maxRecDepth 20000 in
theorem law_530 {G : GT} {b k n : Nat} {S : Shp} {σ : Sto} {R nb m x y bd ft i : Int} {f g sg0 K A B C D : Int → Int}  (hkn : k ≤ 100000 ∧ n ≤ 1000000) (hL : LD S σ R nb f m g (sgF sg0 0 0 (8 * y + x) (bdF bd) 0 0) K A B C D) (hnb : 0 ≤ nb ∧ nb ≤ 3) (hm : 0 ≤ m ∧ m ≤ 2) (hx : 0 ≤ x ∧ x < 8) (hy : 0 ≤ y ∧ y < 8) (hbd : 0 ≤ bd ∧ bd ≤ 4) (hrw : ∀ q, 0 ≤ q → q < nb → rwOk f q) (hmg : MG m g K A B C D) (hR : 0 ≤ R ∧ R ≤ 100 * i + 1) (hi : 0 ≤ i ∧ i < nS m) (hft : ft = ftC (uP nb f m g (sgF sg0 0 0 (8 * y + x) (bdF bd) 0 0) 1) i) (hK : ∀ (S2 : Shp) (τ : Sto) (R2 ft2 : Int), S2.1 = S.1 + 473 → LD S2 τ R2 nb f m g (sgF sg0 0 0 (8 * y + x) (bdF bd) 0 0) K A B C D → 0 ≤ R2 ∧ R2 ≤ 100 * i + 100 → ft2 = ftC (uP nb f m g (sgF sg0 0 0 (8 * y + x) (bdF bd) 0 0) 1) (i + 1) → PW (xL b (gB G)) G S2 τ (k + 473) (n + 33892) 855 [(0, .ref 1000021), (1, .ref 0), (2, .int (iI (nb))), (3, .int (iI (m))), (4, .ref 473), (5, .ref 474), (6, .ref 475), (7, .ref 476), (8, .ref 477), (9, .int (iI (x))), (10, .int (iI (y))), (11, .int (iI (bd))), (12, .int (iI (nS m))), (13, .int (iI (ft2))), (14, .int (iI (i)))] []) (hS6 : S.1 ≤ 900000) (hkn2 : k ≤ 90000 ∧ n ≤ 900000)  : PW (xL b (gB G)) G S (σ) k n 530 [(0, .ref 1000021), (1, .ref 0), (2, .int (iI (nb))), (3, .int (iI (m))), (4, .ref 473), (5, .ref 474), (6, .ref 475), (7, .ref 476), (8, .ref 477), (9, .int (iI (x))), (10, .int (iI (y))), (11, .int (iI (bd))), (12, .int (iI (nS m))), (13, .int (iI (ft))), (14, .int (iI (i))), (15, .int (iI (mny i)))] [] := by
  obtain ⟨hl1, ⟨hA1, hA2, hA3, hA4, hA5⟩, hO, hc1, hc2, hc3, hc4, hc5⟩ := id hL
  have nb5 := nS_b (m := m) (by omega)
  have mb := mny_b i
  have ob := onE_b i
  have bb := bdF_b hbd
  have sf := st_f hm hi.1 hi.2
  have fb := ftC_b (uP nb f m g (sgF sg0 0 0 (8 * y + x) (bdF bd) 0 0) 1) hi.1
  refine PW.iload (eL dL_law_530) rfl ?_
  refine PW.iconst (eL dL_law_532) ?_
  refine PW.icmp_eq 542 (eL dL_law_533) (by decide) (by first | assumption | (unfold inR; omega)) (by first | assumption | (unfold inR; omega)) (fun h533 => ?_) (fun h533 => ?_)
  · refine PW.iconst (eL dL_law_542) ?_
    refine PW.goto 547 (eL dL_law_543) (by decide) ?_
    refine PW.top (onE i) (by unfold onE; first | (rw [if_pos (by omega)]) | (rw [if_neg (by omega)])) ?_
    refine PW.istore [(0, _), (1, _), (2, _), (3, _), (4, _), (5, _), (6, _), (7, _), (8, _), (9, _), (10, _), (11, _), (12, _), (13, _), (14, _), (15, _), (16, _)] (eL dL_law_547) rfl (Nat.le_of_ble_eq_true rfl) ?_
    exact law_549 hkn hL hnb hm hx hy hbd hrw hmg hR hi hft hK hS6 hkn2
  · refine PW.iload (eL dL_law_536) rfl ?_
    refine PW.iconst (eL dL_law_538) ?_
    refine PW.icmp_ne 546 (eL dL_law_539) (by decide) (by first | assumption | (unfold inR; omega)) (by first | assumption | (unfold inR; omega)) (fun h539 => ?_) (fun h539 => ?_)
    · refine PW.iconst (eL dL_law_546) ?_
      refine PW.top (onE i) (by unfold onE; first | (rw [if_pos (by omega)]) | (rw [if_neg (by omega)])) ?_
      refine PW.istore [(0, _), (1, _), (2, _), (3, _), (4, _), (5, _), (6, _), (7, _), (8, _), (9, _), (10, _), (11, _), (12, _), (13, _), (14, _), (15, _), (16, _)] (eL dL_law_547) rfl (Nat.le_of_ble_eq_true rfl) ?_
      exact law_549 hkn hL hnb hm hx hy hbd hrw hmg hR hi hft hK hS6 hkn2
    · refine PW.iconst (eL dL_law_542) ?_
      refine PW.goto 547 (eL dL_law_543) (by decide) ?_
      refine PW.top (onE i) (by unfold onE; first | (rw [if_pos (by omega)]) | (rw [if_neg (by omega)])) ?_
      refine PW.istore [(0, _), (1, _), (2, _), (3, _), (4, _), (5, _), (6, _), (7, _), (8, _), (9, _), (10, _), (11, _), (12, _), (13, _), (14, _), (15, _), (16, _)] (eL dL_law_547) rfl (Nat.le_of_ble_eq_true rfl) ?_
      exact law_549 hkn hL hnb hm hx hy hbd hrw hmg hR hi hft hK hS6 hkn2
set_option maxRecDepth 20000 in
theorem law_508 {G : GT} {b k n : Nat} {S : Shp} {σ : Sto} {R nb m x y bd ft i : Int} {f g sg0 K A B C D : Int → Int}  (hkn : k ≤ 100000 ∧ n ≤ 1000000) (hL : LD S σ R nb f m g (sgF sg0 0 0 (8 * y + x) (bdF bd) 0 0) K A B C D) (hnb : 0 ≤ nb ∧ nb ≤ 3) (hm : 0 ≤ m ∧ m ≤ 2) (hx : 0 ≤ x ∧ x < 8) (hy : 0 ≤ y ∧ y < 8) (hbd : 0 ≤ bd ∧ bd ≤ 4) (hrw : ∀ q, 0 ≤ q → q < nb → rwOk f q) (hmg : MG m g K A B C D) (hR : 0 ≤ R ∧ R ≤ 100 * i + 1) (hi : 0 ≤ i ∧ i < nS m) (hft : ft = ftC (uP nb f m g (sgF sg0 0 0 (8 * y + x) (bdF bd) 0 0) 1) i) (hK : ∀ (S2 : Shp) (τ : Sto) (R2 ft2 : Int), S2.1 = S.1 + 473 → LD S2 τ R2 nb f m g (sgF sg0 0 0 (8 * y + x) (bdF bd) 0 0) K A B C D → 0 ≤ R2 ∧ R2 ≤ 100 * i + 100 → ft2 = ftC (uP nb f m g (sgF sg0 0 0 (8 * y + x) (bdF bd) 0 0) 1) (i + 1) → PW (xL b (gB G)) G S2 τ (k + 473) (n + 33892) 855 [(0, .ref 1000021), (1, .ref 0), (2, .int (iI (nb))), (3, .int (iI (m))), (4, .ref 473), (5, .ref 474), (6, .ref 475), (7, .ref 476), (8, .ref 477), (9, .int (iI (x))), (10, .int (iI (y))), (11, .int (iI (bd))), (12, .int (iI (nS m))), (13, .int (iI (ft2))), (14, .int (iI (i)))] []) (hS6 : S.1 ≤ 900000) (hkn2 : k ≤ 90000 ∧ n ≤ 900000)  : PW (xL b (gB G)) G S (σ) k n 508 [(0, .ref 1000021), (1, .ref 0), (2, .int (iI (nb))), (3, .int (iI (m))), (4, .ref 473), (5, .ref 474), (6, .ref 475), (7, .ref 476), (8, .ref 477), (9, .int (iI (x))), (10, .int (iI (y))), (11, .int (iI (bd))), (12, .int (iI (nS m))), (13, .int (iI (ft))), (14, .int (iI (i)))] [] := by
  obtain ⟨hl1, ⟨hA1, hA2, hA3, hA4, hA5⟩, hO, hc1, hc2, hc3, hc4, hc5⟩ := id hL
  have nb5 := nS_b (m := m) (by omega)
  have mb := mny_b i
  have ob := onE_b i
  have bb := bdF_b hbd
  have sf := st_f hm hi.1 hi.2
  have fb := ftC_b (uP nb f m g (sgF sg0 0 0 (8 * y + x) (bdF bd) 0 0) 1) hi.1
  refine PW.iload (eL dL_law_508) rfl ?_
  refine PW.if_ne 517 (eL dL_law_510) (by decide) (by first | assumption | (unfold inR; omega)) (fun h510 => ?_) (fun h510 => ?_)
  · refine PW.iload (eL dL_law_517) rfl ?_
    refine PW.iconst (eL dL_law_519) ?_
    refine PW.icmp_ge 527 (eL dL_law_520) (by decide) (by first | assumption | (unfold inR; omega)) (by first | assumption | (unfold inR; omega)) (fun h520 => ?_) (fun h520 => ?_)
    · refine PW.iconst (eL dL_law_527) ?_
      refine PW.top (mny i) (by unfold mny; first | (rw [if_pos (by omega)]) | (rw [if_neg (by omega), if_pos (by omega)]) | (rw [if_neg (by omega), if_neg (by omega)])) ?_
      refine PW.istore [(0, _), (1, _), (2, _), (3, _), (4, _), (5, _), (6, _), (7, _), (8, _), (9, _), (10, _), (11, _), (12, _), (13, _), (14, _), (15, _)] (eL dL_law_528) rfl (Nat.le_of_ble_eq_true rfl) ?_
      exact law_530 hkn hL hnb hm hx hy hbd hrw hmg hR hi hft hK hS6 hkn2
    · refine PW.iconst (eL dL_law_523) ?_
      refine PW.goto 528 (eL dL_law_524) (by decide) ?_
      refine PW.top (mny i) (by unfold mny; first | (rw [if_pos (by omega)]) | (rw [if_neg (by omega), if_pos (by omega)]) | (rw [if_neg (by omega), if_neg (by omega)])) ?_
      refine PW.istore [(0, _), (1, _), (2, _), (3, _), (4, _), (5, _), (6, _), (7, _), (8, _), (9, _), (10, _), (11, _), (12, _), (13, _), (14, _), (15, _)] (eL dL_law_528) rfl (Nat.le_of_ble_eq_true rfl) ?_
      exact law_530 hkn hL hnb hm hx hy hbd hrw hmg hR hi hft hK hS6 hkn2
  · refine PW.iconst (eL dL_law_513) ?_
    refine PW.goto 528 (eL dL_law_514) (by decide) ?_
    refine PW.top (mny i) (by unfold mny; first | (rw [if_pos (by omega)]) | (rw [if_neg (by omega), if_pos (by omega)]) | (rw [if_neg (by omega), if_neg (by omega)])) ?_
    refine PW.istore [(0, _), (1, _), (2, _), (3, _), (4, _), (5, _), (6, _), (7, _), (8, _), (9, _), (10, _), (11, _), (12, _), (13, _), (14, _), (15, _)] (eL dL_law_528) rfl (Nat.le_of_ble_eq_true rfl) ?_
    exact law_530 hkn hL hnb hm hx hy hbd hrw hmg hR hi hft hK hS6 hkn2
set_option maxRecDepth 20000 in
theorem law_501 {G : GT} {b : Nat} {nb m x y bd : Int} {f g sg0 K A B C D : Int → Int} (hnb : 0 ≤ nb ∧ nb ≤ 3) (hm : 0 ≤ m ∧ m ≤ 2) (hx : 0 ≤ x ∧ x < 8) (hy : 0 ≤ y ∧ y < 8) (hbd : 0 ≤ bd ∧ bd ≤ 4) (hrw : ∀ q, 0 ≤ q → q < nb → rwOk f q) (hmg : MG m g K A B C D) : ∀ (fuel : Nat) (i R ft : Int) (S : Shp) (σ : Sto) (k n : Nat), 0 ≤ i → i ≤ nS m → nS m - i < fuel → LD S σ R nb f m g (sgF sg0 0 0 (8 * y + x) (bdF bd) 0 0) K A B C D → 0 ≤ R ∧ R ≤ 100 * i + 1 → ft = ftC (uP nb f m g (sgF sg0 0 0 (8 * y + x) (bdF bd) 0 0) 1) i → S.1 = 478 + 473 * i.toNat → k = 478 + 473 * i.toNat → n = 33902 + 33892 * i.toNat → PW (xL b (gB G)) G S σ k n 501 [(0, .ref 1000021), (1, .ref 0), (2, .int (iI (nb))), (3, .int (iI (m))), (4, .ref 473), (5, .ref 474), (6, .ref 475), (7, .ref 476), (8, .ref 477), (9, .int (iI (x))), (10, .int (iI (y))), (11, .int (iI (bd))), (12, .int (iI (nS m))), (13, .int (iI (ft))), (14, .int (iI (i)))] [] := by
  have nb5 := nS_b (m := m) (by omega)
  have n5 : nS m ≤ 5 := by
    rcases (show m = 0 ∨ m = 1 ∨ m = 2 by omega) with rfl | rfl | rfl
    · rw [nS_3.1]; decide
    · rw [nS_3.2.1]; decide
    · rw [nS_3.2.2]; decide
  intro fuel
  induction fuel with
  | zero => intro i R ft S σ k n h1 h2 h3; omega
  | succ fuel ih =>
    intro i R ft S σ k n h1 h2 h3 hL hR hft hS0 hk0 hn0
    have hkn : k ≤ 100000 ∧ n ≤ 1000000 := by omega
    have fb := ftC_b (uP nb f m g (sgF sg0 0 0 (8 * y + x) (bdF bd) 0 0) 1) h1
    refine PW.iload (eL dL_law_501) rfl ?_
    refine PW.iload (eL dL_law_503) rfl ?_
    refine PW.icmp_ge 861 (eL dL_law_505) (by decide) (by first | assumption | (unfold inR; omega)) (by first | assumption | (unfold inR; omega)) (fun h505 => ?_) (fun h505 => ?_)
    · have hi2 : i = nS m := by omega
      subst hi2
      refine PW.keep [(0, .ref 1000021), (1, .ref 0), (2, .int (iI (nb))), (3, .int (iI (m))), (12, .int (iI (nS m))), (13, .int (iI (ft)))] (by simp) ?_
      exact law_861 hkn hL.2.2.1 hnb hm (by omega) hft
    · refine law_508 hkn hL hnb hm hx hy hbd hrw hmg hR ⟨h1, by omega⟩ hft (fun S2 τ R2 ft2 a1 a2 a3 a4 => ?_) (by omega) (by omega)
      refine PW.iinc [(0, _), (1, _), (2, _), (3, _), (4, _), (5, _), (6, _), (7, _), (8, _), (9, _), (10, _), (11, _), (12, _), (13, _), (14, _)] (eL dL_law_855) rfl rfl (Nat.le_of_ble_eq_true rfl) ?_
      refine PW.goto 501 (eL dL_law_858) (by decide) ?_
      exact ih (i + 1) R2 ft2 S2 τ _ _ (by omega) (by omega) (by omega) a2 (by omega) a4 (by omega) (by omega) (by omega)

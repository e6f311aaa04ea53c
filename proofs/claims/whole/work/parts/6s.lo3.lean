theorem xT_10 {k : Int} (hk : 0 ≤ k ∧ k ≤ 5) : xT 1 k < xT 0 k := by
  rcases (show k = 0 ∨ k = 1 ∨ k = 2 ∨ k = 3 ∨ k = 4 ∨ k = 5 by omega) with rfl | rfl | rfl | rfl | rfl | rfl <;> decide +kernel
theorem mo_bl_loop {G : GT} {S : Shp} {σ : Sto} {m : Nat} {n w : Int} {f : Int → Int} {Q : Option Value → Shp → Sto → Prop} (hA : IsMod S m) (he : mEv σ m f n) (hC : cOk (σ (m + 1)) 15360) (hw : 0 ≤ w ∧ w ≤ 255) (hQ : ∀ τ, blI σ τ m f w n → Q (some (.int (iI (b01 (okW f w n))))) S τ) : ∀ (t : Nat) (i : Int) (τ : Sto), 0 ≤ i → i ≤ n → n - i < t → blI σ τ m f w i → PW (fm G mX12_buildLoose 5 0 0 Q) G S (τ) 0 0 12 [(0, .ref m), (1, .int (iI (w))), (2, .int (iI (wvI 3 w (looF f i).toNat))), (3, .int (iI (b01 (okW f w i)))), (4, .int (iI (i)))] [] := by
  obtain ⟨hM0, hM1, hM2, hM3, hM4, hM5, hM6, hM7, hM8, hM9, hM10, hM11, hM12, hM13, hM14, hM15, hM16, hM17, hM18, hM19, hM20, hM21, hM22, hM23, hM24, hM25, hM26, hM27, hM28, hM29, hM30, hM31, hM32, hM33, hM34⟩ := id hA
  have hn := he.1
  have hnb := he.2.1
  intro t
  induction t with
  | zero => intro i τ h1 h2 h3 g1; omega
  | succ t ih =>
    intro i τ h1 h2 h3 g1
    have e0 : τ m = σ m := g1.1 _ (by omega) (by omega) (by omega)
    have e3 : τ (m + 3) = σ (m + 3) := g1.1 _ (by omega) (by omega) (by omega)
    have e4 : τ (m + 4) = σ (m + 4) := g1.1 _ (by omega) (by omega) (by omega)
    have e5 : τ (m + 5) = σ (m + 5) := g1.1 _ (by omega) (by omega) (by omega)
    have f1 := firI_st (bdB f w) h1
    have hwb := wvI_b (g := 3) (w := w) (by omega) (by omega) (looF f i).toNat
    have hls := looF_s f h1
    have hlb := looF_b f i h1
    have hdb := dgW_b w (looF f i)
    refine PW.iload dX12_buildLoose_12 rfl ?_
    refine PW.aload_n dX12_buildLoose_14 rfl ?_
    refine PW.getI 2 fl_X12_184 rfl (by assumption) rfl rfl dX12_buildLoose_15 ?_
    refine PW.top n (by rw [e0]; exact hn) ?_
    refine PW.icmp_ge 114 dX12_buildLoose_18 (by decide) (by first | (unfold inR; omega) | assumption) (by first | (unfold inR; omega) | assumption) (fun h18 => ?_) (fun h18 => ?_)
    · refine PW.iload_n dX12_buildLoose_114 rfl ?_
      first
        | (have hi : i = n := by omega
           subst hi
           exact PW.iret rfl (narB _) dX12_buildLoose_115 (hQ τ g1))
        | (have hno : ¬ okW f w n := fun q => h22 (okW_mono q (by omega))
           rw [b01_f h22]
           rw [b01_f hno] at hQ
           exact PW.iret rfl rfl dX12_buildLoose_115 (hQ τ ⟨g1.1, g1.2.1, g1.2.2.1, fun q => absurd q hno⟩))
    · refine PW.iload_n dX12_buildLoose_21 rfl ?_
      refine PW.if_eqB 114 dX12_buildLoose_22 (by decide) (fun h22 => ?_) (fun h22 => ?_)
      · refine PW.iload_n dX12_buildLoose_114 rfl ?_
        first
          | (have hi : i = n := by omega
             subst hi
             exact PW.iret rfl (narB _) dX12_buildLoose_115 (hQ τ g1))
          | (have hno : ¬ okW f w n := fun q => h22 (okW_mono q (by omega))
             rw [b01_f h22]
             rw [b01_f hno] at hQ
             exact PW.iret rfl rfl dX12_buildLoose_115 (hQ τ ⟨g1.1, g1.2.1, g1.2.2.1, fun q => absurd q hno⟩))
      · obtain ⟨k1, k2, k3⟩ := he.2.2.1 i h1 (by omega)
        have k5 := he.2.2.2 i h1 (by omega)
        have hev : EvD f i := k1
        have hk : 0 ≤ f (7 * i) ∧ f (7 * i) ≤ 5 := k1.1.1
        have hev6 : 0 ≤ f (7 * i + 6) ∧ f (7 * i + 6) ≤ 1 := k1.2.2
        clear k1
        have hmx := xT_1 hk
        have hx0 := xT_10 hk
        have hmn : -40 ≤ f (mnp f i) ∧ f (mnp f i) ≤ 39 := hev.2.1 (xT 1 (f (7 * i))) (by omega) (by omega)
        refine PW.aload_n dX12_buildLoose_25 rfl ?_
        refine PW.iload dX12_buildLoose_26 rfl ?_
        refine PW.callVv (c_X12_giveEvent hA (by omega)) cv_X12_giveEvent lk_X12_178 (by first | assumption | exact And.left (by assumption)) dX12_buildLoose_28 rfl rfl rfl rfl ?_
        rw [e4]
        refine PW.aload_n dX12_buildLoose_31 rfl ?_
        refine PW.getR fl_X12_23 rfl (by assumption) rfl dX12_buildLoose_32 ?_
        refine PW.iload dX12_buildLoose_35 rfl ?_
        refine PW.zaload (by assumption) (by unfold inR; omega) (by omega) (by omega) dX12_buildLoose_37 ?_
        refine PW.top (f (7 * i + 6)) (by rw [upS_ne (by omega), e5]; exact k5) ?_
        refine PW.if_eq 92 dX12_buildLoose_38 (by decide) (by first | (unfold inR; omega) | assumption) (fun h38 => ?_) (fun h38 => ?_)
        · refine PW.iload_n dX12_buildLoose_92 rfl ?_
          refine PW.if_eqB 108 dX12_buildLoose_93 (by decide) (fun h93 => ?_) (fun h93 => ?_)
          · first
              | exact absurd h22 h93
              | (have hok1 : okW f w (i + 1) := f1.mpr ⟨h22, decide_eq_false (fun q => q.2 (Or.inr h93))⟩
                 have e := ih (i + 1) _ (by omega) (by omega) (by omega) (blI_s g1 h22 h1 hk ho hGM u1 u2)
                 rw [b01_t h38] at hls
                 rw [hls, show (looF f i + 1).toNat = (looF f i).toNat + 1 by omega, wvI_s, b01_t hok1] at e
                 rw [b01_t h93]
                 refine PW.iinc [(0, _), (1, _), (2, _), (3, _), (4, _), (5, _)] dX12_buildLoose_108 rfl rfl (Nat.le_of_ble_eq_true rfl) ?_
                 refine PW.goto 12 dX12_buildLoose_111 (by decide) ?_
                 exact PW.take 5 e)
              | (have hno : ¬ okW f w (i + 1) := fun q => of_decide_eq_false (f1.mp q).2 ⟨h38, fun r => r.elim (fun r2 => r2 (by omega)) h93⟩
                 have e := ih (i + 1) _ (by omega) (by omega) (by omega) (blI_no (G := up1 (pfF (τ (m + 6)) (fun j => σ (m + 4) (5 * i + j)) 0 5) (xT 1 (f (7 * i))) (f (mnp f i) + dgW w (looF f i))) g1 hno)
                 rw [b01_t h38] at hls
                 rw [hls, show (looF f i + 1).toNat = (looF f i).toNat + 1 by omega, wvI_s, b01_f hno] at e
                 rw [b01_f h93]
                 refine PW.iinc [(0, _), (1, _), (2, _), (3, _), (4, _), (5, _)] dX12_buildLoose_108 rfl rfl (Nat.le_of_ble_eq_true rfl) ?_
                 refine PW.goto 12 dX12_buildLoose_111 (by decide) ?_
                 exact PW.take 5 e)
              | (have hok1 : okW f w (i + 1) := f1.mpr ⟨h22, decide_eq_false (fun q => q.1 h38)⟩
                 have e := ih (i + 1) _ (by omega) (by omega) (by omega) (blI_s g1 h22 h1 hk ho (gW_r0 (g0 := τ (m + 6)) (w := w) (fun q => q h38) k3) u1 u2)
                 rw [b01_f (fun q => q h38), Int.add_zero] at hls
                 rw [hls, b01_t hok1] at e
                 rw [b01_t h93]
                 refine PW.iinc [(0, _), (1, _), (2, _), (3, _), (4, _)] dX12_buildLoose_108 rfl rfl (Nat.le_of_ble_eq_true rfl) ?_
                 refine PW.goto 12 dX12_buildLoose_111 (by decide) ?_
                 exact e)
          · have ho : EvD (gW f w) i := gW_ok hev (fun hl => by
              first
                | exact Or.inr h93
                | exact absurd h38 hl)
            refine PW.aload_n dX12_buildLoose_96 rfl ?_
            refine PW.iconst dX12_buildLoose_97 ?_
            refine PW.aload_n dX12_buildLoose_98 rfl ?_
            refine PW.getR fl_X12_16 rfl (by assumption) rfl dX12_buildLoose_99 ?_
            refine PW.iload dX12_buildLoose_102 rfl ?_
            refine PW.iaload (by assumption) (by unfold inR; omega) (by omega) (by omega) dX12_buildLoose_104 ?_
            refine PW.top (f (7 * i)) (by rw [upS_ne (by omega), e3]; exact k2) ?_
            refine PW.callVg (c_X12_befall hA (by rw [upS_ne (by omega)]; exact g1.2.1) (show (0 : Int) ≤ 1 ∧ (1 : Int) ≤ 2 by decide) (by rw [upS_same]; first | exact (gW_g ho hk hGM).1 | exact (gW_g ho hk (gW_r0 (g0 := τ (m + 6)) (w := w) (fun q => q h38) k3)).1)) cv_X12_befall lk_X12_181 (by first | assumption | exact And.left (by assumption)) dX12_buildLoose_105 rfl rfl rfl rfl (fun r S' τ105 hq => ?_)
            obtain ⟨rfl, hS, u1, u2⟩ := hq
            have hS2 := hS.symm
            subst hS2
            rw [upS_same, upS_ne (show m + 1 ≠ m + 6 by omega)] at u2
            first
              | exact absurd h22 h93
              | (have hok1 : okW f w (i + 1) := f1.mpr ⟨h22, decide_eq_false (fun q => q.2 (Or.inr h93))⟩
                 have e := ih (i + 1) _ (by omega) (by omega) (by omega) (blI_s g1 h22 h1 hk ho hGM u1 u2)
                 rw [b01_t h38] at hls
                 rw [hls, show (looF f i + 1).toNat = (looF f i).toNat + 1 by omega, wvI_s, b01_t hok1] at e
                 rw [b01_t h93]
                 refine PW.iinc [(0, _), (1, _), (2, _), (3, _), (4, _), (5, _)] dX12_buildLoose_108 rfl rfl (Nat.le_of_ble_eq_true rfl) ?_
                 refine PW.goto 12 dX12_buildLoose_111 (by decide) ?_
                 exact PW.take 5 e)
              | (have hno : ¬ okW f w (i + 1) := fun q => of_decide_eq_false (f1.mp q).2 ⟨h38, fun r => r.elim (fun r2 => r2 (by omega)) h93⟩
                 have e := ih (i + 1) _ (by omega) (by omega) (by omega) (blI_no (G := up1 (pfF (τ (m + 6)) (fun j => σ (m + 4) (5 * i + j)) 0 5) (xT 1 (f (7 * i))) (f (mnp f i) + dgW w (looF f i))) g1 hno)
                 rw [b01_t h38] at hls
                 rw [hls, show (looF f i + 1).toNat = (looF f i).toNat + 1 by omega, wvI_s, b01_f hno] at e
                 rw [b01_f h93]
                 refine PW.iinc [(0, _), (1, _), (2, _), (3, _), (4, _), (5, _)] dX12_buildLoose_108 rfl rfl (Nat.le_of_ble_eq_true rfl) ?_
                 refine PW.goto 12 dX12_buildLoose_111 (by decide) ?_
                 exact PW.take 5 e)
              | (have hok1 : okW f w (i + 1) := f1.mpr ⟨h22, decide_eq_false (fun q => q.1 h38)⟩
                 have e := ih (i + 1) _ (by omega) (by omega) (by omega) (blI_s g1 h22 h1 hk ho (gW_r0 (g0 := τ (m + 6)) (w := w) (fun q => q h38) k3) u1 u2)
                 rw [b01_f (fun q => q h38), Int.add_zero] at hls
                 rw [hls, b01_t hok1] at e
                 rw [b01_t h93]
                 refine PW.iinc [(0, _), (1, _), (2, _), (3, _), (4, _)] dX12_buildLoose_108 rfl rfl (Nat.le_of_ble_eq_true rfl) ?_
                 refine PW.goto 12 dX12_buildLoose_111 (by decide) ?_
                 exact e)
        · refine PW.aload_n dX12_buildLoose_41 rfl ?_
          refine PW.getR fl_X12_16 rfl (by assumption) rfl dX12_buildLoose_42 ?_
          refine PW.iload dX12_buildLoose_45 rfl ?_
          refine PW.iaload (by assumption) (by unfold inR; omega) (by omega) (by omega) dX12_buildLoose_47 ?_
          refine PW.top (f (7 * i)) (by rw [upS_ne (by omega), e3]; exact k2) ?_
          refine PW.callSr (c_X12_mainNumber hk) cs_X12_mainNumber lk_X12_318 dX12_buildLoose_48 rfl rfl rfl ?_
          refine PW.istore [(0, _), (1, _), (2, _), (3, _), (4, _), (5, _)] dX12_buildLoose_51 rfl (Nat.le_of_ble_eq_true rfl) ?_
          refine PW.aload_n dX12_buildLoose_53 rfl ?_
          refine PW.getR fl_X12_27 rfl (by assumption) rfl dX12_buildLoose_54 ?_
          refine PW.iload dX12_buildLoose_57 rfl ?_
          refine PW.dup2 rfl rfl dX12_buildLoose_59 ?_
          refine PW.iaload (by assumption) (by unfold inR; omega) (by omega) (by omega) dX12_buildLoose_60 ?_
          refine PW.top (f (mnp f i)) (by rw [upS_same]; unfold pfF; rw [if_pos (by omega)]; exact k3 _ (by omega) (by omega)) ?_
          refine PW.iload_n dX12_buildLoose_61 rfl ?_
          refine PW.iconst dX12_buildLoose_62 ?_
          refine PW.irem (by unfold inR; omega) (by omega) dX12_buildLoose_63 ?_
          refine PW.top (wvI 3 w (looF f i).toNat % 3) (by rw [tdv_nn (by omega) (by unfold inR; omega) (by unfold inR; omega)]; omega) ?_
          refine PW.iconst dX12_buildLoose_64 ?_
          refine PW.isub dX12_buildLoose_65 ?_
          refine PW.iadd dX12_buildLoose_66 ?_
          refine PW.top (f (mnp f i) + dgW w (looF f i)) (by unfold dgW; rfl) ?_
          refine PW.iastore (by assumption) (by first | (unfold inR; omega) | assumption) (by omega) (by omega) dX12_buildLoose_67 ?_
          refine PW.st (upS τ (m + 6) (up1 (pfF (τ (m + 6)) (fun j => σ (m + 4) (5 * i + j)) 0 5) (xT 1 (f (7 * i))) (f (mnp f i) + dgW w (looF f i)))) (by rw [upS_upS, upS_same]) ?_
          have hGM := gW_r1 (g0 := τ (m + 6)) (w := w) h38 hk k3
          refine PW.iload_n dX12_buildLoose_68 rfl ?_
          refine PW.iconst dX12_buildLoose_69 ?_
          refine PW.idiv (by unfold inR; omega) (by omega) dX12_buildLoose_70 ?_
          refine PW.top (wvI 3 w (looF f i).toNat / 3) (tdv_nn (by omega) (by unfold inR; omega) (by unfold inR; omega)) ?_
          refine PW.istore_n [(0, _), (1, _), (2, _), (3, _), (4, _), (5, _)] dX12_buildLoose_71 rfl (Nat.le_of_ble_eq_true rfl) ?_
          refine PW.aload_n dX12_buildLoose_72 rfl ?_
          refine PW.getR fl_X12_16 rfl (by assumption) rfl dX12_buildLoose_73 ?_
          refine PW.iload dX12_buildLoose_76 rfl ?_
          refine PW.iaload (by assumption) (by unfold inR; omega) (by omega) (by omega) dX12_buildLoose_78 ?_
          refine PW.top (f (7 * i)) (by rw [upS_ne (by omega), e3]; exact k2) ?_
          refine PW.iload dX12_buildLoose_79 rfl ?_
          refine PW.aload_n dX12_buildLoose_81 rfl ?_
          refine PW.getR fl_X12_27 rfl (by assumption) rfl dX12_buildLoose_82 ?_
          refine PW.iload dX12_buildLoose_85 rfl ?_
          refine PW.iaload (by assumption) (by unfold inR; omega) (by omega) (by omega) dX12_buildLoose_87 ?_
          refine PW.top (f (mnp f i) + dgW w (looF f i)) (by rw [upS_same, up1_same]) ?_
          refine PW.callSr (c_X12_isNumber hk (by omega) (by unfold inR; omega)) cs_X12_isNumber lk_X12_144 dX12_buildLoose_88 rfl rfl rfl ?_
          refine PW.istore_n [(0, _), (1, _), (2, _), (3, _), (4, _), (5, _)] dX12_buildLoose_91 rfl (Nat.le_of_ble_eq_true rfl) ?_
          refine PW.iload_n dX12_buildLoose_92 rfl ?_
          refine PW.if_eqB 108 dX12_buildLoose_93 (by decide) (fun h93 => ?_) (fun h93 => ?_)
          · first
              | exact absurd h22 h93
              | (have hok1 : okW f w (i + 1) := f1.mpr ⟨h22, decide_eq_false (fun q => q.2 (Or.inr h93))⟩
                 have e := ih (i + 1) _ (by omega) (by omega) (by omega) (blI_s g1 h22 h1 hk ho hGM u1 u2)
                 rw [b01_t h38] at hls
                 rw [hls, show (looF f i + 1).toNat = (looF f i).toNat + 1 by omega, wvI_s, b01_t hok1] at e
                 rw [b01_t h93]
                 refine PW.iinc [(0, _), (1, _), (2, _), (3, _), (4, _), (5, _)] dX12_buildLoose_108 rfl rfl (Nat.le_of_ble_eq_true rfl) ?_
                 refine PW.goto 12 dX12_buildLoose_111 (by decide) ?_
                 exact PW.take 5 e)
              | (have hno : ¬ okW f w (i + 1) := fun q => of_decide_eq_false (f1.mp q).2 ⟨h38, fun r => r.elim (fun r2 => r2 (by omega)) h93⟩
                 have e := ih (i + 1) _ (by omega) (by omega) (by omega) (blI_no (G := up1 (pfF (τ (m + 6)) (fun j => σ (m + 4) (5 * i + j)) 0 5) (xT 1 (f (7 * i))) (f (mnp f i) + dgW w (looF f i))) g1 hno)
                 rw [b01_t h38] at hls
                 rw [hls, show (looF f i + 1).toNat = (looF f i).toNat + 1 by omega, wvI_s, b01_f hno] at e
                 rw [b01_f h93]
                 refine PW.iinc [(0, _), (1, _), (2, _), (3, _), (4, _), (5, _)] dX12_buildLoose_108 rfl rfl (Nat.le_of_ble_eq_true rfl) ?_
                 refine PW.goto 12 dX12_buildLoose_111 (by decide) ?_
                 exact PW.take 5 e)
              | (have hok1 : okW f w (i + 1) := f1.mpr ⟨h22, decide_eq_false (fun q => q.1 h38)⟩
                 have e := ih (i + 1) _ (by omega) (by omega) (by omega) (blI_s g1 h22 h1 hk ho (gW_r0 (g0 := τ (m + 6)) (w := w) (fun q => q h38) k3) u1 u2)
                 rw [b01_f (fun q => q h38), Int.add_zero] at hls
                 rw [hls, b01_t hok1] at e
                 rw [b01_t h93]
                 refine PW.iinc [(0, _), (1, _), (2, _), (3, _), (4, _)] dX12_buildLoose_108 rfl rfl (Nat.le_of_ble_eq_true rfl) ?_
                 refine PW.goto 12 dX12_buildLoose_111 (by decide) ?_
                 exact e)
          · have ho : EvD (gW f w) i := gW_ok hev (fun hl => by
              first
                | exact Or.inr h93
                | exact absurd h38 hl)
            refine PW.aload_n dX12_buildLoose_96 rfl ?_
            refine PW.iconst dX12_buildLoose_97 ?_
            refine PW.aload_n dX12_buildLoose_98 rfl ?_
            refine PW.getR fl_X12_16 rfl (by assumption) rfl dX12_buildLoose_99 ?_
            refine PW.iload dX12_buildLoose_102 rfl ?_
            refine PW.iaload (by assumption) (by unfold inR; omega) (by omega) (by omega) dX12_buildLoose_104 ?_
            refine PW.top (f (7 * i)) (by rw [upS_ne (by omega), e3]; exact k2) ?_
            refine PW.callVg (c_X12_befall hA (by rw [upS_ne (by omega)]; exact g1.2.1) (show (0 : Int) ≤ 1 ∧ (1 : Int) ≤ 2 by decide) (by rw [upS_same]; first | exact (gW_g ho hk hGM).1 | exact (gW_g ho hk (gW_r0 (g0 := τ (m + 6)) (w := w) (fun q => q h38) k3)).1)) cv_X12_befall lk_X12_181 (by first | assumption | exact And.left (by assumption)) dX12_buildLoose_105 rfl rfl rfl rfl (fun r S' τ105 hq => ?_)
            obtain ⟨rfl, hS, u1, u2⟩ := hq
            have hS2 := hS.symm
            subst hS2
            rw [upS_same, upS_ne (show m + 1 ≠ m + 6 by omega)] at u2
            first
              | exact absurd h22 h93
              | (have hok1 : okW f w (i + 1) := f1.mpr ⟨h22, decide_eq_false (fun q => q.2 (Or.inr h93))⟩
                 have e := ih (i + 1) _ (by omega) (by omega) (by omega) (blI_s g1 h22 h1 hk ho hGM u1 u2)
                 rw [b01_t h38] at hls
                 rw [hls, show (looF f i + 1).toNat = (looF f i).toNat + 1 by omega, wvI_s, b01_t hok1] at e
                 rw [b01_t h93]
                 refine PW.iinc [(0, _), (1, _), (2, _), (3, _), (4, _), (5, _)] dX12_buildLoose_108 rfl rfl (Nat.le_of_ble_eq_true rfl) ?_
                 refine PW.goto 12 dX12_buildLoose_111 (by decide) ?_
                 exact PW.take 5 e)
              | (have hno : ¬ okW f w (i + 1) := fun q => of_decide_eq_false (f1.mp q).2 ⟨h38, fun r => r.elim (fun r2 => r2 (by omega)) h93⟩
                 have e := ih (i + 1) _ (by omega) (by omega) (by omega) (blI_no (G := up1 (pfF (τ (m + 6)) (fun j => σ (m + 4) (5 * i + j)) 0 5) (xT 1 (f (7 * i))) (f (mnp f i) + dgW w (looF f i))) g1 hno)
                 rw [b01_t h38] at hls
                 rw [hls, show (looF f i + 1).toNat = (looF f i).toNat + 1 by omega, wvI_s, b01_f hno] at e
                 rw [b01_f h93]
                 refine PW.iinc [(0, _), (1, _), (2, _), (3, _), (4, _), (5, _)] dX12_buildLoose_108 rfl rfl (Nat.le_of_ble_eq_true rfl) ?_
                 refine PW.goto 12 dX12_buildLoose_111 (by decide) ?_
                 exact PW.take 5 e)
              | (have hok1 : okW f w (i + 1) := f1.mpr ⟨h22, decide_eq_false (fun q => q.1 h38)⟩
                 have e := ih (i + 1) _ (by omega) (by omega) (by omega) (blI_s g1 h22 h1 hk ho (gW_r0 (g0 := τ (m + 6)) (w := w) (fun q => q h38) k3) u1 u2)
                 rw [b01_f (fun q => q h38), Int.add_zero] at hls
                 rw [hls, b01_t hok1] at e
                 rw [b01_t h93]
                 refine PW.iinc [(0, _), (1, _), (2, _), (3, _), (4, _)] dX12_buildLoose_108 rfl rfl (Nat.le_of_ble_eq_true rfl) ?_
                 refine PW.goto 12 dX12_buildLoose_111 (by decide) ?_
                 exact e)
theorem c_X12_buildLoose {G : GT} {S : Shp} {σ : Sto} {m : Nat} {n w : Int} {f : Int → Int} (hA : IsMod S m) (he : mEv σ m f n) (hC : cOk (σ (m + 1)) 15360) (hw : 0 ≤ w ∧ w ≤ 255) : PMet G mX12_buildLoose 5 0 0 [.ref m, .int (iI w)] S σ (fun r S' τ => S' = S ∧ r = some (.int (iI (b01 (okW f w n)))) ∧ blI σ τ m f w n) := by
  obtain ⟨hM0, hM1, hM2, hM3, hM4, hM5, hM6, hM7, hM8, hM9, hM10, hM11, hM12, hM13, hM14, hM15, hM16, hM17, hM18, hM19, hM20, hM21, hM22, hM23, hM24, hM25, hM26, hM27, hM28, hM29, hM30, hM31, hM32, hM33, hM34⟩ := id hA
  refine PMet.of [(0, .ref m), (1, .int (iI (w)))] (by decide +kernel) rfl (Nat.le_of_ble_eq_true rfl) ?_
  refine PW.iload_n dX12_buildLoose_0 rfl ?_
  refine PW.istore_n [(0, _), (1, _), (2, _)] dX12_buildLoose_1 rfl (Nat.le_of_ble_eq_true rfl) ?_
  refine PW.iconst dX12_buildLoose_2 ?_
  refine PW.istore_n [(0, _), (1, _), (2, _), (3, _)] dX12_buildLoose_3 rfl (Nat.le_of_ble_eq_true rfl) ?_
  refine PW.aload_n dX12_buildLoose_4 rfl ?_
  refine PW.iconst dX12_buildLoose_5 ?_
  refine PW.callVv (c_X12_start (L := 1) hA (by omega)) cv_X12_start lk_X12_175 (by first | assumption | exact And.left (by assumption)) dX12_buildLoose_6 rfl rfl rfl rfl ?_
  refine PW.iconst dX12_buildLoose_9 ?_
  refine PW.istore [(0, _), (1, _), (2, _), (3, _), (4, _)] dX12_buildLoose_10 rfl (Nat.le_of_ble_eq_true rfl) ?_
  have e0 : b01 (okW f w 0) = 1 := b01_t rfl
  have e1 : wvI 3 w (looF f 0).toNat = w := rfl
  have hnb := he.2.1
  have e := mo_bl_loop (G := G) (S := S) hA he hC hw (Q := fun r S' τ => S' = S ∧ r = some (.int (iI (b01 (okW f w n)))) ∧ blI σ τ m f w n) (fun τ q => ⟨rfl, rfl, q⟩) 17 0 _ (by omega) (by omega) (by omega) (blI_0 hC)
  rw [e0, e1] at e
  exact e

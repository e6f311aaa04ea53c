theorem mo_here_loop {G : GT} {S : Shp} {σ : Sto} {m : Nat} {z p : Int} {Q : Option Value → Shp → Sto → Prop} (hA : IsMod S m) (hb : bsOk (σ (m + 7)) z) (hz : σ m 8 = z) (hp : σ m 9 = p) (pb : 0 ≤ p ∧ p ≤ z) (hQ : Q (some (.int (iI (btF (σ (m + 7)) z (skE (σ (m + 7)) z p))))) S (upS σ m (up1 (σ m) 9 (skE (σ (m + 7)) z p)))) : ∀ (t : Nat) (q : Int), 0 ≤ q → q ≤ z → z - q < t → skE (σ (m + 7)) z q = skE (σ (m + 7)) z p → PW (fm G mX12_here 0 0 0 Q) G S (upS σ m (up1 (σ m) 9 q)) 0 0 0 [(0, .ref m)] [] := by
  obtain ⟨hM0, hM1, hM2, hM3, hM4, hM5, hM6, hM7, hM8, hM9, hM10, hM11, hM12, hM13, hM14, hM15, hM16, hM17, hM18, hM19, hM20, hM21, hM22, hM23, hM24, hM25, hM26, hM27, hM28, hM29, hM30, hM31, hM32, hM33, hM34⟩ := id hA
  have hz0 := hb.1
  intro t
  induction t with
  | zero => intro q h1 h2 h3 g1; omega
  | succ t ih =>
    intro q h1 h2 h3 g1
    have hs := runE_s isBl (σ (m + 7)) z q
    have hv : q < z → 0 ≤ σ (m + 7) q ∧ σ (m + 7) q ≤ 255 := fun hq => hb.2 q h1 hq
    refine PW.aload_n dX12_here_0 rfl ?_
    refine PW.getI 9 fl_X12_249 rfl (by assumption) rfl rfl dX12_here_1 ?_
    refine PW.top (q) (by rw [upS_same, up1_same]) ?_
    refine PW.aload_n dX12_here_4 rfl ?_
    refine PW.getI 8 fl_X12_236 rfl (by assumption) rfl rfl dX12_here_5 ?_
    refine PW.top (z) (by rw [upS_same, up1_ne (by decide)]; exact hz) ?_
    refine PW.icmp_ge 38 dX12_here_8 (by decide) (by first | assumption | (unfold inR; omega)) (by first | assumption | (unfold inR; omega)) (fun h8 => ?_) (fun h8 => ?_)
    · refine PW.aload_n dX12_here_38 rfl ?_
      refine PW.getI 9 fl_X12_249 rfl (by assumption) rfl rfl dX12_here_39 ?_
      refine PW.top (q) (by rw [upS_same, up1_same]) ?_
      refine PW.aload_n dX12_here_42 rfl ?_
      refine PW.getI 8 fl_X12_236 rfl (by assumption) rfl rfl dX12_here_43 ?_
      refine PW.top (z) (by rw [upS_same, up1_ne (by decide)]; exact hz) ?_
      refine PW.icmp_ge 61 dX12_here_46 (by decide) (by first | assumption | (unfold inR; omega)) (by first | assumption | (unfold inR; omega)) (fun h46 => ?_) (fun h46 => ?_)
      · refine PW.iconst dX12_here_61 ?_
        have e : skE (σ (m + 7)) z p = q := by
          rw [← g1]
          unfold skE
          rw [hs, if_neg (fun r => by
            first
              | omega
              | (have := of_decide_eq_true r.2; omega))]
        rw [e] at hQ
        first
          | (rw [show btF (σ (m + 7)) z q = σ (m + 7) q from if_pos ⟨by omega, by omega⟩] at hQ
             exact PW.iret rfl rfl dX12_here_62 hQ)
          | (rw [show btF (σ (m + 7)) z q = -1 from if_neg (by omega)] at hQ
             exact PW.iret rfl rfl dX12_here_62 hQ)
      · refine PW.aload_n dX12_here_49 rfl ?_
        refine PW.getR fl_X12_30 rfl (by assumption) rfl dX12_here_50 ?_
        refine PW.aload_n dX12_here_53 rfl ?_
        refine PW.getI 9 fl_X12_249 rfl (by assumption) rfl rfl dX12_here_54 ?_
        refine PW.top (q) (by rw [upS_same, up1_same]) ?_
        have hvw := hv (by omega)
        refine PW.iaload (by assumption) (by unfold inR; omega) (by omega) (by omega) dX12_here_57 ?_
        refine PW.top (σ (m + 7) q) (by rw [upS_ne (by omega)]) ?_
        refine PW.goto 62 dX12_here_58 (by decide) ?_
        have e : skE (σ (m + 7)) z p = q := by
          rw [← g1]
          unfold skE
          rw [hs, if_neg (fun r => by
            first
              | omega
              | (have := of_decide_eq_true r.2; omega))]
        rw [e] at hQ
        first
          | (rw [show btF (σ (m + 7)) z q = σ (m + 7) q from if_pos ⟨by omega, by omega⟩] at hQ
             exact PW.iret rfl rfl dX12_here_62 hQ)
          | (rw [show btF (σ (m + 7)) z q = -1 from if_neg (by omega)] at hQ
             exact PW.iret rfl rfl dX12_here_62 hQ)
    · refine PW.aload_n dX12_here_11 rfl ?_
      refine PW.getR fl_X12_30 rfl (by assumption) rfl dX12_here_12 ?_
      refine PW.aload_n dX12_here_15 rfl ?_
      refine PW.getI 9 fl_X12_249 rfl (by assumption) rfl rfl dX12_here_16 ?_
      refine PW.top (q) (by rw [upS_same, up1_same]) ?_
      have hvv := hv (by omega)
      refine PW.iaload (by assumption) (by unfold inR; omega) (by omega) (by omega) dX12_here_19 ?_
      refine PW.top (σ (m + 7) q) (by rw [upS_ne (by omega)]) ?_
      refine PW.bipush (by decide) dX12_here_20 ?_
      refine PW.icmp_ne 38 dX12_here_22 (by decide) (by first | assumption | (unfold inR; omega)) (by first | assumption | (unfold inR; omega)) (fun h22 => ?_) (fun h22 => ?_)
      · refine PW.aload_n dX12_here_38 rfl ?_
        refine PW.getI 9 fl_X12_249 rfl (by assumption) rfl rfl dX12_here_39 ?_
        refine PW.top (q) (by rw [upS_same, up1_same]) ?_
        refine PW.aload_n dX12_here_42 rfl ?_
        refine PW.getI 8 fl_X12_236 rfl (by assumption) rfl rfl dX12_here_43 ?_
        refine PW.top (z) (by rw [upS_same, up1_ne (by decide)]; exact hz) ?_
        refine PW.icmp_ge 61 dX12_here_46 (by decide) (by first | assumption | (unfold inR; omega)) (by first | assumption | (unfold inR; omega)) (fun h46 => ?_) (fun h46 => ?_)
        · refine PW.iconst dX12_here_61 ?_
          have e : skE (σ (m + 7)) z p = q := by
            rw [← g1]
            unfold skE
            rw [hs, if_neg (fun r => by
              first
                | omega
                | (have := of_decide_eq_true r.2; omega))]
          rw [e] at hQ
          first
            | (rw [show btF (σ (m + 7)) z q = σ (m + 7) q from if_pos ⟨by omega, by omega⟩] at hQ
               exact PW.iret rfl rfl dX12_here_62 hQ)
            | (rw [show btF (σ (m + 7)) z q = -1 from if_neg (by omega)] at hQ
               exact PW.iret rfl rfl dX12_here_62 hQ)
        · refine PW.aload_n dX12_here_49 rfl ?_
          refine PW.getR fl_X12_30 rfl (by assumption) rfl dX12_here_50 ?_
          refine PW.aload_n dX12_here_53 rfl ?_
          refine PW.getI 9 fl_X12_249 rfl (by assumption) rfl rfl dX12_here_54 ?_
          refine PW.top (q) (by rw [upS_same, up1_same]) ?_
          have hvw := hv (by omega)
          refine PW.iaload (by assumption) (by unfold inR; omega) (by omega) (by omega) dX12_here_57 ?_
          refine PW.top (σ (m + 7) q) (by rw [upS_ne (by omega)]) ?_
          refine PW.goto 62 dX12_here_58 (by decide) ?_
          have e : skE (σ (m + 7)) z p = q := by
            rw [← g1]
            unfold skE
            rw [hs, if_neg (fun r => by
              first
                | omega
                | (have := of_decide_eq_true r.2; omega))]
          rw [e] at hQ
          first
            | (rw [show btF (σ (m + 7)) z q = σ (m + 7) q from if_pos ⟨by omega, by omega⟩] at hQ
               exact PW.iret rfl rfl dX12_here_62 hQ)
            | (rw [show btF (σ (m + 7)) z q = -1 from if_neg (by omega)] at hQ
               exact PW.iret rfl rfl dX12_here_62 hQ)
      · refine PW.aload_n dX12_here_25 rfl ?_
        refine PW.dup rfl dX12_here_26 ?_
        refine PW.getI 9 fl_X12_249 rfl (by assumption) rfl rfl dX12_here_27 ?_
        refine PW.top (q) (by rw [upS_same, up1_same]) ?_
        refine PW.iconst dX12_here_30 ?_
        refine PW.iadd dX12_here_31 ?_
        refine PW.putI 9 fl_X12_249 rfl (fun h => absurd h (by decide)) (by assumption) rfl rfl rfl rfl dX12_here_32 ?_
        refine PW.st (upS σ m (up1 (σ m) 9 (q + 1))) (by rw [upS_upS, upS_same, up1_up1]) ?_
        refine PW.goto 0 dX12_here_35 (by decide) ?_
        refine ih (q + 1) (by omega) (by omega) (by omega) ?_
        rw [← g1]
        unfold skE
        rw [hs, if_pos ⟨by omega, decide_eq_true (by assumption)⟩]
theorem c_X12_here {G : GT} {S : Shp} {σ : Sto} {m : Nat} {z p : Int} (hA : IsMod S m) (hb : bsOk (σ (m + 7)) z) (hz : σ m 8 = z) (hp : σ m 9 = p) (pb : 0 ≤ p ∧ p ≤ z) : PMet G mX12_here 0 0 0 [.ref m] S σ (isP (some (.int (iI (btF (σ (m + 7)) z (skE (σ (m + 7)) z p))))) S (upS σ m (up1 (σ m) 9 (skE (σ (m + 7)) z p)))) := by
  refine PMet.of [(0, .ref m)] (by decide +kernel) rfl (Nat.le_of_ble_eq_true rfl) ?_
  refine PW.st (upS σ m (up1 (σ m) 9 p)) (by rw [← hp, up1_self, upS_self]) ?_
  have hz0 := hb.1
  exact mo_here_loop hA hb hz hp pb ⟨rfl, rfl, rfl⟩ 302 p (by omega) (by omega) (by omega) rfl

theorem want_a {G : GT} {S : Shp} {σ : Sto} {m : Nat} {v ft wh fo : Int} (hA : IsMod S m) (hv : 0 ≤ v ∧ v ≤ 1) (hf : σ m 10 = fo) (rf : inR fo) (hft : 1 ≤ ft ∧ ft ≤ 3) (hq : v = 0 ∧ fo = 0) : PW (fm G mX12_want 0 0 0 (isP (some (.int (iI (b01 (v = 1 ∧ fo = 0))))) S (if v = 0 ∧ fo = 0 then upS σ m (up1 (up1 (σ m) 10 ft) 11 wh) else σ))) G S (upS σ m (up1 (up1 (σ m) 10 ft) 11 wh)) 0 0 21 [(0, .ref m), (1, .int (iI v)), (2, .int (iI ft)), (3, .int (iI wh))] [] := by
  obtain ⟨hM0, hM1, hM2, hM3, hM4, hM5, hM6, hM7, hM8, hM9, hM10, hM11, hM12, hM13, hM14, hM15, hM16, hM17, hM18, hM19, hM20, hM21, hM22, hM23, hM24, hM25, hM26, hM27, hM28, hM29, hM30, hM31, hM32, hM33, hM34⟩ := id hA
  refine PW.aload_n dX12_want_21 rfl ?_
  refine PW.getI 10 fl_X12_252 rfl (by assumption) rfl rfl dX12_want_22 ?_
  refine PW.top ft (by rw [upS_same, up1_ne (by decide), up1_same]) ?_
  refine PW.if_ne 32 dX12_want_25 (by decide) (by first | assumption | (unfold inR; omega)) (fun h25 => ?_) (fun h25 => ?_)
  · refine PW.iconst dX12_want_32 ?_
    exact PW.iret rfl rfl dX12_want_33 ⟨ret_eq (b01_f (by omega)).symm, rfl, (if_pos hq).symm⟩
  · omega
theorem want_b {G : GT} {S : Shp} {σ : Sto} {m : Nat} {v ft wh fo : Int} (hA : IsMod S m) (hv : 0 ≤ v ∧ v ≤ 1) (hf : σ m 10 = fo) (rf : inR fo) (hft : 1 ≤ ft ∧ ft ≤ 3) (hq : ¬ (v = 0 ∧ fo = 0)) : PW (fm G mX12_want 0 0 0 (isP (some (.int (iI (b01 (v = 1 ∧ fo = 0))))) S (if v = 0 ∧ fo = 0 then upS σ m (up1 (up1 (σ m) 10 ft) 11 wh) else σ))) G S σ 0 0 21 [(0, .ref m), (1, .int (iI v)), (2, .int (iI ft)), (3, .int (iI wh))] [] := by
  obtain ⟨hM0, hM1, hM2, hM3, hM4, hM5, hM6, hM7, hM8, hM9, hM10, hM11, hM12, hM13, hM14, hM15, hM16, hM17, hM18, hM19, hM20, hM21, hM22, hM23, hM24, hM25, hM26, hM27, hM28, hM29, hM30, hM31, hM32, hM33, hM34⟩ := id hA
  refine PW.aload_n dX12_want_21 rfl ?_
  refine PW.getI 10 fl_X12_252 rfl (by assumption) rfl rfl dX12_want_22 ?_
  refine PW.top fo hf ?_
  refine PW.if_ne 32 dX12_want_25 (by decide) (by first | assumption | (unfold inR; omega)) (fun h25 => ?_) (fun h25 => ?_)
  · refine PW.iconst dX12_want_32 ?_
    exact PW.iret rfl rfl dX12_want_33 ⟨ret_eq (by first | (rw [b01_t (show v = 1 ∧ fo = 0 by omega)]) | (rw [b01_f (show ¬ (v = 1 ∧ fo = 0) by omega)])), rfl, (if_neg hq).symm⟩
  · refine PW.iconst dX12_want_28 ?_
    refine PW.goto 33 dX12_want_29 (by decide) ?_
    exact PW.iret rfl rfl dX12_want_33 ⟨ret_eq (by first | (rw [b01_t (show v = 1 ∧ fo = 0 by omega)]) | (rw [b01_f (show ¬ (v = 1 ∧ fo = 0) by omega)])), rfl, (if_neg hq).symm⟩
theorem c_X12_want {G : GT} {S : Shp} {σ : Sto} {m : Nat} {v ft wh fo : Int} (hA : IsMod S m) (hv : 0 ≤ v ∧ v ≤ 1) (hf : σ m 10 = fo) (rf : inR fo) (hft : 1 ≤ ft ∧ ft ≤ 3) : PMet G mX12_want 0 0 0 [.ref m, .int (iI v), .int (iI ft), .int (iI wh)] S σ (isP (some (.int (iI (b01 (v = 1 ∧ fo = 0))))) S (if v = 0 ∧ fo = 0 then upS σ m (up1 (up1 (σ m) 10 ft) 11 wh) else σ)) := by
  obtain ⟨hM0, hM1, hM2, hM3, hM4, hM5, hM6, hM7, hM8, hM9, hM10, hM11, hM12, hM13, hM14, hM15, hM16, hM17, hM18, hM19, hM20, hM21, hM22, hM23, hM24, hM25, hM26, hM27, hM28, hM29, hM30, hM31, hM32, hM33, hM34⟩ := id hA
  refine PMet.of [(0, .ref m), (1, .int (iI (v))), (2, .int (iI (ft))), (3, .int (iI (wh)))] (by decide +kernel) rfl (Nat.le_of_ble_eq_true rfl) ?_
  refine PW.iload_n dX12_want_0 rfl ?_
  refine PW.if_ne 21 dX12_want_1 (by decide) (by first | assumption | (unfold inR; omega)) (fun h1 => ?_) (fun h1 => ?_)
  · first
      | exact want_b hA hv hf rf hft (by omega)
      | exact PW.st (upS σ m (up1 (up1 (σ m) 10 ft) 11 wh)) (by rw [upS_upS, upS_same]) (want_a hA hv hf rf hft (by omega))
  · refine PW.aload_n dX12_want_4 rfl ?_
    refine PW.getI 10 fl_X12_252 rfl (by assumption) rfl rfl dX12_want_5 ?_
    refine PW.top (fo) (by exact hf) ?_
    refine PW.if_ne 21 dX12_want_8 (by decide) (by first | assumption | (unfold inR; omega)) (fun h8 => ?_) (fun h8 => ?_)
    · first
        | exact want_b hA hv hf rf hft (by omega)
        | exact PW.st (upS σ m (up1 (up1 (σ m) 10 ft) 11 wh)) (by rw [upS_upS, upS_same]) (want_a hA hv hf rf hft (by omega))
    · refine PW.aload_n dX12_want_11 rfl ?_
      refine PW.iload_n dX12_want_12 rfl ?_
      refine PW.putI 10 fl_X12_252 rfl (fun h => absurd h (by decide)) (by assumption) rfl rfl rfl rfl dX12_want_13 ?_
      refine PW.aload_n dX12_want_16 rfl ?_
      refine PW.iload_n dX12_want_17 rfl ?_
      refine PW.putI 11 fl_X12_33 rfl (fun h => absurd h (by decide)) (by assumption) rfl rfl rfl rfl dX12_want_18 ?_
      first
        | exact want_b hA hv hf rf hft (by omega)
        | exact PW.st (upS σ m (up1 (up1 (σ m) 10 ft) 11 wh)) (by rw [upS_upS, upS_same]) (want_a hA hv hf rf hft (by omega))
def tkW (ob : Int → Int) (e f : Int) : Int → Int := up1 (up1 (up1 ob 9 f) 12 e) 13 (f - e)
theorem tkW_ne {ob : Int → Int} {e f j : Int} (h9 : j ≠ 9) (h12 : j ≠ 12) (h13 : j ≠ 13) : tkW ob e f j = ob j := by
  unfold tkW
  rw [up1_ne h13, up1_ne h12, up1_ne h9]
theorem tkW_9 (ob : Int → Int) (e f : Int) : tkW ob e f 9 = f := by unfold tkW; rw [up1_ne (by decide), up1_ne (by decide), up1_same]
theorem tkW_12 (ob : Int → Int) (e f : Int) : tkW ob e f 12 = e := by unfold tkW; rw [up1_ne (by decide), up1_same]
theorem tkW_13 (ob : Int → Int) (e f : Int) : tkW ob e f 13 = f - e := by unfold tkW; rw [up1_same]
def ltE (B : Int → Int) (z e : Int) : Int := runE isLt B z e
theorem mo_tkw_loop {G : GT} {S : Shp} {σ : Sto} {m : Nat} {z e w : Int} {Q : Option Value → Shp → Sto → Prop} (hA : IsMod S m) (hb : bsOk (σ (m + 7)) z) (hz : σ m 8 = z) (eb : 0 ≤ e ∧ e ≤ z) (hQ : Q none S (upS σ m (tkW (σ m) e (ltE (σ (m + 7)) z e)))) : ∀ (t : Nat) (q : Int), 0 ≤ q → q ≤ z → z - q < t → runE isLt (σ (m + 7)) z q = ltE (σ (m + 7)) z e → PW (fm G mX12_takeWord 1 0 0 Q) G S (upS σ m (up1 (up1 (σ m) 9 q) 12 e)) 0 0 13 [(0, .ref m), (1, .int (iI (w)))] [] := by
  obtain ⟨hM0, hM1, hM2, hM3, hM4, hM5, hM6, hM7, hM8, hM9, hM10, hM11, hM12, hM13, hM14, hM15, hM16, hM17, hM18, hM19, hM20, hM21, hM22, hM23, hM24, hM25, hM26, hM27, hM28, hM29, hM30, hM31, hM32, hM33, hM34⟩ := id hA
  have hz0 := hb.1
  intro t
  induction t with
  | zero => intro q h1 h2 h3 g1; omega
  | succ t ih =>
    intro q h1 h2 h3 g1
    have hs := runE_s isLt (σ (m + 7)) z q
    have hv : q < z → 0 ≤ σ (m + 7) q ∧ σ (m + 7) q ≤ 255 := fun hq => hb.2 q h1 hq
    have o9 : (upS σ m (up1 (up1 (σ m) 9 q) 12 e)) m 9 = q := by rw [upS_same, up1_ne (by decide), up1_same]
    have o8 : (upS σ m (up1 (up1 (σ m) 9 q) 12 e)) m 8 = z := by rw [upS_same, up1_ne (by decide), up1_ne (by decide)]; exact hz
    have o12 : (upS σ m (up1 (up1 (σ m) 9 q) 12 e)) m 12 = e := by rw [upS_same, up1_same]
    refine PW.aload_n dX12_takeWord_13 rfl ?_
    refine PW.getI 9 fl_X12_249 rfl (by assumption) rfl rfl dX12_takeWord_14 ?_
    refine PW.top (q) (by exact o9) ?_
    refine PW.aload_n dX12_takeWord_17 rfl ?_
    refine PW.getI 8 fl_X12_236 rfl (by assumption) rfl rfl dX12_takeWord_18 ?_
    refine PW.top (z) (by exact o8) ?_
    refine PW.icmp_ge 59 dX12_takeWord_21 (by decide) (by first | assumption | (unfold inR; omega)) (by first | assumption | (unfold inR; omega)) (fun h21 => ?_) (fun h21 => ?_)
    · refine PW.aload_n dX12_takeWord_59 rfl ?_
      refine PW.aload_n dX12_takeWord_60 rfl ?_
      refine PW.getI 9 fl_X12_249 rfl (by assumption) rfl rfl dX12_takeWord_61 ?_
      refine PW.top (q) (by exact o9) ?_
      refine PW.aload_n dX12_takeWord_64 rfl ?_
      refine PW.getI 12 fl_X12_258 rfl (by assumption) rfl rfl dX12_takeWord_65 ?_
      refine PW.top (e) (by exact o12) ?_
      refine PW.isub dX12_takeWord_68 ?_
      refine PW.putI 13 fl_X12_265 rfl (fun h => absurd h (by decide)) (by assumption) rfl rfl rfl rfl dX12_takeWord_69 ?_
      have e1 : ltE (σ (m + 7)) z e = q := by
        rw [← g1, hs, if_neg (fun r => by
          first
            | omega
            | (have := of_decide_eq_true r.2; contradiction))]
      refine PW.st (upS σ m (tkW (σ m) e (ltE (σ (m + 7)) z e))) (by
        rw [upS_upS, upS_same, e1]
        refine congrArg (upS σ m) ?_
        unfold tkW
        rfl) ?_
      exact PW.vret rfl dX12_takeWord_72 hQ
    · refine PW.aload_n dX12_takeWord_24 rfl ?_
      refine PW.getR fl_X12_30 rfl (by assumption) rfl dX12_takeWord_25 ?_
      refine PW.aload_n dX12_takeWord_28 rfl ?_
      refine PW.getI 9 fl_X12_249 rfl (by assumption) rfl rfl dX12_takeWord_29 ?_
      refine PW.top (q) (by exact o9) ?_
      have hvv := hv (by omega)
      refine PW.iaload (by assumption) (by unfold inR; omega) (by omega) (by omega) dX12_takeWord_32 ?_
      refine PW.top (σ (m + 7) q) (by rw [upS_ne (by omega)]) ?_
      refine PW.i2l (by first | assumption | (unfold inR; omega)) dX12_takeWord_33 ?_
      refine PW.ldc2 (97) kc_X12_261 rfl rfl dX12_takeWord_34 ?_
      refine PW.ldc2 (122) kc_X12_263 rfl rfl dX12_takeWord_37 ?_
      refine PW.callSr (c_X12_in (by unfold inL; omega) (by unfold inL; omega) (by unfold inL; omega)) cs_X12_in lk_X12_134 dX12_takeWord_40 rfl rfl rfl ?_
      refine PW.if_eqB 59 dX12_takeWord_43 (by decide) (fun h43 => ?_) (fun h43 => ?_)
      · refine PW.aload_n dX12_takeWord_59 rfl ?_
        refine PW.aload_n dX12_takeWord_60 rfl ?_
        refine PW.getI 9 fl_X12_249 rfl (by assumption) rfl rfl dX12_takeWord_61 ?_
        refine PW.top (q) (by exact o9) ?_
        refine PW.aload_n dX12_takeWord_64 rfl ?_
        refine PW.getI 12 fl_X12_258 rfl (by assumption) rfl rfl dX12_takeWord_65 ?_
        refine PW.top (e) (by exact o12) ?_
        refine PW.isub dX12_takeWord_68 ?_
        refine PW.putI 13 fl_X12_265 rfl (fun h => absurd h (by decide)) (by assumption) rfl rfl rfl rfl dX12_takeWord_69 ?_
        have e1 : ltE (σ (m + 7)) z e = q := by
          rw [← g1, hs, if_neg (fun r => by
            first
              | omega
              | (have := of_decide_eq_true r.2; contradiction))]
        refine PW.st (upS σ m (tkW (σ m) e (ltE (σ (m + 7)) z e))) (by
          rw [upS_upS, upS_same, e1]
          refine congrArg (upS σ m) ?_
          unfold tkW
          rfl) ?_
        exact PW.vret rfl dX12_takeWord_72 hQ
      · refine PW.aload_n dX12_takeWord_46 rfl ?_
        refine PW.dup rfl dX12_takeWord_47 ?_
        refine PW.getI 9 fl_X12_249 rfl (by assumption) rfl rfl dX12_takeWord_48 ?_
        refine PW.top (q) (by exact o9) ?_
        refine PW.iconst dX12_takeWord_51 ?_
        refine PW.iadd dX12_takeWord_52 ?_
        refine PW.putI 9 fl_X12_249 rfl (fun h => absurd h (by decide)) (by assumption) rfl rfl rfl rfl dX12_takeWord_53 ?_
        refine PW.st (upS σ m (up1 (up1 (σ m) 9 (q + 1)) 12 e)) (by
          rw [upS_upS, upS_same]
          refine congrArg (upS σ m) (funext fun j => ?_)
          unfold up1
          by_cases h9 : j = 9
          · subst h9; rfl
          · simp only [h9, if_false]) ?_
        refine PW.goto 13 dX12_takeWord_56 (by decide) ?_
        refine ih (q + 1) (by omega) (by omega) (by omega) ?_
        rw [← g1, hs, if_pos ⟨by omega, decide_eq_true (by assumption)⟩]
theorem c_X12_takeWord {G : GT} {S : Shp} {σ : Sto} {m : Nat} {z p : Int} (hA : IsMod S m) (hb : bsOk (σ (m + 7)) z) (hz : σ m 8 = z) (hp : σ m 9 = p) (pb : 0 ≤ p ∧ p ≤ z) : PMet G mX12_takeWord 1 0 0 [.ref m] S σ (isP none S (upS σ m (tkW (σ m) (skE (σ (m + 7)) z p) (ltE (σ (m + 7)) z (skE (σ (m + 7)) z p))))) := by
  obtain ⟨hM0, hM1, hM2, hM3, hM4, hM5, hM6, hM7, hM8, hM9, hM10, hM11, hM12, hM13, hM14, hM15, hM16, hM17, hM18, hM19, hM20, hM21, hM22, hM23, hM24, hM25, hM26, hM27, hM28, hM29, hM30, hM31, hM32, hM33, hM34⟩ := id hA
  have hz0 := hb.1
  have hsk := skE_b (σ (m + 7)) z pb
  refine PMet.of [(0, .ref m)] (by decide +kernel) rfl (Nat.le_of_ble_eq_true rfl) ?_
  refine PW.aload_n dX12_takeWord_0 rfl ?_
  refine PW.callVr (c_X12_here hA hb hz hp pb) cv_X12_here lk_X12_255 (by first | assumption | exact And.left (by assumption)) dX12_takeWord_1 rfl rfl rfl rfl ?_
  refine PW.istore_n [(0, _), (1, _)] dX12_takeWord_4 rfl (Nat.le_of_ble_eq_true rfl) ?_
  refine PW.aload_n dX12_takeWord_5 rfl ?_
  refine PW.aload_n dX12_takeWord_6 rfl ?_
  refine PW.getI 9 fl_X12_249 rfl (by assumption) rfl rfl dX12_takeWord_7 ?_
  refine PW.top ((skE (σ (m + 7)) z p)) (by rw [upS_same, up1_same]) ?_
  refine PW.putI 12 fl_X12_258 rfl (fun h => absurd h (by decide)) (by assumption) rfl rfl rfl rfl dX12_takeWord_10 ?_
  refine PW.st (upS σ m (up1 (up1 (σ m) 9 (skE (σ (m + 7)) z p)) 12 (skE (σ (m + 7)) z p))) (by rw [upS_upS, upS_same]) ?_
  exact mo_tkw_loop hA hb hz (by omega) ⟨rfl, rfl, rfl⟩ 302 _ (by omega) (by omega) (by omega) rfl
def chQ (a b c d e i : Int) : Int := if i = 0 then a else if i = 1 then b else if i = 2 then c else if i = 3 then d else e
abbrev cqB (B : Int → Int) (q a b c d e : Int) : Int → Bool := fun i => decide (¬ B (q + i) = chQ a b c d e i)
abbrev iwP (B : Int → Int) (l q n a b c d e : Int) : Prop := l = n ∧ firI (cqB B q a b c d e) n.toNat = -1
theorem run_at {P : Int → Bool} {B : Int → Int} {z : Int} : ∀ (k : Nat) {p : Int}, (∀ j, p ≤ j → j < p + k → j < z ∧ P (B j) = true) → runE P B z p = runE P B z (p + k)
  | 0, p, _ => by rw [show p + ((0 : Nat) : Int) = p by omega]
  | k + 1, p, h => by
    have h0 := h p (by omega) (by omega)
    rw [runE_s, if_pos h0, run_at k (p := p + 1) (fun j j0 j1 => h j (by omega) (by omega)), show p + 1 + (k : Int) = p + ((k + 1 : Nat) : Int) by omega]
/-- the word at a place: all letters side by side -/
theorem wd_iff {B : Int → Int} {z e : Int} {k0 : Nat} (hk : k0 < 8) (he : 0 ≤ e ∧ e ≤ z) {a b c d e' : Int} (hc : ∀ i : Int, 0 ≤ i → i < lenF k0 → chQ a b c d e' i = chrF k0 i) : iwP B (ltE B z e - e) e (lenF k0) a b c d e' ↔ whP B z k0 e := by
  have hl := lenF_b hk
  have hr := runE_b isLt B z e
  have hstop : ¬ (ltE B z e < z ∧ isLt (B (ltE B z e)) = true) := fun q => by
    have h1 : runE isLt B z (ltE B z e) = ltE B z e := by
      have h2 := run_at (P := isLt) (B := B) (z := z) (ltE B z e - e).toNat (p := e) (fun j j0 j1 => by
        have h3 : j < runE isLt B z e := by
          have : runE isLt B z e = ltE B z e := rfl
          omega
        refine ⟨by have := hr.2 he.2; omega, ?_⟩
        unfold runE at h3
        exact runE_at _ j0 h3)
      rw [show e + (((ltE B z e - e).toNat : Nat) : Int) = ltE B z e by have : runE isLt B z e = ltE B z e := rfl; omega] at h2
      exact h2.symm
    rw [runE_s, if_pos q] at h1
    have := (runE_b isLt B z (ltE B z e + 1)).1
    omega
  have hle : runE isLt B z e = ltE B z e := rfl
  constructor
  · intro h
    obtain ⟨h1, h2⟩ := h
    refine ⟨firI_none fun i i0 i1 => decide_eq_false fun q => ?_, fun q => ?_⟩
    · have h3 := of_decide_eq_false ((firI_spec (P := cqB B e a b c d e') (n := (lenF k0).toNat)).1 h2 i i0 (by omega))
      have h4 : B (e + i) = chrF k0 i := by
        rw [← hc i i0 (by omega)]
        exact Classical.byContradiction h3
      apply q
      unfold btF
      rw [if_pos (by have := hr.2 he.2; omega)]
      exact h4
    · apply hstop
      have hlt : e + lenF k0 < z := (btF_lt (show ¬ btF B z (e + lenF k0) = -1 by omega)).2
      refine ⟨by omega, ?_⟩
      rw [show ltE B z e = e + lenF k0 by omega]
      have hbt : btF B z (e + lenF k0) = B (e + lenF k0) := if_pos ⟨by omega, hlt⟩
      rw [hbt] at q
      exact decide_eq_true q
  · intro h
    obtain ⟨h1, h2⟩ := h
    have hch : ∀ i : Int, 0 ≤ i → i < lenF k0 → btF B z (e + i) = chrF k0 i := fun i i0 i1 => by
      have := of_decide_eq_false ((firI_spec (P := whB B z k0 e) (n := (lenF k0).toNat)).1 h1 i i0 (by omega))
      exact Classical.byContradiction this
    have hin : ∀ i : Int, 0 ≤ i → i < lenF k0 → e + i < z ∧ B (e + i) = chrF k0 i := fun i i0 i1 => by
      have h3 := hch i i0 i1
      have h4 := chrF_b hk i0 i1
      have h5 := (btF_lt (show ¬ btF B z (e + i) = -1 by omega)).2
      refine ⟨h5, ?_⟩
      rw [← h3]
      exact (if_pos ⟨by omega, h5⟩).symm
    have hrun := run_at (P := isLt) (B := B) (z := z) (lenF k0).toNat (p := e) (fun j j0 j1 => by
      have h3 := hin (j - e) (by omega) (by omega)
      rw [show e + (j - e) = j by omega] at h3
      have h4 := chrF_b hk (i := j - e) (by omega) (by omega)
      exact ⟨h3.1, decide_eq_true (by rw [h3.2]; exact h4)⟩)
    rw [show e + (((lenF k0).toNat : Nat) : Int) = e + lenF k0 by omega] at hrun
    have hend : runE isLt B z (e + lenF k0) = e + lenF k0 := by
      rw [runE_s, if_neg (fun q => ?_)]
      apply h2
      have := of_decide_eq_true q.2
      unfold btF
      rw [if_pos ⟨by omega, q.1⟩]
      exact this
    refine ⟨by omega, firI_none fun i i0 i1 => decide_eq_false fun q => q ?_⟩
    rw [(hin i i0 (by omega)).2, hc i i0 (by omega)]
theorem mo_isw_loop {G : GT} {S : Shp} {σ : Sto} {m : Nat} {z l q n a b c d e : Int} {Q : Option Value → Shp → Sto → Prop} (hA : IsMod S m) (hb : bsOk (σ (m + 7)) z) (hl : σ m 13 = l) (hq : σ m 12 = q) (qb : 0 ≤ q ∧ 0 ≤ l ∧ q + l ≤ z) (nb : 0 ≤ n ∧ n ≤ 5) (ra : 0 ≤ a ∧ a ≤ 255) (rb : 0 ≤ b ∧ b ≤ 255) (rc : 0 ≤ c ∧ c ≤ 255) (rd : 0 ≤ d ∧ d ≤ 255) (re : 0 ≤ e ∧ e ≤ 255) (hQ : Q (some (.int (iI (b01 (iwP (σ (m + 7)) l q n a b c d e))))) S σ) : ∀ (t : Nat) (i : Int), 0 ≤ i → i ≤ n → n - i < t → PW (fm G mX12_isWord 0 0 0 Q) G S (σ) 0 0 18 [(0, .ref m), (1, .int (iI (n))), (2, .int (iI (a))), (3, .int (iI (b))), (4, .int (iI (c))), (5, .int (iI (d))), (6, .int (iI (e))), (7, .int (iI (b01 (l = n ∧ firI (cqB (σ (m + 7)) q a b c d e) i.toNat = -1)))), (8, .int (iI (i)))] [] := by
  obtain ⟨hM0, hM1, hM2, hM3, hM4, hM5, hM6, hM7, hM8, hM9, hM10, hM11, hM12, hM13, hM14, hM15, hM16, hM17, hM18, hM19, hM20, hM21, hM22, hM23, hM24, hM25, hM26, hM27, hM28, hM29, hM30, hM31, hM32, hM33, hM34⟩ := id hA
  have hz0 := hb.1
  intro t
  induction t with
  | zero => intro i h1 h2 h3; omega
  | succ t ih =>
    intro i h1 h2 h3
    have f1 := firI_st (cqB (σ (m + 7)) q a b c d e) h1
    refine PW.iload dX12_isWord_18 rfl ?_
    refine PW.iload_n dX12_isWord_20 rfl ?_
    refine PW.icmp_ge 100 dX12_isWord_21 (by decide) (by first | assumption | (unfold inR; omega)) (by first | assumption | (unfold inR; omega)) (fun h21 => ?_) (fun h21 => ?_)
    · refine PW.iload dX12_isWord_100 rfl ?_
      first
        | (have hi : i = n := by omega
           subst hi
           exact PW.iret rfl (by first | rfl | exact narB _) dX12_isWord_102 hQ)
        | (have hno : ¬ (iwP (σ (m + 7)) l q n a b c d e) := fun r => by
             have hc : ¬ (l = n ∧ firI (cqB (σ (m + 7)) q a b c d e) i.toNat = -1) := by assumption
             exact hc ⟨r.1, firI_none (fun j j0 j1 => (firI_spec (P := cqB (σ (m + 7)) q a b c d e) (n := n.toNat)).1 r.2 j j0 (by omega))⟩
           rw [b01_f hno] at hQ
           rw [b01_f (show ¬ (l = n ∧ firI (cqB (σ (m + 7)) q a b c d e) i.toNat = -1) by assumption)]
           exact PW.iret rfl rfl dX12_isWord_102 hQ)
    · refine PW.iload dX12_isWord_24 rfl ?_
      refine PW.if_eqB 100 dX12_isWord_26 (by decide) (fun h26 => ?_) (fun h26 => ?_)
      · refine PW.iload dX12_isWord_100 rfl ?_
        first
          | (have hi : i = n := by omega
             subst hi
             exact PW.iret rfl (by first | rfl | exact narB _) dX12_isWord_102 hQ)
          | (have hno : ¬ (iwP (σ (m + 7)) l q n a b c d e) := fun r => by
               have hc : ¬ (l = n ∧ firI (cqB (σ (m + 7)) q a b c d e) i.toNat = -1) := by assumption
               exact hc ⟨r.1, firI_none (fun j j0 j1 => (firI_spec (P := cqB (σ (m + 7)) q a b c d e) (n := n.toNat)).1 r.2 j j0 (by omega))⟩
             rw [b01_f hno] at hQ
             rw [b01_f (show ¬ (l = n ∧ firI (cqB (σ (m + 7)) q a b c d e) i.toNat = -1) by assumption)]
             exact PW.iret rfl rfl dX12_isWord_102 hQ)
      · refine PW.aload_n dX12_isWord_29 rfl ?_
        refine PW.getR fl_X12_30 rfl (by assumption) rfl dX12_isWord_30 ?_
        refine PW.aload_n dX12_isWord_33 rfl ?_
        refine PW.getI 12 fl_X12_258 rfl (by assumption) rfl rfl dX12_isWord_34 ?_
        refine PW.top (q) (by exact hq) ?_
        refine PW.iload dX12_isWord_37 rfl ?_
        refine PW.iadd dX12_isWord_39 ?_
        obtain ⟨hln, hfi⟩ := id (by assumption : l = n ∧ firI (cqB (σ (m + 7)) q a b c d e) i.toNat = -1)
        have hv := hb.2 (q + i) (by omega) (by omega)
        refine PW.iaload (by assumption) (by unfold inR; omega) (by omega) (by omega) dX12_isWord_40 ?_
        refine PW.top (σ (m + 7) (q + i)) (by rfl) ?_
        refine PW.iload dX12_isWord_41 rfl ?_
        refine PW.if_ne 50 dX12_isWord_43 (by decide) (by first | assumption | (unfold inR; omega)) (fun h43 => ?_) (fun h43 => ?_)
        · refine PW.iload dX12_isWord_50 rfl ?_
          refine PW.iconst dX12_isWord_52 ?_
          refine PW.icmp_ne 60 dX12_isWord_53 (by decide) (by first | assumption | (unfold inR; omega)) (by first | assumption | (unfold inR; omega)) (fun h53 => ?_) (fun h53 => ?_)
          · refine PW.iload dX12_isWord_60 rfl ?_
            refine PW.iconst dX12_isWord_62 ?_
            refine PW.icmp_ne 71 dX12_isWord_63 (by decide) (by first | assumption | (unfold inR; omega)) (by first | assumption | (unfold inR; omega)) (fun h63 => ?_) (fun h63 => ?_)
            · refine PW.iload dX12_isWord_71 rfl ?_
              refine PW.iconst dX12_isWord_73 ?_
              refine PW.icmp_ne 82 dX12_isWord_74 (by decide) (by first | assumption | (unfold inR; omega)) (by first | assumption | (unfold inR; omega)) (fun h74 => ?_) (fun h74 => ?_)
              · refine PW.iload dX12_isWord_82 rfl ?_
                refine PW.top (chQ a b c d e i) (by unfold chQ; first | rw [if_pos (by omega)] | (rw [if_neg (by omega)]; first | rw [if_pos (by omega)] | (rw [if_neg (by omega)]; first | rw [if_pos (by omega)] | (rw [if_neg (by omega)]; first | rw [if_pos (by omega)] | rw [if_neg (by omega)])))) ?_
                have hcq : 0 ≤ chQ a b c d e i ∧ chQ a b c d e i ≤ 255 := by unfold chQ; split <;> first | assumption | (split <;> first | assumption | (split <;> first | assumption | (split <;> assumption)))
                refine PW.icmp_ne 91 dX12_isWord_84 (by decide) (by first | assumption | (unfold inR; omega)) (by first | assumption | (unfold inR; omega)) (fun h84 => ?_) (fun h84 => ?_)
                · refine PW.iconst dX12_isWord_91 ?_
                  refine PW.istore [(0, _), (1, _), (2, _), (3, _), (4, _), (5, _), (6, _), (7, _), (8, _)] dX12_isWord_92 rfl (Nat.le_of_ble_eq_true rfl) ?_
                  refine PW.iinc [(0, _), (1, _), (2, _), (3, _), (4, _), (5, _), (6, _), (7, _), (8, _)] dX12_isWord_94 rfl rfl (Nat.le_of_ble_eq_true rfl) ?_
                  refine PW.goto 18 dX12_isWord_97 (by decide) ?_
                  have e9 := ih (i + 1) (by omega) (by omega) (by omega)
                  first
                    | (rw [b01_t ⟨hln, f1.mpr ⟨hfi, decide_eq_false (fun r => r h84)⟩⟩] at e9
                       exact e9)
                    | (rw [b01_f (fun r => by have := of_decide_eq_false (f1.mp r.2).2; exact this h84)] at e9
                       exact e9)
                · refine PW.iconst dX12_isWord_87 ?_
                  refine PW.goto 92 dX12_isWord_88 (by decide) ?_
                  refine PW.istore [(0, _), (1, _), (2, _), (3, _), (4, _), (5, _), (6, _), (7, _), (8, _)] dX12_isWord_92 rfl (Nat.le_of_ble_eq_true rfl) ?_
                  refine PW.iinc [(0, _), (1, _), (2, _), (3, _), (4, _), (5, _), (6, _), (7, _), (8, _)] dX12_isWord_94 rfl rfl (Nat.le_of_ble_eq_true rfl) ?_
                  refine PW.goto 18 dX12_isWord_97 (by decide) ?_
                  have e9 := ih (i + 1) (by omega) (by omega) (by omega)
                  first
                    | (rw [b01_t ⟨hln, f1.mpr ⟨hfi, decide_eq_false (fun r => r h84)⟩⟩] at e9
                       exact e9)
                    | (rw [b01_f (fun r => by have := of_decide_eq_false (f1.mp r.2).2; exact this h84)] at e9
                       exact e9)
              · refine PW.iload dX12_isWord_77 rfl ?_
                refine PW.goto 84 dX12_isWord_79 (by decide) ?_
                refine PW.top (chQ a b c d e i) (by unfold chQ; first | rw [if_pos (by omega)] | (rw [if_neg (by omega)]; first | rw [if_pos (by omega)] | (rw [if_neg (by omega)]; first | rw [if_pos (by omega)] | (rw [if_neg (by omega)]; first | rw [if_pos (by omega)] | rw [if_neg (by omega)])))) ?_
                have hcq : 0 ≤ chQ a b c d e i ∧ chQ a b c d e i ≤ 255 := by unfold chQ; split <;> first | assumption | (split <;> first | assumption | (split <;> first | assumption | (split <;> assumption)))
                refine PW.icmp_ne 91 dX12_isWord_84 (by decide) (by first | assumption | (unfold inR; omega)) (by first | assumption | (unfold inR; omega)) (fun h84 => ?_) (fun h84 => ?_)
                · refine PW.iconst dX12_isWord_91 ?_
                  refine PW.istore [(0, _), (1, _), (2, _), (3, _), (4, _), (5, _), (6, _), (7, _), (8, _)] dX12_isWord_92 rfl (Nat.le_of_ble_eq_true rfl) ?_
                  refine PW.iinc [(0, _), (1, _), (2, _), (3, _), (4, _), (5, _), (6, _), (7, _), (8, _)] dX12_isWord_94 rfl rfl (Nat.le_of_ble_eq_true rfl) ?_
                  refine PW.goto 18 dX12_isWord_97 (by decide) ?_
                  have e9 := ih (i + 1) (by omega) (by omega) (by omega)
                  first
                    | (rw [b01_t ⟨hln, f1.mpr ⟨hfi, decide_eq_false (fun r => r h84)⟩⟩] at e9
                       exact e9)
                    | (rw [b01_f (fun r => by have := of_decide_eq_false (f1.mp r.2).2; exact this h84)] at e9
                       exact e9)
                · refine PW.iconst dX12_isWord_87 ?_
                  refine PW.goto 92 dX12_isWord_88 (by decide) ?_
                  refine PW.istore [(0, _), (1, _), (2, _), (3, _), (4, _), (5, _), (6, _), (7, _), (8, _)] dX12_isWord_92 rfl (Nat.le_of_ble_eq_true rfl) ?_
                  refine PW.iinc [(0, _), (1, _), (2, _), (3, _), (4, _), (5, _), (6, _), (7, _), (8, _)] dX12_isWord_94 rfl rfl (Nat.le_of_ble_eq_true rfl) ?_
                  refine PW.goto 18 dX12_isWord_97 (by decide) ?_
                  have e9 := ih (i + 1) (by omega) (by omega) (by omega)
                  first
                    | (rw [b01_t ⟨hln, f1.mpr ⟨hfi, decide_eq_false (fun r => r h84)⟩⟩] at e9
                       exact e9)
                    | (rw [b01_f (fun r => by have := of_decide_eq_false (f1.mp r.2).2; exact this h84)] at e9
                       exact e9)
            · refine PW.iload dX12_isWord_66 rfl ?_
              refine PW.goto 84 dX12_isWord_68 (by decide) ?_
              refine PW.top (chQ a b c d e i) (by unfold chQ; first | rw [if_pos (by omega)] | (rw [if_neg (by omega)]; first | rw [if_pos (by omega)] | (rw [if_neg (by omega)]; first | rw [if_pos (by omega)] | (rw [if_neg (by omega)]; first | rw [if_pos (by omega)] | rw [if_neg (by omega)])))) ?_
              have hcq : 0 ≤ chQ a b c d e i ∧ chQ a b c d e i ≤ 255 := by unfold chQ; split <;> first | assumption | (split <;> first | assumption | (split <;> first | assumption | (split <;> assumption)))
              refine PW.icmp_ne 91 dX12_isWord_84 (by decide) (by first | assumption | (unfold inR; omega)) (by first | assumption | (unfold inR; omega)) (fun h84 => ?_) (fun h84 => ?_)
              · refine PW.iconst dX12_isWord_91 ?_
                refine PW.istore [(0, _), (1, _), (2, _), (3, _), (4, _), (5, _), (6, _), (7, _), (8, _)] dX12_isWord_92 rfl (Nat.le_of_ble_eq_true rfl) ?_
                refine PW.iinc [(0, _), (1, _), (2, _), (3, _), (4, _), (5, _), (6, _), (7, _), (8, _)] dX12_isWord_94 rfl rfl (Nat.le_of_ble_eq_true rfl) ?_
                refine PW.goto 18 dX12_isWord_97 (by decide) ?_
                have e9 := ih (i + 1) (by omega) (by omega) (by omega)
                first
                  | (rw [b01_t ⟨hln, f1.mpr ⟨hfi, decide_eq_false (fun r => r h84)⟩⟩] at e9
                     exact e9)
                  | (rw [b01_f (fun r => by have := of_decide_eq_false (f1.mp r.2).2; exact this h84)] at e9
                     exact e9)
              · refine PW.iconst dX12_isWord_87 ?_
                refine PW.goto 92 dX12_isWord_88 (by decide) ?_
                refine PW.istore [(0, _), (1, _), (2, _), (3, _), (4, _), (5, _), (6, _), (7, _), (8, _)] dX12_isWord_92 rfl (Nat.le_of_ble_eq_true rfl) ?_
                refine PW.iinc [(0, _), (1, _), (2, _), (3, _), (4, _), (5, _), (6, _), (7, _), (8, _)] dX12_isWord_94 rfl rfl (Nat.le_of_ble_eq_true rfl) ?_
                refine PW.goto 18 dX12_isWord_97 (by decide) ?_
                have e9 := ih (i + 1) (by omega) (by omega) (by omega)
                first
                  | (rw [b01_t ⟨hln, f1.mpr ⟨hfi, decide_eq_false (fun r => r h84)⟩⟩] at e9
                     exact e9)
                  | (rw [b01_f (fun r => by have := of_decide_eq_false (f1.mp r.2).2; exact this h84)] at e9
                     exact e9)
          · refine PW.iload_n dX12_isWord_56 rfl ?_
            refine PW.goto 84 dX12_isWord_57 (by decide) ?_
            refine PW.top (chQ a b c d e i) (by unfold chQ; first | rw [if_pos (by omega)] | (rw [if_neg (by omega)]; first | rw [if_pos (by omega)] | (rw [if_neg (by omega)]; first | rw [if_pos (by omega)] | (rw [if_neg (by omega)]; first | rw [if_pos (by omega)] | rw [if_neg (by omega)])))) ?_
            have hcq : 0 ≤ chQ a b c d e i ∧ chQ a b c d e i ≤ 255 := by unfold chQ; split <;> first | assumption | (split <;> first | assumption | (split <;> first | assumption | (split <;> assumption)))
            refine PW.icmp_ne 91 dX12_isWord_84 (by decide) (by first | assumption | (unfold inR; omega)) (by first | assumption | (unfold inR; omega)) (fun h84 => ?_) (fun h84 => ?_)
            · refine PW.iconst dX12_isWord_91 ?_
              refine PW.istore [(0, _), (1, _), (2, _), (3, _), (4, _), (5, _), (6, _), (7, _), (8, _)] dX12_isWord_92 rfl (Nat.le_of_ble_eq_true rfl) ?_
              refine PW.iinc [(0, _), (1, _), (2, _), (3, _), (4, _), (5, _), (6, _), (7, _), (8, _)] dX12_isWord_94 rfl rfl (Nat.le_of_ble_eq_true rfl) ?_
              refine PW.goto 18 dX12_isWord_97 (by decide) ?_
              have e9 := ih (i + 1) (by omega) (by omega) (by omega)
              first
                | (rw [b01_t ⟨hln, f1.mpr ⟨hfi, decide_eq_false (fun r => r h84)⟩⟩] at e9
                   exact e9)
                | (rw [b01_f (fun r => by have := of_decide_eq_false (f1.mp r.2).2; exact this h84)] at e9
                   exact e9)
            · refine PW.iconst dX12_isWord_87 ?_
              refine PW.goto 92 dX12_isWord_88 (by decide) ?_
              refine PW.istore [(0, _), (1, _), (2, _), (3, _), (4, _), (5, _), (6, _), (7, _), (8, _)] dX12_isWord_92 rfl (Nat.le_of_ble_eq_true rfl) ?_
              refine PW.iinc [(0, _), (1, _), (2, _), (3, _), (4, _), (5, _), (6, _), (7, _), (8, _)] dX12_isWord_94 rfl rfl (Nat.le_of_ble_eq_true rfl) ?_
              refine PW.goto 18 dX12_isWord_97 (by decide) ?_
              have e9 := ih (i + 1) (by omega) (by omega) (by omega)
              first
                | (rw [b01_t ⟨hln, f1.mpr ⟨hfi, decide_eq_false (fun r => r h84)⟩⟩] at e9
                   exact e9)
                | (rw [b01_f (fun r => by have := of_decide_eq_false (f1.mp r.2).2; exact this h84)] at e9
                   exact e9)
        · refine PW.iload_n dX12_isWord_46 rfl ?_
          refine PW.goto 84 dX12_isWord_47 (by decide) ?_
          refine PW.top (chQ a b c d e i) (by unfold chQ; first | rw [if_pos (by omega)] | (rw [if_neg (by omega)]; first | rw [if_pos (by omega)] | (rw [if_neg (by omega)]; first | rw [if_pos (by omega)] | (rw [if_neg (by omega)]; first | rw [if_pos (by omega)] | rw [if_neg (by omega)])))) ?_
          have hcq : 0 ≤ chQ a b c d e i ∧ chQ a b c d e i ≤ 255 := by unfold chQ; split <;> first | assumption | (split <;> first | assumption | (split <;> first | assumption | (split <;> assumption)))
          refine PW.icmp_ne 91 dX12_isWord_84 (by decide) (by first | assumption | (unfold inR; omega)) (by first | assumption | (unfold inR; omega)) (fun h84 => ?_) (fun h84 => ?_)
          · refine PW.iconst dX12_isWord_91 ?_
            refine PW.istore [(0, _), (1, _), (2, _), (3, _), (4, _), (5, _), (6, _), (7, _), (8, _)] dX12_isWord_92 rfl (Nat.le_of_ble_eq_true rfl) ?_
            refine PW.iinc [(0, _), (1, _), (2, _), (3, _), (4, _), (5, _), (6, _), (7, _), (8, _)] dX12_isWord_94 rfl rfl (Nat.le_of_ble_eq_true rfl) ?_
            refine PW.goto 18 dX12_isWord_97 (by decide) ?_
            have e9 := ih (i + 1) (by omega) (by omega) (by omega)
            first
              | (rw [b01_t ⟨hln, f1.mpr ⟨hfi, decide_eq_false (fun r => r h84)⟩⟩] at e9
                 exact e9)
              | (rw [b01_f (fun r => by have := of_decide_eq_false (f1.mp r.2).2; exact this h84)] at e9
                 exact e9)
          · refine PW.iconst dX12_isWord_87 ?_
            refine PW.goto 92 dX12_isWord_88 (by decide) ?_
            refine PW.istore [(0, _), (1, _), (2, _), (3, _), (4, _), (5, _), (6, _), (7, _), (8, _)] dX12_isWord_92 rfl (Nat.le_of_ble_eq_true rfl) ?_
            refine PW.iinc [(0, _), (1, _), (2, _), (3, _), (4, _), (5, _), (6, _), (7, _), (8, _)] dX12_isWord_94 rfl rfl (Nat.le_of_ble_eq_true rfl) ?_
            refine PW.goto 18 dX12_isWord_97 (by decide) ?_
            have e9 := ih (i + 1) (by omega) (by omega) (by omega)
            first
              | (rw [b01_t ⟨hln, f1.mpr ⟨hfi, decide_eq_false (fun r => r h84)⟩⟩] at e9
                 exact e9)
              | (rw [b01_f (fun r => by have := of_decide_eq_false (f1.mp r.2).2; exact this h84)] at e9
                 exact e9)
theorem c_X12_isWord {G : GT} {S : Shp} {σ : Sto} {m : Nat} {z l q n a b c d e : Int} (hA : IsMod S m) (hb : bsOk (σ (m + 7)) z) (hl : σ m 13 = l) (hq : σ m 12 = q) (qb : 0 ≤ q ∧ 0 ≤ l ∧ q + l ≤ z) (nb : 0 ≤ n ∧ n ≤ 5) (ra : 0 ≤ a ∧ a ≤ 255) (rb : 0 ≤ b ∧ b ≤ 255) (rc : 0 ≤ c ∧ c ≤ 255) (rd : 0 ≤ d ∧ d ≤ 255) (re : 0 ≤ e ∧ e ≤ 255) : PMet G mX12_isWord 0 0 0 [.ref m, .int (iI (n)), .int (iI (a)), .int (iI (b)), .int (iI (c)), .int (iI (d)), .int (iI (e))] S σ (isP (some (.int (iI (b01 (iwP (σ (m + 7)) l q n a b c d e))))) S σ) := by
  obtain ⟨hM0, hM1, hM2, hM3, hM4, hM5, hM6, hM7, hM8, hM9, hM10, hM11, hM12, hM13, hM14, hM15, hM16, hM17, hM18, hM19, hM20, hM21, hM22, hM23, hM24, hM25, hM26, hM27, hM28, hM29, hM30, hM31, hM32, hM33, hM34⟩ := id hA
  have hz0 := hb.1
  refine PMet.of [(0, .ref m), (1, .int (iI (n))), (2, .int (iI (a))), (3, .int (iI (b))), (4, .int (iI (c))), (5, .int (iI (d))), (6, .int (iI (e)))] (by decide +kernel) rfl (Nat.le_of_ble_eq_true rfl) ?_
  refine PW.aload_n dX12_isWord_0 rfl ?_
  refine PW.getI 13 fl_X12_265 rfl (by assumption) rfl rfl dX12_isWord_1 ?_
  refine PW.top (l) (by exact hl) ?_
  refine PW.iload_n dX12_isWord_4 rfl ?_
  refine PW.icmp_ne 12 dX12_isWord_5 (by decide) (by first | assumption | (unfold inR; omega)) (by first | assumption | (unfold inR; omega)) (fun h5 => ?_) (fun h5 => ?_)
  · refine PW.iconst dX12_isWord_12 ?_
    refine PW.istore [(0, _), (1, _), (2, _), (3, _), (4, _), (5, _), (6, _), (7, _)] dX12_isWord_13 rfl (Nat.le_of_ble_eq_true rfl) ?_
    refine PW.iconst dX12_isWord_15 ?_
    refine PW.istore [(0, _), (1, _), (2, _), (3, _), (4, _), (5, _), (6, _), (7, _), (8, _)] dX12_isWord_16 rfl (Nat.le_of_ble_eq_true rfl) ?_
    have k := mo_isw_loop (G := G) hA hb hl hq qb nb ra rb rc rd re (Q := isP (some (.int (iI (b01 (iwP (σ (m + 7)) l q n a b c d e))))) S σ) ⟨rfl, rfl, rfl⟩ 6 0 (by omega) (by omega) (by omega)
    first
      | (rw [b01_t (show l = n ∧ firI (cqB (σ (m + 7)) q a b c d e) (0 : Int).toNat = -1 from ⟨by omega, rfl⟩)] at k
         exact k)
      | (rw [b01_f (show ¬ (l = n ∧ firI (cqB (σ (m + 7)) q a b c d e) (0 : Int).toNat = -1) from fun r => by have := r.1; omega)] at k
         exact k)
  · refine PW.iconst dX12_isWord_8 ?_
    refine PW.goto 13 dX12_isWord_9 (by decide) ?_
    refine PW.istore [(0, _), (1, _), (2, _), (3, _), (4, _), (5, _), (6, _), (7, _)] dX12_isWord_13 rfl (Nat.le_of_ble_eq_true rfl) ?_
    refine PW.iconst dX12_isWord_15 ?_
    refine PW.istore [(0, _), (1, _), (2, _), (3, _), (4, _), (5, _), (6, _), (7, _), (8, _)] dX12_isWord_16 rfl (Nat.le_of_ble_eq_true rfl) ?_
    have k := mo_isw_loop (G := G) hA hb hl hq qb nb ra rb rc rd re (Q := isP (some (.int (iI (b01 (iwP (σ (m + 7)) l q n a b c d e))))) S σ) ⟨rfl, rfl, rfl⟩ 6 0 (by omega) (by omega) (by omega)
    first
      | (rw [b01_t (show l = n ∧ firI (cqB (σ (m + 7)) q a b c d e) (0 : Int).toNat = -1 from ⟨by omega, rfl⟩)] at k
         exact k)
      | (rw [b01_f (show ¬ (l = n ∧ firI (cqB (σ (m + 7)) q a b c d e) (0 : Int).toNat = -1) from fun r => by have := r.1; omega)] at k
         exact k)
theorem ch_w : ∀ k0 : Fin 8, ∀ i : Fin 5, (i.val : Int) < lenF k0.val → chQ (((bytK.getD k0.val []).getD 0 0).toInt) (((bytK.getD k0.val []).getD 1 0).toInt) (((bytK.getD k0.val []).getD 2 0).toInt) (((bytK.getD k0.val []).getD 3 0).toInt) (((bytK.getD k0.val []).getD 4 0).toInt) (i.val : Int) = chrF k0.val (i.val : Int) := by decide +kernel
theorem ch_at {k0 : Nat} (hk : k0 < 8) : ∀ i : Int, 0 ≤ i → i < lenF k0 → chQ (((bytK.getD k0 []).getD 0 0).toInt) (((bytK.getD k0 []).getD 1 0).toInt) (((bytK.getD k0 []).getD 2 0).toInt) (((bytK.getD k0 []).getD 3 0).toInt) (((bytK.getD k0 []).getD 4 0).toInt) i = chrF k0 i := by
  intro i i0 i1
  have hl := lenF_b hk
  have h := ch_w ⟨k0, hk⟩ ⟨i.toNat, by omega⟩ (by show ((i.toNat : Nat) : Int) < lenF k0; omega)
  dsimp only at h
  rw [show ((i.toNat : Nat) : Int) = i by omega] at h
  exact h
theorem c_isw_0 {G : GT} {S : Shp} {σ : Sto} {m : Nat} {z e : Int} (hA : IsMod S m) (hb : bsOk (σ (m + 7)) z) (hl : σ m 13 = ltE (σ (m + 7)) z e - e) (hq : σ m 12 = e) (eb : 0 ≤ e ∧ e ≤ z) : PMet G mX12_isWord 0 0 0 [.ref m, .int (iI 3), .int (iI 108), .int (iI 97), .int (iI 121), .int (iI 0), .int (iI 0)] S σ (isP (some (.int (iI (b01 (whP (σ (m + 7)) z 0 e))))) S σ) := by
  have hr := runE_b isLt (σ (m + 7)) z e
  have hle : runE isLt (σ (m + 7)) z e = ltE (σ (m + 7)) z e := rfl
  have h := c_X12_isWord (S := S) (σ := σ) (G := G) hA hb hl hq (n := 3) (a := 108) (b := 97) (c := 121) (d := 0) (e := 0) (by omega) (by omega) (by omega) (by omega) (by omega) (by omega) (by omega)
  have w := wd_iff (B := σ (m + 7)) (z := z) (e := e) (k0 := 0) (by decide) eb (a := 108) (b := 97) (c := 121) (d := 0) (e' := 0) (ch_at (k0 := 0) (by decide))
  rw [show lenF 0 = 3 from rfl] at w
  rw [b01_congr w] at h
  exact h

theorem c_isw_1 {G : GT} {S : Shp} {σ : Sto} {m : Nat} {z e : Int} (hA : IsMod S m) (hb : bsOk (σ (m + 7)) z) (hl : σ m 13 = ltE (σ (m + 7)) z e - e) (hq : σ m 12 = e) (eb : 0 ≤ e ∧ e ≤ z) : PMet G mX12_isWord 0 0 0 [.ref m, .int (iI 4), .int (iI 116), .int (iI 105), .int (iI 108), .int (iI 116), .int (iI 0)] S σ (isP (some (.int (iI (b01 (whP (σ (m + 7)) z 1 e))))) S σ) := by
  have hr := runE_b isLt (σ (m + 7)) z e
  have hle : runE isLt (σ (m + 7)) z e = ltE (σ (m + 7)) z e := rfl
  have h := c_X12_isWord (S := S) (σ := σ) (G := G) hA hb hl hq (n := 4) (a := 116) (b := 105) (c := 108) (d := 116) (e := 0) (by omega) (by omega) (by omega) (by omega) (by omega) (by omega) (by omega)
  have w := wd_iff (B := σ (m + 7)) (z := z) (e := e) (k0 := 1) (by decide) eb (a := 116) (b := 105) (c := 108) (d := 116) (e' := 0) (ch_at (k0 := 1) (by decide))
  rw [show lenF 1 = 4 from rfl] at w
  rw [b01_congr w] at h
  exact h

theorem c_isw_2 {G : GT} {S : Shp} {σ : Sto} {m : Nat} {z e : Int} (hA : IsMod S m) (hb : bsOk (σ (m + 7)) z) (hl : σ m 13 = ltE (σ (m + 7)) z e - e) (hq : σ m 12 = e) (eb : 0 ≤ e ∧ e ≤ z) : PMet G mX12_isWord 0 0 0 [.ref m, .int (iI 4), .int (iI 102), .int (iI 111), .int (iI 108), .int (iI 100), .int (iI 0)] S σ (isP (some (.int (iI (b01 (whP (σ (m + 7)) z 2 e))))) S σ) := by
  have hr := runE_b isLt (σ (m + 7)) z e
  have hle : runE isLt (σ (m + 7)) z e = ltE (σ (m + 7)) z e := rfl
  have h := c_X12_isWord (S := S) (σ := σ) (G := G) hA hb hl hq (n := 4) (a := 102) (b := 111) (c := 108) (d := 100) (e := 0) (by omega) (by omega) (by omega) (by omega) (by omega) (by omega) (by omega)
  have w := wd_iff (B := σ (m + 7)) (z := z) (e := e) (k0 := 2) (by decide) eb (a := 102) (b := 111) (c := 108) (d := 100) (e' := 0) (ch_at (k0 := 2) (by decide))
  rw [show lenF 2 = 4 from rfl] at w
  rw [b01_congr w] at h
  exact h

theorem c_isw_3 {G : GT} {S : Shp} {σ : Sto} {m : Nat} {z e : Int} (hA : IsMod S m) (hb : bsOk (σ (m + 7)) z) (hl : σ m 13 = ltE (σ (m + 7)) z e - e) (hq : σ m 12 = e) (eb : 0 ≤ e ∧ e ≤ z) : PMet G mX12_isWord 0 0 0 [.ref m, .int (iI 5), .int (iI 98), .int (iI 114), .int (iI 101), .int (iI 97), .int (iI 107)] S σ (isP (some (.int (iI (b01 (whP (σ (m + 7)) z 3 e))))) S σ) := by
  have hr := runE_b isLt (σ (m + 7)) z e
  have hle : runE isLt (σ (m + 7)) z e = ltE (σ (m + 7)) z e := rfl
  have h := c_X12_isWord (S := S) (σ := σ) (G := G) hA hb hl hq (n := 5) (a := 98) (b := 114) (c := 101) (d := 97) (e := 107) (by omega) (by omega) (by omega) (by omega) (by omega) (by omega) (by omega)
  have w := wd_iff (B := σ (m + 7)) (z := z) (e := e) (k0 := 3) (by decide) eb (a := 98) (b := 114) (c := 101) (d := 97) (e' := 107) (ch_at (k0 := 3) (by decide))
  rw [show lenF 3 = 5 from rfl] at w
  rw [b01_congr w] at h
  exact h

theorem c_isw_4 {G : GT} {S : Shp} {σ : Sto} {m : Nat} {z e : Int} (hA : IsMod S m) (hb : bsOk (σ (m + 7)) z) (hl : σ m 13 = ltE (σ (m + 7)) z e - e) (hq : σ m 12 = e) (eb : 0 ≤ e ∧ e ≤ z) : PMet G mX12_isWord 0 0 0 [.ref m, .int (iI 3), .int (iI 99), .int (iI 117), .int (iI 116), .int (iI 0), .int (iI 0)] S σ (isP (some (.int (iI (b01 (whP (σ (m + 7)) z 4 e))))) S σ) := by
  have hr := runE_b isLt (σ (m + 7)) z e
  have hle : runE isLt (σ (m + 7)) z e = ltE (σ (m + 7)) z e := rfl
  have h := c_X12_isWord (S := S) (σ := σ) (G := G) hA hb hl hq (n := 3) (a := 99) (b := 117) (c := 116) (d := 0) (e := 0) (by omega) (by omega) (by omega) (by omega) (by omega) (by omega) (by omega)
  have w := wd_iff (B := σ (m + 7)) (z := z) (e := e) (k0 := 4) (by decide) eb (a := 99) (b := 117) (c := 116) (d := 0) (e' := 0) (ch_at (k0 := 4) (by decide))
  rw [show lenF 4 = 3 from rfl] at w
  rw [b01_congr w] at h
  exact h

theorem c_isw_5 {G : GT} {S : Shp} {σ : Sto} {m : Nat} {z e : Int} (hA : IsMod S m) (hb : bsOk (σ (m + 7)) z) (hl : σ m 13 = ltE (σ (m + 7)) z e - e) (hq : σ m 12 = e) (eb : 0 ≤ e ∧ e ≤ z) : PMet G mX12_isWord 0 0 0 [.ref m, .int (iI 4), .int (iI 100), .int (iI 121), .int (iI 107), .int (iI 101), .int (iI 0)] S σ (isP (some (.int (iI (b01 (whP (σ (m + 7)) z 5 e))))) S σ) := by
  have hr := runE_b isLt (σ (m + 7)) z e
  have hle : runE isLt (σ (m + 7)) z e = ltE (σ (m + 7)) z e := rfl
  have h := c_X12_isWord (S := S) (σ := σ) (G := G) hA hb hl hq (n := 4) (a := 100) (b := 121) (c := 107) (d := 101) (e := 0) (by omega) (by omega) (by omega) (by omega) (by omega) (by omega) (by omega)
  have w := wd_iff (B := σ (m + 7)) (z := z) (e := e) (k0 := 5) (by decide) eb (a := 100) (b := 121) (c := 107) (d := 101) (e' := 0) (ch_at (k0 := 5) (by decide))
  rw [show lenF 5 = 4 from rfl] at w
  rw [b01_congr w] at h
  exact h

theorem c_isw_6 {G : GT} {S : Shp} {σ : Sto} {m : Nat} {z e : Int} (hA : IsMod S m) (hb : bsOk (σ (m + 7)) z) (hl : σ m 13 = ltE (σ (m + 7)) z e - e) (hq : σ m 12 = e) (eb : 0 ≤ e ∧ e ≤ z) : PMet G mX12_isWord 0 0 0 [.ref m, .int (iI 1), .int (iI 120), .int (iI 0), .int (iI 0), .int (iI 0), .int (iI 0)] S σ (isP (some (.int (iI (b01 (whP (σ (m + 7)) z 6 e))))) S σ) := by
  have hr := runE_b isLt (σ (m + 7)) z e
  have hle : runE isLt (σ (m + 7)) z e = ltE (σ (m + 7)) z e := rfl
  have h := c_X12_isWord (S := S) (σ := σ) (G := G) hA hb hl hq (n := 1) (a := 120) (b := 0) (c := 0) (d := 0) (e := 0) (by omega) (by omega) (by omega) (by omega) (by omega) (by omega) (by omega)
  have w := wd_iff (B := σ (m + 7)) (z := z) (e := e) (k0 := 6) (by decide) eb (a := 120) (b := 0) (c := 0) (d := 0) (e' := 0) (ch_at (k0 := 6) (by decide))
  rw [show lenF 6 = 1 from rfl] at w
  rw [b01_congr w] at h
  exact h

theorem c_isw_7 {G : GT} {S : Shp} {σ : Sto} {m : Nat} {z e : Int} (hA : IsMod S m) (hb : bsOk (σ (m + 7)) z) (hl : σ m 13 = ltE (σ (m + 7)) z e - e) (hq : σ m 12 = e) (eb : 0 ≤ e ∧ e ≤ z) : PMet G mX12_isWord 0 0 0 [.ref m, .int (iI 1), .int (iI 121), .int (iI 0), .int (iI 0), .int (iI 0), .int (iI 0)] S σ (isP (some (.int (iI (b01 (whP (σ (m + 7)) z 7 e))))) S σ) := by
  have hr := runE_b isLt (σ (m + 7)) z e
  have hle : runE isLt (σ (m + 7)) z e = ltE (σ (m + 7)) z e := rfl
  have h := c_X12_isWord (S := S) (σ := σ) (G := G) hA hb hl hq (n := 1) (a := 121) (b := 0) (c := 0) (d := 0) (e := 0) (by omega) (by omega) (by omega) (by omega) (by omega) (by omega) (by omega)
  have w := wd_iff (B := σ (m + 7)) (z := z) (e := e) (k0 := 7) (by decide) eb (a := 121) (b := 0) (c := 0) (d := 0) (e' := 0) (ch_at (k0 := 7) (by decide))
  rw [show lenF 7 = 1 from rfl] at w
  rw [b01_congr w] at h
  exact h

theorem c_X12_kindOf {G : GT} {S : Shp} {σ : Sto} {m : Nat} {z e : Int} (hA : IsMod S m) (hb : bsOk (σ (m + 7)) z) (hl : σ m 13 = ltE (σ (m + 7)) z e - e) (hq : σ m 12 = e) (eb : 0 ≤ e ∧ e ≤ z) : PMet G mX12_kindOf 1 0 0 [.ref m] S σ (isP (some (.int (iI (kdF (σ (m + 7)) z e)))) S σ) := by
  obtain ⟨hM0, hM1, hM2, hM3, hM4, hM5, hM6, hM7, hM8, hM9, hM10, hM11, hM12, hM13, hM14, hM15, hM16, hM17, hM18, hM19, hM20, hM21, hM22, hM23, hM24, hM25, hM26, hM27, hM28, hM29, hM30, hM31, hM32, hM33, hM34⟩ := id hA
  refine PMet.of [(0, .ref m)] (by decide +kernel) rfl (Nat.le_of_ble_eq_true rfl) ?_
  refine PW.aload_n dX12_kindOf_0 rfl ?_
  refine PW.iconst dX12_kindOf_1 ?_
  refine PW.bipush (by decide) dX12_kindOf_2 ?_
  refine PW.bipush (by decide) dX12_kindOf_4 ?_
  refine PW.bipush (by decide) dX12_kindOf_6 ?_
  refine PW.iconst dX12_kindOf_8 ?_
  refine PW.iconst dX12_kindOf_9 ?_
  refine PW.callVr (c_isw_0 hA hb hl hq eb) cv_X12_isWord lk_X12_268 (by first | assumption | exact And.left (by assumption)) dX12_kindOf_10 rfl rfl rfl rfl ?_
  refine PW.if_eqB 18 dX12_kindOf_13 (by decide) (fun h13 => ?_) (fun h13 => ?_)
  · refine PW.aload_n dX12_kindOf_18 rfl ?_
    refine PW.iconst dX12_kindOf_19 ?_
    refine PW.bipush (by decide) dX12_kindOf_20 ?_
    refine PW.bipush (by decide) dX12_kindOf_22 ?_
    refine PW.bipush (by decide) dX12_kindOf_24 ?_
    refine PW.bipush (by decide) dX12_kindOf_26 ?_
    refine PW.iconst dX12_kindOf_28 ?_
    refine PW.callVr (c_isw_1 hA hb hl hq eb) cv_X12_isWord lk_X12_268 (by first | assumption | exact And.left (by assumption)) dX12_kindOf_29 rfl rfl rfl rfl ?_
    refine PW.if_eqB 37 dX12_kindOf_32 (by decide) (fun h32 => ?_) (fun h32 => ?_)
    · refine PW.aload_n dX12_kindOf_37 rfl ?_
      refine PW.iconst dX12_kindOf_38 ?_
      refine PW.bipush (by decide) dX12_kindOf_39 ?_
      refine PW.bipush (by decide) dX12_kindOf_41 ?_
      refine PW.bipush (by decide) dX12_kindOf_43 ?_
      refine PW.bipush (by decide) dX12_kindOf_45 ?_
      refine PW.iconst dX12_kindOf_47 ?_
      refine PW.callVr (c_isw_2 hA hb hl hq eb) cv_X12_isWord lk_X12_268 (by first | assumption | exact And.left (by assumption)) dX12_kindOf_48 rfl rfl rfl rfl ?_
      refine PW.if_eqB 56 dX12_kindOf_51 (by decide) (fun h51 => ?_) (fun h51 => ?_)
      · refine PW.aload_n dX12_kindOf_56 rfl ?_
        refine PW.iconst dX12_kindOf_57 ?_
        refine PW.bipush (by decide) dX12_kindOf_58 ?_
        refine PW.bipush (by decide) dX12_kindOf_60 ?_
        refine PW.bipush (by decide) dX12_kindOf_62 ?_
        refine PW.bipush (by decide) dX12_kindOf_64 ?_
        refine PW.bipush (by decide) dX12_kindOf_66 ?_
        refine PW.callVr (c_isw_3 hA hb hl hq eb) cv_X12_isWord lk_X12_268 (by first | assumption | exact And.left (by assumption)) dX12_kindOf_68 rfl rfl rfl rfl ?_
        refine PW.if_eqB 76 dX12_kindOf_71 (by decide) (fun h71 => ?_) (fun h71 => ?_)
        · refine PW.aload_n dX12_kindOf_76 rfl ?_
          refine PW.iconst dX12_kindOf_77 ?_
          refine PW.bipush (by decide) dX12_kindOf_78 ?_
          refine PW.bipush (by decide) dX12_kindOf_80 ?_
          refine PW.bipush (by decide) dX12_kindOf_82 ?_
          refine PW.iconst dX12_kindOf_84 ?_
          refine PW.iconst dX12_kindOf_85 ?_
          refine PW.callVr (c_isw_4 hA hb hl hq eb) cv_X12_isWord lk_X12_268 (by first | assumption | exact And.left (by assumption)) dX12_kindOf_86 rfl rfl rfl rfl ?_
          refine PW.if_eqB 94 dX12_kindOf_89 (by decide) (fun h89 => ?_) (fun h89 => ?_)
          · refine PW.aload_n dX12_kindOf_94 rfl ?_
            refine PW.iconst dX12_kindOf_95 ?_
            refine PW.bipush (by decide) dX12_kindOf_96 ?_
            refine PW.bipush (by decide) dX12_kindOf_98 ?_
            refine PW.bipush (by decide) dX12_kindOf_100 ?_
            refine PW.bipush (by decide) dX12_kindOf_102 ?_
            refine PW.iconst dX12_kindOf_104 ?_
            refine PW.callVr (c_isw_5 hA hb hl hq eb) cv_X12_isWord lk_X12_268 (by first | assumption | exact And.left (by assumption)) dX12_kindOf_105 rfl rfl rfl rfl ?_
            refine PW.if_eqB 115 dX12_kindOf_108 (by decide) (fun h108 => ?_) (fun h108 => ?_)
            · refine PW.iconst dX12_kindOf_115 ?_
              first
                | (have hk : kdF (σ (m + 7)) z e = 5 := firI_hit (i := 5) (by decide) (decide_eq_true (by assumption)) (fun j j0 j1 => decide_eq_false (fun r => by
                     rcases (show j = 0 ∨ j = 1 ∨ j = 2 ∨ j = 3 ∨ j = 4 by omega) with rfl | rfl | rfl | rfl | rfl <;> exact absurd r (by assumption))) (by decide)
                   rw [← hk]
                   exact PW.iret rfl rfl dX12_kindOf_116 ⟨rfl, rfl, rfl⟩)
                | (have hk : kdF (σ (m + 7)) z e = -1 := firI_none (fun j j0 j1 => decide_eq_false (fun r => by
                     rcases (show j = 0 ∨ j = 1 ∨ j = 2 ∨ j = 3 ∨ j = 4 ∨ j = 5 by omega) with rfl | rfl | rfl | rfl | rfl | rfl <;> exact absurd r (by assumption)))
                   rw [← hk]
                   exact PW.iret rfl rfl dX12_kindOf_116 ⟨rfl, rfl, rfl⟩)
            · refine PW.iconst dX12_kindOf_111 ?_
              refine PW.goto 116 dX12_kindOf_112 (by decide) ?_
              first
                | (have hk : kdF (σ (m + 7)) z e = 5 := firI_hit (i := 5) (by decide) (decide_eq_true (by assumption)) (fun j j0 j1 => decide_eq_false (fun r => by
                     rcases (show j = 0 ∨ j = 1 ∨ j = 2 ∨ j = 3 ∨ j = 4 by omega) with rfl | rfl | rfl | rfl | rfl <;> exact absurd r (by assumption))) (by decide)
                   rw [← hk]
                   exact PW.iret rfl rfl dX12_kindOf_116 ⟨rfl, rfl, rfl⟩)
                | (have hk : kdF (σ (m + 7)) z e = -1 := firI_none (fun j j0 j1 => decide_eq_false (fun r => by
                     rcases (show j = 0 ∨ j = 1 ∨ j = 2 ∨ j = 3 ∨ j = 4 ∨ j = 5 by omega) with rfl | rfl | rfl | rfl | rfl | rfl <;> exact absurd r (by assumption)))
                   rw [← hk]
                   exact PW.iret rfl rfl dX12_kindOf_116 ⟨rfl, rfl, rfl⟩)
          · refine PW.iconst dX12_kindOf_92 ?_
            have hk : kdF (σ (m + 7)) z e = 4 := firI_hit (i := 4) (by decide) (decide_eq_true (by assumption)) (fun j j0 j1 => decide_eq_false (fun r => by
              rcases (show j = 0 ∨ j = 1 ∨ j = 2 ∨ j = 3 by omega) with rfl | rfl | rfl | rfl
              · exact absurd r (by assumption)
              · exact absurd r (by assumption)
              · exact absurd r (by assumption)
              · exact absurd r (by assumption)
            )) (by decide)
            rw [← hk]
            exact PW.iret rfl rfl dX12_kindOf_93 ⟨rfl, rfl, rfl⟩
        · refine PW.iconst dX12_kindOf_74 ?_
          have hk : kdF (σ (m + 7)) z e = 3 := firI_hit (i := 3) (by decide) (decide_eq_true (by assumption)) (fun j j0 j1 => decide_eq_false (fun r => by
            rcases (show j = 0 ∨ j = 1 ∨ j = 2 by omega) with rfl | rfl | rfl
            · exact absurd r (by assumption)
            · exact absurd r (by assumption)
            · exact absurd r (by assumption)
          )) (by decide)
          rw [← hk]
          exact PW.iret rfl rfl dX12_kindOf_75 ⟨rfl, rfl, rfl⟩
      · refine PW.iconst dX12_kindOf_54 ?_
        have hk : kdF (σ (m + 7)) z e = 2 := firI_hit (i := 2) (by decide) (decide_eq_true (by assumption)) (fun j j0 j1 => decide_eq_false (fun r => by
          rcases (show j = 0 ∨ j = 1 by omega) with rfl | rfl
          · exact absurd r (by assumption)
          · exact absurd r (by assumption)
        )) (by decide)
        rw [← hk]
        exact PW.iret rfl rfl dX12_kindOf_55 ⟨rfl, rfl, rfl⟩
    · refine PW.iconst dX12_kindOf_35 ?_
      have hk : kdF (σ (m + 7)) z e = 1 := firI_hit (i := 1) (by decide) (decide_eq_true (by assumption)) (fun j j0 j1 => decide_eq_false (fun r => by
        rcases (show j = 0 by omega) with rfl
        · exact absurd r (by assumption)
      )) (by decide)
      rw [← hk]
      exact PW.iret rfl rfl dX12_kindOf_36 ⟨rfl, rfl, rfl⟩
  · refine PW.iconst dX12_kindOf_16 ?_
    have hk : kdF (σ (m + 7)) z e = 0 := firI_hit (i := 0) (by decide) (decide_eq_true (by assumption)) (fun j j0 j1 => by omega) (by decide)
    rw [← hk]
    exact PW.iret rfl rfl dX12_kindOf_17 ⟨rfl, rfl, rfl⟩

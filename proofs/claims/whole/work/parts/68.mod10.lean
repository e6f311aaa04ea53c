/-- behind the reading of one number -/
def nrP (σ τ : Sto) (m : Nat) (z k i p : Int) : Prop :=
  (∀ b, b ≠ m → b ≠ m + 6 → τ b = σ b) ∧ (∀ j, j ≠ 9 → j ≠ 10 → j ≠ 11 → j ≠ 12 → j ≠ 13 → τ m j = σ m j) ∧ (0 ≤ τ m 9 ∧ τ m 9 ≤ z) ∧
  (rdFt (σ (m + 7)) z k i p (σ (m + 6)) = 0 → τ m 9 = rdPl (σ (m + 7)) z k i p ∧ τ (m + 6) = up1 (σ (m + 6)) i (rdVl (σ (m + 7)) z k i p) ∧ τ m 10 = 0 ∧ τ m 11 = σ m 11) ∧
  (¬ rdFt (σ (m + 7)) z k i p (σ (m + 6)) = 0 → τ m 10 = rdFt (σ (m + 7)) z k i p (σ (m + 6)) ∧ τ m 11 = rdAt (σ (m + 7)) z k i p)
theorem xy_no {B : Int → Int} {z e : Int} (h : whP B z 6 e) : ¬ whP B z 7 e := fun q => by
  have h1 := of_decide_eq_false ((firI_spec (P := whB B z 6 e) (n := (lenF 6).toNat)).1 h.1 0 (by omega) (by decide))
  have h2 := of_decide_eq_false ((firI_spec (P := whB B z 7 e) (n := (lenF 7).toNat)).1 q.1 0 (by omega) (by decide))
  have e1 : btF B z (e + 0) = chrF 6 0 := Classical.byContradiction h1
  have e2 : btF B z (e + 0) = chrF 7 0 := Classical.byContradiction h2
  rw [e1] at e2
  exact absurd e2 (by decide)
theorem xy_len {B : Int → Int} {z e : Int} (he : 0 ≤ e ∧ e ≤ z) (h : whP B z 6 e ∨ whP B z 7 e) : ltE B z e = e + 1 := by
  rcases h with h | h
  · have := ((wd_iff (k0 := 6) (by decide) he (ch_at (k0 := 6) (by decide))).mpr h).1
    rw [show lenF 6 = 1 from rfl] at this
    omega
  · have := ((wd_iff (k0 := 7) (by decide) he (ch_at (k0 := 7) (by decide))).mpr h).1
    rw [show lenF 7 = 1 from rfl] at this
    omega
theorem axis_br {G : GT} {S : Shp} {σ : Sto} {m : Nat} {z k i p : Int} (hA : IsMod S m) (hb : bsOk (σ (m + 7)) z) (hz : σ m 8 = z) (h10 : σ m 10 = 0) (hk : 0 ≤ k ∧ k ≤ 5) (hi : 0 ≤ i ∧ i < xT 0 k) (rg : inR (σ (m + 6) 2)) (hp : σ m 9 = p) (pb : 0 ≤ p ∧ p ≤ z) (hx : axPl k i) : PW (fm G mX12_readNumber 2 0 0 (fun r S' τ => r = none ∧ S' = S ∧ nrP σ τ m z k i (skE (σ (m + 7)) z p))) G S σ 0 0 8 [(0, .ref m), (1, .int (iI k)), (2, .int (iI i))] [] := by
  obtain ⟨hM0, hM1, hM2, hM3, hM4, hM5, hM6, hM7, hM8, hM9, hM10, hM11, hM12, hM13, hM14, hM15, hM16, hM17, hM18, hM19, hM20, hM21, hM22, hM23, hM24, hM25, hM26, hM27, hM28, hM29, hM30, hM31, hM32, hM33, hM34⟩ := id hA
  have hz0 := hb.1
  have hsk := skE_b (σ (m + 7)) z pb
  have hxt := xT_0 hk
  have hr := runE_b isLt (σ (m + 7)) z (skE (σ (m + 7)) z p)
  have hle : runE isLt (σ (m + 7)) z (skE (σ (m + 7)) z p) = ltE (σ (m + 7)) z (skE (σ (m + 7)) z p) := rfl
  have t10 : (upS σ m (tkW (σ m) (skE (σ (m + 7)) z p) (ltE (σ (m + 7)) z (skE (σ (m + 7)) z p)))) m 10 = 0 := by rw [upS_same, tkW_ne (by decide) (by decide) (by decide)]; exact h10
  have t12 : (upS σ m (tkW (σ m) (skE (σ (m + 7)) z p) (ltE (σ (m + 7)) z (skE (σ (m + 7)) z p)))) m 12 = (skE (σ (m + 7)) z p) := by rw [upS_same, tkW_12]
  have t13 : (upS σ m (tkW (σ m) (skE (σ (m + 7)) z p) (ltE (σ (m + 7)) z (skE (σ (m + 7)) z p)))) m 13 = ltE (σ (m + 7)) z (skE (σ (m + 7)) z p) - (skE (σ (m + 7)) z p) := by rw [upS_same, tkW_13]
  have t7 : (upS σ m (tkW (σ m) (skE (σ (m + 7)) z p) (ltE (σ (m + 7)) z (skE (σ (m + 7)) z p)))) (m + 7) = σ (m + 7) := upS_ne (by omega)
  refine PW.aload_n dX12_readNumber_8 rfl ?_
  refine PW.callVv (c_X12_takeWord hA hb hz hp pb) cv_X12_takeWord lk_X12_276 (by first | assumption | exact And.left (by assumption)) dX12_readNumber_9 rfl rfl rfl rfl ?_
  refine PW.aload_n dX12_readNumber_12 rfl ?_
  refine PW.iconst dX12_readNumber_13 ?_
  refine PW.bipush (by decide) dX12_readNumber_14 ?_
  refine PW.iconst dX12_readNumber_16 ?_
  refine PW.iconst dX12_readNumber_17 ?_
  refine PW.iconst dX12_readNumber_18 ?_
  refine PW.iconst dX12_readNumber_19 ?_
  refine PW.callVr (c_isw_6 hA (z := z) (e := (skE (σ (m + 7)) z p)) (by rw [t7]; exact hb) (by rw [t7]; exact t13) t12 (by omega)) cv_X12_isWord lk_X12_268 (by first | assumption | exact And.left (by assumption)) dX12_readNumber_20 rfl rfl rfl rfl ?_
  rw [t7]
  refine PW.istore_n [(0, _), (1, _), (2, _), (3, _)] dX12_readNumber_23 rfl (Nat.le_of_ble_eq_true rfl) ?_
  refine PW.aload_n dX12_readNumber_24 rfl ?_
  refine PW.iconst dX12_readNumber_25 ?_
  refine PW.bipush (by decide) dX12_readNumber_26 ?_
  refine PW.iconst dX12_readNumber_28 ?_
  refine PW.iconst dX12_readNumber_29 ?_
  refine PW.iconst dX12_readNumber_30 ?_
  refine PW.iconst dX12_readNumber_31 ?_
  refine PW.callVr (c_isw_7 hA (z := z) (e := (skE (σ (m + 7)) z p)) (by rw [t7]; exact hb) (by rw [t7]; exact t13) t12 (by omega)) cv_X12_isWord lk_X12_268 (by first | assumption | exact And.left (by assumption)) dX12_readNumber_32 rfl rfl rfl rfl ?_
  rw [t7]
  refine PW.istore [(0, _), (1, _), (2, _), (3, _), (4, _)] dX12_readNumber_35 rfl (Nat.le_of_ble_eq_true rfl) ?_
  refine PW.aload_n dX12_readNumber_37 rfl ?_
  refine PW.iload_n dX12_readNumber_38 rfl ?_
  refine PW.if_neB 47 dX12_readNumber_39 (by decide) (fun h39 => ?_) (fun h39 => ?_)
  · refine PW.iconst dX12_readNumber_47 ?_
    refine PW.goto 52 dX12_readNumber_48 (by decide) ?_
    refine PW.iconst dX12_readNumber_52 ?_
    refine PW.aload_n dX12_readNumber_53 rfl ?_
    refine PW.getI 12 fl_X12_258 rfl (by assumption) rfl rfl dX12_readNumber_54 ?_
    refine PW.top ((skE (σ (m + 7)) z p)) (by exact t12) ?_
    refine PW.callVr (c_X12_want hA (fo := 0) (by omega) t10 (by unfold inR; omega) (by omega)) cv_X12_want lk_X12_279 (by first | assumption | exact And.left (by assumption)) dX12_readNumber_57 rfl rfl rfl rfl ?_
    refine PW.istore [(0, _), (1, _), (2, _), (3, _), (4, _), (5, _)] dX12_readNumber_60 rfl (Nat.le_of_ble_eq_true rfl) ?_
    refine PW.aload_n dX12_readNumber_62 rfl ?_
    refine PW.getR fl_X12_27 rfl (by assumption) rfl dX12_readNumber_63 ?_
    refine PW.iload_n dX12_readNumber_66 rfl ?_
    refine PW.iload dX12_readNumber_67 rfl ?_
    refine PW.callSr (c_X12_bit (b01_b _)) cs_X12_bit lk_X12_207 dX12_readNumber_69 rfl rfl rfl ?_
    refine PW.iastore (by assumption) (by first | assumption | (unfold inR; omega)) (by omega) (by omega) dX12_readNumber_72 ?_
    refine PW.vret rfl dX12_readNumber_73 ⟨rfl, rfl, ?_⟩
    have hft : rdFt (σ (m + 7)) z k i (skE (σ (m + 7)) z p) (σ (m + 6)) = if axF (σ (m + 7)) z (skE (σ (m + 7)) z p) = -1 then 1 else 0 := if_pos hx
    first
      | (have hw : whP (σ (m + 7)) z 6 (skE (σ (m + 7)) z p) ∨ whP (σ (m + 7)) z 7 (skE (σ (m + 7)) z p) := by first | exact Or.inl (by assumption) | exact Or.inr (by assumption)
         have hlen := xy_len (by omega) hw
         have hax : axF (σ (m + 7)) z (skE (σ (m + 7)) z p) = b01 (whP (σ (m + 7)) z 7 (skE (σ (m + 7)) z p)) := by
           unfold axF
           by_cases q6 : whP (σ (m + 7)) z 6 (skE (σ (m + 7)) z p)
           · rw [if_pos q6, b01_f (xy_no q6)]
           · rw [if_neg q6]
             rcases hw with hw | hw
             · exact absurd hw q6
             · rw [if_pos hw, b01_t hw]
         have hb7 := b01_b (whP (σ (m + 7)) z 7 (skE (σ (m + 7)) z p))
         have hf0 : rdFt (σ (m + 7)) z k i (skE (σ (m + 7)) z p) (σ (m + 6)) = 0 := by rw [hft, if_neg (by omega)]
         rw [if_neg (show ¬ ((1 : Int) = 0 ∧ (0 : Int) = 0) by omega)]
         refine ⟨fun b b0 b6 => by rw [upS_ne b6, upS_ne b0], fun j j9 j10 j11 j12 j13 => by rw [upS_ne (by omega), upS_same, tkW_ne j9 j12 j13], ?_, fun _ => ⟨?_, ?_, ?_, ?_⟩, fun q => absurd hf0 q⟩
         · rw [upS_ne (by omega), upS_same, tkW_9]
           omega
         · rw [upS_ne (by omega), upS_same, tkW_9, hlen]
           exact (if_pos hx).symm
         · rw [upS_same, upS_ne (by omega), show rdVl (σ (m + 7)) z k i (skE (σ (m + 7)) z p) = axF (σ (m + 7)) z (skE (σ (m + 7)) z p) from if_pos hx, hax]
         · rw [upS_ne (by omega)]
           exact t10
         · rw [upS_ne (by omega), upS_same, tkW_ne (by decide) (by decide) (by decide)])
      | (have h6 : ¬ whP (σ (m + 7)) z 6 (skE (σ (m + 7)) z p) := by assumption
         have h7 : ¬ whP (σ (m + 7)) z 7 (skE (σ (m + 7)) z p) := by assumption
         have hax : axF (σ (m + 7)) z (skE (σ (m + 7)) z p) = -1 := by
           unfold axF
           rw [if_neg h6, if_neg h7]
         have hf1 : rdFt (σ (m + 7)) z k i (skE (σ (m + 7)) z p) (σ (m + 6)) = 1 := by rw [hft, if_pos hax]
         rw [if_pos (show (0 : Int) = 0 ∧ (0 : Int) = 0 from ⟨rfl, rfl⟩)]
         refine ⟨fun b b0 b6 => by rw [upS_ne b6, upS_ne b0, upS_ne b0], fun j j9 j10 j11 j12 j13 => by rw [upS_ne (by omega), upS_same, up1_ne j11, up1_ne j10, upS_same, tkW_ne j9 j12 j13], ?_, fun q => absurd q (by rw [hf1]; decide), fun _ => ⟨?_, ?_⟩⟩
         · rw [upS_ne (by omega), upS_same, up1_ne (by decide), up1_ne (by decide), upS_same, tkW_9]
           have := hr.2 (by omega)
           omega
         · rw [upS_ne (by omega), upS_same, up1_ne (by decide), up1_same, hf1]
         · rw [upS_ne (by omega), upS_same, up1_same]
           exact (if_pos hx).symm)
  · refine PW.iload dX12_readNumber_42 rfl ?_
    refine PW.if_eqB 51 dX12_readNumber_44 (by decide) (fun h44 => ?_) (fun h44 => ?_)
    · refine PW.iconst dX12_readNumber_51 ?_
      refine PW.iconst dX12_readNumber_52 ?_
      refine PW.aload_n dX12_readNumber_53 rfl ?_
      refine PW.getI 12 fl_X12_258 rfl (by assumption) rfl rfl dX12_readNumber_54 ?_
      refine PW.top ((skE (σ (m + 7)) z p)) (by exact t12) ?_
      refine PW.callVr (c_X12_want hA (fo := 0) (by omega) t10 (by unfold inR; omega) (by omega)) cv_X12_want lk_X12_279 (by first | assumption | exact And.left (by assumption)) dX12_readNumber_57 rfl rfl rfl rfl ?_
      refine PW.istore [(0, _), (1, _), (2, _), (3, _), (4, _), (5, _)] dX12_readNumber_60 rfl (Nat.le_of_ble_eq_true rfl) ?_
      refine PW.aload_n dX12_readNumber_62 rfl ?_
      refine PW.getR fl_X12_27 rfl (by assumption) rfl dX12_readNumber_63 ?_
      refine PW.iload_n dX12_readNumber_66 rfl ?_
      refine PW.iload dX12_readNumber_67 rfl ?_
      refine PW.callSr (c_X12_bit (b01_b _)) cs_X12_bit lk_X12_207 dX12_readNumber_69 rfl rfl rfl ?_
      refine PW.iastore (by assumption) (by first | assumption | (unfold inR; omega)) (by omega) (by omega) dX12_readNumber_72 ?_
      refine PW.vret rfl dX12_readNumber_73 ⟨rfl, rfl, ?_⟩
      have hft : rdFt (σ (m + 7)) z k i (skE (σ (m + 7)) z p) (σ (m + 6)) = if axF (σ (m + 7)) z (skE (σ (m + 7)) z p) = -1 then 1 else 0 := if_pos hx
      first
        | (have hw : whP (σ (m + 7)) z 6 (skE (σ (m + 7)) z p) ∨ whP (σ (m + 7)) z 7 (skE (σ (m + 7)) z p) := by first | exact Or.inl (by assumption) | exact Or.inr (by assumption)
           have hlen := xy_len (by omega) hw
           have hax : axF (σ (m + 7)) z (skE (σ (m + 7)) z p) = b01 (whP (σ (m + 7)) z 7 (skE (σ (m + 7)) z p)) := by
             unfold axF
             by_cases q6 : whP (σ (m + 7)) z 6 (skE (σ (m + 7)) z p)
             · rw [if_pos q6, b01_f (xy_no q6)]
             · rw [if_neg q6]
               rcases hw with hw | hw
               · exact absurd hw q6
               · rw [if_pos hw, b01_t hw]
           have hb7 := b01_b (whP (σ (m + 7)) z 7 (skE (σ (m + 7)) z p))
           have hf0 : rdFt (σ (m + 7)) z k i (skE (σ (m + 7)) z p) (σ (m + 6)) = 0 := by rw [hft, if_neg (by omega)]
           rw [if_neg (show ¬ ((1 : Int) = 0 ∧ (0 : Int) = 0) by omega)]
           refine ⟨fun b b0 b6 => by rw [upS_ne b6, upS_ne b0], fun j j9 j10 j11 j12 j13 => by rw [upS_ne (by omega), upS_same, tkW_ne j9 j12 j13], ?_, fun _ => ⟨?_, ?_, ?_, ?_⟩, fun q => absurd hf0 q⟩
           · rw [upS_ne (by omega), upS_same, tkW_9]
             omega
           · rw [upS_ne (by omega), upS_same, tkW_9, hlen]
             exact (if_pos hx).symm
           · rw [upS_same, upS_ne (by omega), show rdVl (σ (m + 7)) z k i (skE (σ (m + 7)) z p) = axF (σ (m + 7)) z (skE (σ (m + 7)) z p) from if_pos hx, hax]
           · rw [upS_ne (by omega)]
             exact t10
           · rw [upS_ne (by omega), upS_same, tkW_ne (by decide) (by decide) (by decide)])
        | (have h6 : ¬ whP (σ (m + 7)) z 6 (skE (σ (m + 7)) z p) := by assumption
           have h7 : ¬ whP (σ (m + 7)) z 7 (skE (σ (m + 7)) z p) := by assumption
           have hax : axF (σ (m + 7)) z (skE (σ (m + 7)) z p) = -1 := by
             unfold axF
             rw [if_neg h6, if_neg h7]
           have hf1 : rdFt (σ (m + 7)) z k i (skE (σ (m + 7)) z p) (σ (m + 6)) = 1 := by rw [hft, if_pos hax]
           rw [if_pos (show (0 : Int) = 0 ∧ (0 : Int) = 0 from ⟨rfl, rfl⟩)]
           refine ⟨fun b b0 b6 => by rw [upS_ne b6, upS_ne b0, upS_ne b0], fun j j9 j10 j11 j12 j13 => by rw [upS_ne (by omega), upS_same, up1_ne j11, up1_ne j10, upS_same, tkW_ne j9 j12 j13], ?_, fun q => absurd q (by rw [hf1]; decide), fun _ => ⟨?_, ?_⟩⟩
           · rw [upS_ne (by omega), upS_same, up1_ne (by decide), up1_ne (by decide), upS_same, tkW_9]
             have := hr.2 (by omega)
             omega
           · rw [upS_ne (by omega), upS_same, up1_ne (by decide), up1_same, hf1]
           · rw [upS_ne (by omega), upS_same, up1_same]
             exact (if_pos hx).symm)
    · refine PW.iconst dX12_readNumber_47 ?_
      refine PW.goto 52 dX12_readNumber_48 (by decide) ?_
      refine PW.iconst dX12_readNumber_52 ?_
      refine PW.aload_n dX12_readNumber_53 rfl ?_
      refine PW.getI 12 fl_X12_258 rfl (by assumption) rfl rfl dX12_readNumber_54 ?_
      refine PW.top ((skE (σ (m + 7)) z p)) (by exact t12) ?_
      refine PW.callVr (c_X12_want hA (fo := 0) (by omega) t10 (by unfold inR; omega) (by omega)) cv_X12_want lk_X12_279 (by first | assumption | exact And.left (by assumption)) dX12_readNumber_57 rfl rfl rfl rfl ?_
      refine PW.istore [(0, _), (1, _), (2, _), (3, _), (4, _), (5, _)] dX12_readNumber_60 rfl (Nat.le_of_ble_eq_true rfl) ?_
      refine PW.aload_n dX12_readNumber_62 rfl ?_
      refine PW.getR fl_X12_27 rfl (by assumption) rfl dX12_readNumber_63 ?_
      refine PW.iload_n dX12_readNumber_66 rfl ?_
      refine PW.iload dX12_readNumber_67 rfl ?_
      refine PW.callSr (c_X12_bit (b01_b _)) cs_X12_bit lk_X12_207 dX12_readNumber_69 rfl rfl rfl ?_
      refine PW.iastore (by assumption) (by first | assumption | (unfold inR; omega)) (by omega) (by omega) dX12_readNumber_72 ?_
      refine PW.vret rfl dX12_readNumber_73 ⟨rfl, rfl, ?_⟩
      have hft : rdFt (σ (m + 7)) z k i (skE (σ (m + 7)) z p) (σ (m + 6)) = if axF (σ (m + 7)) z (skE (σ (m + 7)) z p) = -1 then 1 else 0 := if_pos hx
      first
        | (have hw : whP (σ (m + 7)) z 6 (skE (σ (m + 7)) z p) ∨ whP (σ (m + 7)) z 7 (skE (σ (m + 7)) z p) := by first | exact Or.inl (by assumption) | exact Or.inr (by assumption)
           have hlen := xy_len (by omega) hw
           have hax : axF (σ (m + 7)) z (skE (σ (m + 7)) z p) = b01 (whP (σ (m + 7)) z 7 (skE (σ (m + 7)) z p)) := by
             unfold axF
             by_cases q6 : whP (σ (m + 7)) z 6 (skE (σ (m + 7)) z p)
             · rw [if_pos q6, b01_f (xy_no q6)]
             · rw [if_neg q6]
               rcases hw with hw | hw
               · exact absurd hw q6
               · rw [if_pos hw, b01_t hw]
           have hb7 := b01_b (whP (σ (m + 7)) z 7 (skE (σ (m + 7)) z p))
           have hf0 : rdFt (σ (m + 7)) z k i (skE (σ (m + 7)) z p) (σ (m + 6)) = 0 := by rw [hft, if_neg (by omega)]
           rw [if_neg (show ¬ ((1 : Int) = 0 ∧ (0 : Int) = 0) by omega)]
           refine ⟨fun b b0 b6 => by rw [upS_ne b6, upS_ne b0], fun j j9 j10 j11 j12 j13 => by rw [upS_ne (by omega), upS_same, tkW_ne j9 j12 j13], ?_, fun _ => ⟨?_, ?_, ?_, ?_⟩, fun q => absurd hf0 q⟩
           · rw [upS_ne (by omega), upS_same, tkW_9]
             omega
           · rw [upS_ne (by omega), upS_same, tkW_9, hlen]
             exact (if_pos hx).symm
           · rw [upS_same, upS_ne (by omega), show rdVl (σ (m + 7)) z k i (skE (σ (m + 7)) z p) = axF (σ (m + 7)) z (skE (σ (m + 7)) z p) from if_pos hx, hax]
           · rw [upS_ne (by omega)]
             exact t10
           · rw [upS_ne (by omega), upS_same, tkW_ne (by decide) (by decide) (by decide)])
        | (have h6 : ¬ whP (σ (m + 7)) z 6 (skE (σ (m + 7)) z p) := by assumption
           have h7 : ¬ whP (σ (m + 7)) z 7 (skE (σ (m + 7)) z p) := by assumption
           have hax : axF (σ (m + 7)) z (skE (σ (m + 7)) z p) = -1 := by
             unfold axF
             rw [if_neg h6, if_neg h7]
           have hf1 : rdFt (σ (m + 7)) z k i (skE (σ (m + 7)) z p) (σ (m + 6)) = 1 := by rw [hft, if_pos hax]
           rw [if_pos (show (0 : Int) = 0 ∧ (0 : Int) = 0 from ⟨rfl, rfl⟩)]
           refine ⟨fun b b0 b6 => by rw [upS_ne b6, upS_ne b0, upS_ne b0], fun j j9 j10 j11 j12 j13 => by rw [upS_ne (by omega), upS_same, up1_ne j11, up1_ne j10, upS_same, tkW_ne j9 j12 j13], ?_, fun q => absurd q (by rw [hf1]; decide), fun _ => ⟨?_, ?_⟩⟩
           · rw [upS_ne (by omega), upS_same, up1_ne (by decide), up1_ne (by decide), upS_same, tkW_9]
             have := hr.2 (by omega)
             omega
           · rw [upS_ne (by omega), upS_same, up1_ne (by decide), up1_same, hf1]
           · rw [upS_ne (by omega), upS_same, up1_same]
             exact (if_pos hx).symm)
theorem mo_dig_loop {G : GT} {S : Shp} {σ : Sto} {m : Nat} {z k i c p u s : Int} {Q : Option Value → Shp → Sto → Prop} (hA : IsMod S m) (hb : bsOk (σ (m + 7)) z) (hz : σ m 8 = z) (sb : 0 ≤ s ∧ s ≤ z) (hK : ∀ v : Int, (runE isFg (σ (m + 7)) z s = s → v = 0) → (runE isFg (σ (m + 7)) z s ≤ s + 2 → v = dgF (σ (m + 7)) s (runE isFg (σ (m + 7)) z s)) → 0 ≤ v ∧ v ≤ 99999 → PW (fm G mX12_readNumber 2 0 0 Q) G S (upS σ m (up1 (σ m) 9 (runE isFg (σ (m + 7)) z s))) 0 0 251 [(0, .ref m), (1, .int (iI (k))), (2, .int (iI (i))), (3, .int (iI (c))), (4, .int (iI (p))), (5, .int (iI (u))), (6, .int (iI (s))), (7, .int (iI (v)))] []) : ∀ (t : Nat) (q : Int) (v : Int), s ≤ q → q ≤ z → z - q < t → runE isFg (σ (m + 7)) z q = runE isFg (σ (m + 7)) z s → (q = s → v = 0) ∧ (q = s + 1 → v = σ (m + 7) s - 48 ∧ v ≤ 9) ∧ (q = s + 2 → v = 10 * (σ (m + 7) s - 48) + (σ (m + 7) (s + 1) - 48)) ∧ 0 ≤ v ∧ v ≤ 99999 → PW (fm G mX12_readNumber 2 0 0 Q) G S (upS σ m (up1 (σ m) 9 q)) 0 0 172 [(0, .ref m), (1, .int (iI (k))), (2, .int (iI (i))), (3, .int (iI (c))), (4, .int (iI (p))), (5, .int (iI (u))), (6, .int (iI (s))), (7, .int (iI (v)))] [] := by
  obtain ⟨hM0, hM1, hM2, hM3, hM4, hM5, hM6, hM7, hM8, hM9, hM10, hM11, hM12, hM13, hM14, hM15, hM16, hM17, hM18, hM19, hM20, hM21, hM22, hM23, hM24, hM25, hM26, hM27, hM28, hM29, hM30, hM31, hM32, hM33, hM34⟩ := id hA
  have hz0 := hb.1
  intro t
  induction t with
  | zero => intro q v h1 h2 h3 g1 g2; omega
  | succ t ih =>
    intro q v h1 h2 h3 g1 g2
    have hs := runE_s isFg (σ (m + 7)) z q
    have hv := fun hq : q < z => hb.2 q (by omega) hq
    have o9 : (upS σ m (up1 (σ m) 9 q)) m 9 = q := by rw [upS_same, up1_same]
    have o8 : (upS σ m (up1 (σ m) 9 q)) m 8 = z := by rw [upS_same, up1_ne (by decide)]; exact hz
    refine PW.aload_n dX12_readNumber_172 rfl ?_
    refine PW.getI 9 fl_X12_249 rfl (by assumption) rfl rfl dX12_readNumber_173 ?_
    refine PW.top (q) (by exact o9) ?_
    refine PW.aload_n dX12_readNumber_176 rfl ?_
    refine PW.getI 8 fl_X12_236 rfl (by assumption) rfl rfl dX12_readNumber_177 ?_
    refine PW.top (z) (by exact o8) ?_
    refine PW.icmp_ge 251 dX12_readNumber_180 (by decide) (by first | assumption | (unfold inR; omega)) (by first | assumption | (unfold inR; omega)) (fun h180 => ?_) (fun h180 => ?_)
    · have e1 : runE isFg (σ (m + 7)) z s = q := by
        rw [← g1, hs, if_neg (fun r => by
          first
            | omega
            | (have := of_decide_eq_true r.2; contradiction))]
      obtain ⟨d0, d1, d2, d3⟩ := g2
      have k := hK v (fun e => d0 (by omega)) (fun e => ?_) d3
      · rw [e1] at k
        exact k
      · rw [e1]
        unfold dgF
        by_cases q0 : q ≤ s
        · rw [if_pos q0]
          exact d0 (by omega)
        · rw [if_neg q0]
          by_cases q1 : q = s + 1
          · rw [if_pos q1]
            exact (d1 q1).1
          · rw [if_neg q1]
            exact d2 (by omega)
    · refine PW.aload_n dX12_readNumber_183 rfl ?_
      refine PW.getR fl_X12_30 rfl (by assumption) rfl dX12_readNumber_184 ?_
      refine PW.aload_n dX12_readNumber_187 rfl ?_
      refine PW.getI 9 fl_X12_249 rfl (by assumption) rfl rfl dX12_readNumber_188 ?_
      refine PW.top (q) (by exact o9) ?_
      have hvv := hv (by omega)
      refine PW.iaload (by assumption) (by unfold inR; omega) (by omega) (by omega) dX12_readNumber_191 ?_
      refine PW.top (σ (m + 7) q) (by rw [upS_ne (by omega)]) ?_
      refine PW.i2l (by first | assumption | (unfold inR; omega)) dX12_readNumber_192 ?_
      refine PW.ldc2 (48) kc_X12_283 rfl rfl dX12_readNumber_193 ?_
      refine PW.ldc2 (57) kc_X12_285 rfl rfl dX12_readNumber_196 ?_
      refine PW.callSr (c_X12_in (by unfold inL; omega) (by unfold inL; omega) (by unfold inL; omega)) cs_X12_in lk_X12_134 dX12_readNumber_199 rfl rfl rfl ?_
      refine PW.if_eqB 251 dX12_readNumber_202 (by decide) (fun h202 => ?_) (fun h202 => ?_)
      · have e1 : runE isFg (σ (m + 7)) z s = q := by
          rw [← g1, hs, if_neg (fun r => by
            first
              | omega
              | (have := of_decide_eq_true r.2; contradiction))]
        obtain ⟨d0, d1, d2, d3⟩ := g2
        have k := hK v (fun e => d0 (by omega)) (fun e => ?_) d3
        · rw [e1] at k
          exact k
        · rw [e1]
          unfold dgF
          by_cases q0 : q ≤ s
          · rw [if_pos q0]
            exact d0 (by omega)
          · rw [if_neg q0]
            by_cases q1 : q = s + 1
            · rw [if_pos q1]
              exact (d1 q1).1
            · rw [if_neg q1]
              exact d2 (by omega)
      · refine PW.iload dX12_readNumber_205 rfl ?_
        refine PW.sipush (by decide) dX12_readNumber_207 ?_
        refine PW.icmp_le 218 dX12_readNumber_210 (by decide) (by first | assumption | (unfold inR; omega)) (by first | assumption | (unfold inR; omega)) (fun h210 => ?_) (fun h210 => ?_)
        · refine PW.bipush (by decide) dX12_readNumber_218 ?_
          refine PW.iload dX12_readNumber_220 rfl ?_
          refine PW.imul dX12_readNumber_222 ?_
          refine PW.aload_n dX12_readNumber_223 rfl ?_
          refine PW.getR fl_X12_30 rfl (by assumption) rfl dX12_readNumber_224 ?_
          refine PW.aload_n dX12_readNumber_227 rfl ?_
          refine PW.getI 9 fl_X12_249 rfl (by assumption) rfl rfl dX12_readNumber_228 ?_
          refine PW.top (q) (by exact o9) ?_
          have hvw := hv (by omega)
          refine PW.iaload (by assumption) (by unfold inR; omega) (by omega) (by omega) dX12_readNumber_231 ?_
          refine PW.top (σ (m + 7) q) (by rw [upS_ne (by omega)]) ?_
          refine PW.iadd dX12_readNumber_232 ?_
          refine PW.bipush (by decide) dX12_readNumber_233 ?_
          refine PW.isub dX12_readNumber_235 ?_
          refine PW.istore [(0, _), (1, _), (2, _), (3, _), (4, _), (5, _), (6, _), (7, _)] dX12_readNumber_236 rfl (Nat.le_of_ble_eq_true rfl) ?_
          refine PW.aload_n dX12_readNumber_238 rfl ?_
          refine PW.dup rfl dX12_readNumber_239 ?_
          refine PW.getI 9 fl_X12_249 rfl (by assumption) rfl rfl dX12_readNumber_240 ?_
          refine PW.top (q) (by exact o9) ?_
          refine PW.iconst dX12_readNumber_243 ?_
          refine PW.iadd dX12_readNumber_244 ?_
          refine PW.putI 9 fl_X12_249 rfl (fun h => absurd h (by decide)) (by assumption) rfl rfl rfl rfl dX12_readNumber_245 ?_
          refine PW.st (upS σ m (up1 (σ m) 9 (q + 1))) (by rw [upS_upS, upS_same, up1_up1]) ?_
          refine PW.goto 172 dX12_readNumber_248 (by decide) ?_
          have hfg : 48 ≤ σ (m + 7) q ∧ σ (m + 7) q ≤ 57 := by assumption
          obtain ⟨d0, d1, d2, d3⟩ := g2
          have i0 : q = s → σ (m + 7) q = σ (m + 7) s := fun e => by rw [e]
          have i1 : q = s + 1 → σ (m + 7) q = σ (m + 7) (s + 1) := fun e => by rw [e]
          refine ih (q + 1) _ (by omega) (by omega) (by omega) ?_ ⟨fun e => by omega, fun e => ?_, fun e => ?_, by omega⟩
          · rw [← g1, hs, if_pos ⟨by omega, decide_eq_true hfg⟩]
          · have := i0 (by omega)
            have := d0 (by omega)
            omega
          · have := i1 (by omega)
            have := d1 (by omega)
            omega
        · refine PW.iload dX12_readNumber_213 rfl ?_
          refine PW.goto 236 dX12_readNumber_215 (by decide) ?_
          refine PW.istore [(0, _), (1, _), (2, _), (3, _), (4, _), (5, _), (6, _), (7, _)] dX12_readNumber_236 rfl (Nat.le_of_ble_eq_true rfl) ?_
          refine PW.aload_n dX12_readNumber_238 rfl ?_
          refine PW.dup rfl dX12_readNumber_239 ?_
          refine PW.getI 9 fl_X12_249 rfl (by assumption) rfl rfl dX12_readNumber_240 ?_
          refine PW.top (q) (by exact o9) ?_
          refine PW.iconst dX12_readNumber_243 ?_
          refine PW.iadd dX12_readNumber_244 ?_
          refine PW.putI 9 fl_X12_249 rfl (fun h => absurd h (by decide)) (by assumption) rfl rfl rfl rfl dX12_readNumber_245 ?_
          refine PW.st (upS σ m (up1 (σ m) 9 (q + 1))) (by rw [upS_upS, upS_same, up1_up1]) ?_
          refine PW.goto 172 dX12_readNumber_248 (by decide) ?_
          have hfg : 48 ≤ σ (m + 7) q ∧ σ (m + 7) q ≤ 57 := by assumption
          obtain ⟨d0, d1, d2, d3⟩ := g2
          have i0 : q = s → σ (m + 7) q = σ (m + 7) s := fun e => by rw [e]
          have i1 : q = s + 1 → σ (m + 7) q = σ (m + 7) (s + 1) := fun e => by rw [e]
          refine ih (q + 1) _ (by omega) (by omega) (by omega) ?_ ⟨fun e => by omega, fun e => ?_, fun e => ?_, by omega⟩
          · rw [← g1, hs, if_pos ⟨by omega, decide_eq_true hfg⟩]
          · have := i0 (by omega)
            have := d0 (by omega)
            omega
          · have := i1 (by omega)
            have := d1 (by omega)
            omega
theorem suF_lt {k p v : Int} (h : p < xT 0 k) : suF k p v ↔ (xT 2 (5 * k + p) ≤ v ∧ v ≤ xT 3 (5 * k + p)) := ⟨fun q => by
  rcases q with q | q
  · exact absurd h q
  · exact q, fun q => Or.inr q⟩
theorem num_end {G : GT} {S : Shp} {σ : Sto} {m : Nat} {z k i p v : Int} (hA : IsMod S m) (hb : bsOk (σ (m + 7)) z) (hz : σ m 8 = z) (h10 : σ m 10 = 0) (hk : 0 ≤ k ∧ k ≤ 5) (hi : 0 ≤ i ∧ i < xT 0 k) (rg : inR (σ (m + 6) 2)) (pb : 0 ≤ p ∧ p ≤ z) (hx : ¬ axPl k i) (hq : ¬ (nuQ (σ (m + 7)) z p) = (nuP (σ (m + 7)) z p)) (hv : (nuQ (σ (m + 7)) z p) ≤ (nuP (σ (m + 7)) z p) + 2 → v = dgF (σ (m + 7)) (nuP (σ (m + 7)) z p) (nuQ (σ (m + 7)) z p)) (vb : 0 ≤ v ∧ v ≤ 99999) : PW (fm G mX12_readNumber 2 0 0 (fun r S' τ => r = none ∧ S' = S ∧ nrP σ τ m z k i p)) G S (upS σ m (up1 (σ m) 9 (nuQ (σ (m + 7)) z p))) 0 0 251 [(0, .ref m), (1, .int (iI k)), (2, .int (iI i)), (3, .int (iI (btF (σ (m + 7)) z p))), (4, .int (iI p)), (5, .int (iI (b01 (btF (σ (m + 7)) z p = 45)))), (6, .int (iI (nuP (σ (m + 7)) z p))), (7, .int (iI v))] [] := by
  obtain ⟨hM0, hM1, hM2, hM3, hM4, hM5, hM6, hM7, hM8, hM9, hM10, hM11, hM12, hM13, hM14, hM15, hM16, hM17, hM18, hM19, hM20, hM21, hM22, hM23, hM24, hM25, hM26, hM27, hM28, hM29, hM30, hM31, hM32, hM33, hM34⟩ := id hA
  have hz0 := hb.1
  have hxt := xT_0 hk
  have n1 := nuP_b (B := σ (m + 7)) pb
  have n2 := nuQ_b (B := σ (m + 7)) pb
  have hft : rdFt (σ (m + 7)) z k i p (σ (m + 6)) = if nuBad (σ (m + 7)) z k i p then 2 else if dyBad (σ (m + 7)) z k i p (σ (m + 6)) then 2 else 0 := by
    unfold rdFt
    rw [if_neg hx, if_neg hq]
  have hat : rdAt (σ (m + 7)) z k i p = p := by
    unfold rdAt
    rw [if_neg hx, if_neg hq]
  have hnv : (nuQ (σ (m + 7)) z p) ≤ (nuP (σ (m + 7)) z p) + 2 → nuV (σ (m + 7)) z p = (if btF (σ (m + 7)) z p = 45 then -v else v) := fun e => by
    unfold nuV
    rw [← hv e]
  have o9 : (upS σ m (up1 (σ m) 9 (nuQ (σ (m + 7)) z p))) m 9 = (nuQ (σ (m + 7)) z p) := by rw [upS_same, up1_same]
  have o10 : (upS σ m (up1 (σ m) 9 (nuQ (σ (m + 7)) z p))) m 10 = 0 := by rw [upS_same, up1_ne (by decide)]; exact h10
  have hsu : suF k i (if btF (σ (m + 7)) z p = 45 then -v else v) ↔ (xT 2 (5 * k + i) ≤ (if btF (σ (m + 7)) z p = 45 then -v else v) ∧ (if btF (σ (m + 7)) z p = 45 then -v else v) ≤ xT 3 (5 * k + i)) := suF_lt hi.2
  refine PW.aload_n dX12_readNumber_251 rfl ?_
  refine PW.getR fl_X12_27 rfl (by assumption) rfl dX12_readNumber_252 ?_
  refine PW.iload_n dX12_readNumber_255 rfl ?_
  refine PW.iload dX12_readNumber_256 rfl ?_
  refine PW.if_eqB 268 dX12_readNumber_258 (by decide) (fun h258 => ?_) (fun h258 => ?_)
  · refine PW.iload dX12_readNumber_268 rfl ?_
    refine PW.top (if btF (σ (m + 7)) z p = 45 then -v else v) (by first | rw [if_pos (by assumption)]; omega | rw [if_neg (by assumption)]) ?_
    refine PW.iastore (by assumption) (by first | assumption | (unfold inR; omega) | (split <;> (unfold inR; omega))) (by omega) (by omega) dX12_readNumber_270 ?_
    refine PW.aload_n dX12_readNumber_271 rfl ?_
    refine PW.getI 9 fl_X12_249 rfl (by assumption) rfl rfl dX12_readNumber_272 ?_
    refine PW.top ((nuQ (σ (m + 7)) z p)) (by rw [upS_ne (by omega)]; exact o9) ?_
    refine PW.iload dX12_readNumber_275 rfl ?_
    refine PW.isub dX12_readNumber_277 ?_
    refine PW.iconst dX12_readNumber_278 ?_
    refine PW.icmp_ge 325 dX12_readNumber_279 (by decide) (by first | assumption | (unfold inR; omega) | (split <;> (unfold inR; omega))) (by first | assumption | (unfold inR; omega) | (split <;> (unfold inR; omega))) (fun h279 => ?_) (fun h279 => ?_)
    · refine PW.iconst dX12_readNumber_325 ?_
      refine PW.istore [(0, _), (1, _), (2, _), (3, _), (4, _), (5, _), (6, _), (7, _), (8, _)] dX12_readNumber_326 rfl (Nat.le_of_ble_eq_true rfl) ?_
      refine PW.aload_n dX12_readNumber_328 rfl ?_
      refine PW.iload dX12_readNumber_329 rfl ?_
      refine PW.iconst dX12_readNumber_331 ?_
      refine PW.iload dX12_readNumber_332 rfl ?_
      refine PW.callVr (c_X12_want hA (fo := 0) (by omega) (by rw [upS_ne (by omega)]; exact o10) (by unfold inR; omega) (by omega)) cv_X12_want lk_X12_279 (by first | assumption | exact And.left (by assumption)) dX12_readNumber_334 rfl rfl rfl rfl ?_
      refine PW.istore [(0, _), (1, _), (2, _), (3, _), (4, _), (5, _), (6, _), (7, _), (8, _), (9, _)] dX12_readNumber_337 rfl (Nat.le_of_ble_eq_true rfl) ?_
      refine PW.vret rfl dX12_readNumber_339 ⟨rfl, rfl, ?_⟩
      have o6 : (upS σ m (up1 (σ m) 9 (nuQ (σ (m + 7)) z p))) (m + 6) = σ (m + 6) := upS_ne (by omega)
      rw [o6]
      first
        | (have hgood : ¬ nuBad (σ (m + 7)) z k i p ∧ ¬ dyBad (σ (m + 7)) z k i p (σ (m + 6)) := by
             have hc : (nuQ (σ (m + 7)) z p) ≤ (nuP (σ (m + 7)) z p) + 2 := by omega
             refine ⟨fun r => ?_, fun r => ?_⟩
             · rcases r with r | r
               · omega
               · rw [hnv hc] at r
                 exact r (hsu.mpr (by assumption))
             · obtain ⟨r1, r2, r3⟩ := r
               rw [hnv hc] at r3
               omega
           have hf0 : rdFt (σ (m + 7)) z k i p (σ (m + 6)) = 0 := by rw [hft, if_neg hgood.1, if_neg hgood.2]
           rw [if_neg (show ¬ ((1 : Int) = 0 ∧ (0 : Int) = 0) by omega)]
           refine ⟨fun b b0 b6 => by rw [upS_ne b6, upS_ne b0], fun j j9 j10 j11 j12 j13 => by rw [upS_ne (by omega), upS_same, up1_ne j9], by rw [upS_ne (by omega), o9]; omega, fun _ => ⟨?_, ?_, by rw [upS_ne (by omega)]; exact o10, by rw [upS_ne (by omega), upS_same, up1_ne (by decide)]⟩, fun q => absurd hf0 q⟩
           · rw [upS_ne (by omega), o9]
             exact (if_neg hx).symm
           · rw [upS_same, show rdVl (σ (m + 7)) z k i p = nuV (σ (m + 7)) z p from if_neg hx, hnv (by omega)])
        | (have hbad : nuBad (σ (m + 7)) z k i p ∨ dyBad (σ (m + 7)) z k i p (σ (m + 6)) := by
             by_cases hc : (nuQ (σ (m + 7)) z p) ≤ (nuP (σ (m + 7)) z p) + 2
             · first
                 | (exfalso; omega)
                 | (refine Or.inl (Or.inr (fun r => ?_))
                    rw [hnv hc] at r
                    have := hsu.mp r
                    contradiction)
                 | (refine Or.inr ⟨by omega, by omega, ?_⟩
                    rw [hnv hc]
                    omega)
             · exact Or.inl (Or.inl (by omega))
           have hf2 : rdFt (σ (m + 7)) z k i p (σ (m + 6)) = 2 := by
             rw [hft]
             by_cases q1 : nuBad (σ (m + 7)) z k i p
             · rw [if_pos q1]
             · rw [if_neg q1, if_pos (hbad.resolve_left q1)]
           rw [if_pos (show (0 : Int) = 0 ∧ (0 : Int) = 0 from ⟨rfl, rfl⟩)]
           refine ⟨fun b b0 b6 => by rw [upS_ne b0, upS_ne b6, upS_ne b0], fun j j9 j10 j11 j12 j13 => by rw [upS_same, up1_ne j11, up1_ne j10, upS_ne (by omega), upS_same, up1_ne j9], by rw [upS_same, up1_ne (by decide), up1_ne (by decide), upS_ne (by omega), o9]; omega, fun q => absurd q (by rw [hf2]; decide), fun _ => ⟨by rw [upS_same, up1_ne (by decide), up1_same, hf2], by rw [upS_same, up1_same, hat]⟩⟩)
    · refine PW.iload_n dX12_readNumber_282 rfl ?_
      refine PW.iload_n dX12_readNumber_283 rfl ?_
      refine PW.aload_n dX12_readNumber_284 rfl ?_
      refine PW.getR fl_X12_27 rfl (by assumption) rfl dX12_readNumber_285 ?_
      refine PW.iload_n dX12_readNumber_288 rfl ?_
      refine PW.iaload (by assumption) (by unfold inR; omega) (by omega) (by omega) dX12_readNumber_289 ?_
      refine PW.top (if btF (σ (m + 7)) z p = 45 then -v else v) (by rw [upS_same, up1_same]) ?_
      refine PW.callSr (c_X12_isNumber hk hi (by split <;> (unfold inR; omega))) cs_X12_isNumber lk_X12_144 dX12_readNumber_290 rfl rfl rfl ?_
      refine PW.if_eqB 325 dX12_readNumber_293 (by decide) (fun h293 => ?_) (fun h293 => ?_)
      · refine PW.iconst dX12_readNumber_325 ?_
        refine PW.istore [(0, _), (1, _), (2, _), (3, _), (4, _), (5, _), (6, _), (7, _), (8, _)] dX12_readNumber_326 rfl (Nat.le_of_ble_eq_true rfl) ?_
        refine PW.aload_n dX12_readNumber_328 rfl ?_
        refine PW.iload dX12_readNumber_329 rfl ?_
        refine PW.iconst dX12_readNumber_331 ?_
        refine PW.iload dX12_readNumber_332 rfl ?_
        refine PW.callVr (c_X12_want hA (fo := 0) (by omega) (by rw [upS_ne (by omega)]; exact o10) (by unfold inR; omega) (by omega)) cv_X12_want lk_X12_279 (by first | assumption | exact And.left (by assumption)) dX12_readNumber_334 rfl rfl rfl rfl ?_
        refine PW.istore [(0, _), (1, _), (2, _), (3, _), (4, _), (5, _), (6, _), (7, _), (8, _), (9, _)] dX12_readNumber_337 rfl (Nat.le_of_ble_eq_true rfl) ?_
        refine PW.vret rfl dX12_readNumber_339 ⟨rfl, rfl, ?_⟩
        have o6 : (upS σ m (up1 (σ m) 9 (nuQ (σ (m + 7)) z p))) (m + 6) = σ (m + 6) := upS_ne (by omega)
        rw [o6]
        first
          | (have hgood : ¬ nuBad (σ (m + 7)) z k i p ∧ ¬ dyBad (σ (m + 7)) z k i p (σ (m + 6)) := by
               have hc : (nuQ (σ (m + 7)) z p) ≤ (nuP (σ (m + 7)) z p) + 2 := by omega
               refine ⟨fun r => ?_, fun r => ?_⟩
               · rcases r with r | r
                 · omega
                 · rw [hnv hc] at r
                   exact r (hsu.mpr (by assumption))
               · obtain ⟨r1, r2, r3⟩ := r
                 rw [hnv hc] at r3
                 omega
             have hf0 : rdFt (σ (m + 7)) z k i p (σ (m + 6)) = 0 := by rw [hft, if_neg hgood.1, if_neg hgood.2]
             rw [if_neg (show ¬ ((1 : Int) = 0 ∧ (0 : Int) = 0) by omega)]
             refine ⟨fun b b0 b6 => by rw [upS_ne b6, upS_ne b0], fun j j9 j10 j11 j12 j13 => by rw [upS_ne (by omega), upS_same, up1_ne j9], by rw [upS_ne (by omega), o9]; omega, fun _ => ⟨?_, ?_, by rw [upS_ne (by omega)]; exact o10, by rw [upS_ne (by omega), upS_same, up1_ne (by decide)]⟩, fun q => absurd hf0 q⟩
             · rw [upS_ne (by omega), o9]
               exact (if_neg hx).symm
             · rw [upS_same, show rdVl (σ (m + 7)) z k i p = nuV (σ (m + 7)) z p from if_neg hx, hnv (by omega)])
          | (have hbad : nuBad (σ (m + 7)) z k i p ∨ dyBad (σ (m + 7)) z k i p (σ (m + 6)) := by
               by_cases hc : (nuQ (σ (m + 7)) z p) ≤ (nuP (σ (m + 7)) z p) + 2
               · first
                   | (exfalso; omega)
                   | (refine Or.inl (Or.inr (fun r => ?_))
                      rw [hnv hc] at r
                      have := hsu.mp r
                      contradiction)
                   | (refine Or.inr ⟨by omega, by omega, ?_⟩
                      rw [hnv hc]
                      omega)
               · exact Or.inl (Or.inl (by omega))
             have hf2 : rdFt (σ (m + 7)) z k i p (σ (m + 6)) = 2 := by
               rw [hft]
               by_cases q1 : nuBad (σ (m + 7)) z k i p
               · rw [if_pos q1]
               · rw [if_neg q1, if_pos (hbad.resolve_left q1)]
             rw [if_pos (show (0 : Int) = 0 ∧ (0 : Int) = 0 from ⟨rfl, rfl⟩)]
             refine ⟨fun b b0 b6 => by rw [upS_ne b0, upS_ne b6, upS_ne b0], fun j j9 j10 j11 j12 j13 => by rw [upS_same, up1_ne j11, up1_ne j10, upS_ne (by omega), upS_same, up1_ne j9], by rw [upS_same, up1_ne (by decide), up1_ne (by decide), upS_ne (by omega), o9]; omega, fun q => absurd q (by rw [hf2]; decide), fun _ => ⟨by rw [upS_same, up1_ne (by decide), up1_same, hf2], by rw [upS_same, up1_same, hat]⟩⟩)
      · refine PW.iload_n dX12_readNumber_296 rfl ?_
        refine PW.iconst dX12_readNumber_297 ?_
        refine PW.icmp_ne 321 dX12_readNumber_298 (by decide) (by first | assumption | (unfold inR; omega) | (split <;> (unfold inR; omega))) (by first | assumption | (unfold inR; omega) | (split <;> (unfold inR; omega))) (fun h298 => ?_) (fun h298 => ?_)
        · refine PW.iconst dX12_readNumber_321 ?_
          refine PW.goto 326 dX12_readNumber_322 (by decide) ?_
          refine PW.istore [(0, _), (1, _), (2, _), (3, _), (4, _), (5, _), (6, _), (7, _), (8, _)] dX12_readNumber_326 rfl (Nat.le_of_ble_eq_true rfl) ?_
          refine PW.aload_n dX12_readNumber_328 rfl ?_
          refine PW.iload dX12_readNumber_329 rfl ?_
          refine PW.iconst dX12_readNumber_331 ?_
          refine PW.iload dX12_readNumber_332 rfl ?_
          refine PW.callVr (c_X12_want hA (fo := 0) (by omega) (by rw [upS_ne (by omega)]; exact o10) (by unfold inR; omega) (by omega)) cv_X12_want lk_X12_279 (by first | assumption | exact And.left (by assumption)) dX12_readNumber_334 rfl rfl rfl rfl ?_
          refine PW.istore [(0, _), (1, _), (2, _), (3, _), (4, _), (5, _), (6, _), (7, _), (8, _), (9, _)] dX12_readNumber_337 rfl (Nat.le_of_ble_eq_true rfl) ?_
          refine PW.vret rfl dX12_readNumber_339 ⟨rfl, rfl, ?_⟩
          have o6 : (upS σ m (up1 (σ m) 9 (nuQ (σ (m + 7)) z p))) (m + 6) = σ (m + 6) := upS_ne (by omega)
          rw [o6]
          first
            | (have hgood : ¬ nuBad (σ (m + 7)) z k i p ∧ ¬ dyBad (σ (m + 7)) z k i p (σ (m + 6)) := by
                 have hc : (nuQ (σ (m + 7)) z p) ≤ (nuP (σ (m + 7)) z p) + 2 := by omega
                 refine ⟨fun r => ?_, fun r => ?_⟩
                 · rcases r with r | r
                   · omega
                   · rw [hnv hc] at r
                     exact r (hsu.mpr (by assumption))
                 · obtain ⟨r1, r2, r3⟩ := r
                   rw [hnv hc] at r3
                   omega
               have hf0 : rdFt (σ (m + 7)) z k i p (σ (m + 6)) = 0 := by rw [hft, if_neg hgood.1, if_neg hgood.2]
               rw [if_neg (show ¬ ((1 : Int) = 0 ∧ (0 : Int) = 0) by omega)]
               refine ⟨fun b b0 b6 => by rw [upS_ne b6, upS_ne b0], fun j j9 j10 j11 j12 j13 => by rw [upS_ne (by omega), upS_same, up1_ne j9], by rw [upS_ne (by omega), o9]; omega, fun _ => ⟨?_, ?_, by rw [upS_ne (by omega)]; exact o10, by rw [upS_ne (by omega), upS_same, up1_ne (by decide)]⟩, fun q => absurd hf0 q⟩
               · rw [upS_ne (by omega), o9]
                 exact (if_neg hx).symm
               · rw [upS_same, show rdVl (σ (m + 7)) z k i p = nuV (σ (m + 7)) z p from if_neg hx, hnv (by omega)])
            | (have hbad : nuBad (σ (m + 7)) z k i p ∨ dyBad (σ (m + 7)) z k i p (σ (m + 6)) := by
                 by_cases hc : (nuQ (σ (m + 7)) z p) ≤ (nuP (σ (m + 7)) z p) + 2
                 · first
                     | (exfalso; omega)
                     | (refine Or.inl (Or.inr (fun r => ?_))
                        rw [hnv hc] at r
                        have := hsu.mp r
                        contradiction)
                     | (refine Or.inr ⟨by omega, by omega, ?_⟩
                        rw [hnv hc]
                        omega)
                 · exact Or.inl (Or.inl (by omega))
               have hf2 : rdFt (σ (m + 7)) z k i p (σ (m + 6)) = 2 := by
                 rw [hft]
                 by_cases q1 : nuBad (σ (m + 7)) z k i p
                 · rw [if_pos q1]
                 · rw [if_neg q1, if_pos (hbad.resolve_left q1)]
               rw [if_pos (show (0 : Int) = 0 ∧ (0 : Int) = 0 from ⟨rfl, rfl⟩)]
               refine ⟨fun b b0 b6 => by rw [upS_ne b0, upS_ne b6, upS_ne b0], fun j j9 j10 j11 j12 j13 => by rw [upS_same, up1_ne j11, up1_ne j10, upS_ne (by omega), upS_same, up1_ne j9], by rw [upS_same, up1_ne (by decide), up1_ne (by decide), upS_ne (by omega), o9]; omega, fun q => absurd q (by rw [hf2]; decide), fun _ => ⟨by rw [upS_same, up1_ne (by decide), up1_same, hf2], by rw [upS_same, up1_same, hat]⟩⟩)
        · refine PW.iload_n dX12_readNumber_301 rfl ?_
          refine PW.iconst dX12_readNumber_302 ?_
          refine PW.icmp_ne 321 dX12_readNumber_303 (by decide) (by first | assumption | (unfold inR; omega) | (split <;> (unfold inR; omega))) (by first | assumption | (unfold inR; omega) | (split <;> (unfold inR; omega))) (fun h303 => ?_) (fun h303 => ?_)
          · refine PW.iconst dX12_readNumber_321 ?_
            refine PW.goto 326 dX12_readNumber_322 (by decide) ?_
            refine PW.istore [(0, _), (1, _), (2, _), (3, _), (4, _), (5, _), (6, _), (7, _), (8, _)] dX12_readNumber_326 rfl (Nat.le_of_ble_eq_true rfl) ?_
            refine PW.aload_n dX12_readNumber_328 rfl ?_
            refine PW.iload dX12_readNumber_329 rfl ?_
            refine PW.iconst dX12_readNumber_331 ?_
            refine PW.iload dX12_readNumber_332 rfl ?_
            refine PW.callVr (c_X12_want hA (fo := 0) (by omega) (by rw [upS_ne (by omega)]; exact o10) (by unfold inR; omega) (by omega)) cv_X12_want lk_X12_279 (by first | assumption | exact And.left (by assumption)) dX12_readNumber_334 rfl rfl rfl rfl ?_
            refine PW.istore [(0, _), (1, _), (2, _), (3, _), (4, _), (5, _), (6, _), (7, _), (8, _), (9, _)] dX12_readNumber_337 rfl (Nat.le_of_ble_eq_true rfl) ?_
            refine PW.vret rfl dX12_readNumber_339 ⟨rfl, rfl, ?_⟩
            have o6 : (upS σ m (up1 (σ m) 9 (nuQ (σ (m + 7)) z p))) (m + 6) = σ (m + 6) := upS_ne (by omega)
            rw [o6]
            first
              | (have hgood : ¬ nuBad (σ (m + 7)) z k i p ∧ ¬ dyBad (σ (m + 7)) z k i p (σ (m + 6)) := by
                   have hc : (nuQ (σ (m + 7)) z p) ≤ (nuP (σ (m + 7)) z p) + 2 := by omega
                   refine ⟨fun r => ?_, fun r => ?_⟩
                   · rcases r with r | r
                     · omega
                     · rw [hnv hc] at r
                       exact r (hsu.mpr (by assumption))
                   · obtain ⟨r1, r2, r3⟩ := r
                     rw [hnv hc] at r3
                     omega
                 have hf0 : rdFt (σ (m + 7)) z k i p (σ (m + 6)) = 0 := by rw [hft, if_neg hgood.1, if_neg hgood.2]
                 rw [if_neg (show ¬ ((1 : Int) = 0 ∧ (0 : Int) = 0) by omega)]
                 refine ⟨fun b b0 b6 => by rw [upS_ne b6, upS_ne b0], fun j j9 j10 j11 j12 j13 => by rw [upS_ne (by omega), upS_same, up1_ne j9], by rw [upS_ne (by omega), o9]; omega, fun _ => ⟨?_, ?_, by rw [upS_ne (by omega)]; exact o10, by rw [upS_ne (by omega), upS_same, up1_ne (by decide)]⟩, fun q => absurd hf0 q⟩
                 · rw [upS_ne (by omega), o9]
                   exact (if_neg hx).symm
                 · rw [upS_same, show rdVl (σ (m + 7)) z k i p = nuV (σ (m + 7)) z p from if_neg hx, hnv (by omega)])
              | (have hbad : nuBad (σ (m + 7)) z k i p ∨ dyBad (σ (m + 7)) z k i p (σ (m + 6)) := by
                   by_cases hc : (nuQ (σ (m + 7)) z p) ≤ (nuP (σ (m + 7)) z p) + 2
                   · first
                       | (exfalso; omega)
                       | (refine Or.inl (Or.inr (fun r => ?_))
                          rw [hnv hc] at r
                          have := hsu.mp r
                          contradiction)
                       | (refine Or.inr ⟨by omega, by omega, ?_⟩
                          rw [hnv hc]
                          omega)
                   · exact Or.inl (Or.inl (by omega))
                 have hf2 : rdFt (σ (m + 7)) z k i p (σ (m + 6)) = 2 := by
                   rw [hft]
                   by_cases q1 : nuBad (σ (m + 7)) z k i p
                   · rw [if_pos q1]
                   · rw [if_neg q1, if_pos (hbad.resolve_left q1)]
                 rw [if_pos (show (0 : Int) = 0 ∧ (0 : Int) = 0 from ⟨rfl, rfl⟩)]
                 refine ⟨fun b b0 b6 => by rw [upS_ne b0, upS_ne b6, upS_ne b0], fun j j9 j10 j11 j12 j13 => by rw [upS_same, up1_ne j11, up1_ne j10, upS_ne (by omega), upS_same, up1_ne j9], by rw [upS_same, up1_ne (by decide), up1_ne (by decide), upS_ne (by omega), o9]; omega, fun q => absurd q (by rw [hf2]; decide), fun _ => ⟨by rw [upS_same, up1_ne (by decide), up1_same, hf2], by rw [upS_same, up1_same, hat]⟩⟩)
          · refine PW.aload_n dX12_readNumber_306 rfl ?_
            refine PW.getR fl_X12_27 rfl (by assumption) rfl dX12_readNumber_307 ?_
            refine PW.iconst dX12_readNumber_310 ?_
            refine PW.iaload (by assumption) (by unfold inR; omega) (by omega) (by omega) dX12_readNumber_311 ?_
            refine PW.top (if btF (σ (m + 7)) z p = 45 then -v else v) (by rw [upS_same, show (3 : Int) = i by omega, up1_same]) ?_
            refine PW.aload_n dX12_readNumber_312 rfl ?_
            refine PW.getR fl_X12_27 rfl (by assumption) rfl dX12_readNumber_313 ?_
            refine PW.iconst dX12_readNumber_316 ?_
            refine PW.iaload (by assumption) (by unfold inR; omega) (by omega) (by omega) dX12_readNumber_317 ?_
            refine PW.top (σ (m + 6) 2) (by rw [upS_same, up1_ne (by omega)]; rw [upS_ne (by omega)]) ?_
            refine PW.icmp_lt 325 dX12_readNumber_318 (by decide) (by first | assumption | (unfold inR; omega) | (split <;> (unfold inR; omega))) (by first | assumption | (unfold inR; omega) | (split <;> (unfold inR; omega))) (fun h318 => ?_) (fun h318 => ?_)
            · refine PW.iconst dX12_readNumber_325 ?_
              refine PW.istore [(0, _), (1, _), (2, _), (3, _), (4, _), (5, _), (6, _), (7, _), (8, _)] dX12_readNumber_326 rfl (Nat.le_of_ble_eq_true rfl) ?_
              refine PW.aload_n dX12_readNumber_328 rfl ?_
              refine PW.iload dX12_readNumber_329 rfl ?_
              refine PW.iconst dX12_readNumber_331 ?_
              refine PW.iload dX12_readNumber_332 rfl ?_
              refine PW.callVr (c_X12_want hA (fo := 0) (by omega) (by rw [upS_ne (by omega)]; exact o10) (by unfold inR; omega) (by omega)) cv_X12_want lk_X12_279 (by first | assumption | exact And.left (by assumption)) dX12_readNumber_334 rfl rfl rfl rfl ?_
              refine PW.istore [(0, _), (1, _), (2, _), (3, _), (4, _), (5, _), (6, _), (7, _), (8, _), (9, _)] dX12_readNumber_337 rfl (Nat.le_of_ble_eq_true rfl) ?_
              refine PW.vret rfl dX12_readNumber_339 ⟨rfl, rfl, ?_⟩
              have o6 : (upS σ m (up1 (σ m) 9 (nuQ (σ (m + 7)) z p))) (m + 6) = σ (m + 6) := upS_ne (by omega)
              rw [o6]
              first
                | (have hgood : ¬ nuBad (σ (m + 7)) z k i p ∧ ¬ dyBad (σ (m + 7)) z k i p (σ (m + 6)) := by
                     have hc : (nuQ (σ (m + 7)) z p) ≤ (nuP (σ (m + 7)) z p) + 2 := by omega
                     refine ⟨fun r => ?_, fun r => ?_⟩
                     · rcases r with r | r
                       · omega
                       · rw [hnv hc] at r
                         exact r (hsu.mpr (by assumption))
                     · obtain ⟨r1, r2, r3⟩ := r
                       rw [hnv hc] at r3
                       omega
                   have hf0 : rdFt (σ (m + 7)) z k i p (σ (m + 6)) = 0 := by rw [hft, if_neg hgood.1, if_neg hgood.2]
                   rw [if_neg (show ¬ ((1 : Int) = 0 ∧ (0 : Int) = 0) by omega)]
                   refine ⟨fun b b0 b6 => by rw [upS_ne b6, upS_ne b0], fun j j9 j10 j11 j12 j13 => by rw [upS_ne (by omega), upS_same, up1_ne j9], by rw [upS_ne (by omega), o9]; omega, fun _ => ⟨?_, ?_, by rw [upS_ne (by omega)]; exact o10, by rw [upS_ne (by omega), upS_same, up1_ne (by decide)]⟩, fun q => absurd hf0 q⟩
                   · rw [upS_ne (by omega), o9]
                     exact (if_neg hx).symm
                   · rw [upS_same, show rdVl (σ (m + 7)) z k i p = nuV (σ (m + 7)) z p from if_neg hx, hnv (by omega)])
                | (have hbad : nuBad (σ (m + 7)) z k i p ∨ dyBad (σ (m + 7)) z k i p (σ (m + 6)) := by
                     by_cases hc : (nuQ (σ (m + 7)) z p) ≤ (nuP (σ (m + 7)) z p) + 2
                     · first
                         | (exfalso; omega)
                         | (refine Or.inl (Or.inr (fun r => ?_))
                            rw [hnv hc] at r
                            have := hsu.mp r
                            contradiction)
                         | (refine Or.inr ⟨by omega, by omega, ?_⟩
                            rw [hnv hc]
                            omega)
                     · exact Or.inl (Or.inl (by omega))
                   have hf2 : rdFt (σ (m + 7)) z k i p (σ (m + 6)) = 2 := by
                     rw [hft]
                     by_cases q1 : nuBad (σ (m + 7)) z k i p
                     · rw [if_pos q1]
                     · rw [if_neg q1, if_pos (hbad.resolve_left q1)]
                   rw [if_pos (show (0 : Int) = 0 ∧ (0 : Int) = 0 from ⟨rfl, rfl⟩)]
                   refine ⟨fun b b0 b6 => by rw [upS_ne b0, upS_ne b6, upS_ne b0], fun j j9 j10 j11 j12 j13 => by rw [upS_same, up1_ne j11, up1_ne j10, upS_ne (by omega), upS_same, up1_ne j9], by rw [upS_same, up1_ne (by decide), up1_ne (by decide), upS_ne (by omega), o9]; omega, fun q => absurd q (by rw [hf2]; decide), fun _ => ⟨by rw [upS_same, up1_ne (by decide), up1_same, hf2], by rw [upS_same, up1_same, hat]⟩⟩)
            · refine PW.iconst dX12_readNumber_321 ?_
              refine PW.goto 326 dX12_readNumber_322 (by decide) ?_
              refine PW.istore [(0, _), (1, _), (2, _), (3, _), (4, _), (5, _), (6, _), (7, _), (8, _)] dX12_readNumber_326 rfl (Nat.le_of_ble_eq_true rfl) ?_
              refine PW.aload_n dX12_readNumber_328 rfl ?_
              refine PW.iload dX12_readNumber_329 rfl ?_
              refine PW.iconst dX12_readNumber_331 ?_
              refine PW.iload dX12_readNumber_332 rfl ?_
              refine PW.callVr (c_X12_want hA (fo := 0) (by omega) (by rw [upS_ne (by omega)]; exact o10) (by unfold inR; omega) (by omega)) cv_X12_want lk_X12_279 (by first | assumption | exact And.left (by assumption)) dX12_readNumber_334 rfl rfl rfl rfl ?_
              refine PW.istore [(0, _), (1, _), (2, _), (3, _), (4, _), (5, _), (6, _), (7, _), (8, _), (9, _)] dX12_readNumber_337 rfl (Nat.le_of_ble_eq_true rfl) ?_
              refine PW.vret rfl dX12_readNumber_339 ⟨rfl, rfl, ?_⟩
              have o6 : (upS σ m (up1 (σ m) 9 (nuQ (σ (m + 7)) z p))) (m + 6) = σ (m + 6) := upS_ne (by omega)
              rw [o6]
              first
                | (have hgood : ¬ nuBad (σ (m + 7)) z k i p ∧ ¬ dyBad (σ (m + 7)) z k i p (σ (m + 6)) := by
                     have hc : (nuQ (σ (m + 7)) z p) ≤ (nuP (σ (m + 7)) z p) + 2 := by omega
                     refine ⟨fun r => ?_, fun r => ?_⟩
                     · rcases r with r | r
                       · omega
                       · rw [hnv hc] at r
                         exact r (hsu.mpr (by assumption))
                     · obtain ⟨r1, r2, r3⟩ := r
                       rw [hnv hc] at r3
                       omega
                   have hf0 : rdFt (σ (m + 7)) z k i p (σ (m + 6)) = 0 := by rw [hft, if_neg hgood.1, if_neg hgood.2]
                   rw [if_neg (show ¬ ((1 : Int) = 0 ∧ (0 : Int) = 0) by omega)]
                   refine ⟨fun b b0 b6 => by rw [upS_ne b6, upS_ne b0], fun j j9 j10 j11 j12 j13 => by rw [upS_ne (by omega), upS_same, up1_ne j9], by rw [upS_ne (by omega), o9]; omega, fun _ => ⟨?_, ?_, by rw [upS_ne (by omega)]; exact o10, by rw [upS_ne (by omega), upS_same, up1_ne (by decide)]⟩, fun q => absurd hf0 q⟩
                   · rw [upS_ne (by omega), o9]
                     exact (if_neg hx).symm
                   · rw [upS_same, show rdVl (σ (m + 7)) z k i p = nuV (σ (m + 7)) z p from if_neg hx, hnv (by omega)])
                | (have hbad : nuBad (σ (m + 7)) z k i p ∨ dyBad (σ (m + 7)) z k i p (σ (m + 6)) := by
                     by_cases hc : (nuQ (σ (m + 7)) z p) ≤ (nuP (σ (m + 7)) z p) + 2
                     · first
                         | (exfalso; omega)
                         | (refine Or.inl (Or.inr (fun r => ?_))
                            rw [hnv hc] at r
                            have := hsu.mp r
                            contradiction)
                         | (refine Or.inr ⟨by omega, by omega, ?_⟩
                            rw [hnv hc]
                            omega)
                     · exact Or.inl (Or.inl (by omega))
                   have hf2 : rdFt (σ (m + 7)) z k i p (σ (m + 6)) = 2 := by
                     rw [hft]
                     by_cases q1 : nuBad (σ (m + 7)) z k i p
                     · rw [if_pos q1]
                     · rw [if_neg q1, if_pos (hbad.resolve_left q1)]
                   rw [if_pos (show (0 : Int) = 0 ∧ (0 : Int) = 0 from ⟨rfl, rfl⟩)]
                   refine ⟨fun b b0 b6 => by rw [upS_ne b0, upS_ne b6, upS_ne b0], fun j j9 j10 j11 j12 j13 => by rw [upS_same, up1_ne j11, up1_ne j10, upS_ne (by omega), upS_same, up1_ne j9], by rw [upS_same, up1_ne (by decide), up1_ne (by decide), upS_ne (by omega), o9]; omega, fun q => absurd q (by rw [hf2]; decide), fun _ => ⟨by rw [upS_same, up1_ne (by decide), up1_same, hf2], by rw [upS_same, up1_same, hat]⟩⟩)
  · refine PW.iconst dX12_readNumber_261 ?_
    refine PW.iload dX12_readNumber_262 rfl ?_
    refine PW.isub dX12_readNumber_264 ?_
    refine PW.goto 270 dX12_readNumber_265 (by decide) ?_
    refine PW.top (if btF (σ (m + 7)) z p = 45 then -v else v) (by first | rw [if_pos (by assumption)]; omega | rw [if_neg (by assumption)]) ?_
    refine PW.iastore (by assumption) (by first | assumption | (unfold inR; omega) | (split <;> (unfold inR; omega))) (by omega) (by omega) dX12_readNumber_270 ?_
    refine PW.aload_n dX12_readNumber_271 rfl ?_
    refine PW.getI 9 fl_X12_249 rfl (by assumption) rfl rfl dX12_readNumber_272 ?_
    refine PW.top ((nuQ (σ (m + 7)) z p)) (by rw [upS_ne (by omega)]; exact o9) ?_
    refine PW.iload dX12_readNumber_275 rfl ?_
    refine PW.isub dX12_readNumber_277 ?_
    refine PW.iconst dX12_readNumber_278 ?_
    refine PW.icmp_ge 325 dX12_readNumber_279 (by decide) (by first | assumption | (unfold inR; omega) | (split <;> (unfold inR; omega))) (by first | assumption | (unfold inR; omega) | (split <;> (unfold inR; omega))) (fun h279 => ?_) (fun h279 => ?_)
    · refine PW.iconst dX12_readNumber_325 ?_
      refine PW.istore [(0, _), (1, _), (2, _), (3, _), (4, _), (5, _), (6, _), (7, _), (8, _)] dX12_readNumber_326 rfl (Nat.le_of_ble_eq_true rfl) ?_
      refine PW.aload_n dX12_readNumber_328 rfl ?_
      refine PW.iload dX12_readNumber_329 rfl ?_
      refine PW.iconst dX12_readNumber_331 ?_
      refine PW.iload dX12_readNumber_332 rfl ?_
      refine PW.callVr (c_X12_want hA (fo := 0) (by omega) (by rw [upS_ne (by omega)]; exact o10) (by unfold inR; omega) (by omega)) cv_X12_want lk_X12_279 (by first | assumption | exact And.left (by assumption)) dX12_readNumber_334 rfl rfl rfl rfl ?_
      refine PW.istore [(0, _), (1, _), (2, _), (3, _), (4, _), (5, _), (6, _), (7, _), (8, _), (9, _)] dX12_readNumber_337 rfl (Nat.le_of_ble_eq_true rfl) ?_
      refine PW.vret rfl dX12_readNumber_339 ⟨rfl, rfl, ?_⟩
      have o6 : (upS σ m (up1 (σ m) 9 (nuQ (σ (m + 7)) z p))) (m + 6) = σ (m + 6) := upS_ne (by omega)
      rw [o6]
      first
        | (have hgood : ¬ nuBad (σ (m + 7)) z k i p ∧ ¬ dyBad (σ (m + 7)) z k i p (σ (m + 6)) := by
             have hc : (nuQ (σ (m + 7)) z p) ≤ (nuP (σ (m + 7)) z p) + 2 := by omega
             refine ⟨fun r => ?_, fun r => ?_⟩
             · rcases r with r | r
               · omega
               · rw [hnv hc] at r
                 exact r (hsu.mpr (by assumption))
             · obtain ⟨r1, r2, r3⟩ := r
               rw [hnv hc] at r3
               omega
           have hf0 : rdFt (σ (m + 7)) z k i p (σ (m + 6)) = 0 := by rw [hft, if_neg hgood.1, if_neg hgood.2]
           rw [if_neg (show ¬ ((1 : Int) = 0 ∧ (0 : Int) = 0) by omega)]
           refine ⟨fun b b0 b6 => by rw [upS_ne b6, upS_ne b0], fun j j9 j10 j11 j12 j13 => by rw [upS_ne (by omega), upS_same, up1_ne j9], by rw [upS_ne (by omega), o9]; omega, fun _ => ⟨?_, ?_, by rw [upS_ne (by omega)]; exact o10, by rw [upS_ne (by omega), upS_same, up1_ne (by decide)]⟩, fun q => absurd hf0 q⟩
           · rw [upS_ne (by omega), o9]
             exact (if_neg hx).symm
           · rw [upS_same, show rdVl (σ (m + 7)) z k i p = nuV (σ (m + 7)) z p from if_neg hx, hnv (by omega)])
        | (have hbad : nuBad (σ (m + 7)) z k i p ∨ dyBad (σ (m + 7)) z k i p (σ (m + 6)) := by
             by_cases hc : (nuQ (σ (m + 7)) z p) ≤ (nuP (σ (m + 7)) z p) + 2
             · first
                 | (exfalso; omega)
                 | (refine Or.inl (Or.inr (fun r => ?_))
                    rw [hnv hc] at r
                    have := hsu.mp r
                    contradiction)
                 | (refine Or.inr ⟨by omega, by omega, ?_⟩
                    rw [hnv hc]
                    omega)
             · exact Or.inl (Or.inl (by omega))
           have hf2 : rdFt (σ (m + 7)) z k i p (σ (m + 6)) = 2 := by
             rw [hft]
             by_cases q1 : nuBad (σ (m + 7)) z k i p
             · rw [if_pos q1]
             · rw [if_neg q1, if_pos (hbad.resolve_left q1)]
           rw [if_pos (show (0 : Int) = 0 ∧ (0 : Int) = 0 from ⟨rfl, rfl⟩)]
           refine ⟨fun b b0 b6 => by rw [upS_ne b0, upS_ne b6, upS_ne b0], fun j j9 j10 j11 j12 j13 => by rw [upS_same, up1_ne j11, up1_ne j10, upS_ne (by omega), upS_same, up1_ne j9], by rw [upS_same, up1_ne (by decide), up1_ne (by decide), upS_ne (by omega), o9]; omega, fun q => absurd q (by rw [hf2]; decide), fun _ => ⟨by rw [upS_same, up1_ne (by decide), up1_same, hf2], by rw [upS_same, up1_same, hat]⟩⟩)
    · refine PW.iload_n dX12_readNumber_282 rfl ?_
      refine PW.iload_n dX12_readNumber_283 rfl ?_
      refine PW.aload_n dX12_readNumber_284 rfl ?_
      refine PW.getR fl_X12_27 rfl (by assumption) rfl dX12_readNumber_285 ?_
      refine PW.iload_n dX12_readNumber_288 rfl ?_
      refine PW.iaload (by assumption) (by unfold inR; omega) (by omega) (by omega) dX12_readNumber_289 ?_
      refine PW.top (if btF (σ (m + 7)) z p = 45 then -v else v) (by rw [upS_same, up1_same]) ?_
      refine PW.callSr (c_X12_isNumber hk hi (by split <;> (unfold inR; omega))) cs_X12_isNumber lk_X12_144 dX12_readNumber_290 rfl rfl rfl ?_
      refine PW.if_eqB 325 dX12_readNumber_293 (by decide) (fun h293 => ?_) (fun h293 => ?_)
      · refine PW.iconst dX12_readNumber_325 ?_
        refine PW.istore [(0, _), (1, _), (2, _), (3, _), (4, _), (5, _), (6, _), (7, _), (8, _)] dX12_readNumber_326 rfl (Nat.le_of_ble_eq_true rfl) ?_
        refine PW.aload_n dX12_readNumber_328 rfl ?_
        refine PW.iload dX12_readNumber_329 rfl ?_
        refine PW.iconst dX12_readNumber_331 ?_
        refine PW.iload dX12_readNumber_332 rfl ?_
        refine PW.callVr (c_X12_want hA (fo := 0) (by omega) (by rw [upS_ne (by omega)]; exact o10) (by unfold inR; omega) (by omega)) cv_X12_want lk_X12_279 (by first | assumption | exact And.left (by assumption)) dX12_readNumber_334 rfl rfl rfl rfl ?_
        refine PW.istore [(0, _), (1, _), (2, _), (3, _), (4, _), (5, _), (6, _), (7, _), (8, _), (9, _)] dX12_readNumber_337 rfl (Nat.le_of_ble_eq_true rfl) ?_
        refine PW.vret rfl dX12_readNumber_339 ⟨rfl, rfl, ?_⟩
        have o6 : (upS σ m (up1 (σ m) 9 (nuQ (σ (m + 7)) z p))) (m + 6) = σ (m + 6) := upS_ne (by omega)
        rw [o6]
        first
          | (have hgood : ¬ nuBad (σ (m + 7)) z k i p ∧ ¬ dyBad (σ (m + 7)) z k i p (σ (m + 6)) := by
               have hc : (nuQ (σ (m + 7)) z p) ≤ (nuP (σ (m + 7)) z p) + 2 := by omega
               refine ⟨fun r => ?_, fun r => ?_⟩
               · rcases r with r | r
                 · omega
                 · rw [hnv hc] at r
                   exact r (hsu.mpr (by assumption))
               · obtain ⟨r1, r2, r3⟩ := r
                 rw [hnv hc] at r3
                 omega
             have hf0 : rdFt (σ (m + 7)) z k i p (σ (m + 6)) = 0 := by rw [hft, if_neg hgood.1, if_neg hgood.2]
             rw [if_neg (show ¬ ((1 : Int) = 0 ∧ (0 : Int) = 0) by omega)]
             refine ⟨fun b b0 b6 => by rw [upS_ne b6, upS_ne b0], fun j j9 j10 j11 j12 j13 => by rw [upS_ne (by omega), upS_same, up1_ne j9], by rw [upS_ne (by omega), o9]; omega, fun _ => ⟨?_, ?_, by rw [upS_ne (by omega)]; exact o10, by rw [upS_ne (by omega), upS_same, up1_ne (by decide)]⟩, fun q => absurd hf0 q⟩
             · rw [upS_ne (by omega), o9]
               exact (if_neg hx).symm
             · rw [upS_same, show rdVl (σ (m + 7)) z k i p = nuV (σ (m + 7)) z p from if_neg hx, hnv (by omega)])
          | (have hbad : nuBad (σ (m + 7)) z k i p ∨ dyBad (σ (m + 7)) z k i p (σ (m + 6)) := by
               by_cases hc : (nuQ (σ (m + 7)) z p) ≤ (nuP (σ (m + 7)) z p) + 2
               · first
                   | (exfalso; omega)
                   | (refine Or.inl (Or.inr (fun r => ?_))
                      rw [hnv hc] at r
                      have := hsu.mp r
                      contradiction)
                   | (refine Or.inr ⟨by omega, by omega, ?_⟩
                      rw [hnv hc]
                      omega)
               · exact Or.inl (Or.inl (by omega))
             have hf2 : rdFt (σ (m + 7)) z k i p (σ (m + 6)) = 2 := by
               rw [hft]
               by_cases q1 : nuBad (σ (m + 7)) z k i p
               · rw [if_pos q1]
               · rw [if_neg q1, if_pos (hbad.resolve_left q1)]
             rw [if_pos (show (0 : Int) = 0 ∧ (0 : Int) = 0 from ⟨rfl, rfl⟩)]
             refine ⟨fun b b0 b6 => by rw [upS_ne b0, upS_ne b6, upS_ne b0], fun j j9 j10 j11 j12 j13 => by rw [upS_same, up1_ne j11, up1_ne j10, upS_ne (by omega), upS_same, up1_ne j9], by rw [upS_same, up1_ne (by decide), up1_ne (by decide), upS_ne (by omega), o9]; omega, fun q => absurd q (by rw [hf2]; decide), fun _ => ⟨by rw [upS_same, up1_ne (by decide), up1_same, hf2], by rw [upS_same, up1_same, hat]⟩⟩)
      · refine PW.iload_n dX12_readNumber_296 rfl ?_
        refine PW.iconst dX12_readNumber_297 ?_
        refine PW.icmp_ne 321 dX12_readNumber_298 (by decide) (by first | assumption | (unfold inR; omega) | (split <;> (unfold inR; omega))) (by first | assumption | (unfold inR; omega) | (split <;> (unfold inR; omega))) (fun h298 => ?_) (fun h298 => ?_)
        · refine PW.iconst dX12_readNumber_321 ?_
          refine PW.goto 326 dX12_readNumber_322 (by decide) ?_
          refine PW.istore [(0, _), (1, _), (2, _), (3, _), (4, _), (5, _), (6, _), (7, _), (8, _)] dX12_readNumber_326 rfl (Nat.le_of_ble_eq_true rfl) ?_
          refine PW.aload_n dX12_readNumber_328 rfl ?_
          refine PW.iload dX12_readNumber_329 rfl ?_
          refine PW.iconst dX12_readNumber_331 ?_
          refine PW.iload dX12_readNumber_332 rfl ?_
          refine PW.callVr (c_X12_want hA (fo := 0) (by omega) (by rw [upS_ne (by omega)]; exact o10) (by unfold inR; omega) (by omega)) cv_X12_want lk_X12_279 (by first | assumption | exact And.left (by assumption)) dX12_readNumber_334 rfl rfl rfl rfl ?_
          refine PW.istore [(0, _), (1, _), (2, _), (3, _), (4, _), (5, _), (6, _), (7, _), (8, _), (9, _)] dX12_readNumber_337 rfl (Nat.le_of_ble_eq_true rfl) ?_
          refine PW.vret rfl dX12_readNumber_339 ⟨rfl, rfl, ?_⟩
          have o6 : (upS σ m (up1 (σ m) 9 (nuQ (σ (m + 7)) z p))) (m + 6) = σ (m + 6) := upS_ne (by omega)
          rw [o6]
          first
            | (have hgood : ¬ nuBad (σ (m + 7)) z k i p ∧ ¬ dyBad (σ (m + 7)) z k i p (σ (m + 6)) := by
                 have hc : (nuQ (σ (m + 7)) z p) ≤ (nuP (σ (m + 7)) z p) + 2 := by omega
                 refine ⟨fun r => ?_, fun r => ?_⟩
                 · rcases r with r | r
                   · omega
                   · rw [hnv hc] at r
                     exact r (hsu.mpr (by assumption))
                 · obtain ⟨r1, r2, r3⟩ := r
                   rw [hnv hc] at r3
                   omega
               have hf0 : rdFt (σ (m + 7)) z k i p (σ (m + 6)) = 0 := by rw [hft, if_neg hgood.1, if_neg hgood.2]
               rw [if_neg (show ¬ ((1 : Int) = 0 ∧ (0 : Int) = 0) by omega)]
               refine ⟨fun b b0 b6 => by rw [upS_ne b6, upS_ne b0], fun j j9 j10 j11 j12 j13 => by rw [upS_ne (by omega), upS_same, up1_ne j9], by rw [upS_ne (by omega), o9]; omega, fun _ => ⟨?_, ?_, by rw [upS_ne (by omega)]; exact o10, by rw [upS_ne (by omega), upS_same, up1_ne (by decide)]⟩, fun q => absurd hf0 q⟩
               · rw [upS_ne (by omega), o9]
                 exact (if_neg hx).symm
               · rw [upS_same, show rdVl (σ (m + 7)) z k i p = nuV (σ (m + 7)) z p from if_neg hx, hnv (by omega)])
            | (have hbad : nuBad (σ (m + 7)) z k i p ∨ dyBad (σ (m + 7)) z k i p (σ (m + 6)) := by
                 by_cases hc : (nuQ (σ (m + 7)) z p) ≤ (nuP (σ (m + 7)) z p) + 2
                 · first
                     | (exfalso; omega)
                     | (refine Or.inl (Or.inr (fun r => ?_))
                        rw [hnv hc] at r
                        have := hsu.mp r
                        contradiction)
                     | (refine Or.inr ⟨by omega, by omega, ?_⟩
                        rw [hnv hc]
                        omega)
                 · exact Or.inl (Or.inl (by omega))
               have hf2 : rdFt (σ (m + 7)) z k i p (σ (m + 6)) = 2 := by
                 rw [hft]
                 by_cases q1 : nuBad (σ (m + 7)) z k i p
                 · rw [if_pos q1]
                 · rw [if_neg q1, if_pos (hbad.resolve_left q1)]
               rw [if_pos (show (0 : Int) = 0 ∧ (0 : Int) = 0 from ⟨rfl, rfl⟩)]
               refine ⟨fun b b0 b6 => by rw [upS_ne b0, upS_ne b6, upS_ne b0], fun j j9 j10 j11 j12 j13 => by rw [upS_same, up1_ne j11, up1_ne j10, upS_ne (by omega), upS_same, up1_ne j9], by rw [upS_same, up1_ne (by decide), up1_ne (by decide), upS_ne (by omega), o9]; omega, fun q => absurd q (by rw [hf2]; decide), fun _ => ⟨by rw [upS_same, up1_ne (by decide), up1_same, hf2], by rw [upS_same, up1_same, hat]⟩⟩)
        · refine PW.iload_n dX12_readNumber_301 rfl ?_
          refine PW.iconst dX12_readNumber_302 ?_
          refine PW.icmp_ne 321 dX12_readNumber_303 (by decide) (by first | assumption | (unfold inR; omega) | (split <;> (unfold inR; omega))) (by first | assumption | (unfold inR; omega) | (split <;> (unfold inR; omega))) (fun h303 => ?_) (fun h303 => ?_)
          · refine PW.iconst dX12_readNumber_321 ?_
            refine PW.goto 326 dX12_readNumber_322 (by decide) ?_
            refine PW.istore [(0, _), (1, _), (2, _), (3, _), (4, _), (5, _), (6, _), (7, _), (8, _)] dX12_readNumber_326 rfl (Nat.le_of_ble_eq_true rfl) ?_
            refine PW.aload_n dX12_readNumber_328 rfl ?_
            refine PW.iload dX12_readNumber_329 rfl ?_
            refine PW.iconst dX12_readNumber_331 ?_
            refine PW.iload dX12_readNumber_332 rfl ?_
            refine PW.callVr (c_X12_want hA (fo := 0) (by omega) (by rw [upS_ne (by omega)]; exact o10) (by unfold inR; omega) (by omega)) cv_X12_want lk_X12_279 (by first | assumption | exact And.left (by assumption)) dX12_readNumber_334 rfl rfl rfl rfl ?_
            refine PW.istore [(0, _), (1, _), (2, _), (3, _), (4, _), (5, _), (6, _), (7, _), (8, _), (9, _)] dX12_readNumber_337 rfl (Nat.le_of_ble_eq_true rfl) ?_
            refine PW.vret rfl dX12_readNumber_339 ⟨rfl, rfl, ?_⟩
            have o6 : (upS σ m (up1 (σ m) 9 (nuQ (σ (m + 7)) z p))) (m + 6) = σ (m + 6) := upS_ne (by omega)
            rw [o6]
            first
              | (have hgood : ¬ nuBad (σ (m + 7)) z k i p ∧ ¬ dyBad (σ (m + 7)) z k i p (σ (m + 6)) := by
                   have hc : (nuQ (σ (m + 7)) z p) ≤ (nuP (σ (m + 7)) z p) + 2 := by omega
                   refine ⟨fun r => ?_, fun r => ?_⟩
                   · rcases r with r | r
                     · omega
                     · rw [hnv hc] at r
                       exact r (hsu.mpr (by assumption))
                   · obtain ⟨r1, r2, r3⟩ := r
                     rw [hnv hc] at r3
                     omega
                 have hf0 : rdFt (σ (m + 7)) z k i p (σ (m + 6)) = 0 := by rw [hft, if_neg hgood.1, if_neg hgood.2]
                 rw [if_neg (show ¬ ((1 : Int) = 0 ∧ (0 : Int) = 0) by omega)]
                 refine ⟨fun b b0 b6 => by rw [upS_ne b6, upS_ne b0], fun j j9 j10 j11 j12 j13 => by rw [upS_ne (by omega), upS_same, up1_ne j9], by rw [upS_ne (by omega), o9]; omega, fun _ => ⟨?_, ?_, by rw [upS_ne (by omega)]; exact o10, by rw [upS_ne (by omega), upS_same, up1_ne (by decide)]⟩, fun q => absurd hf0 q⟩
                 · rw [upS_ne (by omega), o9]
                   exact (if_neg hx).symm
                 · rw [upS_same, show rdVl (σ (m + 7)) z k i p = nuV (σ (m + 7)) z p from if_neg hx, hnv (by omega)])
              | (have hbad : nuBad (σ (m + 7)) z k i p ∨ dyBad (σ (m + 7)) z k i p (σ (m + 6)) := by
                   by_cases hc : (nuQ (σ (m + 7)) z p) ≤ (nuP (σ (m + 7)) z p) + 2
                   · first
                       | (exfalso; omega)
                       | (refine Or.inl (Or.inr (fun r => ?_))
                          rw [hnv hc] at r
                          have := hsu.mp r
                          contradiction)
                       | (refine Or.inr ⟨by omega, by omega, ?_⟩
                          rw [hnv hc]
                          omega)
                   · exact Or.inl (Or.inl (by omega))
                 have hf2 : rdFt (σ (m + 7)) z k i p (σ (m + 6)) = 2 := by
                   rw [hft]
                   by_cases q1 : nuBad (σ (m + 7)) z k i p
                   · rw [if_pos q1]
                   · rw [if_neg q1, if_pos (hbad.resolve_left q1)]
                 rw [if_pos (show (0 : Int) = 0 ∧ (0 : Int) = 0 from ⟨rfl, rfl⟩)]
                 refine ⟨fun b b0 b6 => by rw [upS_ne b0, upS_ne b6, upS_ne b0], fun j j9 j10 j11 j12 j13 => by rw [upS_same, up1_ne j11, up1_ne j10, upS_ne (by omega), upS_same, up1_ne j9], by rw [upS_same, up1_ne (by decide), up1_ne (by decide), upS_ne (by omega), o9]; omega, fun q => absurd q (by rw [hf2]; decide), fun _ => ⟨by rw [upS_same, up1_ne (by decide), up1_same, hf2], by rw [upS_same, up1_same, hat]⟩⟩)
          · refine PW.aload_n dX12_readNumber_306 rfl ?_
            refine PW.getR fl_X12_27 rfl (by assumption) rfl dX12_readNumber_307 ?_
            refine PW.iconst dX12_readNumber_310 ?_
            refine PW.iaload (by assumption) (by unfold inR; omega) (by omega) (by omega) dX12_readNumber_311 ?_
            refine PW.top (if btF (σ (m + 7)) z p = 45 then -v else v) (by rw [upS_same, show (3 : Int) = i by omega, up1_same]) ?_
            refine PW.aload_n dX12_readNumber_312 rfl ?_
            refine PW.getR fl_X12_27 rfl (by assumption) rfl dX12_readNumber_313 ?_
            refine PW.iconst dX12_readNumber_316 ?_
            refine PW.iaload (by assumption) (by unfold inR; omega) (by omega) (by omega) dX12_readNumber_317 ?_
            refine PW.top (σ (m + 6) 2) (by rw [upS_same, up1_ne (by omega)]; rw [upS_ne (by omega)]) ?_
            refine PW.icmp_lt 325 dX12_readNumber_318 (by decide) (by first | assumption | (unfold inR; omega) | (split <;> (unfold inR; omega))) (by first | assumption | (unfold inR; omega) | (split <;> (unfold inR; omega))) (fun h318 => ?_) (fun h318 => ?_)
            · refine PW.iconst dX12_readNumber_325 ?_
              refine PW.istore [(0, _), (1, _), (2, _), (3, _), (4, _), (5, _), (6, _), (7, _), (8, _)] dX12_readNumber_326 rfl (Nat.le_of_ble_eq_true rfl) ?_
              refine PW.aload_n dX12_readNumber_328 rfl ?_
              refine PW.iload dX12_readNumber_329 rfl ?_
              refine PW.iconst dX12_readNumber_331 ?_
              refine PW.iload dX12_readNumber_332 rfl ?_
              refine PW.callVr (c_X12_want hA (fo := 0) (by omega) (by rw [upS_ne (by omega)]; exact o10) (by unfold inR; omega) (by omega)) cv_X12_want lk_X12_279 (by first | assumption | exact And.left (by assumption)) dX12_readNumber_334 rfl rfl rfl rfl ?_
              refine PW.istore [(0, _), (1, _), (2, _), (3, _), (4, _), (5, _), (6, _), (7, _), (8, _), (9, _)] dX12_readNumber_337 rfl (Nat.le_of_ble_eq_true rfl) ?_
              refine PW.vret rfl dX12_readNumber_339 ⟨rfl, rfl, ?_⟩
              have o6 : (upS σ m (up1 (σ m) 9 (nuQ (σ (m + 7)) z p))) (m + 6) = σ (m + 6) := upS_ne (by omega)
              rw [o6]
              first
                | (have hgood : ¬ nuBad (σ (m + 7)) z k i p ∧ ¬ dyBad (σ (m + 7)) z k i p (σ (m + 6)) := by
                     have hc : (nuQ (σ (m + 7)) z p) ≤ (nuP (σ (m + 7)) z p) + 2 := by omega
                     refine ⟨fun r => ?_, fun r => ?_⟩
                     · rcases r with r | r
                       · omega
                       · rw [hnv hc] at r
                         exact r (hsu.mpr (by assumption))
                     · obtain ⟨r1, r2, r3⟩ := r
                       rw [hnv hc] at r3
                       omega
                   have hf0 : rdFt (σ (m + 7)) z k i p (σ (m + 6)) = 0 := by rw [hft, if_neg hgood.1, if_neg hgood.2]
                   rw [if_neg (show ¬ ((1 : Int) = 0 ∧ (0 : Int) = 0) by omega)]
                   refine ⟨fun b b0 b6 => by rw [upS_ne b6, upS_ne b0], fun j j9 j10 j11 j12 j13 => by rw [upS_ne (by omega), upS_same, up1_ne j9], by rw [upS_ne (by omega), o9]; omega, fun _ => ⟨?_, ?_, by rw [upS_ne (by omega)]; exact o10, by rw [upS_ne (by omega), upS_same, up1_ne (by decide)]⟩, fun q => absurd hf0 q⟩
                   · rw [upS_ne (by omega), o9]
                     exact (if_neg hx).symm
                   · rw [upS_same, show rdVl (σ (m + 7)) z k i p = nuV (σ (m + 7)) z p from if_neg hx, hnv (by omega)])
                | (have hbad : nuBad (σ (m + 7)) z k i p ∨ dyBad (σ (m + 7)) z k i p (σ (m + 6)) := by
                     by_cases hc : (nuQ (σ (m + 7)) z p) ≤ (nuP (σ (m + 7)) z p) + 2
                     · first
                         | (exfalso; omega)
                         | (refine Or.inl (Or.inr (fun r => ?_))
                            rw [hnv hc] at r
                            have := hsu.mp r
                            contradiction)
                         | (refine Or.inr ⟨by omega, by omega, ?_⟩
                            rw [hnv hc]
                            omega)
                     · exact Or.inl (Or.inl (by omega))
                   have hf2 : rdFt (σ (m + 7)) z k i p (σ (m + 6)) = 2 := by
                     rw [hft]
                     by_cases q1 : nuBad (σ (m + 7)) z k i p
                     · rw [if_pos q1]
                     · rw [if_neg q1, if_pos (hbad.resolve_left q1)]
                   rw [if_pos (show (0 : Int) = 0 ∧ (0 : Int) = 0 from ⟨rfl, rfl⟩)]
                   refine ⟨fun b b0 b6 => by rw [upS_ne b0, upS_ne b6, upS_ne b0], fun j j9 j10 j11 j12 j13 => by rw [upS_same, up1_ne j11, up1_ne j10, upS_ne (by omega), upS_same, up1_ne j9], by rw [upS_same, up1_ne (by decide), up1_ne (by decide), upS_ne (by omega), o9]; omega, fun q => absurd q (by rw [hf2]; decide), fun _ => ⟨by rw [upS_same, up1_ne (by decide), up1_same, hf2], by rw [upS_same, up1_same, hat]⟩⟩)
            · refine PW.iconst dX12_readNumber_321 ?_
              refine PW.goto 326 dX12_readNumber_322 (by decide) ?_
              refine PW.istore [(0, _), (1, _), (2, _), (3, _), (4, _), (5, _), (6, _), (7, _), (8, _)] dX12_readNumber_326 rfl (Nat.le_of_ble_eq_true rfl) ?_
              refine PW.aload_n dX12_readNumber_328 rfl ?_
              refine PW.iload dX12_readNumber_329 rfl ?_
              refine PW.iconst dX12_readNumber_331 ?_
              refine PW.iload dX12_readNumber_332 rfl ?_
              refine PW.callVr (c_X12_want hA (fo := 0) (by omega) (by rw [upS_ne (by omega)]; exact o10) (by unfold inR; omega) (by omega)) cv_X12_want lk_X12_279 (by first | assumption | exact And.left (by assumption)) dX12_readNumber_334 rfl rfl rfl rfl ?_
              refine PW.istore [(0, _), (1, _), (2, _), (3, _), (4, _), (5, _), (6, _), (7, _), (8, _), (9, _)] dX12_readNumber_337 rfl (Nat.le_of_ble_eq_true rfl) ?_
              refine PW.vret rfl dX12_readNumber_339 ⟨rfl, rfl, ?_⟩
              have o6 : (upS σ m (up1 (σ m) 9 (nuQ (σ (m + 7)) z p))) (m + 6) = σ (m + 6) := upS_ne (by omega)
              rw [o6]
              first
                | (have hgood : ¬ nuBad (σ (m + 7)) z k i p ∧ ¬ dyBad (σ (m + 7)) z k i p (σ (m + 6)) := by
                     have hc : (nuQ (σ (m + 7)) z p) ≤ (nuP (σ (m + 7)) z p) + 2 := by omega
                     refine ⟨fun r => ?_, fun r => ?_⟩
                     · rcases r with r | r
                       · omega
                       · rw [hnv hc] at r
                         exact r (hsu.mpr (by assumption))
                     · obtain ⟨r1, r2, r3⟩ := r
                       rw [hnv hc] at r3
                       omega
                   have hf0 : rdFt (σ (m + 7)) z k i p (σ (m + 6)) = 0 := by rw [hft, if_neg hgood.1, if_neg hgood.2]
                   rw [if_neg (show ¬ ((1 : Int) = 0 ∧ (0 : Int) = 0) by omega)]
                   refine ⟨fun b b0 b6 => by rw [upS_ne b6, upS_ne b0], fun j j9 j10 j11 j12 j13 => by rw [upS_ne (by omega), upS_same, up1_ne j9], by rw [upS_ne (by omega), o9]; omega, fun _ => ⟨?_, ?_, by rw [upS_ne (by omega)]; exact o10, by rw [upS_ne (by omega), upS_same, up1_ne (by decide)]⟩, fun q => absurd hf0 q⟩
                   · rw [upS_ne (by omega), o9]
                     exact (if_neg hx).symm
                   · rw [upS_same, show rdVl (σ (m + 7)) z k i p = nuV (σ (m + 7)) z p from if_neg hx, hnv (by omega)])
                | (have hbad : nuBad (σ (m + 7)) z k i p ∨ dyBad (σ (m + 7)) z k i p (σ (m + 6)) := by
                     by_cases hc : (nuQ (σ (m + 7)) z p) ≤ (nuP (σ (m + 7)) z p) + 2
                     · first
                         | (exfalso; omega)
                         | (refine Or.inl (Or.inr (fun r => ?_))
                            rw [hnv hc] at r
                            have := hsu.mp r
                            contradiction)
                         | (refine Or.inr ⟨by omega, by omega, ?_⟩
                            rw [hnv hc]
                            omega)
                     · exact Or.inl (Or.inl (by omega))
                   have hf2 : rdFt (σ (m + 7)) z k i p (σ (m + 6)) = 2 := by
                     rw [hft]
                     by_cases q1 : nuBad (σ (m + 7)) z k i p
                     · rw [if_pos q1]
                     · rw [if_neg q1, if_pos (hbad.resolve_left q1)]
                   rw [if_pos (show (0 : Int) = 0 ∧ (0 : Int) = 0 from ⟨rfl, rfl⟩)]
                   refine ⟨fun b b0 b6 => by rw [upS_ne b0, upS_ne b6, upS_ne b0], fun j j9 j10 j11 j12 j13 => by rw [upS_same, up1_ne j11, up1_ne j10, upS_ne (by omega), upS_same, up1_ne j9], by rw [upS_same, up1_ne (by decide), up1_ne (by decide), upS_ne (by omega), o9]; omega, fun q => absurd q (by rw [hf2]; decide), fun _ => ⟨by rw [upS_same, up1_ne (by decide), up1_same, hf2], by rw [upS_same, up1_same, hat]⟩⟩)
theorem num_good {G : GT} {S : Shp} {σ : Sto} {m : Nat} {z k i p : Int} (hA : IsMod S m) (hb : bsOk (σ (m + 7)) z) (hz : σ m 8 = z) (h10 : σ m 10 = 0) (hk : 0 ≤ k ∧ k ≤ 5) (hi : 0 ≤ i ∧ i < xT 0 k) (rg : inR (σ (m + 6) 2)) (pb : 0 ≤ p ∧ p ≤ z) (hxx : ¬ axPl k i) (hfg : ((nuP (σ (m + 7)) z (skE (σ (m + 7)) z p)) < z ∧ (48 ≤ σ (m + 7) (nuP (σ (m + 7)) z (skE (σ (m + 7)) z p)) ∧ σ (m + 7) (nuP (σ (m + 7)) z (skE (σ (m + 7)) z p)) ≤ 57))) : PW (fm G mX12_readNumber 2 0 0 (fun r S' τ => r = none ∧ S' = S ∧ nrP σ τ m z k i (skE (σ (m + 7)) z p))) G S (upS σ m (up1 (σ m) 9 (nuP (σ (m + 7)) z (skE (σ (m + 7)) z p)))) 0 0 151 [(0, .ref m), (1, .int (iI k)), (2, .int (iI i)), (3, .int (iI (btF (σ (m + 7)) z (skE (σ (m + 7)) z p)))), (4, .int (iI (skE (σ (m + 7)) z p))), (5, .int (iI (b01 (btF (σ (m + 7)) z (skE (σ (m + 7)) z p) = 45))))] [.int (iI 1), .ref m] := by
  obtain ⟨hM0, hM1, hM2, hM3, hM4, hM5, hM6, hM7, hM8, hM9, hM10, hM11, hM12, hM13, hM14, hM15, hM16, hM17, hM18, hM19, hM20, hM21, hM22, hM23, hM24, hM25, hM26, hM27, hM28, hM29, hM30, hM31, hM32, hM33, hM34⟩ := id hA
  have hz0 := hb.1
  have hsk := skE_b (σ (m + 7)) z pb
  have hxt := xT_0 hk
  have hbt := btF_b hb (skE (σ (m + 7)) z p)
  have n1 := nuP_b (B := σ (m + 7)) (p := (skE (σ (m + 7)) z p)) (by omega : 0 ≤ (skE (σ (m + 7)) z p) ∧ (skE (σ (m + 7)) z p) ≤ z)
  refine PW.iconst dX12_readNumber_151 ?_
  refine PW.aload_n dX12_readNumber_152 rfl ?_
  refine PW.getI 9 fl_X12_249 rfl (by assumption) rfl rfl dX12_readNumber_153 ?_
  refine PW.top ((nuP (σ (m + 7)) z (skE (σ (m + 7)) z p))) (by rw [upS_same, up1_same]) ?_
  refine PW.callVr (c_X12_want (v := 1) hA (fo := 0) (by omega) (by rw [upS_same, up1_ne (by decide)]; exact h10) (by unfold inR; omega) (by omega)) cv_X12_want lk_X12_279 (by first | assumption | exact And.left (by assumption)) dX12_readNumber_156 rfl rfl rfl rfl ?_
  refine PW.if_neB 163 dX12_readNumber_159 (by decide) (fun h159 => ?_) (fun h159 => ?_)
  · refine PW.aload_n dX12_readNumber_163 rfl ?_
    refine PW.getI 9 fl_X12_249 rfl (by assumption) rfl rfl dX12_readNumber_164 ?_
    refine PW.top ((nuP (σ (m + 7)) z (skE (σ (m + 7)) z p))) (by rw [if_neg (by omega), upS_same, up1_same]) ?_
    refine PW.istore [(0, _), (1, _), (2, _), (3, _), (4, _), (5, _), (6, _)] dX12_readNumber_167 rfl (Nat.le_of_ble_eq_true rfl) ?_
    refine PW.iconst dX12_readNumber_169 ?_
    refine PW.istore [(0, _), (1, _), (2, _), (3, _), (4, _), (5, _), (6, _), (7, _)] dX12_readNumber_170 rfl (Nat.le_of_ble_eq_true rfl) ?_
    have hfgs : (nuP (σ (m + 7)) z (skE (σ (m + 7)) z p)) < z ∧ isFg (σ (m + 7) (nuP (σ (m + 7)) z (skE (σ (m + 7)) z p))) = true := ⟨hfg.1, decide_eq_true hfg.2⟩
    have hne : ¬ nuQ (σ (m + 7)) z (skE (σ (m + 7)) z p) = (nuP (σ (m + 7)) z (skE (σ (m + 7)) z p)) := fun e => by
      have h2 := runE_s isFg (σ (m + 7)) z (nuP (σ (m + 7)) z (skE (σ (m + 7)) z p))
      rw [if_pos hfgs] at h2
      have h3 := (runE_b isFg (σ (m + 7)) z ((nuP (σ (m + 7)) z (skE (σ (m + 7)) z p)) + 1)).1
      have h4 : nuQ (σ (m + 7)) z (skE (σ (m + 7)) z p) = runE isFg (σ (m + 7)) z (nuP (σ (m + 7)) z (skE (σ (m + 7)) z p)) := rfl
      omega
    refine PW.st (upS σ m (up1 (σ m) 9 (nuP (σ (m + 7)) z (skE (σ (m + 7)) z p)))) (by rw [if_neg (by omega)]) ?_
    refine mo_dig_loop hA hb hz (by omega) (fun v v0 v1 v2 => ?_) 302 (nuP (σ (m + 7)) z (skE (σ (m + 7)) z p)) 0 (by omega) (by omega) (by omega) rfl ⟨fun _ => rfl, fun e => by omega, fun e => by omega, by omega⟩
    exact num_end hA hb hz h10 hk hi rg (by omega) hxx hne v1 v2
  · exact absurd ⟨rfl, rfl⟩ h159
theorem num_none {G : GT} {S : Shp} {σ : Sto} {m : Nat} {z k i p : Int} (hA : IsMod S m) (hb : bsOk (σ (m + 7)) z) (hz : σ m 8 = z) (h10 : σ m 10 = 0) (hk : 0 ≤ k ∧ k ≤ 5) (hi : 0 ≤ i ∧ i < xT 0 k) (rg : inR (σ (m + 6) 2)) (pb : 0 ≤ p ∧ p ≤ z) (hxx : ¬ axPl k i) (hno : ¬ ((nuP (σ (m + 7)) z (skE (σ (m + 7)) z p)) < z ∧ (48 ≤ σ (m + 7) (nuP (σ (m + 7)) z (skE (σ (m + 7)) z p)) ∧ σ (m + 7) (nuP (σ (m + 7)) z (skE (σ (m + 7)) z p)) ≤ 57))) : PW (fm G mX12_readNumber 2 0 0 (fun r S' τ => r = none ∧ S' = S ∧ nrP σ τ m z k i (skE (σ (m + 7)) z p))) G S (upS σ m (up1 (σ m) 9 (nuP (σ (m + 7)) z (skE (σ (m + 7)) z p)))) 0 0 151 [(0, .ref m), (1, .int (iI k)), (2, .int (iI i)), (3, .int (iI (btF (σ (m + 7)) z (skE (σ (m + 7)) z p)))), (4, .int (iI (skE (σ (m + 7)) z p))), (5, .int (iI (b01 (btF (σ (m + 7)) z (skE (σ (m + 7)) z p) = 45))))] [.int (iI 0), .ref m] := by
  obtain ⟨hM0, hM1, hM2, hM3, hM4, hM5, hM6, hM7, hM8, hM9, hM10, hM11, hM12, hM13, hM14, hM15, hM16, hM17, hM18, hM19, hM20, hM21, hM22, hM23, hM24, hM25, hM26, hM27, hM28, hM29, hM30, hM31, hM32, hM33, hM34⟩ := id hA
  have hz0 := hb.1
  have hsk := skE_b (σ (m + 7)) z pb
  have hxt := xT_0 hk
  have hbt := btF_b hb (skE (σ (m + 7)) z p)
  have n1 := nuP_b (B := σ (m + 7)) (p := (skE (σ (m + 7)) z p)) (by omega : 0 ≤ (skE (σ (m + 7)) z p) ∧ (skE (σ (m + 7)) z p) ≤ z)
  refine PW.iconst dX12_readNumber_151 ?_
  refine PW.aload_n dX12_readNumber_152 rfl ?_
  refine PW.getI 9 fl_X12_249 rfl (by assumption) rfl rfl dX12_readNumber_153 ?_
  refine PW.top ((nuP (σ (m + 7)) z (skE (σ (m + 7)) z p))) (by rw [upS_same, up1_same]) ?_
  refine PW.callVr (c_X12_want (v := 0) hA (fo := 0) (by omega) (by rw [upS_same, up1_ne (by decide)]; exact h10) (by unfold inR; omega) (by omega)) cv_X12_want lk_X12_279 (by first | assumption | exact And.left (by assumption)) dX12_readNumber_156 rfl rfl rfl rfl ?_
  refine PW.if_neB 163 dX12_readNumber_159 (by decide) (fun h159 => ?_) (fun h159 => ?_)
  · exact absurd h159.1 (by decide)
  · refine PW.vret rfl dX12_readNumber_162 ⟨rfl, rfl, ?_⟩
    have hqe : nuQ (σ (m + 7)) z (skE (σ (m + 7)) z p) = (nuP (σ (m + 7)) z (skE (σ (m + 7)) z p)) := by
      show runE isFg (σ (m + 7)) z (nuP (σ (m + 7)) z (skE (σ (m + 7)) z p)) = (nuP (σ (m + 7)) z (skE (σ (m + 7)) z p))
      rw [runE_s, if_neg (fun r => hno ⟨r.1, of_decide_eq_true r.2⟩)]
    have hf1 : rdFt (σ (m + 7)) z k i (skE (σ (m + 7)) z p) (σ (m + 6)) = 1 := by
      unfold rdFt
      rw [if_neg hxx, if_pos hqe]
    have hat : rdAt (σ (m + 7)) z k i (skE (σ (m + 7)) z p) = (nuP (σ (m + 7)) z (skE (σ (m + 7)) z p)) := by
      unfold rdAt
      rw [if_neg hxx, if_pos hqe]
    rw [if_pos (show (0 : Int) = 0 ∧ (0 : Int) = 0 from ⟨rfl, rfl⟩)]
    exact ⟨fun b b0 b6 => by rw [upS_ne b0, upS_ne b0], fun j j9 j10 j11 j12 j13 => by rw [upS_same, up1_ne j11, up1_ne j10, upS_same, up1_ne j9], by rw [upS_same, up1_ne (by decide), up1_ne (by decide), upS_same, up1_same]; omega, fun q => absurd q (by rw [hf1]; decide), fun _ => ⟨by rw [upS_same, up1_ne (by decide), up1_same, hf1], by rw [upS_same, up1_same, hat]⟩⟩
theorem c_X12_readNumber {G : GT} {S : Shp} {σ : Sto} {m : Nat} {z k i p : Int} (hA : IsMod S m) (hb : bsOk (σ (m + 7)) z) (hz : σ m 8 = z) (h10 : σ m 10 = 0) (hk : 0 ≤ k ∧ k ≤ 5) (hi : 0 ≤ i ∧ i < xT 0 k) (rg : inR (σ (m + 6) 2)) (hp : σ m 9 = p) (pb : 0 ≤ p ∧ p ≤ z) : PMet G mX12_readNumber 2 0 0 [.ref m, .int (iI k), .int (iI i)] S σ (fun r S' τ => r = none ∧ S' = S ∧ nrP σ τ m z k i (skE (σ (m + 7)) z p)) := by
  obtain ⟨hM0, hM1, hM2, hM3, hM4, hM5, hM6, hM7, hM8, hM9, hM10, hM11, hM12, hM13, hM14, hM15, hM16, hM17, hM18, hM19, hM20, hM21, hM22, hM23, hM24, hM25, hM26, hM27, hM28, hM29, hM30, hM31, hM32, hM33, hM34⟩ := id hA
  have hz0 := hb.1
  have hsk := skE_b (σ (m + 7)) z pb
  have hxt := xT_0 hk
  have hbt := btF_b hb (skE (σ (m + 7)) z p)
  have n1 := nuP_b (B := σ (m + 7)) (p := (skE (σ (m + 7)) z p)) (by omega : 0 ≤ (skE (σ (m + 7)) z p) ∧ (skE (σ (m + 7)) z p) ≤ z)
  refine PMet.of [(0, .ref m), (1, .int (iI (k))), (2, .int (iI (i)))] (by decide +kernel) rfl (Nat.le_of_ble_eq_true rfl) ?_
  refine PW.iload_n dX12_readNumber_0 rfl ?_
  refine PW.iload_n dX12_readNumber_1 rfl ?_
  refine PW.callSr (c_X12_isAxis (by first | assumption | (unfold inR; omega)) (by first | assumption | (unfold inR; omega))) cs_X12_isAxis lk_X12_272 dX12_readNumber_2 rfl rfl rfl ?_
  refine PW.if_eqB 74 dX12_readNumber_5 (by decide) (fun h5 => ?_) (fun h5 => ?_)
  · refine PW.aload_n dX12_readNumber_74 rfl ?_
    refine PW.callVr (c_X12_here hA hb hz hp pb) cv_X12_here lk_X12_255 (by first | assumption | exact And.left (by assumption)) dX12_readNumber_75 rfl rfl rfl rfl ?_
    refine PW.istore_n [(0, _), (1, _), (2, _), (3, _)] dX12_readNumber_78 rfl (Nat.le_of_ble_eq_true rfl) ?_
    refine PW.aload_n dX12_readNumber_79 rfl ?_
    refine PW.getI 9 fl_X12_249 rfl (by assumption) rfl rfl dX12_readNumber_80 ?_
    refine PW.top ((skE (σ (m + 7)) z p)) (by rw [upS_same, up1_same]) ?_
    refine PW.istore [(0, _), (1, _), (2, _), (3, _), (4, _)] dX12_readNumber_83 rfl (Nat.le_of_ble_eq_true rfl) ?_
    refine PW.iload_n dX12_readNumber_85 rfl ?_
    refine PW.bipush (by decide) dX12_readNumber_86 ?_
    refine PW.icmp_ne 95 dX12_readNumber_88 (by decide) (by first | assumption | (unfold inR; omega)) (by first | assumption | (unfold inR; omega)) (fun h88 => ?_) (fun h88 => ?_)
    · refine PW.iconst dX12_readNumber_95 ?_
      first
        | (refine PW.top (b01 (btF (σ (m + 7)) z (skE (σ (m + 7)) z p) = 45)) (by rw [b01_t (by assumption)]) ?_)
        | (refine PW.top (b01 (btF (σ (m + 7)) z (skE (σ (m + 7)) z p) = 45)) (by rw [b01_f (by assumption)]) ?_)
      refine PW.istore [(0, _), (1, _), (2, _), (3, _), (4, _), (5, _)] dX12_readNumber_96 rfl (Nat.le_of_ble_eq_true rfl) ?_
      refine PW.aload_n dX12_readNumber_98 rfl ?_
      refine PW.dup rfl dX12_readNumber_99 ?_
      refine PW.getI 9 fl_X12_249 rfl (by assumption) rfl rfl dX12_readNumber_100 ?_
      refine PW.top ((skE (σ (m + 7)) z p)) (by rw [upS_same, up1_same]) ?_
      refine PW.iload dX12_readNumber_103 rfl ?_
      refine PW.callSr (c_X12_bit (b01_b _)) cs_X12_bit lk_X12_207 dX12_readNumber_105 rfl rfl rfl ?_
      refine PW.iadd dX12_readNumber_108 ?_
      refine PW.putI 9 fl_X12_249 rfl (fun h => absurd h (by decide)) (by assumption) rfl rfl rfl rfl dX12_readNumber_109 ?_
      refine PW.st (upS σ m (up1 (σ m) 9 (nuP (σ (m + 7)) z (skE (σ (m + 7)) z p)))) (by rw [upS_upS, upS_same, up1_up1]; rfl) ?_
      refine PW.aload_n dX12_readNumber_112 rfl ?_
      refine PW.aload_n dX12_readNumber_113 rfl ?_
      refine PW.getI 9 fl_X12_249 rfl (by assumption) rfl rfl dX12_readNumber_114 ?_
      refine PW.top ((nuP (σ (m + 7)) z (skE (σ (m + 7)) z p))) (by rw [upS_same, up1_same]) ?_
      refine PW.aload_n dX12_readNumber_117 rfl ?_
      refine PW.getI 8 fl_X12_236 rfl (by assumption) rfl rfl dX12_readNumber_118 ?_
      refine PW.top (z) (by rw [upS_same, up1_ne (by decide)]; exact hz) ?_
      refine PW.icmp_ge 150 dX12_readNumber_121 (by decide) (by first | assumption | (unfold inR; omega)) (by first | assumption | (unfold inR; omega)) (fun h121 => ?_) (fun h121 => ?_)
      · refine PW.iconst dX12_readNumber_150 ?_
        first
          | exact num_good hA hb hz h10 hk hi rg pb (by assumption) ⟨by omega, by assumption⟩
          | exact num_none hA hb hz h10 hk hi rg pb (by assumption) (fun r => by first | omega | exact absurd r.2 (by assumption))
      · refine PW.aload_n dX12_readNumber_124 rfl ?_
        refine PW.getR fl_X12_30 rfl (by assumption) rfl dX12_readNumber_125 ?_
        refine PW.aload_n dX12_readNumber_128 rfl ?_
        refine PW.getI 9 fl_X12_249 rfl (by assumption) rfl rfl dX12_readNumber_129 ?_
        refine PW.top ((nuP (σ (m + 7)) z (skE (σ (m + 7)) z p))) (by rw [upS_same, up1_same]) ?_
        have hvv := hb.2 (nuP (σ (m + 7)) z (skE (σ (m + 7)) z p)) (by omega) (by omega)
        refine PW.iaload (by assumption) (by unfold inR; omega) (by omega) (by omega) dX12_readNumber_132 ?_
        refine PW.top (σ (m + 7) (nuP (σ (m + 7)) z (skE (σ (m + 7)) z p))) (by rw [upS_ne (by omega)]) ?_
        refine PW.i2l (by first | assumption | (unfold inR; omega)) dX12_readNumber_133 ?_
        refine PW.ldc2 (48) kc_X12_283 rfl rfl dX12_readNumber_134 ?_
        refine PW.ldc2 (57) kc_X12_285 rfl rfl dX12_readNumber_137 ?_
        refine PW.callSr (c_X12_in (by unfold inL; omega) (by unfold inL; omega) (by unfold inL; omega)) cs_X12_in lk_X12_134 dX12_readNumber_140 rfl rfl rfl ?_
        refine PW.if_eqB 150 dX12_readNumber_143 (by decide) (fun h143 => ?_) (fun h143 => ?_)
        · refine PW.iconst dX12_readNumber_150 ?_
          first
            | exact num_good hA hb hz h10 hk hi rg pb (by assumption) ⟨by omega, by assumption⟩
            | exact num_none hA hb hz h10 hk hi rg pb (by assumption) (fun r => by first | omega | exact absurd r.2 (by assumption))
        · refine PW.iconst dX12_readNumber_146 ?_
          refine PW.goto 151 dX12_readNumber_147 (by decide) ?_
          first
            | exact num_good hA hb hz h10 hk hi rg pb (by assumption) ⟨by omega, by assumption⟩
            | exact num_none hA hb hz h10 hk hi rg pb (by assumption) (fun r => by first | omega | exact absurd r.2 (by assumption))
    · refine PW.iconst dX12_readNumber_91 ?_
      refine PW.goto 96 dX12_readNumber_92 (by decide) ?_
      first
        | (refine PW.top (b01 (btF (σ (m + 7)) z (skE (σ (m + 7)) z p) = 45)) (by rw [b01_t (by assumption)]) ?_)
        | (refine PW.top (b01 (btF (σ (m + 7)) z (skE (σ (m + 7)) z p) = 45)) (by rw [b01_f (by assumption)]) ?_)
      refine PW.istore [(0, _), (1, _), (2, _), (3, _), (4, _), (5, _)] dX12_readNumber_96 rfl (Nat.le_of_ble_eq_true rfl) ?_
      refine PW.aload_n dX12_readNumber_98 rfl ?_
      refine PW.dup rfl dX12_readNumber_99 ?_
      refine PW.getI 9 fl_X12_249 rfl (by assumption) rfl rfl dX12_readNumber_100 ?_
      refine PW.top ((skE (σ (m + 7)) z p)) (by rw [upS_same, up1_same]) ?_
      refine PW.iload dX12_readNumber_103 rfl ?_
      refine PW.callSr (c_X12_bit (b01_b _)) cs_X12_bit lk_X12_207 dX12_readNumber_105 rfl rfl rfl ?_
      refine PW.iadd dX12_readNumber_108 ?_
      refine PW.putI 9 fl_X12_249 rfl (fun h => absurd h (by decide)) (by assumption) rfl rfl rfl rfl dX12_readNumber_109 ?_
      refine PW.st (upS σ m (up1 (σ m) 9 (nuP (σ (m + 7)) z (skE (σ (m + 7)) z p)))) (by rw [upS_upS, upS_same, up1_up1]; rfl) ?_
      refine PW.aload_n dX12_readNumber_112 rfl ?_
      refine PW.aload_n dX12_readNumber_113 rfl ?_
      refine PW.getI 9 fl_X12_249 rfl (by assumption) rfl rfl dX12_readNumber_114 ?_
      refine PW.top ((nuP (σ (m + 7)) z (skE (σ (m + 7)) z p))) (by rw [upS_same, up1_same]) ?_
      refine PW.aload_n dX12_readNumber_117 rfl ?_
      refine PW.getI 8 fl_X12_236 rfl (by assumption) rfl rfl dX12_readNumber_118 ?_
      refine PW.top (z) (by rw [upS_same, up1_ne (by decide)]; exact hz) ?_
      refine PW.icmp_ge 150 dX12_readNumber_121 (by decide) (by first | assumption | (unfold inR; omega)) (by first | assumption | (unfold inR; omega)) (fun h121 => ?_) (fun h121 => ?_)
      · refine PW.iconst dX12_readNumber_150 ?_
        first
          | exact num_good hA hb hz h10 hk hi rg pb (by assumption) ⟨by omega, by assumption⟩
          | exact num_none hA hb hz h10 hk hi rg pb (by assumption) (fun r => by first | omega | exact absurd r.2 (by assumption))
      · refine PW.aload_n dX12_readNumber_124 rfl ?_
        refine PW.getR fl_X12_30 rfl (by assumption) rfl dX12_readNumber_125 ?_
        refine PW.aload_n dX12_readNumber_128 rfl ?_
        refine PW.getI 9 fl_X12_249 rfl (by assumption) rfl rfl dX12_readNumber_129 ?_
        refine PW.top ((nuP (σ (m + 7)) z (skE (σ (m + 7)) z p))) (by rw [upS_same, up1_same]) ?_
        have hvv := hb.2 (nuP (σ (m + 7)) z (skE (σ (m + 7)) z p)) (by omega) (by omega)
        refine PW.iaload (by assumption) (by unfold inR; omega) (by omega) (by omega) dX12_readNumber_132 ?_
        refine PW.top (σ (m + 7) (nuP (σ (m + 7)) z (skE (σ (m + 7)) z p))) (by rw [upS_ne (by omega)]) ?_
        refine PW.i2l (by first | assumption | (unfold inR; omega)) dX12_readNumber_133 ?_
        refine PW.ldc2 (48) kc_X12_283 rfl rfl dX12_readNumber_134 ?_
        refine PW.ldc2 (57) kc_X12_285 rfl rfl dX12_readNumber_137 ?_
        refine PW.callSr (c_X12_in (by unfold inL; omega) (by unfold inL; omega) (by unfold inL; omega)) cs_X12_in lk_X12_134 dX12_readNumber_140 rfl rfl rfl ?_
        refine PW.if_eqB 150 dX12_readNumber_143 (by decide) (fun h143 => ?_) (fun h143 => ?_)
        · refine PW.iconst dX12_readNumber_150 ?_
          first
            | exact num_good hA hb hz h10 hk hi rg pb (by assumption) ⟨by omega, by assumption⟩
            | exact num_none hA hb hz h10 hk hi rg pb (by assumption) (fun r => by first | omega | exact absurd r.2 (by assumption))
        · refine PW.iconst dX12_readNumber_146 ?_
          refine PW.goto 151 dX12_readNumber_147 (by decide) ?_
          first
            | exact num_good hA hb hz h10 hk hi rg pb (by assumption) ⟨by omega, by assumption⟩
            | exact num_none hA hb hz h10 hk hi rg pb (by assumption) (fun r => by first | omega | exact absurd r.2 (by assumption))
  · exact axis_br hA hb hz h10 hk hi rg hp pb (by assumption)

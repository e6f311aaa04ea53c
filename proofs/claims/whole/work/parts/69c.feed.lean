def byM (b : Int64) (i : Int) : Int := (((b >>> ((iI (8 * i)).toInt64 &&& 63)) &&& lI 255).toInt32).toInt
theorem byM_bv (b : BitVec 64) (s : Nat) (hs : s ≤ 56) : ((b.sshiftRight s) &&& 255#64).signExtend 32 = ((b >>> s).signExtend 32) &&& 255#32 := by
  rw [BitVec.signExtend_eq_setWidth_of_le _ (by omega), BitVec.signExtend_eq_setWidth_of_le _ (by omega)]
  apply BitVec.eq_of_getLsbD_eq
  intro j hj
  simp only [BitVec.getLsbD_setWidth, BitVec.getLsbD_and, BitVec.getLsbD_sshiftRight, BitVec.getLsbD_ushiftRight]
  by_cases h8 : j < 8
  · have h1 : ¬ 64 ≤ j := by omega
    have h2 : s + j < 64 := by omega
    have e : (255#64).getLsbD j = (255#32).getLsbD j := by
      rcases (show j = 0 ∨ j = 1 ∨ j = 2 ∨ j = 3 ∨ j = 4 ∨ j = 5 ∨ j = 6 ∨ j = 7 by omega) with rfl | rfl | rfl | rfl | rfl | rfl | rfl | rfl <;> rfl
    rw [e]
    simp [h1, h2, Bool.and_assoc]
  · have e1 : (255#64).getLsbD j = false := by
      have : ∀ q : Fin 32, ¬ q.val < 8 → (255#64).getLsbD q.val = false := by decide
      exact this ⟨j, hj⟩ h8
    have e2 : (255#32).getLsbD j = false := by
      have : ∀ q : Fin 32, ¬ q.val < 8 → (255#32).getLsbD q.val = false := by decide
      exact this ⟨j, hj⟩ h8
    rw [e1, e2]
    simp
theorem byM_eq {b : Int64} {i : Int} (h0 : 0 ≤ i) (h1 : i ≤ 7) : byM b i = byU b i := by
  have key : ∀ s : Nat, s ≤ 56 → ∀ (u : Int64) (w : UInt64), (b >>> u).toBitVec = b.toBitVec.sshiftRight s → (b.toUInt64 >>> w).toBitVec = b.toBitVec >>> s → (((b >>> u) &&& lI 255).toInt32).toInt = bAnd ((b.toUInt64 >>> w).toInt64.toInt32).toInt 255 := by
    intro s hs u w hu hw
    unfold bAnd
    rw [iI_of]
    apply congrArg Int32.toInt
    apply Int32.toBitVec.inj
    show ((b >>> u).toBitVec &&& 255#64).signExtend 32 = ((b.toUInt64 >>> w).toBitVec.signExtend 32) &&& 255#32
    rw [hu, hw]
    exact byM_bv _ s hs
  unfold byM byU
  rcases (show i = 0 ∨ i = 1 ∨ i = 2 ∨ i = 3 ∨ i = 4 ∨ i = 5 ∨ i = 6 ∨ i = 7 by omega) with rfl | rfl | rfl | rfl | rfl | rfl | rfl | rfl
  · exact key 0 (by decide) _ _ rfl rfl
  · exact key 8 (by decide) _ _ rfl rfl
  · exact key 16 (by decide) _ _ rfl rfl
  · exact key 24 (by decide) _ _ rfl rfl
  · exact key 32 (by decide) _ _ rfl rfl
  · exact key 40 (by decide) _ _ rfl rfl
  · exact key 48 (by decide) _ _ rfl rfl
  · exact key 56 (by decide) _ _ rfl rfl
/-- bytes behind the text -/
def fdM (B : Int → Int) (z c k : Int) (b : Int64) : Int → Int := fun q => if z ≤ q ∧ q < z + c then byM b (k - (q - z)) else B q
theorem fdM_s (B : Int → Int) (z k : Int) (b : Int64) {c : Int} (h : 0 ≤ c) : up1 (fdM B z c k b) (z + c) (byM b (k - c)) = fdM B z (c + 1) k b := by
  funext q
  unfold up1 fdM
  by_cases hq : q = z + c
  · subst hq
    rw [if_pos rfl, if_pos (by omega)]
    congr 1
    omega
  · rw [if_neg hq]
    by_cases h2 : z ≤ q ∧ q < z + c
    · rw [if_pos h2, if_pos (by omega)]
    · rw [if_neg h2, if_neg (by omega)]
theorem fdM_0 (B : Int → Int) (z k : Int) (b : Int64) : fdM B z 0 k b = B := by
  funext q
  unfold fdM
  rw [if_neg (by omega)]
theorem fdM_eq {B : Int → Int} {z c : Int} {b : Int64} (h : c ≤ 8) : fdM B z c (c - 1) b = fdF B z c (c - 1) b := by
  funext q
  unfold fdM fdF
  by_cases h2 : z ≤ q ∧ q < z + c
  · rw [if_pos h2, if_pos h2, byM_eq (by omega) (by omega)]
  · rw [if_neg h2, if_neg h2]
theorem mo_feed_loop {G : GT} {S : Shp} {σ : Sto} {m : Nat} {z n : Int} {b : Int64} {Q : Option Value → Shp → Sto → Prop} (hA : IsMod S m) (hz : σ m 8 = z) (zb : 0 ≤ z ∧ z ≤ 300 - n) (nb : 1 ≤ n ∧ n ≤ 8) (hQ : Q (some (.int (iI (z + n)))) S (upS (upS σ (m + 7) (fdM (σ (m + 7)) z (n) (n - 1) b)) m (up1 (σ m) 8 (z + (n))))) : ∀ (t : Nat) (i : Int), -1 ≤ i → i ≤ n - 1 → i + 1 < t → PW (fm G mX12_feed 1 0 0 Q) G S (upS (upS σ (m + 7) (fdM (σ (m + 7)) z (n - 1 - i) (n - 1) b)) m (up1 (σ m) 8 (z + (n - 1 - i)))) 0 0 35 [(0, .ref m), (1, .int (iI (n))), (2, .long b), (4, .int (iI (i)))] [] := by
  obtain ⟨hM0, hM1, hM2, hM3, hM4, hM5, hM6, hM7, hM8, hM9, hM10, hM11, hM12, hM13, hM14, hM15, hM16, hM17, hM18, hM19, hM20, hM21, hM22, hM23, hM24, hM25, hM26, hM27, hM28, hM29, hM30, hM31, hM32, hM33, hM34⟩ := id hA
  intro t
  induction t with
  | zero => intro i h1 h2 h3; omega
  | succ t ih =>
    intro i h1 h2 h3
    have o8 : (upS (upS σ (m + 7) (fdM (σ (m + 7)) z (n - 1 - i) (n - 1) b)) m (up1 (σ m) 8 (z + (n - 1 - i)))) m 8 = z + (n - 1 - i) := by rw [upS_same, up1_same]
    refine PW.iload dX12_feed_35 rfl ?_
    refine PW.if_lt 77 dX12_feed_37 (by decide) (by first | assumption | (unfold inR; omega)) (fun h37 => ?_) (fun h37 => ?_)
    · refine PW.aload_n dX12_feed_77 rfl ?_
      refine PW.getI 8 fl_X12_236 rfl (by assumption) rfl rfl dX12_feed_78 ?_
      refine PW.top (z + n) (by rw [o8]; omega) ?_
      have hi : i = -1 := by omega
      subst hi
      rw [show n - 1 - -1 = n by omega]
      exact PW.iret rfl rfl dX12_feed_81 hQ
    · refine PW.aload_n dX12_feed_40 rfl ?_
      refine PW.getR fl_X12_30 rfl (by assumption) rfl dX12_feed_41 ?_
      refine PW.aload_n dX12_feed_44 rfl ?_
      refine PW.getI 8 fl_X12_236 rfl (by assumption) rfl rfl dX12_feed_45 ?_
      refine PW.top (z + (n - 1 - i)) (by exact o8) ?_
      refine PW.lload_n dX12_feed_48 rfl ?_
      refine PW.bipush (by decide) dX12_feed_49 ?_
      refine PW.iload dX12_feed_51 rfl ?_
      refine PW.imul dX12_feed_53 ?_
      refine PW.lshr (hd := dX12_feed_54) rfl ?_
      refine PW.ldc2 (255) kc_X12_247 rfl rfl dX12_feed_55 ?_
      refine PW.land dX12_feed_58 ?_
      refine PW.l2i (iI_of _).symm dX12_feed_59 ?_
      refine PW.top (byM b i) rfl ?_
      refine PW.iastore (by assumption) (by first | assumption | (unfold inR; omega)) (by omega) (by omega) dX12_feed_60 ?_
      refine PW.aload_n dX12_feed_61 rfl ?_
      refine PW.dup rfl dX12_feed_62 ?_
      refine PW.getI 8 fl_X12_236 rfl (by assumption) rfl rfl dX12_feed_63 ?_
      refine PW.top (z + (n - 1 - i)) (by rw [upS_ne (by omega)]; exact o8) ?_
      refine PW.iconst dX12_feed_66 ?_
      refine PW.iadd dX12_feed_67 ?_
      refine PW.putI 8 fl_X12_236 rfl (fun h => absurd h (by decide)) (by assumption) rfl rfl rfl rfl dX12_feed_68 ?_
      refine PW.st (upS (upS σ (m + 7) (fdM (σ (m + 7)) z (n - 1 - i + 1) (n - 1) b)) m (up1 (σ m) 8 (z + (n - 1 - i + 1)))) ?_ ?_
      · rw [upS_ne (show m ≠ m + 7 by omega), upS_ne (show m + 7 ≠ m by omega), upS_same, upS_same]
        have ef := fdM_s (σ (m + 7)) z (n - 1) b (c := n - 1 - i) (by omega)
        rw [show n - 1 - (n - 1 - i) = i by omega] at ef
        rw [upS_comm (show m ≠ m + 7 by omega), upS_upS, upS_upS, up1_up1, ef, show z + (n - 1 - i) + 1 = z + (n - 1 - i + 1) by omega]
      · refine PW.iinc [(0, _), (1, _), (2, _), (4, _)] dX12_feed_71 rfl rfl (Nat.le_of_ble_eq_true rfl) ?_
        refine PW.goto 35 dX12_feed_74 (by decide) ?_
        have e := ih (i + -1) (by omega) (by omega) (by omega)
        rw [show n - 1 - (i + -1) = n - 1 - i + 1 by omega] at e
        exact e
theorem c_X12_feed {G : GT} {S : Shp} {σ : Sto} {m : Nat} {z n : Int} {b : Int64} (hA : IsMod S m) (hz : σ m 8 = z) (zb : 0 ≤ z ∧ z ≤ 300) (rn : inR n) : PMet G mX12_feed 1 0 0 [.ref m, .int (iI n), .long b] S σ (isP (some (.int (iI (if ¬ (1 ≤ n ∧ n ≤ 8) then -100002 else if 300 - n < z then -100004 else z + n)))) S (if (1 ≤ n ∧ n ≤ 8) ∧ ¬ 300 - n < z then upS (upS σ (m + 7) (fdF (σ (m + 7)) z n (n - 1) b)) m (up1 (σ m) 8 (z + n)) else σ)) := by
  obtain ⟨hM0, hM1, hM2, hM3, hM4, hM5, hM6, hM7, hM8, hM9, hM10, hM11, hM12, hM13, hM14, hM15, hM16, hM17, hM18, hM19, hM20, hM21, hM22, hM23, hM24, hM25, hM26, hM27, hM28, hM29, hM30, hM31, hM32, hM33, hM34⟩ := id hA
  refine PMet.of [(0, .ref m), (1, .int (iI n)), (2, .long b)] (by decide +kernel) rfl (Nat.le_of_ble_eq_true rfl) ?_
  refine PW.iload_n dX12_feed_0 rfl ?_
  refine PW.i2l (by first | assumption | (unfold inR; omega)) dX12_feed_1 ?_
  refine PW.lconst (z := 1) rfl dX12_feed_2 ?_
  refine PW.ldc2 (8) kc_X12_245 rfl rfl dX12_feed_3 ?_
  refine PW.callSr (c_X12_in (inL_R rn) (by unfold inL; omega) (by unfold inL; omega)) cs_X12_in lk_X12_134 dX12_feed_6 rfl rfl rfl ?_
  refine PW.if_neB 15 dX12_feed_9 (by decide) (fun h9 => ?_) (fun h9 => ?_)
  · refine PW.aload_n dX12_feed_15 rfl ?_
    refine PW.getI 8 fl_X12_236 rfl (by assumption) rfl rfl dX12_feed_16 ?_
    refine PW.top (z) (by exact hz) ?_
    refine PW.iload_n dX12_feed_19 rfl ?_
    refine PW.iadd dX12_feed_20 ?_
    refine PW.sipush (by decide) dX12_feed_21 ?_
    refine PW.icmp_le 30 dX12_feed_24 (by decide) (by first | assumption | (unfold inR; omega)) (by first | assumption | (unfold inR; omega)) (fun h24 => ?_) (fun h24 => ?_)
    · refine PW.iload_n dX12_feed_30 rfl ?_
      refine PW.iconst dX12_feed_31 ?_
      refine PW.isub dX12_feed_32 ?_
      refine PW.istore [(0, _), (1, _), (2, _), (4, _)] dX12_feed_33 rfl (Nat.le_of_ble_eq_true rfl) ?_
      refine PW.st (upS (upS σ (m + 7) (fdM (σ (m + 7)) z (n - 1 - (n - 1)) (n - 1) b)) m (up1 (σ m) 8 (z + (n - 1 - (n - 1))))) ?_ (mo_feed_loop hA hz (by omega) (by omega) ⟨?_, rfl, ?_⟩ 9 (n - 1) (by omega) (by omega) (by omega))
      · rw [show n - 1 - (n - 1) = 0 by omega, fdM_0, upS_self, Int.add_zero, ← hz, up1_self, upS_self]
      · exact ret_eq (Eq.symm ((if_neg (by omega)).trans (if_neg (by omega))))
      · rw [if_pos ⟨by omega, by omega⟩, fdM_eq (by omega)]
    · refine PW.ldc (-100004) kc_X12_196 rfl rfl dX12_feed_27 ?_
      exact PW.iret rfl rfl dX12_feed_29 ⟨ret_eq (by rw [if_neg (by omega), if_pos (by omega)]), rfl, by rw [if_neg (by omega)]⟩
  · refine PW.ldc (-100002) kc_X12_195 rfl rfl dX12_feed_12 ?_
    exact PW.iret rfl rfl dX12_feed_14 ⟨ret_eq (by rw [if_pos (by omega)]), rfl, by rw [if_neg (by omega)]⟩

def pthL (m : Nat) : List (List Int) := match m with
  | 0 => [[]]
  | 1 => [[], [0]]
  | 2 => [[], [0], [1], [0, 1], [1, 0]]
  | 3 => [[], [0], [1], [2], [0, 1], [0, 2], [1, 0], [1, 2], [2, 0], [2, 1], [0, 1, 2], [0, 2, 1], [1, 0, 2], [1, 2, 0], [2, 0, 1], [2, 1, 0]]
  | _ => [[], [0], [1], [2], [3], [0, 1], [0, 2], [0, 3], [1, 0], [1, 2], [1, 3], [2, 0], [2, 1], [2, 3], [3, 0], [3, 1], [3, 2], [0, 1, 2], [0, 1, 3], [0, 2, 1], [0, 2, 3], [0, 3, 1], [0, 3, 2], [1, 0, 2], [1, 0, 3], [1, 2, 0], [1, 2, 3], [1, 3, 0], [1, 3, 2], [2, 0, 1], [2, 0, 3], [2, 1, 0], [2, 1, 3], [2, 3, 0], [2, 3, 1], [3, 0, 1], [3, 0, 2], [3, 1, 0], [3, 1, 2], [3, 2, 0], [3, 2, 1], [0, 1, 2, 3], [0, 1, 3, 2], [0, 2, 1, 3], [0, 2, 3, 1], [0, 3, 1, 2], [0, 3, 2, 1], [1, 0, 2, 3], [1, 0, 3, 2], [1, 2, 0, 3], [1, 2, 3, 0], [1, 3, 0, 2], [1, 3, 2, 0], [2, 0, 1, 3], [2, 0, 3, 1], [2, 1, 0, 3], [2, 1, 3, 0], [2, 3, 0, 1], [2, 3, 1, 0], [3, 0, 1, 2], [3, 0, 2, 1], [3, 1, 0, 2], [3, 1, 2, 0], [3, 2, 0, 1], [3, 2, 1, 0]]
def befL (m : Nat) : List Int := match m with
  | 0 => [0]
  | 1 => [0, 0]
  | 2 => [0, 0, 0, 1, 2]
  | 3 => [0, 0, 0, 0, 1, 1, 2, 2, 3, 3, 4, 5, 6, 7, 8, 9]
  | _ => [0, 0, 0, 0, 0, 1, 1, 1, 2, 2, 2, 3, 3, 3, 4, 4, 4, 5, 5, 6, 6, 7, 7, 8, 8, 9, 9, 10, 10, 11, 11, 12, 12, 13, 13, 14, 14, 15, 15, 16, 16, 17, 18, 19, 20, 21, 22, 23, 24, 25, 26, 27, 28, 29, 30, 31, 32, 33, 34, 35, 36, 37, 38, 39, 40]
def adL (m : Nat) : List Int := match m with
  | 0 => [-1]
  | 1 => [-1, 0]
  | 2 => [-1, 0, 1, 1, 0]
  | 3 => [-1, 0, 1, 2, 1, 2, 0, 2, 0, 1, 2, 1, 2, 0, 1, 0]
  | _ => [-1, 0, 1, 2, 3, 1, 2, 3, 0, 2, 3, 0, 1, 3, 0, 1, 2, 2, 3, 1, 3, 1, 2, 2, 3, 0, 3, 0, 2, 1, 3, 0, 3, 0, 1, 1, 2, 0, 2, 0, 1, 3, 2, 3, 1, 2, 1, 3, 2, 3, 0, 2, 0, 3, 1, 3, 0, 1, 0, 2, 1, 2, 0, 1, 0]
def hdL (m : Nat) : List Int := match m with
  | 0 => [0]
  | 1 => [0, 1]
  | 2 => [0, 1, 2, 3, 3]
  | 3 => [0, 1, 2, 4, 3, 5, 3, 6, 5, 6, 7, 7, 7, 7, 7, 7]
  | _ => [0, 1, 2, 4, 8, 3, 5, 9, 3, 6, 10, 5, 6, 12, 9, 10, 12, 7, 11, 7, 13, 11, 13, 7, 11, 7, 14, 11, 14, 7, 13, 7, 14, 13, 14, 11, 13, 11, 14, 13, 14, 15, 15, 15, 15, 15, 15, 15, 15, 15, 15, 15, 15, 15, 15, 15, 15, 15, 15, 15, 15, 15, 15, 15, 15]
def cSL (m : Nat) : List Int := match m with
  | 0 => [1, 1]
  | 1 => [1, 2, 2]
  | 2 => [1, 3, 4, 5, 5, 5]
  | 3 => [1, 4, 6, 8, 10, 11, 12, 13, 14, 15, 16, 16, 16, 16, 16, 16, 16]
  | _ => [1, 5, 8, 11, 14, 17, 19, 21, 23, 25, 27, 29, 31, 33, 35, 37, 39, 41, 42, 43, 44, 45, 46, 47, 48, 49, 50, 51, 52, 53, 54, 55, 56, 57, 58, 59, 60, 61, 62, 63, 64, 65, 65, 65, 65, 65, 65, 65, 65, 65, 65, 65, 65, 65, 65, 65, 65, 65, 65, 65, 65, 65, 65, 65, 65, 65]
def pthN (m s : Nat) : List Int := (pthL m).getD s []
def befN (m s : Nat) : Int := (befL m).getD s 0
def adN (m s : Nat) : Int := (adL m).getD s 0
def hdN (m s : Nat) : Int := (hdL m).getD s 0
def nSN (m : Nat) : Int := ((pthL m).length : Int)
def lenN (m s : Nat) : Int := ((pthN m s).length : Int)
def cntN (m s i : Nat) : Int := (cSL m).getD s 0 + (((List.range i).filter (fun j : Nat => decide (¬ inS (hdN m s) (j : Int)))).length : Int)
theorem tb_A0 : ∀ m : Fin 5, ∀ s : Fin 65, (s.val : Int) < nSN m.val → 1 ≤ s.val → (0 ≤ befN m.val s.val ∧ befN m.val s.val < (s.val : Int)) ∧ (0 ≤ adN m.val s.val ∧ adN m.val s.val < (m.val : Int)) ∧ pthN m.val s.val = pthN m.val (befN m.val s.val).toNat ++ [adN m.val s.val] := by decide +kernel
theorem tb_B0 : ∀ m : Fin 5, ∀ s : Fin 65, (s.val : Int) < nSN m.val → (0 ≤ hdN m.val s.val ∧ hdN m.val s.val < 16) ∧ lenN m.val s.val ≤ 4 ∧ (s.val : Int) < cntN m.val s.val 0 ∧ cntN m.val s.val m.val = cntN m.val (s.val + 1) 0 := by decide +kernel
theorem tb_C0 : ∀ m : Fin 5, cntN m.val 0 0 = 1 ∧ befN m.val 0 = 0 ∧ adN m.val 0 = -1 ∧ hdN m.val 0 = 0 ∧ pthN m.val 0 = [] ∧ cntN m.val (nSN m.val).toNat 0 = nSN m.val ∧ 1 ≤ nSN m.val ∧ nSN m.val ≤ 65 := by decide +kernel
theorem tb_D0 : ∀ m : Fin 5, ∀ s : Fin 65, ∀ i : Fin 4, (s.val : Int) < nSN m.val → i.val < m.val → (1 ≤ cntN m.val s.val i.val ∧ cntN m.val s.val i.val ≤ nSN m.val) ∧ if inS (hdN m.val s.val) (i.val : Int) then cntN m.val s.val (i.val + 1) = cntN m.val s.val i.val else cntN m.val s.val (i.val + 1) = cntN m.val s.val i.val + 1 ∧ cntN m.val s.val i.val < nSN m.val ∧ befN m.val (cntN m.val s.val i.val).toNat = (s.val : Int) ∧ adN m.val (cntN m.val s.val i.val).toNat = (i.val : Int) ∧ hdN m.val (cntN m.val s.val i.val).toNat = orS (hdN m.val s.val) (i.val : Int) ∧ lenN m.val (cntN m.val s.val i.val).toNat = lenN m.val s.val + 1 := by decide +kernel
/-- how many stories m events that may be make, the story a story goes on from, the event that it adds, and so on -/
abbrev nS (m : Int) : Int := nSN m.toNat
abbrev bef (m s : Int) : Int := befN m.toNat s.toNat
abbrev adE (m s : Int) : Int := adN m.toNat s.toNat
abbrev hdE (m s : Int) : Int := hdN m.toNat s.toNat
abbrev lnE (m s : Int) : Int := lenN m.toNat s.toNat
abbrev pth (m s : Int) : List Int := pthN m.toNat s.toNat
abbrev cnt (m s i : Int) : Int := cntN m.toNat s.toNat i.toNat
theorem nS_b {m : Int} (hm : 0 ≤ m ∧ m ≤ 4) : 1 ≤ nS m ∧ nS m ≤ 65 := (tb_C0 ⟨m.toNat, by omega⟩).2.2.2.2.2.2
theorem tb_A {m s : Int} (hm : 0 ≤ m ∧ m ≤ 4) (h1 : 1 ≤ s) (hs : s < nS m) : (0 ≤ bef m s ∧ bef m s < s) ∧ (0 ≤ adE m s ∧ adE m s < m) ∧ pth m s = pth m (bef m s) ++ [adE m s] := by
  have hb := nS_b hm
  have h := tb_A0 ⟨m.toNat, by omega⟩ ⟨s.toNat, by omega⟩ (by show ((s.toNat : Nat) : Int) < nS m; omega) (by show 1 ≤ s.toNat; omega)
  dsimp only at h
  rw [show ((s.toNat : Nat) : Int) = s by omega, show ((m.toNat : Nat) : Int) = m by omega] at h
  exact h
theorem tb_B {m s : Int} (hm : 0 ≤ m ∧ m ≤ 4) (h0 : 0 ≤ s) (hs : s < nS m) : (0 ≤ hdE m s ∧ hdE m s < 16) ∧ lnE m s ≤ 4 ∧ s < cnt m s 0 ∧ cnt m s m = cnt m (s + 1) 0 := by
  have hb := nS_b hm
  have h := tb_B0 ⟨m.toNat, by omega⟩ ⟨s.toNat, by omega⟩ (by show ((s.toNat : Nat) : Int) < nS m; omega)
  dsimp only at h
  rw [show ((s.toNat : Nat) : Int) = s by omega, show s.toNat + 1 = (s + 1).toNat by omega] at h
  exact h
theorem tb_D {m s i : Int} (hm : 0 ≤ m ∧ m ≤ 4) (h0 : 0 ≤ s) (hs : s < nS m) (i0 : 0 ≤ i) (i1 : i < m) : (1 ≤ cnt m s i ∧ cnt m s i ≤ nS m) ∧ if inS (hdE m s) i then cnt m s (i + 1) = cnt m s i else cnt m s (i + 1) = cnt m s i + 1 ∧ cnt m s i < nS m ∧ bef m (cnt m s i) = s ∧ adE m (cnt m s i) = i ∧ hdE m (cnt m s i) = orS (hdE m s) i ∧ lnE m (cnt m s i) = lnE m s + 1 := by
  have hb := nS_b hm
  have h := tb_D0 ⟨m.toNat, by omega⟩ ⟨s.toNat, by omega⟩ ⟨i.toNat, by omega⟩ (by show ((s.toNat : Nat) : Int) < nS m; omega) (by show i.toNat < m.toNat; omega)
  dsimp only at h
  rw [show ((s.toNat : Nat) : Int) = s by omega, show ((i.toNat : Nat) : Int) = i by omega, show i.toNat + 1 = (i + 1).toNat by omega] at h
  exact h
theorem tb_C {m : Int} (hm : 0 ≤ m ∧ m ≤ 4) : cnt m 0 0 = 1 ∧ bef m 0 = 0 ∧ adE m 0 = -1 ∧ hdE m 0 = 0 ∧ pth m 0 = [] ∧ cnt m (nS m) 0 = nS m := by
  have h := tb_C0 ⟨m.toNat, by omega⟩
  exact ⟨h.1, h.2.1, h.2.2.1, h.2.2.2.1, h.2.2.2.2.1, h.2.2.2.2.2.1⟩
def IsTel (S : Shp) (a : Nat) : Prop := At S a (sO 8 [fR (a + 1), fR (a + 2), fR (a + 3), fR (a + 4), fR (a + 5), fR (a + 6), fR (a + 7), fR (a + 141), fI, fI, fI, fI, fI]) ∧ At S (a + 1) (sA 0 65) ∧ At S (a + 2) (sA 0 65) ∧ At S (a + 3) (sA 0 65) ∧ At S (a + 4) (sA 0 65) ∧ At S (a + 5) (sA 0 65) ∧ At S (a + 6) (sA 0 65) ∧ IsCols S (a + 7) 65 ∧ IsCols S (a + 141) 65
/-- the rows that tell the stories, as far as n -/
def telRow (τ : Sto) (a : Nat) (m n : Int) : Prop := ∀ q, 0 ≤ q → q < n → τ (a + 1) q = bef m q ∧ τ (a + 2) q = adE m q ∧ τ (a + 3) q = hdE m q ∧ τ (a + 4) q = lnE m q
def telTab (τ : Sto) (a : Nat) (m : Int) : Prop := τ a 8 = nS m ∧ telRow τ a m (nS m)
theorem lnE_0 (m s : Int) : 0 ≤ lnE m s := by unfold lnE lenN; omega
theorem c_X9_doubt {G : GT} {S : Shp} {σ : Sto} {a : Nat} (hA : IsTel S a) : PMet G mX9_doubt 0 0 0 [.ref a] S σ (isP none S (upS σ a (up1 (σ a) 12 0))) := by
  obtain ⟨hA0, hA1, hA2, hA3, hA4, hA5, hA6, hA7, hA8⟩ := id hA
  refine PMet.of [(0, .ref a)] (by decide +kernel) rfl (Nat.le_of_ble_eq_true rfl) ?_
  refine PW.aload_n dX9_doubt_0 rfl ?_
  refine PW.iconst dX9_doubt_1 ?_
  refine PW.putI 12 fl_X9_55 rfl (fun h => absurd h (by decide)) (by assumption) rfl rfl rfl rfl dX9_doubt_2 ?_
  exact PW.vret rfl dX9_doubt_5 (⟨rfl, rfl, rfl⟩)
theorem c_X9_round {G : GT} {S : Shp} {σ : Sto} {a : Nat} (hA : IsTel S a) : PMet G mX9_round 0 0 0 [.ref a] S σ (isP (some (.int (iI (σ a 11)))) S (σ)) := by
  obtain ⟨hA0, hA1, hA2, hA3, hA4, hA5, hA6, hA7, hA8⟩ := id hA
  refine PMet.of [(0, .ref a)] (by decide +kernel) rfl (Nat.le_of_ble_eq_true rfl) ?_
  refine PW.aload_n dX9_round_0 rfl ?_
  refine PW.getI 11 fl_X9_52 rfl (by assumption) rfl rfl dX9_round_1 ?_
  exact PW.iret rfl rfl dX9_round_4 ⟨rfl, rfl, rfl⟩
theorem c_X9_fits {G : GT} {S : Shp} {σ : Sto} {a : Nat} (hA : IsTel S a) : PMet G mX9_fits 0 0 0 [.ref a] S σ (isP (some (.int (iI (σ a 9)))) S (σ)) := by
  obtain ⟨hA0, hA1, hA2, hA3, hA4, hA5, hA6, hA7, hA8⟩ := id hA
  refine PMet.of [(0, .ref a)] (by decide +kernel) rfl (Nat.le_of_ble_eq_true rfl) ?_
  refine PW.aload_n dX9_fits_0 rfl ?_
  refine PW.getI 9 fl_X9_46 rfl (by assumption) rfl rfl dX9_fits_1 ?_
  exact PW.iret rfl rfl dX9_fits_4 ⟨rfl, rfl, rfl⟩
theorem c_X9_fitting {G : GT} {S : Shp} {σ : Sto} {a : Nat} {i : Int} (hA : IsTel S a) (hi : 0 ≤ i ∧ i ≤ 64) : PMet G mX9_fitting 1 0 0 [.ref a, .int (iI (i))] S σ (isP (some (.int (iI (σ (a + 6) i)))) S (σ)) := by
  obtain ⟨hA0, hA1, hA2, hA3, hA4, hA5, hA6, hA7, hA8⟩ := id hA
  refine PMet.of [(0, .ref a), (1, .int (iI (i)))] (by decide +kernel) rfl (Nat.le_of_ble_eq_true rfl) ?_
  refine PW.aload_n dX9_fitting_0 rfl ?_
  refine PW.getR fl_X9_27 rfl (by assumption) rfl dX9_fitting_1 ?_
  refine PW.iload_n dX9_fitting_4 rfl ?_
  refine PW.callSr (c_X11_get (by assumption) (by first | assumption | (unfold inR; omega)) (by decide)) cs_X11_get lk_X9_59 dX9_fitting_5 rfl rfl rfl ?_
  exact PW.iret rfl rfl dX9_fitting_8 ⟨ret_eq (by unfold gI; rw [if_pos (by omega)] <;> first | rfl | (congr 1; omega)), rfl, rfl⟩
theorem c_X9_length {G : GT} {S : Shp} {σ : Sto} {a : Nat} {i : Int} (hA : IsTel S a) (hi : 0 ≤ i ∧ i ≤ 64) : PMet G mX9_length 1 0 0 [.ref a, .int (iI (i))] S σ (isP (some (.int (iI (σ (a + 4) i)))) S (σ)) := by
  obtain ⟨hA0, hA1, hA2, hA3, hA4, hA5, hA6, hA7, hA8⟩ := id hA
  refine PMet.of [(0, .ref a), (1, .int (iI (i)))] (by decide +kernel) rfl (Nat.le_of_ble_eq_true rfl) ?_
  refine PW.aload_n dX9_length_0 rfl ?_
  refine PW.getR fl_X9_21 rfl (by assumption) rfl dX9_length_1 ?_
  refine PW.iload_n dX9_length_4 rfl ?_
  refine PW.callSr (c_X11_get (by assumption) (by first | assumption | (unfold inR; omega)) (by decide)) cs_X11_get lk_X9_59 dX9_length_5 rfl rfl rfl ?_
  exact PW.iret rfl rfl dX9_length_8 ⟨ret_eq (by unfold gI; rw [if_pos (by omega)] <;> first | rfl | (congr 1; omega)), rfl, rfl⟩
theorem c_X9_append {G : GT} {S : Shp} {σ : Sto} {a : Nat} {z u v x y : Int} (hA : IsTel S a) (hz : σ a 8 = z) (h0 : 0 ≤ z ∧ z ≤ 64) : PMet G mX9_append 1 0 0 [.ref a, .int (iI (u)), .int (iI (v)), .int (iI (x)), .int (iI (y))] S σ (isP none S (upS (upS (upS (upS (upS σ (a + 1) (up1 (σ (a + 1)) z u)) (a + 2) (up1 (σ (a + 2)) z v)) (a + 3) (up1 (σ (a + 3)) z x)) (a + 4) (up1 (σ (a + 4)) z y)) a (up1 (σ a) 8 (z + 1)))) := by
  obtain ⟨hA0, hA1, hA2, hA3, hA4, hA5, hA6, hA7, hA8⟩ := id hA
  refine PMet.of [(0, .ref a), (1, .int (iI (u))), (2, .int (iI (v))), (3, .int (iI (x))), (4, .int (iI (y)))] (by decide +kernel) rfl (Nat.le_of_ble_eq_true rfl) ?_
  refine PW.aload_n dX9_append_0 rfl ?_
  refine PW.getI 8 fl_X9_42 rfl (by assumption) rfl rfl dX9_append_1 ?_
  refine PW.top z hz ?_
  refine PW.bipush (by decide) dX9_append_4 ?_
  refine PW.icmp_lt 10 dX9_append_6 (by decide) (by first | assumption | (unfold inR; omega)) (by first | assumption | (unfold inR; omega)) (fun h6 => ?_) (fun h6 => ?_)
  · refine PW.aload_n dX9_append_10 rfl ?_
    refine PW.getR fl_X9_9 rfl (by assumption) rfl dX9_append_11 ?_
    refine PW.aload_n dX9_append_14 rfl ?_
    refine PW.getI 8 fl_X9_42 rfl (by assumption) rfl rfl dX9_append_15 ?_
    refine PW.top z (by simp [upS, hz]) ?_
    refine PW.iload_n dX9_append_18 rfl ?_
    refine PW.callSv (c_X11_put (by assumption) (by first | assumption | (unfold inR; omega)) (by decide)) cs_X11_put lk_X9_110 dX9_append_19 rfl rfl rfl ?_
    refine PW.st (upS (σ) (a + 1) (up1 (σ (a + 1)) z u)) (by rw [if_pos (by omega)] <;> simp [upS]) ?_
    refine PW.aload_n dX9_append_22 rfl ?_
    refine PW.getR fl_X9_15 rfl (by assumption) rfl dX9_append_23 ?_
    refine PW.aload_n dX9_append_26 rfl ?_
    refine PW.getI 8 fl_X9_42 rfl (by assumption) rfl rfl dX9_append_27 ?_
    refine PW.top z (by simp [upS, hz]) ?_
    refine PW.iload_n dX9_append_30 rfl ?_
    refine PW.callSv (c_X11_put (by assumption) (by first | assumption | (unfold inR; omega)) (by decide)) cs_X11_put lk_X9_110 dX9_append_31 rfl rfl rfl ?_
    refine PW.st (upS (upS (σ) (a + 1) (up1 (σ (a + 1)) z u)) (a + 2) (up1 (σ (a + 2)) z v)) (by rw [if_pos (by omega)] <;> simp [upS]) ?_
    refine PW.aload_n dX9_append_34 rfl ?_
    refine PW.getR fl_X9_18 rfl (by assumption) rfl dX9_append_35 ?_
    refine PW.aload_n dX9_append_38 rfl ?_
    refine PW.getI 8 fl_X9_42 rfl (by assumption) rfl rfl dX9_append_39 ?_
    refine PW.top z (by simp [upS, hz]) ?_
    refine PW.iload_n dX9_append_42 rfl ?_
    refine PW.callSv (c_X11_put (by assumption) (by first | assumption | (unfold inR; omega)) (by decide)) cs_X11_put lk_X9_110 dX9_append_43 rfl rfl rfl ?_
    refine PW.st (upS (upS (upS (σ) (a + 1) (up1 (σ (a + 1)) z u)) (a + 2) (up1 (σ (a + 2)) z v)) (a + 3) (up1 (σ (a + 3)) z x)) (by rw [if_pos (by omega)] <;> simp [upS]) ?_
    refine PW.aload_n dX9_append_46 rfl ?_
    refine PW.getR fl_X9_21 rfl (by assumption) rfl dX9_append_47 ?_
    refine PW.aload_n dX9_append_50 rfl ?_
    refine PW.getI 8 fl_X9_42 rfl (by assumption) rfl rfl dX9_append_51 ?_
    refine PW.top z (by simp [upS, hz]) ?_
    refine PW.iload dX9_append_54 rfl ?_
    refine PW.callSv (c_X11_put (by assumption) (by first | assumption | (unfold inR; omega)) (by decide)) cs_X11_put lk_X9_110 dX9_append_56 rfl rfl rfl ?_
    refine PW.st (upS (upS (upS (upS (σ) (a + 1) (up1 (σ (a + 1)) z u)) (a + 2) (up1 (σ (a + 2)) z v)) (a + 3) (up1 (σ (a + 3)) z x)) (a + 4) (up1 (σ (a + 4)) z y)) (by rw [if_pos (by omega)] <;> simp [upS]) ?_
    refine PW.aload_n dX9_append_59 rfl ?_
    refine PW.dup rfl dX9_append_60 ?_
    refine PW.getI 8 fl_X9_42 rfl (by assumption) rfl rfl dX9_append_61 ?_
    refine PW.top z (by simp [upS, hz]) ?_
    refine PW.iconst dX9_append_64 ?_
    refine PW.iadd dX9_append_65 ?_
    refine PW.putI 8 fl_X9_42 rfl (fun h => absurd h (by decide)) (by assumption) rfl rfl rfl rfl dX9_append_66 ?_
    exact PW.vret rfl dX9_append_69 (⟨rfl, rfl, by rw [upS_ne (by omega), upS_ne (by omega), upS_ne (by omega), upS_ne (by omega)]⟩)
  · omega
/-- what order changes -/
def orFr (σ τ : Sto) (a : Nat) : Prop := (∀ b, b < a ∨ a + 4 < b → τ b = σ b) ∧ ∀ j, j ≠ 8 → τ a j = σ a j
theorem orFr.app {σ τ : Sto} {a : Nat} {z u v x y : Int} (h : orFr σ τ a) : orFr σ (upS (upS (upS (upS (upS τ (a + 1) (up1 (τ (a + 1)) z u)) (a + 2) (up1 (τ (a + 2)) z v)) (a + 3) (up1 (τ (a + 3)) z x)) (a + 4) (up1 (τ (a + 4)) z y)) a (up1 (τ a) 8 (z + 1))) a := by
  refine ⟨fun b hb => ?_, fun j hj => ?_⟩
  · rw [upS_ne (by omega), upS_ne (by omega), upS_ne (by omega), upS_ne (by omega), upS_ne (by omega)]
    exact h.1 b hb
  · rw [upS_same, up1_ne hj]
    exact h.2 j hj
theorem telRow.app {τ : Sto} {a : Nat} {m z u v x y : Int} (h : telRow τ a m z) (hu : u = bef m z) (hv : v = adE m z) (hx : x = hdE m z) (hy : y = lnE m z) : telRow (upS (upS (upS (upS (upS τ (a + 1) (up1 (τ (a + 1)) z u)) (a + 2) (up1 (τ (a + 2)) z v)) (a + 3) (up1 (τ (a + 3)) z x)) (a + 4) (up1 (τ (a + 4)) z y)) a (up1 (τ a) 8 (z + 1))) a m (z + 1) := by
  intro q q0 q1
  simp [upS]
  by_cases e : q = z
  · subst e
    rw [up1_same, up1_same, up1_same, up1_same]
    exact ⟨hu, hv, hx, hy⟩
  · rw [up1_ne e, up1_ne e, up1_ne e, up1_ne e]
    exact h q q0 (by omega)
theorem cnt_b {m i : Int} (hm : 0 ≤ m ∧ m ≤ 4) (h0 : 0 ≤ i) (h1 : i ≤ nS m) : cnt m i 0 ≤ 65 ∧ 0 ≤ cnt m i 0 := by
  have nb := nS_b hm
  have tc := tb_C hm
  rcases (show i < nS m ∨ i = nS m by omega) with q | q
  · have tb := tb_B hm h0 q
    by_cases e : m = 0
    · subst e
      have := tc.1
      rw [show nS 0 = 1 from rfl] at q
      rw [show i = 0 by omega, this]
      decide
    · have := (tb_D hm h0 q (Int.le_refl 0) (by omega)).1
      omega
  · rw [q, tc.2.2.2.2.2]
    omega
theorem ord_in {G : GT} {S : Shp} {σ : Sto} {a : Nat} {m s : Int} {Q : Option Value → Shp → Sto → Prop} (hA : IsTel S a) (hm : 0 ≤ m ∧ m ≤ 4) (hs : 0 ≤ s ∧ s < nS m) (hK : ∀ τ : Sto, orFr σ τ a → τ a 8 = cnt m s m → telRow τ a m (cnt m s m) → PW (fm G mX9_order 3 0 0 Q) G S τ 0 0 80 [(0, .ref a), (1, .int (iI m)), (2, .int (iI s)), (3, .int (iI m))] []) : ∀ (t : Nat) (i : Int) (τ : Sto), 0 ≤ i → i ≤ m → m - i < t → orFr σ τ a → τ a 8 = cnt m s i → telRow τ a m (cnt m s i) → PW (fm G mX9_order 3 0 0 Q) G S (τ) 0 0 31 [(0, .ref a), (1, .int (iI (m))), (2, .int (iI (s))), (3, .int (iI (i)))] [] := by
  obtain ⟨hA0, hA1, hA2, hA3, hA4, hA5, hA6, hA7, hA8⟩ := id hA
  have nb := nS_b hm
  have tb := tb_B hm hs.1 hs.2
  have l0 := lnE_0 m s
  intro t
  induction t with
  | zero => intro i τ h1 h2 h3 g1 g2 g3; omega
  | succ t ih =>
    intro i τ h1 h2 h3 g1 g2 g3
    refine PW.iload_n dX9_order_31 rfl ?_
    refine PW.iload_n dX9_order_32 rfl ?_
    refine PW.icmp_ge 80 dX9_order_33 (by decide) (by first | assumption | (unfold inR; omega)) (by first | assumption | (unfold inR; omega)) (fun h33 => ?_) (fun h33 => ?_)
    · have hi : i = m := by omega
      subst hi
      exact PW.take 4 (hK τ g1 g2 g3)
    · have td0 := tb_D hm hs.1 hs.2 h1 (show i < m by omega)
      obtain ⟨tc, td⟩ := td0
      have cs : s < cnt m s i := by
        have c0 : cnt m s 0 ≤ cnt m s i := by unfold cnt cntN; simp; omega
        omega
      have rw3 := (g3 s hs.1 cs).2.2.1
      have rw4 := (g3 s hs.1 cs).2.2.2
      refine PW.aload_n dX9_order_36 rfl ?_
      refine PW.getR fl_X9_18 rfl (by assumption) rfl dX9_order_37 ?_
      refine PW.iload_n dX9_order_40 rfl ?_
      refine PW.callSr (c_X11_get (by assumption) (by first | assumption | (unfold inR; omega)) (by decide)) cs_X11_get lk_X9_59 dX9_order_41 rfl rfl rfl ?_
      refine PW.top (hdE m s) (by unfold gI; rw [if_pos (by omega)]; exact rw3) ?_
      refine PW.istore [(0, _), (1, _), (2, _), (3, _), (4, _)] dX9_order_44 rfl (Nat.le_of_ble_eq_true rfl) ?_
      refine PW.iload dX9_order_46 rfl ?_
      refine PW.iload_n dX9_order_48 rfl ?_
      refine PW.ishr dX9_order_49 ?_
      refine PW.iconst dX9_order_50 ?_
      refine PW.iand dX9_order_51 ?_
      refine PW.top (b01 (inS (hdE m s) i)) (inS_eq (by omega) (by omega)) ?_
      refine PW.if_neB 74 dX9_order_52 (by decide) (fun h52 => ?_) (fun h52 => ?_)
      · refine PW.take 4 ?_
        refine PW.iinc [(0, _), (1, _), (2, _), (3, _)] dX9_order_74 rfl rfl (Nat.le_of_ble_eq_true rfl) ?_
        refine PW.goto 31 dX9_order_77 (by decide) ?_
        first
          | (rw [if_pos (by assumption)] at td
             exact ih (i + 1) τ (by omega) (by omega) (by omega) g1 (by rw [td]; exact g2) (by rw [td]; exact g3))
          | (rw [if_neg (by assumption)] at td
             obtain ⟨t1, t2, t3, t4, t5, t6⟩ := td
             refine ih (i + 1) _ (by omega) (by omega) (by omega) g1.app ?_ ?_
             · rw [upS_same, up1_same]
               omega
             · rw [t1]
               exact g3.app t3.symm t4.symm t5.symm t6.symm)
      · refine PW.aload_n dX9_order_55 rfl ?_
        refine PW.iload_n dX9_order_56 rfl ?_
        refine PW.iload_n dX9_order_57 rfl ?_
        refine PW.iload dX9_order_58 rfl ?_
        refine PW.iconst dX9_order_60 ?_
        refine PW.iload_n dX9_order_61 rfl ?_
        refine PW.ishl dX9_order_62 ?_
        refine PW.ior dX9_order_63 ?_
        refine PW.top (orS (hdE m s) i) (orS_eq (by omega) (by omega)) ?_
        refine PW.aload_n dX9_order_64 rfl ?_
        refine PW.iload_n dX9_order_65 rfl ?_
        refine PW.callVr (c_X9_length (by assumption) (by omega)) cv_X9_length lk_X9_63 (by first | assumption | exact And.left (by assumption)) dX9_order_66 rfl rfl rfl rfl ?_
        refine PW.top (lnE m s) rw4 ?_
        refine PW.iconst dX9_order_69 ?_
        refine PW.iadd dX9_order_70 ?_
        refine PW.callVv (c_X9_append hA g2 (by rw [if_neg (by assumption)] at td; omega)) cv_X9_append lk_X9_106 (by first | assumption | exact And.left (by assumption)) dX9_order_71 rfl rfl rfl rfl ?_
        refine PW.take 4 ?_
        refine PW.iinc [(0, _), (1, _), (2, _), (3, _)] dX9_order_74 rfl rfl (Nat.le_of_ble_eq_true rfl) ?_
        refine PW.goto 31 dX9_order_77 (by decide) ?_
        first
          | (rw [if_pos (by assumption)] at td
             exact ih (i + 1) τ (by omega) (by omega) (by omega) g1 (by rw [td]; exact g2) (by rw [td]; exact g3))
          | (rw [if_neg (by assumption)] at td
             obtain ⟨t1, t2, t3, t4, t5, t6⟩ := td
             refine ih (i + 1) _ (by omega) (by omega) (by omega) g1.app ?_ ?_
             · rw [upS_same, up1_same]
               omega
             · rw [t1]
               exact g3.app t3.symm t4.symm t5.symm t6.symm)
theorem ord_out {G : GT} {S : Shp} {σ : Sto} {a : Nat} {m : Int} {Q : Option Value → Shp → Sto → Prop} (hA : IsTel S a) (hm : 0 ≤ m ∧ m ≤ 4) (hQ : ∀ τ : Sto, orFr σ τ a → telTab τ a m → Q none S τ) : ∀ (t : Nat) (i : Int) (τ : Sto), 0 ≤ i → i ≤ nS m → nS m - i < t → orFr σ τ a → τ a 8 = cnt m i 0 → telRow τ a m (cnt m i 0) → PW (fm G mX9_order 3 0 0 Q) G S (τ) 0 0 15 [(0, .ref a), (1, .int (iI (m))), (2, .int (iI (i)))] [] := by
  obtain ⟨hA0, hA1, hA2, hA3, hA4, hA5, hA6, hA7, hA8⟩ := id hA
  have nb := nS_b hm
  have tc := tb_C hm
  intro t
  induction t with
  | zero => intro i τ h1 h2 h3 g1 g2 g3; omega
  | succ t ih =>
    intro i τ h1 h2 h3 g1 g2 g3
    refine PW.iload_n dX9_order_15 rfl ?_
    refine PW.aload_n dX9_order_16 rfl ?_
    refine PW.getI 8 fl_X9_42 rfl (by assumption) rfl rfl dX9_order_17 ?_
    refine PW.icmp_ge 86 dX9_order_20 (by decide) (by first | assumption | (unfold inR; omega) | (have : cnt m i 0 ≤ 65 ∧ 0 ≤ cnt m i 0 := cnt_b hm h1 h2; unfold inR; omega)) (by first | assumption | (unfold inR; omega) | (have : cnt m i 0 ≤ 65 ∧ 0 ≤ cnt m i 0 := cnt_b hm h1 h2; unfold inR; omega)) (fun h20 => ?_) (fun h20 => ?_)
    · have hlt : i = nS m := by
        rcases (show i < nS m ∨ i = nS m by omega) with q | q
        · have := (tb_B hm h1 q).2.2.1
          omega
        · exact q
      subst hlt
      rw [tc.2.2.2.2.2] at g2 g3
      exact PW.vret rfl dX9_order_86 (hQ τ g1 ⟨g2, g3⟩)
    · refine PW.iload_n dX9_order_23 rfl ?_
      refine PW.bipush (by decide) dX9_order_24 ?_
      refine PW.icmp_ge 86 dX9_order_26 (by decide) (by first | assumption | (unfold inR; omega) | (have : cnt m i 0 ≤ 65 ∧ 0 ≤ cnt m i 0 := cnt_b hm h1 h2; unfold inR; omega)) (by first | assumption | (unfold inR; omega) | (have : cnt m i 0 ≤ 65 ∧ 0 ≤ cnt m i 0 := cnt_b hm h1 h2; unfold inR; omega)) (fun h26 => ?_) (fun h26 => ?_)
      · have hlt : i = nS m := by
          rcases (show i < nS m ∨ i = nS m by omega) with q | q
          · have := (tb_B hm h1 q).2.2.1
            omega
          · exact q
        subst hlt
        rw [tc.2.2.2.2.2] at g2 g3
        exact PW.vret rfl dX9_order_86 (hQ τ g1 ⟨g2, g3⟩)
      · refine PW.iconst dX9_order_29 ?_
        refine PW.istore_n [(0, _), (1, _), (2, _), (3, _)] dX9_order_30 rfl (Nat.le_of_ble_eq_true rfl) ?_
        have hlt : i < nS m := by
          rcases (show i < nS m ∨ i = nS m by omega) with q | q
          · exact q
          · rw [q, tc.2.2.2.2.2] at g2
            omega
        have tb := tb_B hm h1 hlt
        refine ord_in hA hm ⟨h1, hlt⟩ (fun τ' p1 p2 p3 => ?_) 5 0 τ (by omega) (by omega) (by omega) g1 g2 g3
        refine PW.take 3 ?_
        refine PW.iinc [(0, _), (1, _), (2, _)] dX9_order_80 rfl rfl (Nat.le_of_ble_eq_true rfl) ?_
        refine PW.goto 15 dX9_order_83 (by decide) ?_
        exact ih (i + 1) τ' (by omega) (by omega) (by omega) p1 (by rw [← tb.2.2.2]; exact p2) (by rw [← tb.2.2.2]; exact p3)
theorem c_X9_order {G : GT} {S : Shp} {σ : Sto} {a : Nat} {m : Int} (hA : IsTel S a) (hm : 0 ≤ m ∧ m ≤ 4) : PMet G mX9_order 3 0 0 [.ref a, .int (iI m)] S σ (fun r S' σ' => r = none ∧ S' = S ∧ orFr σ σ' a ∧ telTab σ' a m) := by
  obtain ⟨hA0, hA1, hA2, hA3, hA4, hA5, hA6, hA7, hA8⟩ := id hA
  have tc := tb_C hm
  refine PMet.of [(0, .ref a), (1, .int (iI (m)))] (by decide +kernel) rfl (Nat.le_of_ble_eq_true rfl) ?_
  refine PW.aload_n dX9_order_0 rfl ?_
  refine PW.iconst dX9_order_1 ?_
  refine PW.putI 8 fl_X9_42 rfl (fun h => absurd h (by decide)) (by assumption) rfl rfl rfl rfl dX9_order_2 ?_
  refine PW.aload_n dX9_order_5 rfl ?_
  refine PW.iconst dX9_order_6 ?_
  refine PW.iconst dX9_order_7 ?_
  refine PW.iconst dX9_order_8 ?_
  refine PW.iconst dX9_order_9 ?_
  refine PW.callVv (c_X9_append hA (z := 0) (by rw [upS_same, up1_same]) (by decide)) cv_X9_append lk_X9_106 (by first | assumption | exact And.left (by assumption)) dX9_order_10 rfl rfl rfl rfl ?_
  refine PW.iconst dX9_order_13 ?_
  refine PW.istore_n [(0, _), (1, _), (2, _)] dX9_order_14 rfl (Nat.le_of_ble_eq_true rfl) ?_
  refine ord_out hA hm (fun τ p1 p2 => ⟨rfl, rfl, p1, p2⟩) 66 0 _ (by omega) (by have := nS_b hm; omega) (by have := nS_b hm; omega) ?_ ?_ ?_
  · refine orFr.app ⟨fun b hb => upS_ne (by omega), fun j hj => ?_⟩
    rw [upS_same, up1_ne hj]
  · rw [upS_same, up1_same, tc.1]
    rfl
  · rw [tc.1]
    refine telRow.app (z := 0) (fun q q0 q1 => by omega) tc.2.1.symm tc.2.2.1.symm tc.2.2.2.1.symm ?_
    have e := tc.2.2.2.2.1
    unfold pth at e
    unfold lnE lenN
    rw [e]
    rfl

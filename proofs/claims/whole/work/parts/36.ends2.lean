def lstU (o v : Int) (f : Int → Int) (lo n b : Int) : Prop := v ≤ o ∧ (∀ g, vrR f g lo n → v ≤ amF g n b) ∧ (v = o ∨ ∃ g, vrR f g lo n ∧ v = amF g n b)
def grtU (o v : Int) (f : Int → Int) (lo n b : Int) : Prop := o ≤ v ∧ (∀ g, vrR f g lo n → amF g n b ≤ v) ∧ (v = o ∨ ∃ g, vrR f g lo n ∧ v = amF g n b)
def lsI (o v : Int) (f : Int → Int) (i n b x : Int) : Prop := v ≤ o ∧ (∀ g, vrR f g i n → g (mnp f i) < x → v ≤ amF g n b) ∧ (v = o ∨ ∃ g, vrR f g i n ∧ v = amF g n b)
def grI (o v : Int) (f : Int → Int) (i n b x : Int) : Prop := o ≤ v ∧ (∀ g, vrR f g i n → g (mnp f i) < x → amF g n b ≤ v) ∧ (v = o ∨ ∃ g, vrR f g i n ∧ v = amF g n b)
theorem losP_up {f : Int → Int} {i v : Int} (hk : 0 ≤ f (7 * i) ∧ f (7 * i) ≤ 5) (q : Int) : losP (up1 f (mnp f i) v) q ↔ losP f q := by
  unfold losP
  rw [(up_kind hk q).2]
theorem looF_up {f : Int → Int} {i v : Int} (hk : 0 ≤ f (7 * i) ∧ f (7 * i) ≤ 5) (n : Int) : looF (up1 f (mnp f i) v) n = looF f n := sumI_congr fun q _ _ => b01_congr (losP_up hk q)
theorem losA_up {f la : Int → Int} {i v n : Int} (hk : 0 ≤ f (7 * i) ∧ f (7 * i) ≤ 5) (h : losA f la n) : losA (up1 f (mnp f i) v) la n := by
  intro q q0 q1 q2
  rw [looF_up hk]
  exact h q q0 q1 ((losP_up hk q).mp q2)
section VST
variable {f : Int → Int} {i lo n b o v w e : Int}
theorem lsI_step (hk : ∀ i, 0 ≤ i → i < n → 0 ≤ f (7 * i) ∧ f (7 * i) ≤ 5) (i0 : 0 ≤ i) (i1 : i < n) (hl : losP f i) (hlo : i < lo) (hgap : ∀ q, i < q → q < lo → ¬ losP f q) (he : -1 ≤ e ∧ e ≤ 1) (hs : suF (f (7 * i)) (xT 1 (f (7 * i))) (f (mnp f i) + e)) (h : lsI o v f i n b (f (mnp f i) + e)) (hw : lstU v w (up1 f (mnp f i) (f (mnp f i) + e)) lo n b) : lsI o w f i n b (f (mnp f i) + (e + 1)) := by
  obtain ⟨h1, h2, h3⟩ := h
  obtain ⟨w1, w2, w3⟩ := hw
  refine ⟨by omega, fun g hg hx => ?_, ?_⟩
  · by_cases q : g (mnp f i) < f (mnp f i) + e
    · have := h2 g hg q
      omega
    · obtain ⟨e', a0, a1, a2, a3, a4⟩ := vrR_split hk i0 i1 hl hlo hgap hg
      have : e' = e := by omega
      rw [this] at a4
      exact w2 g a4
  · rcases w3 with w3 | ⟨g, g1, g2⟩
    · rw [w3]
      exact h3
    · exact Or.inr ⟨g, (vrR_join hk i0 i1 hl hlo hgap he hs g1).1, g2⟩
theorem grI_step (hk : ∀ i, 0 ≤ i → i < n → 0 ≤ f (7 * i) ∧ f (7 * i) ≤ 5) (i0 : 0 ≤ i) (i1 : i < n) (hl : losP f i) (hlo : i < lo) (hgap : ∀ q, i < q → q < lo → ¬ losP f q) (he : -1 ≤ e ∧ e ≤ 1) (hs : suF (f (7 * i)) (xT 1 (f (7 * i))) (f (mnp f i) + e)) (h : grI o v f i n b (f (mnp f i) + e)) (hw : grtU v w (up1 f (mnp f i) (f (mnp f i) + e)) lo n b) : grI o w f i n b (f (mnp f i) + (e + 1)) := by
  obtain ⟨h1, h2, h3⟩ := h
  obtain ⟨w1, w2, w3⟩ := hw
  refine ⟨by omega, fun g hg hx => ?_, ?_⟩
  · by_cases q : g (mnp f i) < f (mnp f i) + e
    · have := h2 g hg q
      omega
    · obtain ⟨e', a0, a1, a2, a3, a4⟩ := vrR_split hk i0 i1 hl hlo hgap hg
      have : e' = e := by omega
      rw [this] at a4
      exact w2 g a4
  · rcases w3 with w3 | ⟨g, g1, g2⟩
    · rw [w3]
      exact h3
    · exact Or.inr ⟨g, (vrR_join hk i0 i1 hl hlo hgap he hs g1).1, g2⟩
theorem no_e (i1 : i < n) (hl : losP f i) (hs : ¬ suF (f (7 * i)) (xT 1 (f (7 * i))) (f (mnp f i) + e)) {g : Int → Int} (hg : vrR f g i n) (hx : g (mnp f i) < f (mnp f i) + (e + 1)) : g (mnp f i) < f (mnp f i) + e := by
  obtain ⟨e', a0, a1, a2, a3⟩ := hg.2 i (Int.le_refl _) i1 hl
  by_cases q : e' = e
  · rw [q] at a3
    exact absurd a3 hs
  · omega
theorem lsI_skip (i1 : i < n) (hl : losP f i) (hs : ¬ suF (f (7 * i)) (xT 1 (f (7 * i))) (f (mnp f i) + e)) (h : lsI o v f i n b (f (mnp f i) + e)) : lsI o v f i n b (f (mnp f i) + (e + 1)) := ⟨h.1, fun g hg hx => h.2.1 g hg (no_e i1 hl hs hg hx), h.2.2⟩
theorem grI_skip (i1 : i < n) (hl : losP f i) (hs : ¬ suF (f (7 * i)) (xT 1 (f (7 * i))) (f (mnp f i) + e)) (h : grI o v f i n b (f (mnp f i) + e)) : grI o v f i n b (f (mnp f i) + (e + 1)) := ⟨h.1, fun g hg hx => h.2.1 g hg (no_e i1 hl hs hg hx), h.2.2⟩
theorem lsI_end (i1 : i < n) (hl : losP f i) (h : lsI o v f i n b (f (mnp f i) + 2)) : lstU o v f i n b := ⟨h.1, fun g hg => h.2.1 g hg (by obtain ⟨e', a0, a1, a2, a3⟩ := hg.2 i (Int.le_refl _) i1 hl; omega), h.2.2⟩
theorem grI_end (i1 : i < n) (hl : losP f i) (h : grI o v f i n b (f (mnp f i) + 2)) : grtU o v f i n b := ⟨h.1, fun g hg => h.2.1 g hg (by obtain ⟨e', a0, a1, a2, a3⟩ := hg.2 i (Int.le_refl _) i1 hl; omega), h.2.2⟩
theorem lsI_0 (i1 : i < n) (hl : losP f i) : lsI o o f i n b (f (mnp f i) + -1) := ⟨Int.le_refl _, fun g hg hx => by obtain ⟨e', a0, a1, a2, a3⟩ := hg.2 i (Int.le_refl _) i1 hl; omega, Or.inl rfl⟩
theorem grI_0 (i1 : i < n) (hl : losP f i) : grI o o f i n b (f (mnp f i) + -1) := ⟨Int.le_refl _, fun g hg hx => by obtain ⟨e', a0, a1, a2, a3⟩ := hg.2 i (Int.le_refl _) i1 hl; omega, Or.inl rfl⟩
theorem lsI_b {x : Int} (h : lsI o v f i n b x) (ho : 0 ≤ o ∧ o ≤ 5120) : 0 ≤ v ∧ v ≤ 5120 := by
  obtain ⟨h1, -, h3⟩ := h
  rcases h3 with h3 | ⟨g, -, g2⟩
  · omega
  · have := amF_b g n b
    omega
theorem grI_b {x : Int} (h : grI o v f i n b x) (ho : 0 ≤ o ∧ o ≤ 5120) : 0 ≤ v ∧ v ≤ 5120 := by
  obtain ⟨h1, -, h3⟩ := h
  rcases h3 with h3 | ⟨g, -, g2⟩
  · omega
  · have := amF_b g n b
    omega
end VST
def vaFr (σ τ : Sto) (a : Nat) (l : Int) : Prop := (∀ q, q < a ∨ a + 673 ≤ q → τ q = σ q) ∧ τ a = σ a ∧ τ (a + 1) = σ (a + 1) ∧ τ (a + 9) = σ (a + 9) ∧ (∀ q, 0 ≤ q → q ≤ l → ∀ j, 0 ≤ j → j < 64 → τ (cA (sgA a q) j + 1) = σ (cA (sgA a q) j + 1)) ∧ (∀ q, 0 ≤ q → q < 5 → colsOk τ (sgA a q) 64)
def vaP (σ τ : Sto) (a : Nat) (f : Int → Int) (l n c : Int) : Prop := vaFr σ τ a l ∧ τ (a + 2) = f ∧ ∀ b, 0 ≤ b → b < 16 → lstU (σ (a + 11) b) (τ (a + 11) b) f (liF (σ (a + 9)) c n l) n b ∧ grtU (σ (a + 12) b) (τ (a + 12) b) f (liF (σ (a + 9)) c n l) n b
theorem sg_ne {a : Nat} {q r j : Int} (q0 : 0 ≤ q) (q1 : q < 5) (j0 : 0 ≤ j) (j1 : j < 64) (hr : 0 ≤ r) (h : q ≠ r) : cA (sgA a q) j + 1 < sgA a r + 5 ∨ sgA a r + 4 + 2 * 64 ≤ cA (sgA a q) j + 1 := by
  unfold cA sgA
  omega
theorem vary_0 {G : GT} {S : Shp} {σ : Sto} {a : Nat} {f : Int → Int} {l n c : Int} (hA : IsEnds S a) (hn : σ (a + 1) 2 = n) (hT : taOk σ (a + 1)) (hf : σ (a + 2) = f) (hc : σ a 7 = c) (hcl : looF f n = c) (hc4 : c ≤ 4) (hla : losA f (σ (a + 9)) n) (hl : 0 ≤ l) (hkk : c - l = 0) (hst : ∀ q, 0 ≤ q → q < 64 → eq8 (σ (cA (sgA a l) q + 1)) (tlF f q zF (liF (σ (a + 9)) c n l).toNat)) (hco : ∀ q, 0 ≤ q → q < 5 → colsOk σ (sgA a q) 64) (hb : ∀ b, 0 ≤ b → b < 16 → (0 ≤ σ (a + 11) b ∧ σ (a + 11) b ≤ 5120) ∧ (0 ≤ σ (a + 12) b ∧ σ (a + 12) b ≤ 5120)) : PMet G mX4_vary 6 0 0 [.ref a, .int (iI l)] S σ (fun r S' σ' => r = none ∧ S' = S ∧ vaP σ σ' a f l n c) := by
  obtain ⟨hA0, hA1, hA4, hA9, hA10, hA11, hA12, hAs⟩ := id hA
  have hT0 := hA1.1
  have hn16 := hT.1
  rw [hn] at hn16
  have hkd : ∀ i, 0 ≤ i → i < n → 0 ≤ f (7 * i) ∧ f (7 * i) ≤ 5 := fun i i0 i1 => by
    have := (hT.2 i i0 (by omega)).k
    rw [show σ (a + 1 + 1) = f from hf] at this
    exact this
  have hL := hAs l hl (by omega)
  have hcl2 := hco l hl (by omega)
  have hlc : l = c := by omega
  have hli : liF (σ (a + 9)) c n l = n := by unfold liF; rw [if_neg (by omega)]
  refine PMet.of [(0, .ref a), (1, .int (iI (l)))] (by decide +kernel) rfl (Nat.le_of_ble_eq_true rfl) ?_
  refine PW.iload_n dX4_vary_0 rfl ?_
  refine PW.aload_n dX4_vary_1 rfl ?_
  refine PW.getI 7 fl_X4_44 rfl (by assumption) rfl rfl dX4_vary_2 ?_
  refine PW.top c hc ?_
  refine PW.icmp_ge 13 dX4_vary_5 (by decide) (by first | assumption | (unfold inR; omega)) (by first | assumption | (unfold inR; omega)) (fun h5 => ?_) (fun h5 => ?_)
  · refine PW.aload_n dX4_vary_13 rfl ?_
    refine PW.aload_n dX4_vary_14 rfl ?_
    refine PW.iload_n dX4_vary_15 rfl ?_
    refine PW.callVr (c_X4_stage (by assumption) (by omega)) cv_X4_stage lk_X4_67 (by first | assumption | exact And.left (by assumption)) dX4_vary_16 rfl rfl rfl rfl ?_
    refine PW.callVv (c_X4_measure hA hL hcl2 (by unfold sgA; omega) hb) cv_X4_measure lk_X4_94 (by first | assumption | exact And.left (by assumption)) dX4_vary_19 rfl rfl rfl rfl ?_
    have ham : ∀ b, 0 ≤ b → b < 16 → cnF σ (sgA a l) (σ (a + 10)) 64 b = amF f n b := fun b b0 b1 => by
      unfold cnF amF
      rw [if_pos ⟨b0, b1⟩]
      refine smF_congr fun q q0 q1 => clF_eq ?_ b
      have := hst q q0 q1
      rw [hli] at this
      exact this
    refine PW.vret rfl dX4_vary_22 ⟨rfl, rfl, ⟨fun q hq => ?_, ?_, ?_, ?_, fun q q0 q1 j j0 j1 => ?_, fun q q0 q1 => ?_⟩, ?_, fun b b0 b1 => ?_⟩
    · rw [upS_ne (by omega), upS_ne (by omega), upS_ne (by omega)]
    · rw [upS_ne (by omega), upS_ne (by omega), upS_ne (by omega)]
    · rw [upS_ne (by omega), upS_ne (by omega), upS_ne (by omega)]
    · rw [upS_ne (by omega), upS_ne (by omega), upS_ne (by omega)]
    · rw [upS_ne (by unfold cA sgA; omega), upS_ne (by unfold cA sgA; omega), upS_ne (by unfold cA sgA; omega)]
    · exact colsOk_congr (fun x x0 x1 => by unfold sgA at x0; rw [upS_ne (by omega), upS_ne (by omega), upS_ne (by omega)]) (hco q q0 q1)
    · rw [upS_ne (by omega), upS_ne (by omega), upS_ne (by omega)]; exact hf
    · rw [upS_ne (show a + 11 ≠ a + 12 by omega), upS_same, upS_same, if_pos ⟨b0, b1⟩, if_pos ⟨b0, b1⟩, ham b b0 b1, hli]
      have hE : ∀ i, 0 ≤ i → i < n → evOk f i := fun i i0 i1 => by
        have := hT.2 i i0 (by omega)
        rw [show σ (a + 1 + 1) = f from hf] at this
        exact this
      have hrf := vrR_refl (lo := n) (by omega) hE
      refine ⟨⟨by omega, fun g hg => ?_, ?_⟩, ⟨by omega, fun g hg => ?_, ?_⟩⟩
      · rw [amF_congr (vrR_end hg) (by omega)]
        omega
      · rcases min3 (amF f n b) (σ (a + 11) b) with e | e
        · exact Or.inr ⟨f, hrf, e⟩
        · exact Or.inl e
      · rw [amF_congr (vrR_end hg) (by omega)]
        omega
      · rcases (show max (amF f n b) (σ (a + 12) b) = amF f n b ∨ max (amF f n b) (σ (a + 12) b) = σ (a + 12) b by omega) with e | e
        · exact Or.inr ⟨f, hrf, e⟩
        · exact Or.inl e
  · exfalso; omega
set_option maxRecDepth 20000 in
theorem vary_lp1 {G : GT} {S : Shp} {σ : Sto} {a : Nat} {f : Int → Int} {l n c : Int} {p : Int} {Q : Option Value → Shp → Sto → Prop} (hA : IsEnds S a) (hn : σ (a + 1) 2 = n) (hT : taOk σ (a + 1)) (hf : σ (a + 2) = f) (hc : σ a 7 = c) (hcl : looF f n = c) (hc4 : c ≤ 4) (hla : losA f (σ (a + 9)) n) (hl : 0 ≤ l) (hkk : c - l = 1) (hst : ∀ q, 0 ≤ q → q < 64 → eq8 (σ (cA (sgA a l) q + 1)) (tlF f q zF (liF (σ (a + 9)) c n l).toNat)) (hco : ∀ q, 0 ≤ q → q < 5 → colsOk σ (sgA a q) 64) (hb : ∀ b, 0 ≤ b → b < 16 → (0 ≤ σ (a + 11) b ∧ σ (a + 11) b ≤ 5120) ∧ (0 ≤ σ (a + 12) b ∧ σ (a + 12) b ≤ 5120)) (hp : liF (σ (a + 9)) c n l = p) (hQ : ∀ τ : Sto, vaP σ τ a f l n c → Q none S τ) : ∀ (t : Nat) (i : Int) (τ : Sto) (v : Int), -1 ≤ i → i ≤ 2 → 2 - i < t → vaFr σ τ a l → τ (a + 2) = up1 f (mnp f p) v → (∀ b, 0 ≤ b → b < 16 → lsI (σ (a + 11) b) (τ (a + 11) b) f p n b (f (mnp f p) + i) ∧ grI (σ (a + 12) b) (τ (a + 12) b) f p n b (f (mnp f p) + i)) → PW (fm G mX4_vary 7 0 0 Q) G S (τ) 0 0 59 [(0, .ref a), (1, .int (iI (l))), (2, .int (iI (p))), (3, .int (iI (f (7 * p)))), (4, .int (iI (xT 1 (f (7 * p))))), (5, .int (iI (f (mnp f p)))), (6, .int (iI (i)))] [] := by
  obtain ⟨hA0, hA1, hA4, hA9, hA10, hA11, hA12, hAs⟩ := id hA
  have hT0 := hA1.1
  have hn16 := hT.1
  rw [hn] at hn16
  have hkd : ∀ i, 0 ≤ i → i < n → 0 ≤ f (7 * i) ∧ f (7 * i) ≤ 5 := fun i i0 i1 => by
    have := (hT.2 i i0 (by omega)).k
    rw [show σ (a + 1 + 1) = f from hf] at this
    exact this
  have hlf := liF_at (f := f) (la := σ (a + 9)) (n := n) (l := l) (by omega) hla hl (by omega)
  have hgp := liF_gap (f := f) (la := σ (a + 9)) (n := n) (l := l) (by omega) hla hl (by omega)
  rw [hcl] at hlf hgp
  rw [hp] at hlf hgp
  obtain ⟨⟨p0, p1⟩, hlp, hcp⟩ := hlf
  obtain ⟨gp1, gp2⟩ := hgp
  have hnx := liF_b (f := f) (la := σ (a + 9)) (n := n) (l := l + 1) (by omega) hla (by omega)
  rw [hcl] at hnx
  have hkp := hkd p p0 p1
  have hx1 := xT_1 hkp
  have hmp := mnp_b hkp
  have hEf : ∀ i, 0 ≤ i → i < n → evOk f i := fun i i0 i1 => by
    have := hT.2 i i0 (by omega)
    rw [show σ (a + 1 + 1) = f from hf] at this
    exact this
  have hnum := (hEf p p0 p1).2.1 (xT 1 (f (7 * p))) hx1.1 hx1.2
  have hnum2 : -40 ≤ f (mnp f p) ∧ f (mnp f p) ≤ 39 := hnum
  have hS1 := hAs (l + 1) (by omega) (by omega)
  have hS0 := hAs l hl (by omega)
  intro t
  induction t with
  | zero => intro i τ v h1 h2 h3 g1 g2 g3; omega
  | succ t ih =>
    intro i τ v h1 h2 h3 g1 g2 g3
    obtain ⟨f1, f2, f3, f4, f5, f6⟩ := id g1
    have eB : ∀ b, 0 ≤ b → b < 16 → (0 ≤ τ (a + 11) b ∧ τ (a + 11) b ≤ 5120) ∧ (0 ≤ τ (a + 12) b ∧ τ (a + 12) b ≤ 5120) := fun b b0 b1 => ⟨lsI_b (g3 b b0 b1).1 (hb b b0 b1).1, grI_b (g3 b b0 b1).2 (hb b b0 b1).2⟩
    refine PW.iload dX4_vary_59 rfl ?_
    refine PW.iconst dX4_vary_61 ?_
    refine PW.icmp_gt 137 dX4_vary_62 (by decide) (by first | assumption | (unfold inR; omega)) (by first | assumption | (unfold inR; omega)) (fun h62 => ?_) (fun h62 => ?_)
    · refine PW.aload_n dX4_vary_137 rfl ?_
      refine PW.getR fl_X4_12 rfl (by assumption) rfl dX4_vary_138 ?_
      refine PW.iload_n dX4_vary_141 rfl ?_
      refine PW.iload dX4_vary_142 rfl ?_
      refine PW.iload dX4_vary_144 rfl ?_
      refine PW.callVv (c_X8_setNumber (by assumption) (by omega) (by omega)) cv_X8_setNumber lk_X4_114 (by first | assumption | exact And.left (by assumption)) dX4_vary_146 rfl rfl rfl rfl ?_
      have hi : i = 2 := by omega
      subst hi
      refine PW.vret rfl dX4_vary_149 (hQ _ ⟨⟨fun q hq => ?_, ?_, ?_, ?_, fun q q0 q1 j j0 j1 => ?_, fun q q0 q1 => ?_⟩, ?_, fun b b0 b1 => ?_⟩)
      · rw [upS_ne (by omega)]; exact f1 q hq
      · rw [upS_ne (by omega)]; exact f2
      · rw [upS_ne (by omega)]; exact f3
      · rw [upS_ne (by omega)]; exact f4
      · rw [upS_ne (by unfold cA sgA; omega)]; exact f5 q q0 q1 j j0 j1
      · exact colsOk_congr (fun x x0 x1 => by unfold sgA at x0; exact upS_ne (by omega)) (f6 q q0 q1)
      · show upS τ (a + 2) (up1 (τ (a + 2)) (mnp f p) (f (mnp f p))) (a + 2) = f
        rw [upS_same, g2, up1_up1, up1_self]
      · rw [upS_ne (by omega), upS_ne (by omega), hp]
        exact ⟨lsI_end p1 hlp (g3 b b0 b1).1, grI_end p1 hlp (g3 b b0 b1).2⟩
    · refine PW.iload_n dX4_vary_65 rfl ?_
      refine PW.iload dX4_vary_66 rfl ?_
      refine PW.iload dX4_vary_68 rfl ?_
      refine PW.iload dX4_vary_70 rfl ?_
      refine PW.iadd dX4_vary_72 ?_
      refine PW.callSr (c_X5_suits hkp hx1 (by unfold inR; omega)) cs_X5_suits lk_X4_110 dX4_vary_73 rfl rfl rfl ?_
      refine PW.if_neB 82 dX4_vary_76 (by decide) (fun h76 => ?_) (fun h76 => ?_)
      · have hsu : suF (f (7 * p)) (xT 1 (f (7 * p))) (f (mnp f p) + i) := by assumption
        have kv := evOk_var (hEf p p0 p1) hsu
        have hE1 : ∀ q, 0 ≤ q → q < n → evOk (up1 f (mnp f p) (f (mnp f p) + i)) q := fun q q0 q1 => by
          by_cases x : q = p
          · rw [x]; exact kv.1
          · exact evOk_keep hkp (hEf q q0 q1) x
        refine PW.aload_n dX4_vary_82 rfl ?_
        refine PW.getR fl_X4_12 rfl (by assumption) rfl dX4_vary_83 ?_
        refine PW.iload_n dX4_vary_86 rfl ?_
        refine PW.iload dX4_vary_87 rfl ?_
        refine PW.iload dX4_vary_89 rfl ?_
        refine PW.iload dX4_vary_91 rfl ?_
        refine PW.iadd dX4_vary_93 ?_
        refine PW.callVv (c_X8_setNumber hA1 (by omega) hx1) cv_X8_setNumber lk_X4_114 (by first | assumption | exact And.left (by assumption)) dX4_vary_94 rfl rfl rfl rfl ?_
        refine PW.st (upS τ (a + 2) (up1 f (mnp f p) (f (mnp f p) + i))) (by show upS τ (a + 2) (up1 (τ (a + 2)) (mnp f p) (f (mnp f p) + i)) = _; rw [g2, up1_up1]) ?_
        refine PW.aload_n dX4_vary_97 rfl ?_
        refine PW.iload_n dX4_vary_98 rfl ?_
        refine PW.iconst dX4_vary_99 ?_
        refine PW.iadd dX4_vary_100 ?_
        refine PW.callVr (c_X4_stage (by assumption) (by omega)) cv_X4_stage lk_X4_67 (by first | assumption | exact And.left (by assumption)) dX4_vary_101 rfl rfl rfl rfl ?_
        refine PW.aload_n dX4_vary_104 rfl ?_
        refine PW.iload_n dX4_vary_105 rfl ?_
        refine PW.callVr (c_X4_stage (by assumption) (by omega)) cv_X4_stage lk_X4_67 (by first | assumption | exact And.left (by assumption)) dX4_vary_106 rfl rfl rfl rfl ?_
        refine PW.aload_n dX4_vary_109 rfl ?_
        refine PW.getR fl_X4_12 rfl (by assumption) rfl dX4_vary_110 ?_
        refine PW.iload_n dX4_vary_113 rfl ?_
        refine PW.aload_n dX4_vary_114 rfl ?_
        refine PW.iload_n dX4_vary_115 rfl ?_
        refine PW.iconst dX4_vary_116 ?_
        refine PW.iadd dX4_vary_117 ?_
        refine PW.callVr (c_X4_looseIndex (c := c) (n := n) hA (by rw [upS_ne (by omega), f2]; exact hc) (by omega) (by rw [upS_ne (by omega), f3]; exact hn) (by omega)) cv_X4_looseIndex lk_X4_71 (by first | assumption | exact And.left (by assumption)) dX4_vary_118 rfl rfl rfl rfl ?_
        refine PW.top (liF (σ (a + 9)) c n (l + 1)) (by rw [upS_ne (show a + 9 ≠ a + 2 by omega), f4]) ?_
        have q1 : (upS τ (a + 2) (up1 f (mnp f p) (f (mnp f p) + i))) (a + 1 + 1) = (up1 f (mnp f p) (f (mnp f p) + i)) := upS_same _ _ _
        have q2 : ∀ x : Int, (upS τ (a + 2) (up1 f (mnp f p) (f (mnp f p) + i))) (cA (sgA a (l + 1)) x + 1) = τ (cA (sgA a (l + 1)) x + 1) := fun x => upS_ne (by unfold cA sgA; omega)
        have q3 : ∀ x : Int, (upS τ (a + 2) (up1 f (mnp f p) (f (mnp f p) + i))) (cA (sgA a l) x + 1) = τ (cA (sgA a l) x + 1) := fun x => upS_ne (by unfold cA sgA; omega)
        refine PW.callVv (c_X2_goOnFrom hS1 (by decide) hA1 (fun q q0 q1x => by rw [q1]; exact hE1 q (by omega) (by omega)) (by omega) (by unfold sgA; omega) (by decide) hS0 (by decide) (by decide) (by unfold sgA; omega) (colsOk_congr (fun x x0 x1 => by unfold sgA at x0; exact upS_ne (by omega)) (f6 l hl (by omega)))) cv_X2_goOnFrom lk_X4_118 (by first | assumption | exact And.left (by assumption)) dX4_vary_121 rfl rfl rfl rfl ?_
        refine PW.st (stC (upS τ (a + 2) (up1 f (mnp f p) (f (mnp f p) + i))) (sgA a (l + 1)) 64 (fun x => goF (up1 f (mnp f p) (f (mnp f p) + i)) x (cp8 (τ (cA (sgA a (l + 1)) x + 1)) (τ (cA (sgA a l) x + 1))) p (liF (σ (a + 9)) c n (l + 1) - p).toNat)) (by simp only [q1, q2, q3]) ?_
        have s1 : ∀ q, (q < sgA a (l + 1) + 5 ∨ sgA a (l + 1) + 4 + 2 * 64 ≤ q) → q ≠ a + 2 → (stC (upS τ (a + 2) (up1 f (mnp f p) (f (mnp f p) + i))) (sgA a (l + 1)) 64 (fun x => goF (up1 f (mnp f p) (f (mnp f p) + i)) x (cp8 (τ (cA (sgA a (l + 1)) x + 1)) (τ (cA (sgA a l) x + 1))) p (liF (σ (a + 9)) c n (l + 1) - p).toNat)) q = τ q := fun q h1 h2 => by rw [stC_ne h1, upS_ne h2]
        have z2 : (stC (upS τ (a + 2) (up1 f (mnp f p) (f (mnp f p) + i))) (sgA a (l + 1)) 64 (fun x => goF (up1 f (mnp f p) (f (mnp f p) + i)) x (cp8 (τ (cA (sgA a (l + 1)) x + 1)) (τ (cA (sgA a l) x + 1))) p (liF (σ (a + 9)) c n (l + 1) - p).toNat)) (a + 2) = (up1 f (mnp f p) (f (mnp f p) + i)) := by rw [stC_ne (by unfold sgA; omega), upS_same]
        have z1 : (stC (upS τ (a + 2) (up1 f (mnp f p) (f (mnp f p) + i))) (sgA a (l + 1)) 64 (fun x => goF (up1 f (mnp f p) (f (mnp f p) + i)) x (cp8 (τ (cA (sgA a (l + 1)) x + 1)) (τ (cA (sgA a l) x + 1))) p (liF (σ (a + 9)) c n (l + 1) - p).toNat)) (a + 1) = σ (a + 1) := by rw [s1 _ (by unfold sgA; omega) (by omega), f3]
        have z0 : (stC (upS τ (a + 2) (up1 f (mnp f p) (f (mnp f p) + i))) (sgA a (l + 1)) 64 (fun x => goF (up1 f (mnp f p) (f (mnp f p) + i)) x (cp8 (τ (cA (sgA a (l + 1)) x + 1)) (τ (cA (sgA a l) x + 1))) p (liF (σ (a + 9)) c n (l + 1) - p).toNat)) a = σ a := by rw [s1 _ (by unfold sgA; omega) (by omega), f2]
        have z9 : (stC (upS τ (a + 2) (up1 f (mnp f p) (f (mnp f p) + i))) (sgA a (l + 1)) 64 (fun x => goF (up1 f (mnp f p) (f (mnp f p) + i)) x (cp8 (τ (cA (sgA a (l + 1)) x + 1)) (τ (cA (sgA a l) x + 1))) p (liF (σ (a + 9)) c n (l + 1) - p).toNat)) (a + 9) = σ (a + 9) := by rw [s1 _ (by unfold sgA; omega) (by omega), f4]
        have hT3 : taOk (stC (upS τ (a + 2) (up1 f (mnp f p) (f (mnp f p) + i))) (sgA a (l + 1)) 64 (fun x => goF (up1 f (mnp f p) (f (mnp f p) + i)) x (cp8 (τ (cA (sgA a (l + 1)) x + 1)) (τ (cA (sgA a l) x + 1))) p (liF (σ (a + 9)) c n (l + 1) - p).toNat)) (a + 1) := by
          refine ⟨by rw [z1, hn]; exact hn16, fun q q0 q1 => ?_⟩
          rw [z1, hn] at q1
          rw [show (stC (upS τ (a + 2) (up1 f (mnp f p) (f (mnp f p) + i))) (sgA a (l + 1)) 64 (fun x => goF (up1 f (mnp f p) (f (mnp f p) + i)) x (cp8 (τ (cA (sgA a (l + 1)) x + 1)) (τ (cA (sgA a l) x + 1))) p (liF (σ (a + 9)) c n (l + 1) - p).toNat)) (a + 1 + 1) = (up1 f (mnp f p) (f (mnp f p) + i)) from z2]
          exact hE1 q q0 q1
        refine PW.aload_n dX4_vary_124 rfl ?_
        refine PW.iload_n dX4_vary_125 rfl ?_
        refine PW.iconst dX4_vary_126 ?_
        refine PW.iadd dX4_vary_127 ?_
        have hst1 : ∀ q, 0 ≤ q → q < 64 → eq8 ((stC (upS τ (a + 2) (up1 f (mnp f p) (f (mnp f p) + i))) (sgA a (l + 1)) 64 (fun x => goF (up1 f (mnp f p) (f (mnp f p) + i)) x (cp8 (τ (cA (sgA a (l + 1)) x + 1)) (τ (cA (sgA a l) x + 1))) p (liF (σ (a + 9)) c n (l + 1) - p).toNat)) (cA (sgA a (l + 1)) q + 1)) (tlF (up1 f (mnp f p) (f (mnp f p) + i)) q zF (liF ((stC (upS τ (a + 2) (up1 f (mnp f p) (f (mnp f p) + i))) (sgA a (l + 1)) 64 (fun x => goF (up1 f (mnp f p) (f (mnp f p) + i)) x (cp8 (τ (cA (sgA a (l + 1)) x + 1)) (τ (cA (sgA a l) x + 1))) p (liF (σ (a + 9)) c n (l + 1) - p).toNat)) (a + 9)) c n (l + 1)).toNat) := fun q q0 q1 => by
          rw [stC_at q0 q1, z9]
          have e0 : eq8 (cp8 (τ (cA (sgA a (l + 1)) q + 1)) (τ (cA (sgA a l) q + 1))) (tlF (up1 f (mnp f p) (f (mnp f p) + i)) q zF p.toNat) := by
            refine (cp8_eq _ _).trans ?_
            rw [f5 l hl (Int.le_refl l) q q0 q1]
            have := hst q q0 q1
            rw [hp] at this
            rw [tlF_congr (f := f) (g := (up1 f (mnp f p) (f (mnp f p) + i))) q zF (k := p.toNat) (fun j j0 j1 => up1_ne (by omega))]
            exact this
          have e1 := goF_eq (f := (up1 f (mnp f p) (f (mnp f p) + i))) (n := q) (fr := p) e0 (liF (σ (a + 9)) c n (l + 1) - p).toNat
          have e2 := tl_go (up1 f (mnp f p) (f (mnp f p) + i)) q zF p.toNat (liF (σ (a + 9)) c n (l + 1) - p).toNat
          rw [show ((p.toNat : Nat) : Int) = p by omega, show p.toNat + (liF (σ (a + 9)) c n (l + 1) - p).toNat = (liF (σ (a + 9)) c n (l + 1)).toNat by omega] at e2
          rw [e2] at e1
          exact e1
        have hco1 : ∀ q, 0 ≤ q → q < 5 → colsOk (stC (upS τ (a + 2) (up1 f (mnp f p) (f (mnp f p) + i))) (sgA a (l + 1)) 64 (fun x => goF (up1 f (mnp f p) (f (mnp f p) + i)) x (cp8 (τ (cA (sgA a (l + 1)) x + 1)) (τ (cA (sgA a l) x + 1))) p (liF (σ (a + 9)) c n (l + 1) - p).toNat)) (sgA a q) 64 := fun q q0 q1 j j0 j1 => by
          by_cases x : q = l + 1
          · rw [x, stC_at j0 j1]
            exact goF_ok (cp8_ok (f6 l hl (by omega) j j0 j1)) (fun y y0 y1 => hE1 y (by omega) (by omega))
          · rw [s1 _ (sg_ne q0 q1 j0 j1 (by omega) x) (by unfold cA sgA; omega)]
            exact f6 q q0 q1 j j0 j1
        have hbb1 : ∀ b, 0 ≤ b → b < 16 → (0 ≤ (stC (upS τ (a + 2) (up1 f (mnp f p) (f (mnp f p) + i))) (sgA a (l + 1)) 64 (fun x => goF (up1 f (mnp f p) (f (mnp f p) + i)) x (cp8 (τ (cA (sgA a (l + 1)) x + 1)) (τ (cA (sgA a l) x + 1))) p (liF (σ (a + 9)) c n (l + 1) - p).toNat)) (a + 11) b ∧ (stC (upS τ (a + 2) (up1 f (mnp f p) (f (mnp f p) + i))) (sgA a (l + 1)) 64 (fun x => goF (up1 f (mnp f p) (f (mnp f p) + i)) x (cp8 (τ (cA (sgA a (l + 1)) x + 1)) (τ (cA (sgA a l) x + 1))) p (liF (σ (a + 9)) c n (l + 1) - p).toNat)) (a + 11) b ≤ 5120) ∧ (0 ≤ (stC (upS τ (a + 2) (up1 f (mnp f p) (f (mnp f p) + i))) (sgA a (l + 1)) 64 (fun x => goF (up1 f (mnp f p) (f (mnp f p) + i)) x (cp8 (τ (cA (sgA a (l + 1)) x + 1)) (τ (cA (sgA a l) x + 1))) p (liF (σ (a + 9)) c n (l + 1) - p).toNat)) (a + 12) b ∧ (stC (upS τ (a + 2) (up1 f (mnp f p) (f (mnp f p) + i))) (sgA a (l + 1)) 64 (fun x => goF (up1 f (mnp f p) (f (mnp f p) + i)) x (cp8 (τ (cA (sgA a (l + 1)) x + 1)) (τ (cA (sgA a l) x + 1))) p (liF (σ (a + 9)) c n (l + 1) - p).toNat)) (a + 12) b ≤ 5120) := fun b b0 b1 => by
          rw [s1 (a + 11) (by unfold sgA; omega) (by omega), s1 (a + 12) (by unfold sgA; omega) (by omega)]
          exact eB b b0 b1
        have hv := vary_0 (G := G) (S := S) (σ := (stC (upS τ (a + 2) (up1 f (mnp f p) (f (mnp f p) + i))) (sgA a (l + 1)) 64 (fun x => goF (up1 f (mnp f p) (f (mnp f p) + i)) x (cp8 (τ (cA (sgA a (l + 1)) x + 1)) (τ (cA (sgA a l) x + 1))) p (liF (σ (a + 9)) c n (l + 1) - p).toNat))) (a := a) (l := l + 1) (f := (up1 f (mnp f p) (f (mnp f p) + i))) (n := n) (c := c) hA (by rw [z1]; exact hn) hT3 z2 (by rw [z0]; exact hc) (by rw [looF_up hkp]; exact hcl) hc4 (by rw [z9]; exact losA_up hkp hla) (by omega) (by omega) hst1 hco1 hbb1
        refine PW.callVg hv cv_X4_vary lk_X4_79 hA0 dX4_vary_128 rfl rfl rfl rfl (fun r S' τ128 hq => ?_)
        refine PW.iinc [(0, _), (1, _), (2, _), (3, _), (4, _), (5, _), (6, _)] dX4_vary_131 rfl rfl (Nat.le_of_ble_eq_true rfl) ?_
        refine PW.goto 59 dX4_vary_134 (by decide) ?_
        first
          | (refine ih (i + 1) τ v (by omega) (by omega) (by omega) g1 g2 (fun b b0 b1 => ⟨lsI_skip p1 hlp (by assumption) (g3 b b0 b1).1, grI_skip p1 hlp (by assumption) (g3 b b0 b1).2⟩))
          | (obtain ⟨rfl, rfl, ⟨x1, x2, x3, x4, x5, x6⟩, y1, y2⟩ := hq
             refine ih (i + 1) _ (f (mnp f p) + i) (by omega) (by omega) (by omega) ⟨fun q hq => ?_, ?_, ?_, ?_, fun q q0 q1 j j0 j1 => ?_, x6⟩ y1 (fun b b0 b1 => ?_)
             · rw [x1 q hq, s1 q (by unfold sgA; omega) (by omega)]; exact f1 q hq
             · rw [x2, z0]
             · rw [x3, z1]
             · rw [x4, z9]
             · rw [x5 q q0 (by omega) j j0 j1, s1 _ (sg_ne q0 (by omega) j0 j1 (by omega) (by omega)) (by unfold cA sgA; omega)]
               exact f5 q q0 q1 j j0 j1
             · have yy := y2 b b0 b1
               rw [z9, s1 (a + 11) (by unfold sgA; omega) (by omega), s1 (a + 12) (by unfold sgA; omega) (by omega)] at yy
               exact ⟨lsI_step hkd p0 p1 hlp gp1 gp2 ⟨by omega, by omega⟩ hsu (g3 b b0 b1).1 yy.1, grI_step hkd p0 p1 hlp gp1 gp2 ⟨by omega, by omega⟩ hsu (g3 b b0 b1).2 yy.2⟩)
      · refine PW.goto 131 dX4_vary_79 (by decide) ?_
        refine PW.iinc [(0, _), (1, _), (2, _), (3, _), (4, _), (5, _), (6, _)] dX4_vary_131 rfl rfl (Nat.le_of_ble_eq_true rfl) ?_
        refine PW.goto 59 dX4_vary_134 (by decide) ?_
        first
          | (refine ih (i + 1) τ v (by omega) (by omega) (by omega) g1 g2 (fun b b0 b1 => ⟨lsI_skip p1 hlp (by assumption) (g3 b b0 b1).1, grI_skip p1 hlp (by assumption) (g3 b b0 b1).2⟩))
          | (obtain ⟨rfl, rfl, ⟨x1, x2, x3, x4, x5, x6⟩, y1, y2⟩ := hq
             refine ih (i + 1) _ (f (mnp f p) + i) (by omega) (by omega) (by omega) ⟨fun q hq => ?_, ?_, ?_, ?_, fun q q0 q1 j j0 j1 => ?_, x6⟩ y1 (fun b b0 b1 => ?_)
             · rw [x1 q hq, s1 q (by unfold sgA; omega) (by omega)]; exact f1 q hq
             · rw [x2, z0]
             · rw [x3, z1]
             · rw [x4, z9]
             · rw [x5 q q0 (by omega) j j0 j1, s1 _ (sg_ne q0 (by omega) j0 j1 (by omega) (by omega)) (by unfold cA sgA; omega)]
               exact f5 q q0 q1 j j0 j1
             · have yy := y2 b b0 b1
               rw [z9, s1 (a + 11) (by unfold sgA; omega) (by omega), s1 (a + 12) (by unfold sgA; omega) (by omega)] at yy
               exact ⟨lsI_step hkd p0 p1 hlp gp1 gp2 ⟨by omega, by omega⟩ hsu (g3 b b0 b1).1 yy.1, grI_step hkd p0 p1 hlp gp1 gp2 ⟨by omega, by omega⟩ hsu (g3 b b0 b1).2 yy.2⟩)
theorem vary_1 {G : GT} {S : Shp} {σ : Sto} {a : Nat} {f : Int → Int} {l n c : Int} (hA : IsEnds S a) (hn : σ (a + 1) 2 = n) (hT : taOk σ (a + 1)) (hf : σ (a + 2) = f) (hc : σ a 7 = c) (hcl : looF f n = c) (hc4 : c ≤ 4) (hla : losA f (σ (a + 9)) n) (hl : 0 ≤ l) (hkk : c - l = 1) (hst : ∀ q, 0 ≤ q → q < 64 → eq8 (σ (cA (sgA a l) q + 1)) (tlF f q zF (liF (σ (a + 9)) c n l).toNat)) (hco : ∀ q, 0 ≤ q → q < 5 → colsOk σ (sgA a q) 64) (hb : ∀ b, 0 ≤ b → b < 16 → (0 ≤ σ (a + 11) b ∧ σ (a + 11) b ≤ 5120) ∧ (0 ≤ σ (a + 12) b ∧ σ (a + 12) b ≤ 5120)) : PMet G mX4_vary 7 0 0 [.ref a, .int (iI l)] S σ (fun r S' σ' => r = none ∧ S' = S ∧ vaP σ σ' a f l n c) := by
  obtain ⟨p, hp⟩ : ∃ p, liF (σ (a + 9)) c n l = p := ⟨_, rfl⟩
  obtain ⟨hA0, hA1, hA4, hA9, hA10, hA11, hA12, hAs⟩ := id hA
  have hT0 := hA1.1
  have hn16 := hT.1
  rw [hn] at hn16
  have hkd : ∀ i, 0 ≤ i → i < n → 0 ≤ f (7 * i) ∧ f (7 * i) ≤ 5 := fun i i0 i1 => by
    have := (hT.2 i i0 (by omega)).k
    rw [show σ (a + 1 + 1) = f from hf] at this
    exact this
  have hlf := liF_at (f := f) (la := σ (a + 9)) (n := n) (l := l) (by omega) hla hl (by omega)
  have hgp := liF_gap (f := f) (la := σ (a + 9)) (n := n) (l := l) (by omega) hla hl (by omega)
  rw [hcl] at hlf hgp
  rw [hp] at hlf hgp
  obtain ⟨⟨p0, p1⟩, hlp, hcp⟩ := hlf
  obtain ⟨gp1, gp2⟩ := hgp
  have hnx := liF_b (f := f) (la := σ (a + 9)) (n := n) (l := l + 1) (by omega) hla (by omega)
  rw [hcl] at hnx
  have hkp := hkd p p0 p1
  have hx1 := xT_1 hkp
  have hmp := mnp_b hkp
  have hEf : ∀ i, 0 ≤ i → i < n → evOk f i := fun i i0 i1 => by
    have := hT.2 i i0 (by omega)
    rw [show σ (a + 1 + 1) = f from hf] at this
    exact this
  have hnum := (hEf p p0 p1).2.1 (xT 1 (f (7 * p))) hx1.1 hx1.2
  have hnum2 : -40 ≤ f (mnp f p) ∧ f (mnp f p) ≤ 39 := hnum
  have hS1 := hAs (l + 1) (by omega) (by omega)
  have hS0 := hAs l hl (by omega)
  refine PMet.of [(0, .ref a), (1, .int (iI (l)))] (by decide +kernel) rfl (Nat.le_of_ble_eq_true rfl) ?_
  refine PW.iload_n dX4_vary_0 rfl ?_
  refine PW.aload_n dX4_vary_1 rfl ?_
  refine PW.getI 7 fl_X4_44 rfl (by assumption) rfl rfl dX4_vary_2 ?_
  refine PW.top c hc ?_
  refine PW.icmp_ge 13 dX4_vary_5 (by decide) (by first | assumption | (unfold inR; omega)) (by first | assumption | (unfold inR; omega)) (fun h5 => ?_) (fun h5 => ?_)
  · exfalso; omega
  · refine PW.iload_n dX4_vary_8 rfl ?_
    refine PW.iconst dX4_vary_9 ?_
    refine PW.icmp_lt 23 dX4_vary_10 (by decide) (by first | assumption | (unfold inR; omega)) (by first | assumption | (unfold inR; omega)) (fun h10 => ?_) (fun h10 => ?_)
    · refine PW.aload_n dX4_vary_23 rfl ?_
      refine PW.iload_n dX4_vary_24 rfl ?_
      refine PW.callVr (c_X4_looseIndex (c := c) (n := n) hA hc (by omega) hn (by omega)) cv_X4_looseIndex lk_X4_71 (by first | assumption | exact And.left (by assumption)) dX4_vary_25 rfl rfl rfl rfl ?_
      refine PW.top p hp ?_
      refine PW.istore_n [(0, _), (1, _), (2, _)] dX4_vary_28 rfl (Nat.le_of_ble_eq_true rfl) ?_
      refine PW.aload_n dX4_vary_29 rfl ?_
      refine PW.getR fl_X4_12 rfl (by assumption) rfl dX4_vary_30 ?_
      refine PW.iload_n dX4_vary_33 rfl ?_
      refine PW.callVr (c_X8_kind hA1 (by omega)) cv_X8_kind lk_X4_98 (by first | assumption | exact And.left (by assumption)) dX4_vary_34 rfl rfl rfl rfl ?_
      refine PW.top (f (7 * p)) (by show σ (a + 2) (7 * p) = _; rw [hf]) ?_
      refine PW.istore_n [(0, _), (1, _), (2, _), (3, _)] dX4_vary_37 rfl (Nat.le_of_ble_eq_true rfl) ?_
      refine PW.iload_n dX4_vary_38 rfl ?_
      refine PW.callSr (c_X5_mainPlace hkp) cs_X5_mainPlace lk_X4_101 dX4_vary_39 rfl rfl rfl ?_
      refine PW.istore [(0, _), (1, _), (2, _), (3, _), (4, _)] dX4_vary_42 rfl (Nat.le_of_ble_eq_true rfl) ?_
      refine PW.aload_n dX4_vary_44 rfl ?_
      refine PW.getR fl_X4_12 rfl (by assumption) rfl dX4_vary_45 ?_
      refine PW.iload_n dX4_vary_48 rfl ?_
      refine PW.iload dX4_vary_49 rfl ?_
      refine PW.callVr (c_X8_number hA1 (by omega) hx1) cv_X8_number lk_X4_106 (by first | assumption | exact And.left (by assumption)) dX4_vary_51 rfl rfl rfl rfl ?_
      refine PW.top (f (mnp f p)) (by show σ (a + 2) (7 * p + 1 + xT 1 (f (7 * p))) = _; rw [hf]; rfl) ?_
      refine PW.istore [(0, _), (1, _), (2, _), (3, _), (4, _), (5, _)] dX4_vary_54 rfl (Nat.le_of_ble_eq_true rfl) ?_
      refine PW.iconst dX4_vary_56 ?_
      refine PW.istore [(0, _), (1, _), (2, _), (3, _), (4, _), (5, _), (6, _)] dX4_vary_57 rfl (Nat.le_of_ble_eq_true rfl) ?_
      refine vary_lp1 hA hn hT hf hc hcl hc4 hla hl hkk hst hco hb hp (fun τ h => ⟨rfl, rfl, h⟩) 4 _ σ (f (mnp f p)) (by omega) (by omega) (by omega) ⟨fun _ _ => rfl, rfl, rfl, rfl, fun _ _ _ _ _ _ => rfl, hco⟩ (by rw [up1_self]; exact hf) (fun b b0 b1 => ⟨lsI_0 p1 hlp, grI_0 p1 hlp⟩)
    · exfalso; omega
set_option maxRecDepth 20000 in
theorem vary_lp2 {G : GT} {S : Shp} {σ : Sto} {a : Nat} {f : Int → Int} {l n c : Int} {p : Int} {Q : Option Value → Shp → Sto → Prop} (hA : IsEnds S a) (hn : σ (a + 1) 2 = n) (hT : taOk σ (a + 1)) (hf : σ (a + 2) = f) (hc : σ a 7 = c) (hcl : looF f n = c) (hc4 : c ≤ 4) (hla : losA f (σ (a + 9)) n) (hl : 0 ≤ l) (hkk : c - l = 2) (hst : ∀ q, 0 ≤ q → q < 64 → eq8 (σ (cA (sgA a l) q + 1)) (tlF f q zF (liF (σ (a + 9)) c n l).toNat)) (hco : ∀ q, 0 ≤ q → q < 5 → colsOk σ (sgA a q) 64) (hb : ∀ b, 0 ≤ b → b < 16 → (0 ≤ σ (a + 11) b ∧ σ (a + 11) b ≤ 5120) ∧ (0 ≤ σ (a + 12) b ∧ σ (a + 12) b ≤ 5120)) (hp : liF (σ (a + 9)) c n l = p) (hQ : ∀ τ : Sto, vaP σ τ a f l n c → Q none S τ) : ∀ (t : Nat) (i : Int) (τ : Sto) (v : Int), -1 ≤ i → i ≤ 2 → 2 - i < t → vaFr σ τ a l → τ (a + 2) = up1 f (mnp f p) v → (∀ b, 0 ≤ b → b < 16 → lsI (σ (a + 11) b) (τ (a + 11) b) f p n b (f (mnp f p) + i) ∧ grI (σ (a + 12) b) (τ (a + 12) b) f p n b (f (mnp f p) + i)) → PW (fm G mX4_vary 8 0 0 Q) G S (τ) 0 0 59 [(0, .ref a), (1, .int (iI (l))), (2, .int (iI (p))), (3, .int (iI (f (7 * p)))), (4, .int (iI (xT 1 (f (7 * p))))), (5, .int (iI (f (mnp f p)))), (6, .int (iI (i)))] [] := by
  obtain ⟨hA0, hA1, hA4, hA9, hA10, hA11, hA12, hAs⟩ := id hA
  have hT0 := hA1.1
  have hn16 := hT.1
  rw [hn] at hn16
  have hkd : ∀ i, 0 ≤ i → i < n → 0 ≤ f (7 * i) ∧ f (7 * i) ≤ 5 := fun i i0 i1 => by
    have := (hT.2 i i0 (by omega)).k
    rw [show σ (a + 1 + 1) = f from hf] at this
    exact this
  have hlf := liF_at (f := f) (la := σ (a + 9)) (n := n) (l := l) (by omega) hla hl (by omega)
  have hgp := liF_gap (f := f) (la := σ (a + 9)) (n := n) (l := l) (by omega) hla hl (by omega)
  rw [hcl] at hlf hgp
  rw [hp] at hlf hgp
  obtain ⟨⟨p0, p1⟩, hlp, hcp⟩ := hlf
  obtain ⟨gp1, gp2⟩ := hgp
  have hnx := liF_b (f := f) (la := σ (a + 9)) (n := n) (l := l + 1) (by omega) hla (by omega)
  rw [hcl] at hnx
  have hkp := hkd p p0 p1
  have hx1 := xT_1 hkp
  have hmp := mnp_b hkp
  have hEf : ∀ i, 0 ≤ i → i < n → evOk f i := fun i i0 i1 => by
    have := hT.2 i i0 (by omega)
    rw [show σ (a + 1 + 1) = f from hf] at this
    exact this
  have hnum := (hEf p p0 p1).2.1 (xT 1 (f (7 * p))) hx1.1 hx1.2
  have hnum2 : -40 ≤ f (mnp f p) ∧ f (mnp f p) ≤ 39 := hnum
  have hS1 := hAs (l + 1) (by omega) (by omega)
  have hS0 := hAs l hl (by omega)
  intro t
  induction t with
  | zero => intro i τ v h1 h2 h3 g1 g2 g3; omega
  | succ t ih =>
    intro i τ v h1 h2 h3 g1 g2 g3
    obtain ⟨f1, f2, f3, f4, f5, f6⟩ := id g1
    have eB : ∀ b, 0 ≤ b → b < 16 → (0 ≤ τ (a + 11) b ∧ τ (a + 11) b ≤ 5120) ∧ (0 ≤ τ (a + 12) b ∧ τ (a + 12) b ≤ 5120) := fun b b0 b1 => ⟨lsI_b (g3 b b0 b1).1 (hb b b0 b1).1, grI_b (g3 b b0 b1).2 (hb b b0 b1).2⟩
    refine PW.iload dX4_vary_59 rfl ?_
    refine PW.iconst dX4_vary_61 ?_
    refine PW.icmp_gt 137 dX4_vary_62 (by decide) (by first | assumption | (unfold inR; omega)) (by first | assumption | (unfold inR; omega)) (fun h62 => ?_) (fun h62 => ?_)
    · refine PW.aload_n dX4_vary_137 rfl ?_
      refine PW.getR fl_X4_12 rfl (by assumption) rfl dX4_vary_138 ?_
      refine PW.iload_n dX4_vary_141 rfl ?_
      refine PW.iload dX4_vary_142 rfl ?_
      refine PW.iload dX4_vary_144 rfl ?_
      refine PW.callVv (c_X8_setNumber (by assumption) (by omega) (by omega)) cv_X8_setNumber lk_X4_114 (by first | assumption | exact And.left (by assumption)) dX4_vary_146 rfl rfl rfl rfl ?_
      have hi : i = 2 := by omega
      subst hi
      refine PW.vret rfl dX4_vary_149 (hQ _ ⟨⟨fun q hq => ?_, ?_, ?_, ?_, fun q q0 q1 j j0 j1 => ?_, fun q q0 q1 => ?_⟩, ?_, fun b b0 b1 => ?_⟩)
      · rw [upS_ne (by omega)]; exact f1 q hq
      · rw [upS_ne (by omega)]; exact f2
      · rw [upS_ne (by omega)]; exact f3
      · rw [upS_ne (by omega)]; exact f4
      · rw [upS_ne (by unfold cA sgA; omega)]; exact f5 q q0 q1 j j0 j1
      · exact colsOk_congr (fun x x0 x1 => by unfold sgA at x0; exact upS_ne (by omega)) (f6 q q0 q1)
      · show upS τ (a + 2) (up1 (τ (a + 2)) (mnp f p) (f (mnp f p))) (a + 2) = f
        rw [upS_same, g2, up1_up1, up1_self]
      · rw [upS_ne (by omega), upS_ne (by omega), hp]
        exact ⟨lsI_end p1 hlp (g3 b b0 b1).1, grI_end p1 hlp (g3 b b0 b1).2⟩
    · refine PW.iload_n dX4_vary_65 rfl ?_
      refine PW.iload dX4_vary_66 rfl ?_
      refine PW.iload dX4_vary_68 rfl ?_
      refine PW.iload dX4_vary_70 rfl ?_
      refine PW.iadd dX4_vary_72 ?_
      refine PW.callSr (c_X5_suits hkp hx1 (by unfold inR; omega)) cs_X5_suits lk_X4_110 dX4_vary_73 rfl rfl rfl ?_
      refine PW.if_neB 82 dX4_vary_76 (by decide) (fun h76 => ?_) (fun h76 => ?_)
      · have hsu : suF (f (7 * p)) (xT 1 (f (7 * p))) (f (mnp f p) + i) := by assumption
        have kv := evOk_var (hEf p p0 p1) hsu
        have hE1 : ∀ q, 0 ≤ q → q < n → evOk (up1 f (mnp f p) (f (mnp f p) + i)) q := fun q q0 q1 => by
          by_cases x : q = p
          · rw [x]; exact kv.1
          · exact evOk_keep hkp (hEf q q0 q1) x
        refine PW.aload_n dX4_vary_82 rfl ?_
        refine PW.getR fl_X4_12 rfl (by assumption) rfl dX4_vary_83 ?_
        refine PW.iload_n dX4_vary_86 rfl ?_
        refine PW.iload dX4_vary_87 rfl ?_
        refine PW.iload dX4_vary_89 rfl ?_
        refine PW.iload dX4_vary_91 rfl ?_
        refine PW.iadd dX4_vary_93 ?_
        refine PW.callVv (c_X8_setNumber hA1 (by omega) hx1) cv_X8_setNumber lk_X4_114 (by first | assumption | exact And.left (by assumption)) dX4_vary_94 rfl rfl rfl rfl ?_
        refine PW.st (upS τ (a + 2) (up1 f (mnp f p) (f (mnp f p) + i))) (by show upS τ (a + 2) (up1 (τ (a + 2)) (mnp f p) (f (mnp f p) + i)) = _; rw [g2, up1_up1]) ?_
        refine PW.aload_n dX4_vary_97 rfl ?_
        refine PW.iload_n dX4_vary_98 rfl ?_
        refine PW.iconst dX4_vary_99 ?_
        refine PW.iadd dX4_vary_100 ?_
        refine PW.callVr (c_X4_stage (by assumption) (by omega)) cv_X4_stage lk_X4_67 (by first | assumption | exact And.left (by assumption)) dX4_vary_101 rfl rfl rfl rfl ?_
        refine PW.aload_n dX4_vary_104 rfl ?_
        refine PW.iload_n dX4_vary_105 rfl ?_
        refine PW.callVr (c_X4_stage (by assumption) (by omega)) cv_X4_stage lk_X4_67 (by first | assumption | exact And.left (by assumption)) dX4_vary_106 rfl rfl rfl rfl ?_
        refine PW.aload_n dX4_vary_109 rfl ?_
        refine PW.getR fl_X4_12 rfl (by assumption) rfl dX4_vary_110 ?_
        refine PW.iload_n dX4_vary_113 rfl ?_
        refine PW.aload_n dX4_vary_114 rfl ?_
        refine PW.iload_n dX4_vary_115 rfl ?_
        refine PW.iconst dX4_vary_116 ?_
        refine PW.iadd dX4_vary_117 ?_
        refine PW.callVr (c_X4_looseIndex (c := c) (n := n) hA (by rw [upS_ne (by omega), f2]; exact hc) (by omega) (by rw [upS_ne (by omega), f3]; exact hn) (by omega)) cv_X4_looseIndex lk_X4_71 (by first | assumption | exact And.left (by assumption)) dX4_vary_118 rfl rfl rfl rfl ?_
        refine PW.top (liF (σ (a + 9)) c n (l + 1)) (by rw [upS_ne (show a + 9 ≠ a + 2 by omega), f4]) ?_
        have q1 : (upS τ (a + 2) (up1 f (mnp f p) (f (mnp f p) + i))) (a + 1 + 1) = (up1 f (mnp f p) (f (mnp f p) + i)) := upS_same _ _ _
        have q2 : ∀ x : Int, (upS τ (a + 2) (up1 f (mnp f p) (f (mnp f p) + i))) (cA (sgA a (l + 1)) x + 1) = τ (cA (sgA a (l + 1)) x + 1) := fun x => upS_ne (by unfold cA sgA; omega)
        have q3 : ∀ x : Int, (upS τ (a + 2) (up1 f (mnp f p) (f (mnp f p) + i))) (cA (sgA a l) x + 1) = τ (cA (sgA a l) x + 1) := fun x => upS_ne (by unfold cA sgA; omega)
        refine PW.callVv (c_X2_goOnFrom hS1 (by decide) hA1 (fun q q0 q1x => by rw [q1]; exact hE1 q (by omega) (by omega)) (by omega) (by unfold sgA; omega) (by decide) hS0 (by decide) (by decide) (by unfold sgA; omega) (colsOk_congr (fun x x0 x1 => by unfold sgA at x0; exact upS_ne (by omega)) (f6 l hl (by omega)))) cv_X2_goOnFrom lk_X4_118 (by first | assumption | exact And.left (by assumption)) dX4_vary_121 rfl rfl rfl rfl ?_
        refine PW.st (stC (upS τ (a + 2) (up1 f (mnp f p) (f (mnp f p) + i))) (sgA a (l + 1)) 64 (fun x => goF (up1 f (mnp f p) (f (mnp f p) + i)) x (cp8 (τ (cA (sgA a (l + 1)) x + 1)) (τ (cA (sgA a l) x + 1))) p (liF (σ (a + 9)) c n (l + 1) - p).toNat)) (by simp only [q1, q2, q3]) ?_
        have s1 : ∀ q, (q < sgA a (l + 1) + 5 ∨ sgA a (l + 1) + 4 + 2 * 64 ≤ q) → q ≠ a + 2 → (stC (upS τ (a + 2) (up1 f (mnp f p) (f (mnp f p) + i))) (sgA a (l + 1)) 64 (fun x => goF (up1 f (mnp f p) (f (mnp f p) + i)) x (cp8 (τ (cA (sgA a (l + 1)) x + 1)) (τ (cA (sgA a l) x + 1))) p (liF (σ (a + 9)) c n (l + 1) - p).toNat)) q = τ q := fun q h1 h2 => by rw [stC_ne h1, upS_ne h2]
        have z2 : (stC (upS τ (a + 2) (up1 f (mnp f p) (f (mnp f p) + i))) (sgA a (l + 1)) 64 (fun x => goF (up1 f (mnp f p) (f (mnp f p) + i)) x (cp8 (τ (cA (sgA a (l + 1)) x + 1)) (τ (cA (sgA a l) x + 1))) p (liF (σ (a + 9)) c n (l + 1) - p).toNat)) (a + 2) = (up1 f (mnp f p) (f (mnp f p) + i)) := by rw [stC_ne (by unfold sgA; omega), upS_same]
        have z1 : (stC (upS τ (a + 2) (up1 f (mnp f p) (f (mnp f p) + i))) (sgA a (l + 1)) 64 (fun x => goF (up1 f (mnp f p) (f (mnp f p) + i)) x (cp8 (τ (cA (sgA a (l + 1)) x + 1)) (τ (cA (sgA a l) x + 1))) p (liF (σ (a + 9)) c n (l + 1) - p).toNat)) (a + 1) = σ (a + 1) := by rw [s1 _ (by unfold sgA; omega) (by omega), f3]
        have z0 : (stC (upS τ (a + 2) (up1 f (mnp f p) (f (mnp f p) + i))) (sgA a (l + 1)) 64 (fun x => goF (up1 f (mnp f p) (f (mnp f p) + i)) x (cp8 (τ (cA (sgA a (l + 1)) x + 1)) (τ (cA (sgA a l) x + 1))) p (liF (σ (a + 9)) c n (l + 1) - p).toNat)) a = σ a := by rw [s1 _ (by unfold sgA; omega) (by omega), f2]
        have z9 : (stC (upS τ (a + 2) (up1 f (mnp f p) (f (mnp f p) + i))) (sgA a (l + 1)) 64 (fun x => goF (up1 f (mnp f p) (f (mnp f p) + i)) x (cp8 (τ (cA (sgA a (l + 1)) x + 1)) (τ (cA (sgA a l) x + 1))) p (liF (σ (a + 9)) c n (l + 1) - p).toNat)) (a + 9) = σ (a + 9) := by rw [s1 _ (by unfold sgA; omega) (by omega), f4]
        have hT3 : taOk (stC (upS τ (a + 2) (up1 f (mnp f p) (f (mnp f p) + i))) (sgA a (l + 1)) 64 (fun x => goF (up1 f (mnp f p) (f (mnp f p) + i)) x (cp8 (τ (cA (sgA a (l + 1)) x + 1)) (τ (cA (sgA a l) x + 1))) p (liF (σ (a + 9)) c n (l + 1) - p).toNat)) (a + 1) := by
          refine ⟨by rw [z1, hn]; exact hn16, fun q q0 q1 => ?_⟩
          rw [z1, hn] at q1
          rw [show (stC (upS τ (a + 2) (up1 f (mnp f p) (f (mnp f p) + i))) (sgA a (l + 1)) 64 (fun x => goF (up1 f (mnp f p) (f (mnp f p) + i)) x (cp8 (τ (cA (sgA a (l + 1)) x + 1)) (τ (cA (sgA a l) x + 1))) p (liF (σ (a + 9)) c n (l + 1) - p).toNat)) (a + 1 + 1) = (up1 f (mnp f p) (f (mnp f p) + i)) from z2]
          exact hE1 q q0 q1
        refine PW.aload_n dX4_vary_124 rfl ?_
        refine PW.iload_n dX4_vary_125 rfl ?_
        refine PW.iconst dX4_vary_126 ?_
        refine PW.iadd dX4_vary_127 ?_
        have hst1 : ∀ q, 0 ≤ q → q < 64 → eq8 ((stC (upS τ (a + 2) (up1 f (mnp f p) (f (mnp f p) + i))) (sgA a (l + 1)) 64 (fun x => goF (up1 f (mnp f p) (f (mnp f p) + i)) x (cp8 (τ (cA (sgA a (l + 1)) x + 1)) (τ (cA (sgA a l) x + 1))) p (liF (σ (a + 9)) c n (l + 1) - p).toNat)) (cA (sgA a (l + 1)) q + 1)) (tlF (up1 f (mnp f p) (f (mnp f p) + i)) q zF (liF ((stC (upS τ (a + 2) (up1 f (mnp f p) (f (mnp f p) + i))) (sgA a (l + 1)) 64 (fun x => goF (up1 f (mnp f p) (f (mnp f p) + i)) x (cp8 (τ (cA (sgA a (l + 1)) x + 1)) (τ (cA (sgA a l) x + 1))) p (liF (σ (a + 9)) c n (l + 1) - p).toNat)) (a + 9)) c n (l + 1)).toNat) := fun q q0 q1 => by
          rw [stC_at q0 q1, z9]
          have e0 : eq8 (cp8 (τ (cA (sgA a (l + 1)) q + 1)) (τ (cA (sgA a l) q + 1))) (tlF (up1 f (mnp f p) (f (mnp f p) + i)) q zF p.toNat) := by
            refine (cp8_eq _ _).trans ?_
            rw [f5 l hl (Int.le_refl l) q q0 q1]
            have := hst q q0 q1
            rw [hp] at this
            rw [tlF_congr (f := f) (g := (up1 f (mnp f p) (f (mnp f p) + i))) q zF (k := p.toNat) (fun j j0 j1 => up1_ne (by omega))]
            exact this
          have e1 := goF_eq (f := (up1 f (mnp f p) (f (mnp f p) + i))) (n := q) (fr := p) e0 (liF (σ (a + 9)) c n (l + 1) - p).toNat
          have e2 := tl_go (up1 f (mnp f p) (f (mnp f p) + i)) q zF p.toNat (liF (σ (a + 9)) c n (l + 1) - p).toNat
          rw [show ((p.toNat : Nat) : Int) = p by omega, show p.toNat + (liF (σ (a + 9)) c n (l + 1) - p).toNat = (liF (σ (a + 9)) c n (l + 1)).toNat by omega] at e2
          rw [e2] at e1
          exact e1
        have hco1 : ∀ q, 0 ≤ q → q < 5 → colsOk (stC (upS τ (a + 2) (up1 f (mnp f p) (f (mnp f p) + i))) (sgA a (l + 1)) 64 (fun x => goF (up1 f (mnp f p) (f (mnp f p) + i)) x (cp8 (τ (cA (sgA a (l + 1)) x + 1)) (τ (cA (sgA a l) x + 1))) p (liF (σ (a + 9)) c n (l + 1) - p).toNat)) (sgA a q) 64 := fun q q0 q1 j j0 j1 => by
          by_cases x : q = l + 1
          · rw [x, stC_at j0 j1]
            exact goF_ok (cp8_ok (f6 l hl (by omega) j j0 j1)) (fun y y0 y1 => hE1 y (by omega) (by omega))
          · rw [s1 _ (sg_ne q0 q1 j0 j1 (by omega) x) (by unfold cA sgA; omega)]
            exact f6 q q0 q1 j j0 j1
        have hbb1 : ∀ b, 0 ≤ b → b < 16 → (0 ≤ (stC (upS τ (a + 2) (up1 f (mnp f p) (f (mnp f p) + i))) (sgA a (l + 1)) 64 (fun x => goF (up1 f (mnp f p) (f (mnp f p) + i)) x (cp8 (τ (cA (sgA a (l + 1)) x + 1)) (τ (cA (sgA a l) x + 1))) p (liF (σ (a + 9)) c n (l + 1) - p).toNat)) (a + 11) b ∧ (stC (upS τ (a + 2) (up1 f (mnp f p) (f (mnp f p) + i))) (sgA a (l + 1)) 64 (fun x => goF (up1 f (mnp f p) (f (mnp f p) + i)) x (cp8 (τ (cA (sgA a (l + 1)) x + 1)) (τ (cA (sgA a l) x + 1))) p (liF (σ (a + 9)) c n (l + 1) - p).toNat)) (a + 11) b ≤ 5120) ∧ (0 ≤ (stC (upS τ (a + 2) (up1 f (mnp f p) (f (mnp f p) + i))) (sgA a (l + 1)) 64 (fun x => goF (up1 f (mnp f p) (f (mnp f p) + i)) x (cp8 (τ (cA (sgA a (l + 1)) x + 1)) (τ (cA (sgA a l) x + 1))) p (liF (σ (a + 9)) c n (l + 1) - p).toNat)) (a + 12) b ∧ (stC (upS τ (a + 2) (up1 f (mnp f p) (f (mnp f p) + i))) (sgA a (l + 1)) 64 (fun x => goF (up1 f (mnp f p) (f (mnp f p) + i)) x (cp8 (τ (cA (sgA a (l + 1)) x + 1)) (τ (cA (sgA a l) x + 1))) p (liF (σ (a + 9)) c n (l + 1) - p).toNat)) (a + 12) b ≤ 5120) := fun b b0 b1 => by
          rw [s1 (a + 11) (by unfold sgA; omega) (by omega), s1 (a + 12) (by unfold sgA; omega) (by omega)]
          exact eB b b0 b1
        have hv := vary_1 (G := G) (S := S) (σ := (stC (upS τ (a + 2) (up1 f (mnp f p) (f (mnp f p) + i))) (sgA a (l + 1)) 64 (fun x => goF (up1 f (mnp f p) (f (mnp f p) + i)) x (cp8 (τ (cA (sgA a (l + 1)) x + 1)) (τ (cA (sgA a l) x + 1))) p (liF (σ (a + 9)) c n (l + 1) - p).toNat))) (a := a) (l := l + 1) (f := (up1 f (mnp f p) (f (mnp f p) + i))) (n := n) (c := c) hA (by rw [z1]; exact hn) hT3 z2 (by rw [z0]; exact hc) (by rw [looF_up hkp]; exact hcl) hc4 (by rw [z9]; exact losA_up hkp hla) (by omega) (by omega) hst1 hco1 hbb1
        refine PW.callVg hv cv_X4_vary lk_X4_79 hA0 dX4_vary_128 rfl rfl rfl rfl (fun r S' τ128 hq => ?_)
        refine PW.iinc [(0, _), (1, _), (2, _), (3, _), (4, _), (5, _), (6, _)] dX4_vary_131 rfl rfl (Nat.le_of_ble_eq_true rfl) ?_
        refine PW.goto 59 dX4_vary_134 (by decide) ?_
        first
          | (refine ih (i + 1) τ v (by omega) (by omega) (by omega) g1 g2 (fun b b0 b1 => ⟨lsI_skip p1 hlp (by assumption) (g3 b b0 b1).1, grI_skip p1 hlp (by assumption) (g3 b b0 b1).2⟩))
          | (obtain ⟨rfl, rfl, ⟨x1, x2, x3, x4, x5, x6⟩, y1, y2⟩ := hq
             refine ih (i + 1) _ (f (mnp f p) + i) (by omega) (by omega) (by omega) ⟨fun q hq => ?_, ?_, ?_, ?_, fun q q0 q1 j j0 j1 => ?_, x6⟩ y1 (fun b b0 b1 => ?_)
             · rw [x1 q hq, s1 q (by unfold sgA; omega) (by omega)]; exact f1 q hq
             · rw [x2, z0]
             · rw [x3, z1]
             · rw [x4, z9]
             · rw [x5 q q0 (by omega) j j0 j1, s1 _ (sg_ne q0 (by omega) j0 j1 (by omega) (by omega)) (by unfold cA sgA; omega)]
               exact f5 q q0 q1 j j0 j1
             · have yy := y2 b b0 b1
               rw [z9, s1 (a + 11) (by unfold sgA; omega) (by omega), s1 (a + 12) (by unfold sgA; omega) (by omega)] at yy
               exact ⟨lsI_step hkd p0 p1 hlp gp1 gp2 ⟨by omega, by omega⟩ hsu (g3 b b0 b1).1 yy.1, grI_step hkd p0 p1 hlp gp1 gp2 ⟨by omega, by omega⟩ hsu (g3 b b0 b1).2 yy.2⟩)
      · refine PW.goto 131 dX4_vary_79 (by decide) ?_
        refine PW.iinc [(0, _), (1, _), (2, _), (3, _), (4, _), (5, _), (6, _)] dX4_vary_131 rfl rfl (Nat.le_of_ble_eq_true rfl) ?_
        refine PW.goto 59 dX4_vary_134 (by decide) ?_
        first
          | (refine ih (i + 1) τ v (by omega) (by omega) (by omega) g1 g2 (fun b b0 b1 => ⟨lsI_skip p1 hlp (by assumption) (g3 b b0 b1).1, grI_skip p1 hlp (by assumption) (g3 b b0 b1).2⟩))
          | (obtain ⟨rfl, rfl, ⟨x1, x2, x3, x4, x5, x6⟩, y1, y2⟩ := hq
             refine ih (i + 1) _ (f (mnp f p) + i) (by omega) (by omega) (by omega) ⟨fun q hq => ?_, ?_, ?_, ?_, fun q q0 q1 j j0 j1 => ?_, x6⟩ y1 (fun b b0 b1 => ?_)
             · rw [x1 q hq, s1 q (by unfold sgA; omega) (by omega)]; exact f1 q hq
             · rw [x2, z0]
             · rw [x3, z1]
             · rw [x4, z9]
             · rw [x5 q q0 (by omega) j j0 j1, s1 _ (sg_ne q0 (by omega) j0 j1 (by omega) (by omega)) (by unfold cA sgA; omega)]
               exact f5 q q0 q1 j j0 j1
             · have yy := y2 b b0 b1
               rw [z9, s1 (a + 11) (by unfold sgA; omega) (by omega), s1 (a + 12) (by unfold sgA; omega) (by omega)] at yy
               exact ⟨lsI_step hkd p0 p1 hlp gp1 gp2 ⟨by omega, by omega⟩ hsu (g3 b b0 b1).1 yy.1, grI_step hkd p0 p1 hlp gp1 gp2 ⟨by omega, by omega⟩ hsu (g3 b b0 b1).2 yy.2⟩)
theorem vary_2 {G : GT} {S : Shp} {σ : Sto} {a : Nat} {f : Int → Int} {l n c : Int} (hA : IsEnds S a) (hn : σ (a + 1) 2 = n) (hT : taOk σ (a + 1)) (hf : σ (a + 2) = f) (hc : σ a 7 = c) (hcl : looF f n = c) (hc4 : c ≤ 4) (hla : losA f (σ (a + 9)) n) (hl : 0 ≤ l) (hkk : c - l = 2) (hst : ∀ q, 0 ≤ q → q < 64 → eq8 (σ (cA (sgA a l) q + 1)) (tlF f q zF (liF (σ (a + 9)) c n l).toNat)) (hco : ∀ q, 0 ≤ q → q < 5 → colsOk σ (sgA a q) 64) (hb : ∀ b, 0 ≤ b → b < 16 → (0 ≤ σ (a + 11) b ∧ σ (a + 11) b ≤ 5120) ∧ (0 ≤ σ (a + 12) b ∧ σ (a + 12) b ≤ 5120)) : PMet G mX4_vary 8 0 0 [.ref a, .int (iI l)] S σ (fun r S' σ' => r = none ∧ S' = S ∧ vaP σ σ' a f l n c) := by
  obtain ⟨p, hp⟩ : ∃ p, liF (σ (a + 9)) c n l = p := ⟨_, rfl⟩
  obtain ⟨hA0, hA1, hA4, hA9, hA10, hA11, hA12, hAs⟩ := id hA
  have hT0 := hA1.1
  have hn16 := hT.1
  rw [hn] at hn16
  have hkd : ∀ i, 0 ≤ i → i < n → 0 ≤ f (7 * i) ∧ f (7 * i) ≤ 5 := fun i i0 i1 => by
    have := (hT.2 i i0 (by omega)).k
    rw [show σ (a + 1 + 1) = f from hf] at this
    exact this
  have hlf := liF_at (f := f) (la := σ (a + 9)) (n := n) (l := l) (by omega) hla hl (by omega)
  have hgp := liF_gap (f := f) (la := σ (a + 9)) (n := n) (l := l) (by omega) hla hl (by omega)
  rw [hcl] at hlf hgp
  rw [hp] at hlf hgp
  obtain ⟨⟨p0, p1⟩, hlp, hcp⟩ := hlf
  obtain ⟨gp1, gp2⟩ := hgp
  have hnx := liF_b (f := f) (la := σ (a + 9)) (n := n) (l := l + 1) (by omega) hla (by omega)
  rw [hcl] at hnx
  have hkp := hkd p p0 p1
  have hx1 := xT_1 hkp
  have hmp := mnp_b hkp
  have hEf : ∀ i, 0 ≤ i → i < n → evOk f i := fun i i0 i1 => by
    have := hT.2 i i0 (by omega)
    rw [show σ (a + 1 + 1) = f from hf] at this
    exact this
  have hnum := (hEf p p0 p1).2.1 (xT 1 (f (7 * p))) hx1.1 hx1.2
  have hnum2 : -40 ≤ f (mnp f p) ∧ f (mnp f p) ≤ 39 := hnum
  have hS1 := hAs (l + 1) (by omega) (by omega)
  have hS0 := hAs l hl (by omega)
  refine PMet.of [(0, .ref a), (1, .int (iI (l)))] (by decide +kernel) rfl (Nat.le_of_ble_eq_true rfl) ?_
  refine PW.iload_n dX4_vary_0 rfl ?_
  refine PW.aload_n dX4_vary_1 rfl ?_
  refine PW.getI 7 fl_X4_44 rfl (by assumption) rfl rfl dX4_vary_2 ?_
  refine PW.top c hc ?_
  refine PW.icmp_ge 13 dX4_vary_5 (by decide) (by first | assumption | (unfold inR; omega)) (by first | assumption | (unfold inR; omega)) (fun h5 => ?_) (fun h5 => ?_)
  · exfalso; omega
  · refine PW.iload_n dX4_vary_8 rfl ?_
    refine PW.iconst dX4_vary_9 ?_
    refine PW.icmp_lt 23 dX4_vary_10 (by decide) (by first | assumption | (unfold inR; omega)) (by first | assumption | (unfold inR; omega)) (fun h10 => ?_) (fun h10 => ?_)
    · refine PW.aload_n dX4_vary_23 rfl ?_
      refine PW.iload_n dX4_vary_24 rfl ?_
      refine PW.callVr (c_X4_looseIndex (c := c) (n := n) hA hc (by omega) hn (by omega)) cv_X4_looseIndex lk_X4_71 (by first | assumption | exact And.left (by assumption)) dX4_vary_25 rfl rfl rfl rfl ?_
      refine PW.top p hp ?_
      refine PW.istore_n [(0, _), (1, _), (2, _)] dX4_vary_28 rfl (Nat.le_of_ble_eq_true rfl) ?_
      refine PW.aload_n dX4_vary_29 rfl ?_
      refine PW.getR fl_X4_12 rfl (by assumption) rfl dX4_vary_30 ?_
      refine PW.iload_n dX4_vary_33 rfl ?_
      refine PW.callVr (c_X8_kind hA1 (by omega)) cv_X8_kind lk_X4_98 (by first | assumption | exact And.left (by assumption)) dX4_vary_34 rfl rfl rfl rfl ?_
      refine PW.top (f (7 * p)) (by show σ (a + 2) (7 * p) = _; rw [hf]) ?_
      refine PW.istore_n [(0, _), (1, _), (2, _), (3, _)] dX4_vary_37 rfl (Nat.le_of_ble_eq_true rfl) ?_
      refine PW.iload_n dX4_vary_38 rfl ?_
      refine PW.callSr (c_X5_mainPlace hkp) cs_X5_mainPlace lk_X4_101 dX4_vary_39 rfl rfl rfl ?_
      refine PW.istore [(0, _), (1, _), (2, _), (3, _), (4, _)] dX4_vary_42 rfl (Nat.le_of_ble_eq_true rfl) ?_
      refine PW.aload_n dX4_vary_44 rfl ?_
      refine PW.getR fl_X4_12 rfl (by assumption) rfl dX4_vary_45 ?_
      refine PW.iload_n dX4_vary_48 rfl ?_
      refine PW.iload dX4_vary_49 rfl ?_
      refine PW.callVr (c_X8_number hA1 (by omega) hx1) cv_X8_number lk_X4_106 (by first | assumption | exact And.left (by assumption)) dX4_vary_51 rfl rfl rfl rfl ?_
      refine PW.top (f (mnp f p)) (by show σ (a + 2) (7 * p + 1 + xT 1 (f (7 * p))) = _; rw [hf]; rfl) ?_
      refine PW.istore [(0, _), (1, _), (2, _), (3, _), (4, _), (5, _)] dX4_vary_54 rfl (Nat.le_of_ble_eq_true rfl) ?_
      refine PW.iconst dX4_vary_56 ?_
      refine PW.istore [(0, _), (1, _), (2, _), (3, _), (4, _), (5, _), (6, _)] dX4_vary_57 rfl (Nat.le_of_ble_eq_true rfl) ?_
      refine vary_lp2 hA hn hT hf hc hcl hc4 hla hl hkk hst hco hb hp (fun τ h => ⟨rfl, rfl, h⟩) 4 _ σ (f (mnp f p)) (by omega) (by omega) (by omega) ⟨fun _ _ => rfl, rfl, rfl, rfl, fun _ _ _ _ _ _ => rfl, hco⟩ (by rw [up1_self]; exact hf) (fun b b0 b1 => ⟨lsI_0 p1 hlp, grI_0 p1 hlp⟩)
    · exfalso; omega
set_option maxRecDepth 20000 in
theorem vary_lp3 {G : GT} {S : Shp} {σ : Sto} {a : Nat} {f : Int → Int} {l n c : Int} {p : Int} {Q : Option Value → Shp → Sto → Prop} (hA : IsEnds S a) (hn : σ (a + 1) 2 = n) (hT : taOk σ (a + 1)) (hf : σ (a + 2) = f) (hc : σ a 7 = c) (hcl : looF f n = c) (hc4 : c ≤ 4) (hla : losA f (σ (a + 9)) n) (hl : 0 ≤ l) (hkk : c - l = 3) (hst : ∀ q, 0 ≤ q → q < 64 → eq8 (σ (cA (sgA a l) q + 1)) (tlF f q zF (liF (σ (a + 9)) c n l).toNat)) (hco : ∀ q, 0 ≤ q → q < 5 → colsOk σ (sgA a q) 64) (hb : ∀ b, 0 ≤ b → b < 16 → (0 ≤ σ (a + 11) b ∧ σ (a + 11) b ≤ 5120) ∧ (0 ≤ σ (a + 12) b ∧ σ (a + 12) b ≤ 5120)) (hp : liF (σ (a + 9)) c n l = p) (hQ : ∀ τ : Sto, vaP σ τ a f l n c → Q none S τ) : ∀ (t : Nat) (i : Int) (τ : Sto) (v : Int), -1 ≤ i → i ≤ 2 → 2 - i < t → vaFr σ τ a l → τ (a + 2) = up1 f (mnp f p) v → (∀ b, 0 ≤ b → b < 16 → lsI (σ (a + 11) b) (τ (a + 11) b) f p n b (f (mnp f p) + i) ∧ grI (σ (a + 12) b) (τ (a + 12) b) f p n b (f (mnp f p) + i)) → PW (fm G mX4_vary 9 0 0 Q) G S (τ) 0 0 59 [(0, .ref a), (1, .int (iI (l))), (2, .int (iI (p))), (3, .int (iI (f (7 * p)))), (4, .int (iI (xT 1 (f (7 * p))))), (5, .int (iI (f (mnp f p)))), (6, .int (iI (i)))] [] := by
  obtain ⟨hA0, hA1, hA4, hA9, hA10, hA11, hA12, hAs⟩ := id hA
  have hT0 := hA1.1
  have hn16 := hT.1
  rw [hn] at hn16
  have hkd : ∀ i, 0 ≤ i → i < n → 0 ≤ f (7 * i) ∧ f (7 * i) ≤ 5 := fun i i0 i1 => by
    have := (hT.2 i i0 (by omega)).k
    rw [show σ (a + 1 + 1) = f from hf] at this
    exact this
  have hlf := liF_at (f := f) (la := σ (a + 9)) (n := n) (l := l) (by omega) hla hl (by omega)
  have hgp := liF_gap (f := f) (la := σ (a + 9)) (n := n) (l := l) (by omega) hla hl (by omega)
  rw [hcl] at hlf hgp
  rw [hp] at hlf hgp
  obtain ⟨⟨p0, p1⟩, hlp, hcp⟩ := hlf
  obtain ⟨gp1, gp2⟩ := hgp
  have hnx := liF_b (f := f) (la := σ (a + 9)) (n := n) (l := l + 1) (by omega) hla (by omega)
  rw [hcl] at hnx
  have hkp := hkd p p0 p1
  have hx1 := xT_1 hkp
  have hmp := mnp_b hkp
  have hEf : ∀ i, 0 ≤ i → i < n → evOk f i := fun i i0 i1 => by
    have := hT.2 i i0 (by omega)
    rw [show σ (a + 1 + 1) = f from hf] at this
    exact this
  have hnum := (hEf p p0 p1).2.1 (xT 1 (f (7 * p))) hx1.1 hx1.2
  have hnum2 : -40 ≤ f (mnp f p) ∧ f (mnp f p) ≤ 39 := hnum
  have hS1 := hAs (l + 1) (by omega) (by omega)
  have hS0 := hAs l hl (by omega)
  intro t
  induction t with
  | zero => intro i τ v h1 h2 h3 g1 g2 g3; omega
  | succ t ih =>
    intro i τ v h1 h2 h3 g1 g2 g3
    obtain ⟨f1, f2, f3, f4, f5, f6⟩ := id g1
    have eB : ∀ b, 0 ≤ b → b < 16 → (0 ≤ τ (a + 11) b ∧ τ (a + 11) b ≤ 5120) ∧ (0 ≤ τ (a + 12) b ∧ τ (a + 12) b ≤ 5120) := fun b b0 b1 => ⟨lsI_b (g3 b b0 b1).1 (hb b b0 b1).1, grI_b (g3 b b0 b1).2 (hb b b0 b1).2⟩
    refine PW.iload dX4_vary_59 rfl ?_
    refine PW.iconst dX4_vary_61 ?_
    refine PW.icmp_gt 137 dX4_vary_62 (by decide) (by first | assumption | (unfold inR; omega)) (by first | assumption | (unfold inR; omega)) (fun h62 => ?_) (fun h62 => ?_)
    · refine PW.aload_n dX4_vary_137 rfl ?_
      refine PW.getR fl_X4_12 rfl (by assumption) rfl dX4_vary_138 ?_
      refine PW.iload_n dX4_vary_141 rfl ?_
      refine PW.iload dX4_vary_142 rfl ?_
      refine PW.iload dX4_vary_144 rfl ?_
      refine PW.callVv (c_X8_setNumber (by assumption) (by omega) (by omega)) cv_X8_setNumber lk_X4_114 (by first | assumption | exact And.left (by assumption)) dX4_vary_146 rfl rfl rfl rfl ?_
      have hi : i = 2 := by omega
      subst hi
      refine PW.vret rfl dX4_vary_149 (hQ _ ⟨⟨fun q hq => ?_, ?_, ?_, ?_, fun q q0 q1 j j0 j1 => ?_, fun q q0 q1 => ?_⟩, ?_, fun b b0 b1 => ?_⟩)
      · rw [upS_ne (by omega)]; exact f1 q hq
      · rw [upS_ne (by omega)]; exact f2
      · rw [upS_ne (by omega)]; exact f3
      · rw [upS_ne (by omega)]; exact f4
      · rw [upS_ne (by unfold cA sgA; omega)]; exact f5 q q0 q1 j j0 j1
      · exact colsOk_congr (fun x x0 x1 => by unfold sgA at x0; exact upS_ne (by omega)) (f6 q q0 q1)
      · show upS τ (a + 2) (up1 (τ (a + 2)) (mnp f p) (f (mnp f p))) (a + 2) = f
        rw [upS_same, g2, up1_up1, up1_self]
      · rw [upS_ne (by omega), upS_ne (by omega), hp]
        exact ⟨lsI_end p1 hlp (g3 b b0 b1).1, grI_end p1 hlp (g3 b b0 b1).2⟩
    · refine PW.iload_n dX4_vary_65 rfl ?_
      refine PW.iload dX4_vary_66 rfl ?_
      refine PW.iload dX4_vary_68 rfl ?_
      refine PW.iload dX4_vary_70 rfl ?_
      refine PW.iadd dX4_vary_72 ?_
      refine PW.callSr (c_X5_suits hkp hx1 (by unfold inR; omega)) cs_X5_suits lk_X4_110 dX4_vary_73 rfl rfl rfl ?_
      refine PW.if_neB 82 dX4_vary_76 (by decide) (fun h76 => ?_) (fun h76 => ?_)
      · have hsu : suF (f (7 * p)) (xT 1 (f (7 * p))) (f (mnp f p) + i) := by assumption
        have kv := evOk_var (hEf p p0 p1) hsu
        have hE1 : ∀ q, 0 ≤ q → q < n → evOk (up1 f (mnp f p) (f (mnp f p) + i)) q := fun q q0 q1 => by
          by_cases x : q = p
          · rw [x]; exact kv.1
          · exact evOk_keep hkp (hEf q q0 q1) x
        refine PW.aload_n dX4_vary_82 rfl ?_
        refine PW.getR fl_X4_12 rfl (by assumption) rfl dX4_vary_83 ?_
        refine PW.iload_n dX4_vary_86 rfl ?_
        refine PW.iload dX4_vary_87 rfl ?_
        refine PW.iload dX4_vary_89 rfl ?_
        refine PW.iload dX4_vary_91 rfl ?_
        refine PW.iadd dX4_vary_93 ?_
        refine PW.callVv (c_X8_setNumber hA1 (by omega) hx1) cv_X8_setNumber lk_X4_114 (by first | assumption | exact And.left (by assumption)) dX4_vary_94 rfl rfl rfl rfl ?_
        refine PW.st (upS τ (a + 2) (up1 f (mnp f p) (f (mnp f p) + i))) (by show upS τ (a + 2) (up1 (τ (a + 2)) (mnp f p) (f (mnp f p) + i)) = _; rw [g2, up1_up1]) ?_
        refine PW.aload_n dX4_vary_97 rfl ?_
        refine PW.iload_n dX4_vary_98 rfl ?_
        refine PW.iconst dX4_vary_99 ?_
        refine PW.iadd dX4_vary_100 ?_
        refine PW.callVr (c_X4_stage (by assumption) (by omega)) cv_X4_stage lk_X4_67 (by first | assumption | exact And.left (by assumption)) dX4_vary_101 rfl rfl rfl rfl ?_
        refine PW.aload_n dX4_vary_104 rfl ?_
        refine PW.iload_n dX4_vary_105 rfl ?_
        refine PW.callVr (c_X4_stage (by assumption) (by omega)) cv_X4_stage lk_X4_67 (by first | assumption | exact And.left (by assumption)) dX4_vary_106 rfl rfl rfl rfl ?_
        refine PW.aload_n dX4_vary_109 rfl ?_
        refine PW.getR fl_X4_12 rfl (by assumption) rfl dX4_vary_110 ?_
        refine PW.iload_n dX4_vary_113 rfl ?_
        refine PW.aload_n dX4_vary_114 rfl ?_
        refine PW.iload_n dX4_vary_115 rfl ?_
        refine PW.iconst dX4_vary_116 ?_
        refine PW.iadd dX4_vary_117 ?_
        refine PW.callVr (c_X4_looseIndex (c := c) (n := n) hA (by rw [upS_ne (by omega), f2]; exact hc) (by omega) (by rw [upS_ne (by omega), f3]; exact hn) (by omega)) cv_X4_looseIndex lk_X4_71 (by first | assumption | exact And.left (by assumption)) dX4_vary_118 rfl rfl rfl rfl ?_
        refine PW.top (liF (σ (a + 9)) c n (l + 1)) (by rw [upS_ne (show a + 9 ≠ a + 2 by omega), f4]) ?_
        have q1 : (upS τ (a + 2) (up1 f (mnp f p) (f (mnp f p) + i))) (a + 1 + 1) = (up1 f (mnp f p) (f (mnp f p) + i)) := upS_same _ _ _
        have q2 : ∀ x : Int, (upS τ (a + 2) (up1 f (mnp f p) (f (mnp f p) + i))) (cA (sgA a (l + 1)) x + 1) = τ (cA (sgA a (l + 1)) x + 1) := fun x => upS_ne (by unfold cA sgA; omega)
        have q3 : ∀ x : Int, (upS τ (a + 2) (up1 f (mnp f p) (f (mnp f p) + i))) (cA (sgA a l) x + 1) = τ (cA (sgA a l) x + 1) := fun x => upS_ne (by unfold cA sgA; omega)
        refine PW.callVv (c_X2_goOnFrom hS1 (by decide) hA1 (fun q q0 q1x => by rw [q1]; exact hE1 q (by omega) (by omega)) (by omega) (by unfold sgA; omega) (by decide) hS0 (by decide) (by decide) (by unfold sgA; omega) (colsOk_congr (fun x x0 x1 => by unfold sgA at x0; exact upS_ne (by omega)) (f6 l hl (by omega)))) cv_X2_goOnFrom lk_X4_118 (by first | assumption | exact And.left (by assumption)) dX4_vary_121 rfl rfl rfl rfl ?_
        refine PW.st (stC (upS τ (a + 2) (up1 f (mnp f p) (f (mnp f p) + i))) (sgA a (l + 1)) 64 (fun x => goF (up1 f (mnp f p) (f (mnp f p) + i)) x (cp8 (τ (cA (sgA a (l + 1)) x + 1)) (τ (cA (sgA a l) x + 1))) p (liF (σ (a + 9)) c n (l + 1) - p).toNat)) (by simp only [q1, q2, q3]) ?_
        have s1 : ∀ q, (q < sgA a (l + 1) + 5 ∨ sgA a (l + 1) + 4 + 2 * 64 ≤ q) → q ≠ a + 2 → (stC (upS τ (a + 2) (up1 f (mnp f p) (f (mnp f p) + i))) (sgA a (l + 1)) 64 (fun x => goF (up1 f (mnp f p) (f (mnp f p) + i)) x (cp8 (τ (cA (sgA a (l + 1)) x + 1)) (τ (cA (sgA a l) x + 1))) p (liF (σ (a + 9)) c n (l + 1) - p).toNat)) q = τ q := fun q h1 h2 => by rw [stC_ne h1, upS_ne h2]
        have z2 : (stC (upS τ (a + 2) (up1 f (mnp f p) (f (mnp f p) + i))) (sgA a (l + 1)) 64 (fun x => goF (up1 f (mnp f p) (f (mnp f p) + i)) x (cp8 (τ (cA (sgA a (l + 1)) x + 1)) (τ (cA (sgA a l) x + 1))) p (liF (σ (a + 9)) c n (l + 1) - p).toNat)) (a + 2) = (up1 f (mnp f p) (f (mnp f p) + i)) := by rw [stC_ne (by unfold sgA; omega), upS_same]
        have z1 : (stC (upS τ (a + 2) (up1 f (mnp f p) (f (mnp f p) + i))) (sgA a (l + 1)) 64 (fun x => goF (up1 f (mnp f p) (f (mnp f p) + i)) x (cp8 (τ (cA (sgA a (l + 1)) x + 1)) (τ (cA (sgA a l) x + 1))) p (liF (σ (a + 9)) c n (l + 1) - p).toNat)) (a + 1) = σ (a + 1) := by rw [s1 _ (by unfold sgA; omega) (by omega), f3]
        have z0 : (stC (upS τ (a + 2) (up1 f (mnp f p) (f (mnp f p) + i))) (sgA a (l + 1)) 64 (fun x => goF (up1 f (mnp f p) (f (mnp f p) + i)) x (cp8 (τ (cA (sgA a (l + 1)) x + 1)) (τ (cA (sgA a l) x + 1))) p (liF (σ (a + 9)) c n (l + 1) - p).toNat)) a = σ a := by rw [s1 _ (by unfold sgA; omega) (by omega), f2]
        have z9 : (stC (upS τ (a + 2) (up1 f (mnp f p) (f (mnp f p) + i))) (sgA a (l + 1)) 64 (fun x => goF (up1 f (mnp f p) (f (mnp f p) + i)) x (cp8 (τ (cA (sgA a (l + 1)) x + 1)) (τ (cA (sgA a l) x + 1))) p (liF (σ (a + 9)) c n (l + 1) - p).toNat)) (a + 9) = σ (a + 9) := by rw [s1 _ (by unfold sgA; omega) (by omega), f4]
        have hT3 : taOk (stC (upS τ (a + 2) (up1 f (mnp f p) (f (mnp f p) + i))) (sgA a (l + 1)) 64 (fun x => goF (up1 f (mnp f p) (f (mnp f p) + i)) x (cp8 (τ (cA (sgA a (l + 1)) x + 1)) (τ (cA (sgA a l) x + 1))) p (liF (σ (a + 9)) c n (l + 1) - p).toNat)) (a + 1) := by
          refine ⟨by rw [z1, hn]; exact hn16, fun q q0 q1 => ?_⟩
          rw [z1, hn] at q1
          rw [show (stC (upS τ (a + 2) (up1 f (mnp f p) (f (mnp f p) + i))) (sgA a (l + 1)) 64 (fun x => goF (up1 f (mnp f p) (f (mnp f p) + i)) x (cp8 (τ (cA (sgA a (l + 1)) x + 1)) (τ (cA (sgA a l) x + 1))) p (liF (σ (a + 9)) c n (l + 1) - p).toNat)) (a + 1 + 1) = (up1 f (mnp f p) (f (mnp f p) + i)) from z2]
          exact hE1 q q0 q1
        refine PW.aload_n dX4_vary_124 rfl ?_
        refine PW.iload_n dX4_vary_125 rfl ?_
        refine PW.iconst dX4_vary_126 ?_
        refine PW.iadd dX4_vary_127 ?_
        have hst1 : ∀ q, 0 ≤ q → q < 64 → eq8 ((stC (upS τ (a + 2) (up1 f (mnp f p) (f (mnp f p) + i))) (sgA a (l + 1)) 64 (fun x => goF (up1 f (mnp f p) (f (mnp f p) + i)) x (cp8 (τ (cA (sgA a (l + 1)) x + 1)) (τ (cA (sgA a l) x + 1))) p (liF (σ (a + 9)) c n (l + 1) - p).toNat)) (cA (sgA a (l + 1)) q + 1)) (tlF (up1 f (mnp f p) (f (mnp f p) + i)) q zF (liF ((stC (upS τ (a + 2) (up1 f (mnp f p) (f (mnp f p) + i))) (sgA a (l + 1)) 64 (fun x => goF (up1 f (mnp f p) (f (mnp f p) + i)) x (cp8 (τ (cA (sgA a (l + 1)) x + 1)) (τ (cA (sgA a l) x + 1))) p (liF (σ (a + 9)) c n (l + 1) - p).toNat)) (a + 9)) c n (l + 1)).toNat) := fun q q0 q1 => by
          rw [stC_at q0 q1, z9]
          have e0 : eq8 (cp8 (τ (cA (sgA a (l + 1)) q + 1)) (τ (cA (sgA a l) q + 1))) (tlF (up1 f (mnp f p) (f (mnp f p) + i)) q zF p.toNat) := by
            refine (cp8_eq _ _).trans ?_
            rw [f5 l hl (Int.le_refl l) q q0 q1]
            have := hst q q0 q1
            rw [hp] at this
            rw [tlF_congr (f := f) (g := (up1 f (mnp f p) (f (mnp f p) + i))) q zF (k := p.toNat) (fun j j0 j1 => up1_ne (by omega))]
            exact this
          have e1 := goF_eq (f := (up1 f (mnp f p) (f (mnp f p) + i))) (n := q) (fr := p) e0 (liF (σ (a + 9)) c n (l + 1) - p).toNat
          have e2 := tl_go (up1 f (mnp f p) (f (mnp f p) + i)) q zF p.toNat (liF (σ (a + 9)) c n (l + 1) - p).toNat
          rw [show ((p.toNat : Nat) : Int) = p by omega, show p.toNat + (liF (σ (a + 9)) c n (l + 1) - p).toNat = (liF (σ (a + 9)) c n (l + 1)).toNat by omega] at e2
          rw [e2] at e1
          exact e1
        have hco1 : ∀ q, 0 ≤ q → q < 5 → colsOk (stC (upS τ (a + 2) (up1 f (mnp f p) (f (mnp f p) + i))) (sgA a (l + 1)) 64 (fun x => goF (up1 f (mnp f p) (f (mnp f p) + i)) x (cp8 (τ (cA (sgA a (l + 1)) x + 1)) (τ (cA (sgA a l) x + 1))) p (liF (σ (a + 9)) c n (l + 1) - p).toNat)) (sgA a q) 64 := fun q q0 q1 j j0 j1 => by
          by_cases x : q = l + 1
          · rw [x, stC_at j0 j1]
            exact goF_ok (cp8_ok (f6 l hl (by omega) j j0 j1)) (fun y y0 y1 => hE1 y (by omega) (by omega))
          · rw [s1 _ (sg_ne q0 q1 j0 j1 (by omega) x) (by unfold cA sgA; omega)]
            exact f6 q q0 q1 j j0 j1
        have hbb1 : ∀ b, 0 ≤ b → b < 16 → (0 ≤ (stC (upS τ (a + 2) (up1 f (mnp f p) (f (mnp f p) + i))) (sgA a (l + 1)) 64 (fun x => goF (up1 f (mnp f p) (f (mnp f p) + i)) x (cp8 (τ (cA (sgA a (l + 1)) x + 1)) (τ (cA (sgA a l) x + 1))) p (liF (σ (a + 9)) c n (l + 1) - p).toNat)) (a + 11) b ∧ (stC (upS τ (a + 2) (up1 f (mnp f p) (f (mnp f p) + i))) (sgA a (l + 1)) 64 (fun x => goF (up1 f (mnp f p) (f (mnp f p) + i)) x (cp8 (τ (cA (sgA a (l + 1)) x + 1)) (τ (cA (sgA a l) x + 1))) p (liF (σ (a + 9)) c n (l + 1) - p).toNat)) (a + 11) b ≤ 5120) ∧ (0 ≤ (stC (upS τ (a + 2) (up1 f (mnp f p) (f (mnp f p) + i))) (sgA a (l + 1)) 64 (fun x => goF (up1 f (mnp f p) (f (mnp f p) + i)) x (cp8 (τ (cA (sgA a (l + 1)) x + 1)) (τ (cA (sgA a l) x + 1))) p (liF (σ (a + 9)) c n (l + 1) - p).toNat)) (a + 12) b ∧ (stC (upS τ (a + 2) (up1 f (mnp f p) (f (mnp f p) + i))) (sgA a (l + 1)) 64 (fun x => goF (up1 f (mnp f p) (f (mnp f p) + i)) x (cp8 (τ (cA (sgA a (l + 1)) x + 1)) (τ (cA (sgA a l) x + 1))) p (liF (σ (a + 9)) c n (l + 1) - p).toNat)) (a + 12) b ≤ 5120) := fun b b0 b1 => by
          rw [s1 (a + 11) (by unfold sgA; omega) (by omega), s1 (a + 12) (by unfold sgA; omega) (by omega)]
          exact eB b b0 b1
        have hv := vary_2 (G := G) (S := S) (σ := (stC (upS τ (a + 2) (up1 f (mnp f p) (f (mnp f p) + i))) (sgA a (l + 1)) 64 (fun x => goF (up1 f (mnp f p) (f (mnp f p) + i)) x (cp8 (τ (cA (sgA a (l + 1)) x + 1)) (τ (cA (sgA a l) x + 1))) p (liF (σ (a + 9)) c n (l + 1) - p).toNat))) (a := a) (l := l + 1) (f := (up1 f (mnp f p) (f (mnp f p) + i))) (n := n) (c := c) hA (by rw [z1]; exact hn) hT3 z2 (by rw [z0]; exact hc) (by rw [looF_up hkp]; exact hcl) hc4 (by rw [z9]; exact losA_up hkp hla) (by omega) (by omega) hst1 hco1 hbb1
        refine PW.callVg hv cv_X4_vary lk_X4_79 hA0 dX4_vary_128 rfl rfl rfl rfl (fun r S' τ128 hq => ?_)
        refine PW.iinc [(0, _), (1, _), (2, _), (3, _), (4, _), (5, _), (6, _)] dX4_vary_131 rfl rfl (Nat.le_of_ble_eq_true rfl) ?_
        refine PW.goto 59 dX4_vary_134 (by decide) ?_
        first
          | (refine ih (i + 1) τ v (by omega) (by omega) (by omega) g1 g2 (fun b b0 b1 => ⟨lsI_skip p1 hlp (by assumption) (g3 b b0 b1).1, grI_skip p1 hlp (by assumption) (g3 b b0 b1).2⟩))
          | (obtain ⟨rfl, rfl, ⟨x1, x2, x3, x4, x5, x6⟩, y1, y2⟩ := hq
             refine ih (i + 1) _ (f (mnp f p) + i) (by omega) (by omega) (by omega) ⟨fun q hq => ?_, ?_, ?_, ?_, fun q q0 q1 j j0 j1 => ?_, x6⟩ y1 (fun b b0 b1 => ?_)
             · rw [x1 q hq, s1 q (by unfold sgA; omega) (by omega)]; exact f1 q hq
             · rw [x2, z0]
             · rw [x3, z1]
             · rw [x4, z9]
             · rw [x5 q q0 (by omega) j j0 j1, s1 _ (sg_ne q0 (by omega) j0 j1 (by omega) (by omega)) (by unfold cA sgA; omega)]
               exact f5 q q0 q1 j j0 j1
             · have yy := y2 b b0 b1
               rw [z9, s1 (a + 11) (by unfold sgA; omega) (by omega), s1 (a + 12) (by unfold sgA; omega) (by omega)] at yy
               exact ⟨lsI_step hkd p0 p1 hlp gp1 gp2 ⟨by omega, by omega⟩ hsu (g3 b b0 b1).1 yy.1, grI_step hkd p0 p1 hlp gp1 gp2 ⟨by omega, by omega⟩ hsu (g3 b b0 b1).2 yy.2⟩)
      · refine PW.goto 131 dX4_vary_79 (by decide) ?_
        refine PW.iinc [(0, _), (1, _), (2, _), (3, _), (4, _), (5, _), (6, _)] dX4_vary_131 rfl rfl (Nat.le_of_ble_eq_true rfl) ?_
        refine PW.goto 59 dX4_vary_134 (by decide) ?_
        first
          | (refine ih (i + 1) τ v (by omega) (by omega) (by omega) g1 g2 (fun b b0 b1 => ⟨lsI_skip p1 hlp (by assumption) (g3 b b0 b1).1, grI_skip p1 hlp (by assumption) (g3 b b0 b1).2⟩))
          | (obtain ⟨rfl, rfl, ⟨x1, x2, x3, x4, x5, x6⟩, y1, y2⟩ := hq
             refine ih (i + 1) _ (f (mnp f p) + i) (by omega) (by omega) (by omega) ⟨fun q hq => ?_, ?_, ?_, ?_, fun q q0 q1 j j0 j1 => ?_, x6⟩ y1 (fun b b0 b1 => ?_)
             · rw [x1 q hq, s1 q (by unfold sgA; omega) (by omega)]; exact f1 q hq
             · rw [x2, z0]
             · rw [x3, z1]
             · rw [x4, z9]
             · rw [x5 q q0 (by omega) j j0 j1, s1 _ (sg_ne q0 (by omega) j0 j1 (by omega) (by omega)) (by unfold cA sgA; omega)]
               exact f5 q q0 q1 j j0 j1
             · have yy := y2 b b0 b1
               rw [z9, s1 (a + 11) (by unfold sgA; omega) (by omega), s1 (a + 12) (by unfold sgA; omega) (by omega)] at yy
               exact ⟨lsI_step hkd p0 p1 hlp gp1 gp2 ⟨by omega, by omega⟩ hsu (g3 b b0 b1).1 yy.1, grI_step hkd p0 p1 hlp gp1 gp2 ⟨by omega, by omega⟩ hsu (g3 b b0 b1).2 yy.2⟩)
theorem vary_3 {G : GT} {S : Shp} {σ : Sto} {a : Nat} {f : Int → Int} {l n c : Int} (hA : IsEnds S a) (hn : σ (a + 1) 2 = n) (hT : taOk σ (a + 1)) (hf : σ (a + 2) = f) (hc : σ a 7 = c) (hcl : looF f n = c) (hc4 : c ≤ 4) (hla : losA f (σ (a + 9)) n) (hl : 0 ≤ l) (hkk : c - l = 3) (hst : ∀ q, 0 ≤ q → q < 64 → eq8 (σ (cA (sgA a l) q + 1)) (tlF f q zF (liF (σ (a + 9)) c n l).toNat)) (hco : ∀ q, 0 ≤ q → q < 5 → colsOk σ (sgA a q) 64) (hb : ∀ b, 0 ≤ b → b < 16 → (0 ≤ σ (a + 11) b ∧ σ (a + 11) b ≤ 5120) ∧ (0 ≤ σ (a + 12) b ∧ σ (a + 12) b ≤ 5120)) : PMet G mX4_vary 9 0 0 [.ref a, .int (iI l)] S σ (fun r S' σ' => r = none ∧ S' = S ∧ vaP σ σ' a f l n c) := by
  obtain ⟨p, hp⟩ : ∃ p, liF (σ (a + 9)) c n l = p := ⟨_, rfl⟩
  obtain ⟨hA0, hA1, hA4, hA9, hA10, hA11, hA12, hAs⟩ := id hA
  have hT0 := hA1.1
  have hn16 := hT.1
  rw [hn] at hn16
  have hkd : ∀ i, 0 ≤ i → i < n → 0 ≤ f (7 * i) ∧ f (7 * i) ≤ 5 := fun i i0 i1 => by
    have := (hT.2 i i0 (by omega)).k
    rw [show σ (a + 1 + 1) = f from hf] at this
    exact this
  have hlf := liF_at (f := f) (la := σ (a + 9)) (n := n) (l := l) (by omega) hla hl (by omega)
  have hgp := liF_gap (f := f) (la := σ (a + 9)) (n := n) (l := l) (by omega) hla hl (by omega)
  rw [hcl] at hlf hgp
  rw [hp] at hlf hgp
  obtain ⟨⟨p0, p1⟩, hlp, hcp⟩ := hlf
  obtain ⟨gp1, gp2⟩ := hgp
  have hnx := liF_b (f := f) (la := σ (a + 9)) (n := n) (l := l + 1) (by omega) hla (by omega)
  rw [hcl] at hnx
  have hkp := hkd p p0 p1
  have hx1 := xT_1 hkp
  have hmp := mnp_b hkp
  have hEf : ∀ i, 0 ≤ i → i < n → evOk f i := fun i i0 i1 => by
    have := hT.2 i i0 (by omega)
    rw [show σ (a + 1 + 1) = f from hf] at this
    exact this
  have hnum := (hEf p p0 p1).2.1 (xT 1 (f (7 * p))) hx1.1 hx1.2
  have hnum2 : -40 ≤ f (mnp f p) ∧ f (mnp f p) ≤ 39 := hnum
  have hS1 := hAs (l + 1) (by omega) (by omega)
  have hS0 := hAs l hl (by omega)
  refine PMet.of [(0, .ref a), (1, .int (iI (l)))] (by decide +kernel) rfl (Nat.le_of_ble_eq_true rfl) ?_
  refine PW.iload_n dX4_vary_0 rfl ?_
  refine PW.aload_n dX4_vary_1 rfl ?_
  refine PW.getI 7 fl_X4_44 rfl (by assumption) rfl rfl dX4_vary_2 ?_
  refine PW.top c hc ?_
  refine PW.icmp_ge 13 dX4_vary_5 (by decide) (by first | assumption | (unfold inR; omega)) (by first | assumption | (unfold inR; omega)) (fun h5 => ?_) (fun h5 => ?_)
  · exfalso; omega
  · refine PW.iload_n dX4_vary_8 rfl ?_
    refine PW.iconst dX4_vary_9 ?_
    refine PW.icmp_lt 23 dX4_vary_10 (by decide) (by first | assumption | (unfold inR; omega)) (by first | assumption | (unfold inR; omega)) (fun h10 => ?_) (fun h10 => ?_)
    · refine PW.aload_n dX4_vary_23 rfl ?_
      refine PW.iload_n dX4_vary_24 rfl ?_
      refine PW.callVr (c_X4_looseIndex (c := c) (n := n) hA hc (by omega) hn (by omega)) cv_X4_looseIndex lk_X4_71 (by first | assumption | exact And.left (by assumption)) dX4_vary_25 rfl rfl rfl rfl ?_
      refine PW.top p hp ?_
      refine PW.istore_n [(0, _), (1, _), (2, _)] dX4_vary_28 rfl (Nat.le_of_ble_eq_true rfl) ?_
      refine PW.aload_n dX4_vary_29 rfl ?_
      refine PW.getR fl_X4_12 rfl (by assumption) rfl dX4_vary_30 ?_
      refine PW.iload_n dX4_vary_33 rfl ?_
      refine PW.callVr (c_X8_kind hA1 (by omega)) cv_X8_kind lk_X4_98 (by first | assumption | exact And.left (by assumption)) dX4_vary_34 rfl rfl rfl rfl ?_
      refine PW.top (f (7 * p)) (by show σ (a + 2) (7 * p) = _; rw [hf]) ?_
      refine PW.istore_n [(0, _), (1, _), (2, _), (3, _)] dX4_vary_37 rfl (Nat.le_of_ble_eq_true rfl) ?_
      refine PW.iload_n dX4_vary_38 rfl ?_
      refine PW.callSr (c_X5_mainPlace hkp) cs_X5_mainPlace lk_X4_101 dX4_vary_39 rfl rfl rfl ?_
      refine PW.istore [(0, _), (1, _), (2, _), (3, _), (4, _)] dX4_vary_42 rfl (Nat.le_of_ble_eq_true rfl) ?_
      refine PW.aload_n dX4_vary_44 rfl ?_
      refine PW.getR fl_X4_12 rfl (by assumption) rfl dX4_vary_45 ?_
      refine PW.iload_n dX4_vary_48 rfl ?_
      refine PW.iload dX4_vary_49 rfl ?_
      refine PW.callVr (c_X8_number hA1 (by omega) hx1) cv_X8_number lk_X4_106 (by first | assumption | exact And.left (by assumption)) dX4_vary_51 rfl rfl rfl rfl ?_
      refine PW.top (f (mnp f p)) (by show σ (a + 2) (7 * p + 1 + xT 1 (f (7 * p))) = _; rw [hf]; rfl) ?_
      refine PW.istore [(0, _), (1, _), (2, _), (3, _), (4, _), (5, _)] dX4_vary_54 rfl (Nat.le_of_ble_eq_true rfl) ?_
      refine PW.iconst dX4_vary_56 ?_
      refine PW.istore [(0, _), (1, _), (2, _), (3, _), (4, _), (5, _), (6, _)] dX4_vary_57 rfl (Nat.le_of_ble_eq_true rfl) ?_
      refine vary_lp3 hA hn hT hf hc hcl hc4 hla hl hkk hst hco hb hp (fun τ h => ⟨rfl, rfl, h⟩) 4 _ σ (f (mnp f p)) (by omega) (by omega) (by omega) ⟨fun _ _ => rfl, rfl, rfl, rfl, fun _ _ _ _ _ _ => rfl, hco⟩ (by rw [up1_self]; exact hf) (fun b b0 b1 => ⟨lsI_0 p1 hlp, grI_0 p1 hlp⟩)
    · exfalso; omega
set_option maxRecDepth 20000 in
theorem vary_lp4 {G : GT} {S : Shp} {σ : Sto} {a : Nat} {f : Int → Int} {l n c : Int} {p : Int} {Q : Option Value → Shp → Sto → Prop} (hA : IsEnds S a) (hn : σ (a + 1) 2 = n) (hT : taOk σ (a + 1)) (hf : σ (a + 2) = f) (hc : σ a 7 = c) (hcl : looF f n = c) (hc4 : c ≤ 4) (hla : losA f (σ (a + 9)) n) (hl : 0 ≤ l) (hkk : c - l = 4) (hst : ∀ q, 0 ≤ q → q < 64 → eq8 (σ (cA (sgA a l) q + 1)) (tlF f q zF (liF (σ (a + 9)) c n l).toNat)) (hco : ∀ q, 0 ≤ q → q < 5 → colsOk σ (sgA a q) 64) (hb : ∀ b, 0 ≤ b → b < 16 → (0 ≤ σ (a + 11) b ∧ σ (a + 11) b ≤ 5120) ∧ (0 ≤ σ (a + 12) b ∧ σ (a + 12) b ≤ 5120)) (hp : liF (σ (a + 9)) c n l = p) (hQ : ∀ τ : Sto, vaP σ τ a f l n c → Q none S τ) : ∀ (t : Nat) (i : Int) (τ : Sto) (v : Int), -1 ≤ i → i ≤ 2 → 2 - i < t → vaFr σ τ a l → τ (a + 2) = up1 f (mnp f p) v → (∀ b, 0 ≤ b → b < 16 → lsI (σ (a + 11) b) (τ (a + 11) b) f p n b (f (mnp f p) + i) ∧ grI (σ (a + 12) b) (τ (a + 12) b) f p n b (f (mnp f p) + i)) → PW (fm G mX4_vary 10 0 0 Q) G S (τ) 0 0 59 [(0, .ref a), (1, .int (iI (l))), (2, .int (iI (p))), (3, .int (iI (f (7 * p)))), (4, .int (iI (xT 1 (f (7 * p))))), (5, .int (iI (f (mnp f p)))), (6, .int (iI (i)))] [] := by
  obtain ⟨hA0, hA1, hA4, hA9, hA10, hA11, hA12, hAs⟩ := id hA
  have hT0 := hA1.1
  have hn16 := hT.1
  rw [hn] at hn16
  have hkd : ∀ i, 0 ≤ i → i < n → 0 ≤ f (7 * i) ∧ f (7 * i) ≤ 5 := fun i i0 i1 => by
    have := (hT.2 i i0 (by omega)).k
    rw [show σ (a + 1 + 1) = f from hf] at this
    exact this
  have hlf := liF_at (f := f) (la := σ (a + 9)) (n := n) (l := l) (by omega) hla hl (by omega)
  have hgp := liF_gap (f := f) (la := σ (a + 9)) (n := n) (l := l) (by omega) hla hl (by omega)
  rw [hcl] at hlf hgp
  rw [hp] at hlf hgp
  obtain ⟨⟨p0, p1⟩, hlp, hcp⟩ := hlf
  obtain ⟨gp1, gp2⟩ := hgp
  have hnx := liF_b (f := f) (la := σ (a + 9)) (n := n) (l := l + 1) (by omega) hla (by omega)
  rw [hcl] at hnx
  have hkp := hkd p p0 p1
  have hx1 := xT_1 hkp
  have hmp := mnp_b hkp
  have hEf : ∀ i, 0 ≤ i → i < n → evOk f i := fun i i0 i1 => by
    have := hT.2 i i0 (by omega)
    rw [show σ (a + 1 + 1) = f from hf] at this
    exact this
  have hnum := (hEf p p0 p1).2.1 (xT 1 (f (7 * p))) hx1.1 hx1.2
  have hnum2 : -40 ≤ f (mnp f p) ∧ f (mnp f p) ≤ 39 := hnum
  have hS1 := hAs (l + 1) (by omega) (by omega)
  have hS0 := hAs l hl (by omega)
  intro t
  induction t with
  | zero => intro i τ v h1 h2 h3 g1 g2 g3; omega
  | succ t ih =>
    intro i τ v h1 h2 h3 g1 g2 g3
    obtain ⟨f1, f2, f3, f4, f5, f6⟩ := id g1
    have eB : ∀ b, 0 ≤ b → b < 16 → (0 ≤ τ (a + 11) b ∧ τ (a + 11) b ≤ 5120) ∧ (0 ≤ τ (a + 12) b ∧ τ (a + 12) b ≤ 5120) := fun b b0 b1 => ⟨lsI_b (g3 b b0 b1).1 (hb b b0 b1).1, grI_b (g3 b b0 b1).2 (hb b b0 b1).2⟩
    refine PW.iload dX4_vary_59 rfl ?_
    refine PW.iconst dX4_vary_61 ?_
    refine PW.icmp_gt 137 dX4_vary_62 (by decide) (by first | assumption | (unfold inR; omega)) (by first | assumption | (unfold inR; omega)) (fun h62 => ?_) (fun h62 => ?_)
    · refine PW.aload_n dX4_vary_137 rfl ?_
      refine PW.getR fl_X4_12 rfl (by assumption) rfl dX4_vary_138 ?_
      refine PW.iload_n dX4_vary_141 rfl ?_
      refine PW.iload dX4_vary_142 rfl ?_
      refine PW.iload dX4_vary_144 rfl ?_
      refine PW.callVv (c_X8_setNumber (by assumption) (by omega) (by omega)) cv_X8_setNumber lk_X4_114 (by first | assumption | exact And.left (by assumption)) dX4_vary_146 rfl rfl rfl rfl ?_
      have hi : i = 2 := by omega
      subst hi
      refine PW.vret rfl dX4_vary_149 (hQ _ ⟨⟨fun q hq => ?_, ?_, ?_, ?_, fun q q0 q1 j j0 j1 => ?_, fun q q0 q1 => ?_⟩, ?_, fun b b0 b1 => ?_⟩)
      · rw [upS_ne (by omega)]; exact f1 q hq
      · rw [upS_ne (by omega)]; exact f2
      · rw [upS_ne (by omega)]; exact f3
      · rw [upS_ne (by omega)]; exact f4
      · rw [upS_ne (by unfold cA sgA; omega)]; exact f5 q q0 q1 j j0 j1
      · exact colsOk_congr (fun x x0 x1 => by unfold sgA at x0; exact upS_ne (by omega)) (f6 q q0 q1)
      · show upS τ (a + 2) (up1 (τ (a + 2)) (mnp f p) (f (mnp f p))) (a + 2) = f
        rw [upS_same, g2, up1_up1, up1_self]
      · rw [upS_ne (by omega), upS_ne (by omega), hp]
        exact ⟨lsI_end p1 hlp (g3 b b0 b1).1, grI_end p1 hlp (g3 b b0 b1).2⟩
    · refine PW.iload_n dX4_vary_65 rfl ?_
      refine PW.iload dX4_vary_66 rfl ?_
      refine PW.iload dX4_vary_68 rfl ?_
      refine PW.iload dX4_vary_70 rfl ?_
      refine PW.iadd dX4_vary_72 ?_
      refine PW.callSr (c_X5_suits hkp hx1 (by unfold inR; omega)) cs_X5_suits lk_X4_110 dX4_vary_73 rfl rfl rfl ?_
      refine PW.if_neB 82 dX4_vary_76 (by decide) (fun h76 => ?_) (fun h76 => ?_)
      · have hsu : suF (f (7 * p)) (xT 1 (f (7 * p))) (f (mnp f p) + i) := by assumption
        have kv := evOk_var (hEf p p0 p1) hsu
        have hE1 : ∀ q, 0 ≤ q → q < n → evOk (up1 f (mnp f p) (f (mnp f p) + i)) q := fun q q0 q1 => by
          by_cases x : q = p
          · rw [x]; exact kv.1
          · exact evOk_keep hkp (hEf q q0 q1) x
        refine PW.aload_n dX4_vary_82 rfl ?_
        refine PW.getR fl_X4_12 rfl (by assumption) rfl dX4_vary_83 ?_
        refine PW.iload_n dX4_vary_86 rfl ?_
        refine PW.iload dX4_vary_87 rfl ?_
        refine PW.iload dX4_vary_89 rfl ?_
        refine PW.iload dX4_vary_91 rfl ?_
        refine PW.iadd dX4_vary_93 ?_
        refine PW.callVv (c_X8_setNumber hA1 (by omega) hx1) cv_X8_setNumber lk_X4_114 (by first | assumption | exact And.left (by assumption)) dX4_vary_94 rfl rfl rfl rfl ?_
        refine PW.st (upS τ (a + 2) (up1 f (mnp f p) (f (mnp f p) + i))) (by show upS τ (a + 2) (up1 (τ (a + 2)) (mnp f p) (f (mnp f p) + i)) = _; rw [g2, up1_up1]) ?_
        refine PW.aload_n dX4_vary_97 rfl ?_
        refine PW.iload_n dX4_vary_98 rfl ?_
        refine PW.iconst dX4_vary_99 ?_
        refine PW.iadd dX4_vary_100 ?_
        refine PW.callVr (c_X4_stage (by assumption) (by omega)) cv_X4_stage lk_X4_67 (by first | assumption | exact And.left (by assumption)) dX4_vary_101 rfl rfl rfl rfl ?_
        refine PW.aload_n dX4_vary_104 rfl ?_
        refine PW.iload_n dX4_vary_105 rfl ?_
        refine PW.callVr (c_X4_stage (by assumption) (by omega)) cv_X4_stage lk_X4_67 (by first | assumption | exact And.left (by assumption)) dX4_vary_106 rfl rfl rfl rfl ?_
        refine PW.aload_n dX4_vary_109 rfl ?_
        refine PW.getR fl_X4_12 rfl (by assumption) rfl dX4_vary_110 ?_
        refine PW.iload_n dX4_vary_113 rfl ?_
        refine PW.aload_n dX4_vary_114 rfl ?_
        refine PW.iload_n dX4_vary_115 rfl ?_
        refine PW.iconst dX4_vary_116 ?_
        refine PW.iadd dX4_vary_117 ?_
        refine PW.callVr (c_X4_looseIndex (c := c) (n := n) hA (by rw [upS_ne (by omega), f2]; exact hc) (by omega) (by rw [upS_ne (by omega), f3]; exact hn) (by omega)) cv_X4_looseIndex lk_X4_71 (by first | assumption | exact And.left (by assumption)) dX4_vary_118 rfl rfl rfl rfl ?_
        refine PW.top (liF (σ (a + 9)) c n (l + 1)) (by rw [upS_ne (show a + 9 ≠ a + 2 by omega), f4]) ?_
        have q1 : (upS τ (a + 2) (up1 f (mnp f p) (f (mnp f p) + i))) (a + 1 + 1) = (up1 f (mnp f p) (f (mnp f p) + i)) := upS_same _ _ _
        have q2 : ∀ x : Int, (upS τ (a + 2) (up1 f (mnp f p) (f (mnp f p) + i))) (cA (sgA a (l + 1)) x + 1) = τ (cA (sgA a (l + 1)) x + 1) := fun x => upS_ne (by unfold cA sgA; omega)
        have q3 : ∀ x : Int, (upS τ (a + 2) (up1 f (mnp f p) (f (mnp f p) + i))) (cA (sgA a l) x + 1) = τ (cA (sgA a l) x + 1) := fun x => upS_ne (by unfold cA sgA; omega)
        refine PW.callVv (c_X2_goOnFrom hS1 (by decide) hA1 (fun q q0 q1x => by rw [q1]; exact hE1 q (by omega) (by omega)) (by omega) (by unfold sgA; omega) (by decide) hS0 (by decide) (by decide) (by unfold sgA; omega) (colsOk_congr (fun x x0 x1 => by unfold sgA at x0; exact upS_ne (by omega)) (f6 l hl (by omega)))) cv_X2_goOnFrom lk_X4_118 (by first | assumption | exact And.left (by assumption)) dX4_vary_121 rfl rfl rfl rfl ?_
        refine PW.st (stC (upS τ (a + 2) (up1 f (mnp f p) (f (mnp f p) + i))) (sgA a (l + 1)) 64 (fun x => goF (up1 f (mnp f p) (f (mnp f p) + i)) x (cp8 (τ (cA (sgA a (l + 1)) x + 1)) (τ (cA (sgA a l) x + 1))) p (liF (σ (a + 9)) c n (l + 1) - p).toNat)) (by simp only [q1, q2, q3]) ?_
        have s1 : ∀ q, (q < sgA a (l + 1) + 5 ∨ sgA a (l + 1) + 4 + 2 * 64 ≤ q) → q ≠ a + 2 → (stC (upS τ (a + 2) (up1 f (mnp f p) (f (mnp f p) + i))) (sgA a (l + 1)) 64 (fun x => goF (up1 f (mnp f p) (f (mnp f p) + i)) x (cp8 (τ (cA (sgA a (l + 1)) x + 1)) (τ (cA (sgA a l) x + 1))) p (liF (σ (a + 9)) c n (l + 1) - p).toNat)) q = τ q := fun q h1 h2 => by rw [stC_ne h1, upS_ne h2]
        have z2 : (stC (upS τ (a + 2) (up1 f (mnp f p) (f (mnp f p) + i))) (sgA a (l + 1)) 64 (fun x => goF (up1 f (mnp f p) (f (mnp f p) + i)) x (cp8 (τ (cA (sgA a (l + 1)) x + 1)) (τ (cA (sgA a l) x + 1))) p (liF (σ (a + 9)) c n (l + 1) - p).toNat)) (a + 2) = (up1 f (mnp f p) (f (mnp f p) + i)) := by rw [stC_ne (by unfold sgA; omega), upS_same]
        have z1 : (stC (upS τ (a + 2) (up1 f (mnp f p) (f (mnp f p) + i))) (sgA a (l + 1)) 64 (fun x => goF (up1 f (mnp f p) (f (mnp f p) + i)) x (cp8 (τ (cA (sgA a (l + 1)) x + 1)) (τ (cA (sgA a l) x + 1))) p (liF (σ (a + 9)) c n (l + 1) - p).toNat)) (a + 1) = σ (a + 1) := by rw [s1 _ (by unfold sgA; omega) (by omega), f3]
        have z0 : (stC (upS τ (a + 2) (up1 f (mnp f p) (f (mnp f p) + i))) (sgA a (l + 1)) 64 (fun x => goF (up1 f (mnp f p) (f (mnp f p) + i)) x (cp8 (τ (cA (sgA a (l + 1)) x + 1)) (τ (cA (sgA a l) x + 1))) p (liF (σ (a + 9)) c n (l + 1) - p).toNat)) a = σ a := by rw [s1 _ (by unfold sgA; omega) (by omega), f2]
        have z9 : (stC (upS τ (a + 2) (up1 f (mnp f p) (f (mnp f p) + i))) (sgA a (l + 1)) 64 (fun x => goF (up1 f (mnp f p) (f (mnp f p) + i)) x (cp8 (τ (cA (sgA a (l + 1)) x + 1)) (τ (cA (sgA a l) x + 1))) p (liF (σ (a + 9)) c n (l + 1) - p).toNat)) (a + 9) = σ (a + 9) := by rw [s1 _ (by unfold sgA; omega) (by omega), f4]
        have hT3 : taOk (stC (upS τ (a + 2) (up1 f (mnp f p) (f (mnp f p) + i))) (sgA a (l + 1)) 64 (fun x => goF (up1 f (mnp f p) (f (mnp f p) + i)) x (cp8 (τ (cA (sgA a (l + 1)) x + 1)) (τ (cA (sgA a l) x + 1))) p (liF (σ (a + 9)) c n (l + 1) - p).toNat)) (a + 1) := by
          refine ⟨by rw [z1, hn]; exact hn16, fun q q0 q1 => ?_⟩
          rw [z1, hn] at q1
          rw [show (stC (upS τ (a + 2) (up1 f (mnp f p) (f (mnp f p) + i))) (sgA a (l + 1)) 64 (fun x => goF (up1 f (mnp f p) (f (mnp f p) + i)) x (cp8 (τ (cA (sgA a (l + 1)) x + 1)) (τ (cA (sgA a l) x + 1))) p (liF (σ (a + 9)) c n (l + 1) - p).toNat)) (a + 1 + 1) = (up1 f (mnp f p) (f (mnp f p) + i)) from z2]
          exact hE1 q q0 q1
        refine PW.aload_n dX4_vary_124 rfl ?_
        refine PW.iload_n dX4_vary_125 rfl ?_
        refine PW.iconst dX4_vary_126 ?_
        refine PW.iadd dX4_vary_127 ?_
        have hst1 : ∀ q, 0 ≤ q → q < 64 → eq8 ((stC (upS τ (a + 2) (up1 f (mnp f p) (f (mnp f p) + i))) (sgA a (l + 1)) 64 (fun x => goF (up1 f (mnp f p) (f (mnp f p) + i)) x (cp8 (τ (cA (sgA a (l + 1)) x + 1)) (τ (cA (sgA a l) x + 1))) p (liF (σ (a + 9)) c n (l + 1) - p).toNat)) (cA (sgA a (l + 1)) q + 1)) (tlF (up1 f (mnp f p) (f (mnp f p) + i)) q zF (liF ((stC (upS τ (a + 2) (up1 f (mnp f p) (f (mnp f p) + i))) (sgA a (l + 1)) 64 (fun x => goF (up1 f (mnp f p) (f (mnp f p) + i)) x (cp8 (τ (cA (sgA a (l + 1)) x + 1)) (τ (cA (sgA a l) x + 1))) p (liF (σ (a + 9)) c n (l + 1) - p).toNat)) (a + 9)) c n (l + 1)).toNat) := fun q q0 q1 => by
          rw [stC_at q0 q1, z9]
          have e0 : eq8 (cp8 (τ (cA (sgA a (l + 1)) q + 1)) (τ (cA (sgA a l) q + 1))) (tlF (up1 f (mnp f p) (f (mnp f p) + i)) q zF p.toNat) := by
            refine (cp8_eq _ _).trans ?_
            rw [f5 l hl (Int.le_refl l) q q0 q1]
            have := hst q q0 q1
            rw [hp] at this
            rw [tlF_congr (f := f) (g := (up1 f (mnp f p) (f (mnp f p) + i))) q zF (k := p.toNat) (fun j j0 j1 => up1_ne (by omega))]
            exact this
          have e1 := goF_eq (f := (up1 f (mnp f p) (f (mnp f p) + i))) (n := q) (fr := p) e0 (liF (σ (a + 9)) c n (l + 1) - p).toNat
          have e2 := tl_go (up1 f (mnp f p) (f (mnp f p) + i)) q zF p.toNat (liF (σ (a + 9)) c n (l + 1) - p).toNat
          rw [show ((p.toNat : Nat) : Int) = p by omega, show p.toNat + (liF (σ (a + 9)) c n (l + 1) - p).toNat = (liF (σ (a + 9)) c n (l + 1)).toNat by omega] at e2
          rw [e2] at e1
          exact e1
        have hco1 : ∀ q, 0 ≤ q → q < 5 → colsOk (stC (upS τ (a + 2) (up1 f (mnp f p) (f (mnp f p) + i))) (sgA a (l + 1)) 64 (fun x => goF (up1 f (mnp f p) (f (mnp f p) + i)) x (cp8 (τ (cA (sgA a (l + 1)) x + 1)) (τ (cA (sgA a l) x + 1))) p (liF (σ (a + 9)) c n (l + 1) - p).toNat)) (sgA a q) 64 := fun q q0 q1 j j0 j1 => by
          by_cases x : q = l + 1
          · rw [x, stC_at j0 j1]
            exact goF_ok (cp8_ok (f6 l hl (by omega) j j0 j1)) (fun y y0 y1 => hE1 y (by omega) (by omega))
          · rw [s1 _ (sg_ne q0 q1 j0 j1 (by omega) x) (by unfold cA sgA; omega)]
            exact f6 q q0 q1 j j0 j1
        have hbb1 : ∀ b, 0 ≤ b → b < 16 → (0 ≤ (stC (upS τ (a + 2) (up1 f (mnp f p) (f (mnp f p) + i))) (sgA a (l + 1)) 64 (fun x => goF (up1 f (mnp f p) (f (mnp f p) + i)) x (cp8 (τ (cA (sgA a (l + 1)) x + 1)) (τ (cA (sgA a l) x + 1))) p (liF (σ (a + 9)) c n (l + 1) - p).toNat)) (a + 11) b ∧ (stC (upS τ (a + 2) (up1 f (mnp f p) (f (mnp f p) + i))) (sgA a (l + 1)) 64 (fun x => goF (up1 f (mnp f p) (f (mnp f p) + i)) x (cp8 (τ (cA (sgA a (l + 1)) x + 1)) (τ (cA (sgA a l) x + 1))) p (liF (σ (a + 9)) c n (l + 1) - p).toNat)) (a + 11) b ≤ 5120) ∧ (0 ≤ (stC (upS τ (a + 2) (up1 f (mnp f p) (f (mnp f p) + i))) (sgA a (l + 1)) 64 (fun x => goF (up1 f (mnp f p) (f (mnp f p) + i)) x (cp8 (τ (cA (sgA a (l + 1)) x + 1)) (τ (cA (sgA a l) x + 1))) p (liF (σ (a + 9)) c n (l + 1) - p).toNat)) (a + 12) b ∧ (stC (upS τ (a + 2) (up1 f (mnp f p) (f (mnp f p) + i))) (sgA a (l + 1)) 64 (fun x => goF (up1 f (mnp f p) (f (mnp f p) + i)) x (cp8 (τ (cA (sgA a (l + 1)) x + 1)) (τ (cA (sgA a l) x + 1))) p (liF (σ (a + 9)) c n (l + 1) - p).toNat)) (a + 12) b ≤ 5120) := fun b b0 b1 => by
          rw [s1 (a + 11) (by unfold sgA; omega) (by omega), s1 (a + 12) (by unfold sgA; omega) (by omega)]
          exact eB b b0 b1
        have hv := vary_3 (G := G) (S := S) (σ := (stC (upS τ (a + 2) (up1 f (mnp f p) (f (mnp f p) + i))) (sgA a (l + 1)) 64 (fun x => goF (up1 f (mnp f p) (f (mnp f p) + i)) x (cp8 (τ (cA (sgA a (l + 1)) x + 1)) (τ (cA (sgA a l) x + 1))) p (liF (σ (a + 9)) c n (l + 1) - p).toNat))) (a := a) (l := l + 1) (f := (up1 f (mnp f p) (f (mnp f p) + i))) (n := n) (c := c) hA (by rw [z1]; exact hn) hT3 z2 (by rw [z0]; exact hc) (by rw [looF_up hkp]; exact hcl) hc4 (by rw [z9]; exact losA_up hkp hla) (by omega) (by omega) hst1 hco1 hbb1
        refine PW.callVg hv cv_X4_vary lk_X4_79 hA0 dX4_vary_128 rfl rfl rfl rfl (fun r S' τ128 hq => ?_)
        refine PW.iinc [(0, _), (1, _), (2, _), (3, _), (4, _), (5, _), (6, _)] dX4_vary_131 rfl rfl (Nat.le_of_ble_eq_true rfl) ?_
        refine PW.goto 59 dX4_vary_134 (by decide) ?_
        first
          | (refine ih (i + 1) τ v (by omega) (by omega) (by omega) g1 g2 (fun b b0 b1 => ⟨lsI_skip p1 hlp (by assumption) (g3 b b0 b1).1, grI_skip p1 hlp (by assumption) (g3 b b0 b1).2⟩))
          | (obtain ⟨rfl, rfl, ⟨x1, x2, x3, x4, x5, x6⟩, y1, y2⟩ := hq
             refine ih (i + 1) _ (f (mnp f p) + i) (by omega) (by omega) (by omega) ⟨fun q hq => ?_, ?_, ?_, ?_, fun q q0 q1 j j0 j1 => ?_, x6⟩ y1 (fun b b0 b1 => ?_)
             · rw [x1 q hq, s1 q (by unfold sgA; omega) (by omega)]; exact f1 q hq
             · rw [x2, z0]
             · rw [x3, z1]
             · rw [x4, z9]
             · rw [x5 q q0 (by omega) j j0 j1, s1 _ (sg_ne q0 (by omega) j0 j1 (by omega) (by omega)) (by unfold cA sgA; omega)]
               exact f5 q q0 q1 j j0 j1
             · have yy := y2 b b0 b1
               rw [z9, s1 (a + 11) (by unfold sgA; omega) (by omega), s1 (a + 12) (by unfold sgA; omega) (by omega)] at yy
               exact ⟨lsI_step hkd p0 p1 hlp gp1 gp2 ⟨by omega, by omega⟩ hsu (g3 b b0 b1).1 yy.1, grI_step hkd p0 p1 hlp gp1 gp2 ⟨by omega, by omega⟩ hsu (g3 b b0 b1).2 yy.2⟩)
      · refine PW.goto 131 dX4_vary_79 (by decide) ?_
        refine PW.iinc [(0, _), (1, _), (2, _), (3, _), (4, _), (5, _), (6, _)] dX4_vary_131 rfl rfl (Nat.le_of_ble_eq_true rfl) ?_
        refine PW.goto 59 dX4_vary_134 (by decide) ?_
        first
          | (refine ih (i + 1) τ v (by omega) (by omega) (by omega) g1 g2 (fun b b0 b1 => ⟨lsI_skip p1 hlp (by assumption) (g3 b b0 b1).1, grI_skip p1 hlp (by assumption) (g3 b b0 b1).2⟩))
          | (obtain ⟨rfl, rfl, ⟨x1, x2, x3, x4, x5, x6⟩, y1, y2⟩ := hq
             refine ih (i + 1) _ (f (mnp f p) + i) (by omega) (by omega) (by omega) ⟨fun q hq => ?_, ?_, ?_, ?_, fun q q0 q1 j j0 j1 => ?_, x6⟩ y1 (fun b b0 b1 => ?_)
             · rw [x1 q hq, s1 q (by unfold sgA; omega) (by omega)]; exact f1 q hq
             · rw [x2, z0]
             · rw [x3, z1]
             · rw [x4, z9]
             · rw [x5 q q0 (by omega) j j0 j1, s1 _ (sg_ne q0 (by omega) j0 j1 (by omega) (by omega)) (by unfold cA sgA; omega)]
               exact f5 q q0 q1 j j0 j1
             · have yy := y2 b b0 b1
               rw [z9, s1 (a + 11) (by unfold sgA; omega) (by omega), s1 (a + 12) (by unfold sgA; omega) (by omega)] at yy
               exact ⟨lsI_step hkd p0 p1 hlp gp1 gp2 ⟨by omega, by omega⟩ hsu (g3 b b0 b1).1 yy.1, grI_step hkd p0 p1 hlp gp1 gp2 ⟨by omega, by omega⟩ hsu (g3 b b0 b1).2 yy.2⟩)
theorem vary_4 {G : GT} {S : Shp} {σ : Sto} {a : Nat} {f : Int → Int} {l n c : Int} (hA : IsEnds S a) (hn : σ (a + 1) 2 = n) (hT : taOk σ (a + 1)) (hf : σ (a + 2) = f) (hc : σ a 7 = c) (hcl : looF f n = c) (hc4 : c ≤ 4) (hla : losA f (σ (a + 9)) n) (hl : 0 ≤ l) (hkk : c - l = 4) (hst : ∀ q, 0 ≤ q → q < 64 → eq8 (σ (cA (sgA a l) q + 1)) (tlF f q zF (liF (σ (a + 9)) c n l).toNat)) (hco : ∀ q, 0 ≤ q → q < 5 → colsOk σ (sgA a q) 64) (hb : ∀ b, 0 ≤ b → b < 16 → (0 ≤ σ (a + 11) b ∧ σ (a + 11) b ≤ 5120) ∧ (0 ≤ σ (a + 12) b ∧ σ (a + 12) b ≤ 5120)) : PMet G mX4_vary 10 0 0 [.ref a, .int (iI l)] S σ (fun r S' σ' => r = none ∧ S' = S ∧ vaP σ σ' a f l n c) := by
  obtain ⟨p, hp⟩ : ∃ p, liF (σ (a + 9)) c n l = p := ⟨_, rfl⟩
  obtain ⟨hA0, hA1, hA4, hA9, hA10, hA11, hA12, hAs⟩ := id hA
  have hT0 := hA1.1
  have hn16 := hT.1
  rw [hn] at hn16
  have hkd : ∀ i, 0 ≤ i → i < n → 0 ≤ f (7 * i) ∧ f (7 * i) ≤ 5 := fun i i0 i1 => by
    have := (hT.2 i i0 (by omega)).k
    rw [show σ (a + 1 + 1) = f from hf] at this
    exact this
  have hlf := liF_at (f := f) (la := σ (a + 9)) (n := n) (l := l) (by omega) hla hl (by omega)
  have hgp := liF_gap (f := f) (la := σ (a + 9)) (n := n) (l := l) (by omega) hla hl (by omega)
  rw [hcl] at hlf hgp
  rw [hp] at hlf hgp
  obtain ⟨⟨p0, p1⟩, hlp, hcp⟩ := hlf
  obtain ⟨gp1, gp2⟩ := hgp
  have hnx := liF_b (f := f) (la := σ (a + 9)) (n := n) (l := l + 1) (by omega) hla (by omega)
  rw [hcl] at hnx
  have hkp := hkd p p0 p1
  have hx1 := xT_1 hkp
  have hmp := mnp_b hkp
  have hEf : ∀ i, 0 ≤ i → i < n → evOk f i := fun i i0 i1 => by
    have := hT.2 i i0 (by omega)
    rw [show σ (a + 1 + 1) = f from hf] at this
    exact this
  have hnum := (hEf p p0 p1).2.1 (xT 1 (f (7 * p))) hx1.1 hx1.2
  have hnum2 : -40 ≤ f (mnp f p) ∧ f (mnp f p) ≤ 39 := hnum
  have hS1 := hAs (l + 1) (by omega) (by omega)
  have hS0 := hAs l hl (by omega)
  refine PMet.of [(0, .ref a), (1, .int (iI (l)))] (by decide +kernel) rfl (Nat.le_of_ble_eq_true rfl) ?_
  refine PW.iload_n dX4_vary_0 rfl ?_
  refine PW.aload_n dX4_vary_1 rfl ?_
  refine PW.getI 7 fl_X4_44 rfl (by assumption) rfl rfl dX4_vary_2 ?_
  refine PW.top c hc ?_
  refine PW.icmp_ge 13 dX4_vary_5 (by decide) (by first | assumption | (unfold inR; omega)) (by first | assumption | (unfold inR; omega)) (fun h5 => ?_) (fun h5 => ?_)
  · exfalso; omega
  · refine PW.iload_n dX4_vary_8 rfl ?_
    refine PW.iconst dX4_vary_9 ?_
    refine PW.icmp_lt 23 dX4_vary_10 (by decide) (by first | assumption | (unfold inR; omega)) (by first | assumption | (unfold inR; omega)) (fun h10 => ?_) (fun h10 => ?_)
    · refine PW.aload_n dX4_vary_23 rfl ?_
      refine PW.iload_n dX4_vary_24 rfl ?_
      refine PW.callVr (c_X4_looseIndex (c := c) (n := n) hA hc (by omega) hn (by omega)) cv_X4_looseIndex lk_X4_71 (by first | assumption | exact And.left (by assumption)) dX4_vary_25 rfl rfl rfl rfl ?_
      refine PW.top p hp ?_
      refine PW.istore_n [(0, _), (1, _), (2, _)] dX4_vary_28 rfl (Nat.le_of_ble_eq_true rfl) ?_
      refine PW.aload_n dX4_vary_29 rfl ?_
      refine PW.getR fl_X4_12 rfl (by assumption) rfl dX4_vary_30 ?_
      refine PW.iload_n dX4_vary_33 rfl ?_
      refine PW.callVr (c_X8_kind hA1 (by omega)) cv_X8_kind lk_X4_98 (by first | assumption | exact And.left (by assumption)) dX4_vary_34 rfl rfl rfl rfl ?_
      refine PW.top (f (7 * p)) (by show σ (a + 2) (7 * p) = _; rw [hf]) ?_
      refine PW.istore_n [(0, _), (1, _), (2, _), (3, _)] dX4_vary_37 rfl (Nat.le_of_ble_eq_true rfl) ?_
      refine PW.iload_n dX4_vary_38 rfl ?_
      refine PW.callSr (c_X5_mainPlace hkp) cs_X5_mainPlace lk_X4_101 dX4_vary_39 rfl rfl rfl ?_
      refine PW.istore [(0, _), (1, _), (2, _), (3, _), (4, _)] dX4_vary_42 rfl (Nat.le_of_ble_eq_true rfl) ?_
      refine PW.aload_n dX4_vary_44 rfl ?_
      refine PW.getR fl_X4_12 rfl (by assumption) rfl dX4_vary_45 ?_
      refine PW.iload_n dX4_vary_48 rfl ?_
      refine PW.iload dX4_vary_49 rfl ?_
      refine PW.callVr (c_X8_number hA1 (by omega) hx1) cv_X8_number lk_X4_106 (by first | assumption | exact And.left (by assumption)) dX4_vary_51 rfl rfl rfl rfl ?_
      refine PW.top (f (mnp f p)) (by show σ (a + 2) (7 * p + 1 + xT 1 (f (7 * p))) = _; rw [hf]; rfl) ?_
      refine PW.istore [(0, _), (1, _), (2, _), (3, _), (4, _), (5, _)] dX4_vary_54 rfl (Nat.le_of_ble_eq_true rfl) ?_
      refine PW.iconst dX4_vary_56 ?_
      refine PW.istore [(0, _), (1, _), (2, _), (3, _), (4, _), (5, _), (6, _)] dX4_vary_57 rfl (Nat.le_of_ble_eq_true rfl) ?_
      refine vary_lp4 hA hn hT hf hc hcl hc4 hla hl hkk hst hco hb hp (fun τ h => ⟨rfl, rfl, h⟩) 4 _ σ (f (mnp f p)) (by omega) (by omega) (by omega) ⟨fun _ _ => rfl, rfl, rfl, rfl, fun _ _ _ _ _ _ => rfl, hco⟩ (by rw [up1_self]; exact hf) (fun b b0 b1 => ⟨lsI_0 p1 hlp, grI_0 p1 hlp⟩)
    · exfalso; omega

/-- an object: its events, mights, sights -/
def Ob (S : Shp) (σ : Sto) (h : Nat) (R n : Int) (f : Int → Int) (m : Int) (g : Int → Int) (z : Int) (sg : Int → Int) : Prop := IsHill S h ∧ hkO σ h R ∧ (σ (h + 1) 2 = n ∧ σ (h + 1 + 1) = f) ∧ (σ (h + 4) 2 = m ∧ σ (h + 4 + 1) = g) ∧ (σ (h + 171) 1 = z ∧ σ (h + 171 + 1) = sg)
theorem Ob.fr {S S' : Shp} {σ τ : Sto} {h : Nat} {R n m z : Int} {f g sg : Int → Int} (H : Ob S σ h R n f m g z sg) (e : ∀ b, h ≤ b → b < h + 473 → S'.2 b = S.2 b) (e2 : ∀ b, h ≤ b → b < h + 473 → τ b = σ b) (h3 : h + 473 ≤ S'.1) : Ob S' τ h R n f m g z sg := by
  obtain ⟨hA, hK, ⟨h1, h2⟩, ⟨h4, h5⟩, h6, h7⟩ := H
  exact ⟨hA.fr e h3, hk_same hK (fun b b0 b1 _ _ _ _ _ _ _ => e2 b (by omega) b1), ⟨by rw [e2 _ (by omega) (by omega)]; exact h1, by rw [e2 _ (by omega) (by omega)]; exact h2⟩, ⟨by rw [e2 _ (by omega) (by omega)]; exact h4, by rw [e2 _ (by omega) (by omega)]; exact h5⟩, by rw [e2 _ (by omega) (by omega)]; exact h6, by rw [e2 _ (by omega) (by omega)]; exact h7⟩
theorem Ob.old {S : Shp} {σ τ : Sto} {h q : Nat} {R n m z : Int} {f g sg : Int → Int} (H : Ob S σ h R n f m g z sg) (F : hFr σ τ q) (d : q + 473 ≤ h ∨ h + 473 ≤ q) (h3 : h + 473 ≤ S.1) : Ob S τ h R n f m g z sg := H.fr (fun _ _ _ => rfl) (fun b b0 b1 => F b (by omega)) h3
theorem Ob.mono {S : Shp} {σ : Sto} {h : Nat} {R R' n m z : Int} {f g sg : Int → Int} (H : Ob S σ h R n f m g z sg) (hR : R ≤ R') : Ob S σ h R' n f m g z sg := ⟨H.1, H.2.1.mono hR, H.2.2⟩
def vP (v : Int) (S : Shp) (σ : Sto) (h : Nat) (T : Sto → Prop) : Option Value → Shp → Sto → Prop := fun r S' τ => S' = S ∧ r = some (.int (iI v)) ∧ hFr σ τ h ∧ T τ
/-- which stories fit, told by the pure land -/
def uP (n : Int) (f : Int → Int) (m : Int) (g : Int → Int) (sg : Int → Int) (K : Int) : Int → Int := umS sg g (ldT f n) m K
theorem Ob.b {S : Shp} {σ : Sto} {h : Nat} {R n m z : Int} {f g sg : Int → Int} (H : Ob S σ h R n f m g z sg) : (0 ≤ n ∧ n ≤ 16) ∧ (0 ≤ m ∧ m ≤ 4) ∧ (0 ≤ z ∧ z ≤ 30) ∧ (∀ i, 0 ≤ i → i < n → evOk f i) ∧ (∀ i, 0 ≤ i → i < m → evOk g i) ∧ ∀ i, 0 ≤ i → i < z → sgWf sg i := by
  obtain ⟨hA, hK, ⟨rfl, rfl⟩, ⟨rfl, rfl⟩, rfl, rfl⟩ := H
  obtain ⟨⟨hT, hMt, hmm, hlc, hld, hes, hek⟩, hss, hg, hdr, hte, hho, hbs, hvk⟩ := (hillOk_iff σ h).mp hK.1
  exact ⟨hT.1, ⟨hMt.1.1, hmm⟩, hss.1, hT.2, hMt.2, hss.2⟩
set_option maxRecDepth 20000 in
theorem v_event {G : GT} {S : Shp} {σ : Sto} {h : Nat} {R n m z : Int} {f g sg : Int → Int} {k c0 c1 c2 c3 c4 : Int} (hO : Ob S σ h R n f m g z sg) (hk : okEv k c0 c1 c2 c3 c4) (hn : n < 16) (rk : inR k) (rc0 : inR c0) (rc1 : inR c1) (rc2 : inR c2) (rc3 : inR c3) (rc4 : inR c4) : PMet G mX11_event 7 0 0 [.ref h, .int (iI k), .int (iI c0), .int (iI c1), .int (iI c2), .int (iI c3), .int (iI c4)] S σ (vP (n) S σ h (fun τ => Ob S τ h (R) (n + 1) (adF f n k c0 c1 c2 c3 c4) (m) (g) (z) (sg))) := by
  obtain ⟨hA, hK, ⟨rfl, rfl⟩, ⟨rfl, rfl⟩, rfl, rfl⟩ := hO
  obtain ⟨⟨hT, hMt, hmm, hlc, hld, hes, hek⟩, hss, hg, hdr, hte, hho, hbs, hvk⟩ := (hillOk_iff σ h).mp hK.1
  have s1 := rn_step hK (taOk_ad hT rfl hn hk) (fun b b1 b2 _ _ => by clear hk; rw [upS_ne (by omega), upS_ne (by omega)])
  obtain ⟨a1, a2, a3⟩ := s1
  refine PMet.weaken (c_X11_event hA hT rk rc0 rc1 rc2 rc3 rc4) fun r S' τ q => ?_
  obtain ⟨h1, h2, h3⟩ := q
  rw [if_neg (fun q => q hk), if_neg (by clear hk; omega)] at h1
  rw [if_pos ⟨hk, hn⟩] at h3
  clear hk
  rw [h3]
  refine ⟨h2, h1, a2, hA, a1, ⟨?_, ?_⟩, ⟨?_, ?_⟩, ?_, ?_⟩
  · rw [rnS_ne (by omega), upS_same, up1_same]
  · rw [rnS_ne (by omega), upS_ne (by omega), upS_same]
  · rw [a3 _ (by omega)]
  · rw [a3 _ (by omega)]
  · rw [a3 _ (by omega)]
  · rw [a3 _ (by omega)]

set_option maxRecDepth 20000 in
theorem v_clear {G : GT} {S : Shp} {σ : Sto} {h : Nat} {R n m z : Int} {f g sg : Int → Int}  (hO : Ob S σ h R n f m g z sg)  : PMet G mX11_clear 7 0 0 [.ref h] S σ (vP (n) S σ h (fun τ => Ob S τ h (R) (0) (f) (m) (g) (z) (sg))) := by
  obtain ⟨hA, hK, ⟨rfl, rfl⟩, ⟨rfl, rfl⟩, rfl, rfl⟩ := hO
  obtain ⟨⟨hT, hMt, hmm, hlc, hld, hes, hek⟩, hss, hg, hdr, hte, hho, hbs, hvk⟩ := (hillOk_iff σ h).mp hK.1
  have hT1 := hT.1
  obtain ⟨a1, a2, a3⟩ := rn_step hK (taOk_up (v := 0) hT (by omega) (by omega)) (fun b b1 b2 _ _ => by rw [upS_ne (by omega)])
  refine PMet.weaken (c_X11_clear hA hT) fun r S' τ q => ?_
  obtain ⟨h1, h2, h3⟩ := q
  rw [h3]
  refine ⟨h2, h1, a2, hA, a1, ⟨?_, ?_⟩, ⟨?_, ?_⟩, ?_, ?_⟩
  · rw [rnS_ne (by omega), upS_same, up1_same]
  · rw [rnS_ne (by omega), upS_ne (by omega)]
  · rw [a3 _ (by omega)]
  · rw [a3 _ (by omega)]
  · rw [a3 _ (by omega)]
  · rw [a3 _ (by omega)]

set_option maxRecDepth 20000 in
theorem v_told {G : GT} {S : Shp} {σ : Sto} {h : Nat} {R n m z : Int} {f g sg : Int → Int} {i w : Int} (hO : Ob S σ h R n f m g z sg) (hi : 0 ≤ i ∧ i < n) (hw : 0 ≤ w ∧ w ≤ 5) : PMet G mX11_told 2 0 0 [.ref h, .int (iI i), .int (iI w)] S σ (vP (f (7 * i + w)) S σ h (fun τ => Ob S τ h (R) (n) (f) (m) (g) (z) (sg))) := by
  obtain ⟨hA, hK, ⟨rfl, rfl⟩, ⟨rfl, rfl⟩, rfl, rfl⟩ := hO
  obtain ⟨⟨hT, hMt, hmm, hlc, hld, hes, hek⟩, hss, hg, hdr, hte, hho, hbs, hvk⟩ := (hillOk_iff σ h).mp hK.1
  have hT1 := hT.1
  refine PMet.weaken (c_X11_told hA hT (i := i) (w := w) (by unfold inR; omega) (by unfold inR; omega)) fun r S' τ q => ?_
  obtain ⟨h1, h2, h3⟩ := q
  rw [h3]
  refine ⟨h2, ?_, fun _ _ => rfl, hA, hK, ⟨rfl, rfl⟩, ⟨rfl, rfl⟩, rfl, rfl⟩
  rw [h1, if_neg (by omega), if_neg (by omega), if_neg (by omega)]

set_option maxRecDepth 20000 in
theorem v_loose {G : GT} {S : Shp} {σ : Sto} {h : Nat} {R n m z : Int} {f g sg : Int → Int} {i : Int} {P : Prop} [Decidable P] (hO : Ob S σ h R n f m g z sg) (hi : 0 ≤ i ∧ i < n) : PMet G mX11_loose 2 0 0 [.ref h, .int (iI i), .int (iI (b01 P))] S σ (vP (b01 (¬ f (7 * i + 6) = 0)) S σ h (fun τ => Ob S τ h (R) (n) (up1 f (7 * i + 6) (b01 P)) (m) (g) (z) (sg))) := by
  obtain ⟨hA, hK, ⟨rfl, rfl⟩, ⟨rfl, rfl⟩, rfl, rfl⟩ := hO
  obtain ⟨⟨hT, hMt, hmm, hlc, hld, hes, hek⟩, hss, hg, hdr, hte, hho, hbs, hvk⟩ := (hillOk_iff σ h).mp hK.1
  have hT1 := hT.1
  refine PMet.weaken (c_X11_loose (P := P) hA hT (i := i) (by unfold inR; omega)) fun r S' τ q => ?_
  obtain ⟨h1, h2, h3⟩ := q
  rw [if_neg (by omega)] at h1
  rw [if_pos (by omega)] at h3
  rw [h3]
  refine ⟨h2, h1, fun b hb => by rw [upS_ne (by omega), upS_ne (by omega)], hA, hk_loose hK hi.1 (b01_b P), ⟨?_, ?_⟩, ⟨?_, ?_⟩, ?_, ?_⟩
  · rw [upS_ne (by omega), upS_ne (by omega)]
  · rw [upS_ne (by omega), upS_same]
  · rw [upS_ne (by omega), upS_ne (by omega)]
  · rw [upS_ne (by omega), upS_ne (by omega)]
  · rw [upS_ne (by omega), upS_ne (by omega)]
  · rw [upS_ne (by omega), upS_ne (by omega)]

set_option maxRecDepth 20000 in
theorem v_count {G : GT} {S : Shp} {σ : Sto} {h : Nat} {R n m z : Int} {f g sg : Int → Int}  (hO : Ob S σ h R n f m g z sg)  : PMet G mX11_count 6 0 0 [.ref h, .int (iI 1)] S σ (vP (looF f n) S σ h (fun τ => Ob S τ h (R) (n) (f) (m) (g) (z) (sg))) := by
  obtain ⟨hA, hK, ⟨rfl, rfl⟩, ⟨rfl, rfl⟩, rfl, rfl⟩ := hO
  obtain ⟨⟨hT, hMt, hmm, hlc, hld, hes, hek⟩, hss, hg, hdr, hte, hho, hbs, hvk⟩ := (hillOk_iff σ h).mp hK.1
  refine PMet.weaken (c_X11_count hA hT (w := 1) (by unfold inR; omega) hMt hss.1 hss hlc hvk.1) fun r S' τ q => ?_
  obtain ⟨h1, h2, h3⟩ := q
  rw [h3]
  refine ⟨h2, ?_, fun _ _ => rfl, hA, hK, ⟨rfl, rfl⟩, ⟨rfl, rfl⟩, rfl, rfl⟩
  rw [h1, if_neg (by decide), if_pos rfl]

set_option maxRecDepth 20000 in
theorem v_skin {G : GT} {S : Shp} {σ : Sto} {h : Nat} {R n m z : Int} {f g sg : Int → Int} {x y : Int} (hO : Ob S σ h R n f m g z sg) (hx : 0 ≤ x ∧ x < 8) (hy : 0 ≤ y ∧ y < 8) : PMet G mX11_skin 3 0 0 [.ref h, .int (iI x), .int (iI y), .int (iI 1)] S σ (vP (sbF (tlF f (8 * y + x) zF n.toNat)) S σ h (fun τ => Ob S τ h (R) (n) (f) (m) (g) (z) (sg))) := by
  obtain ⟨hA, hK, ⟨rfl, rfl⟩, ⟨rfl, rfl⟩, rfl, rfl⟩ := hO
  obtain ⟨⟨hT, hMt, hmm, hlc, hld, hes, hek⟩, hss, hg, hdr, hte, hho, hbs, hvk⟩ := (hillOk_iff σ h).mp hK.1
  refine PMet.weaken (c_X11_skin hA hlc (x := x) (y := y) (w := 1) (by unfold inR; omega) (by unfold inR; omega) (by unfold inR; omega)) fun r S' τ q => ?_
  obtain ⟨h1, h2, h3⟩ := q
  rw [h3]
  refine ⟨h2, ?_, fun _ _ => rfl, hA, hK, ⟨rfl, rfl⟩, ⟨rfl, rfl⟩, rfl, rfl⟩
  rw [h1, if_neg (by omega), if_neg (by decide), sbF_eq (hld (8 * y + x) (by omega) (by omega))]

set_option maxRecDepth 20000 in
theorem v_amount {G : GT} {S : Shp} {σ : Sto} {h : Nat} {R n m z : Int} {f g sg : Int → Int} {b w : Int} (hO : Ob S σ h R n f m g z sg) (hb : 0 ≤ b ∧ b ≤ 16) (hw : 0 ≤ w ∧ w ≤ 2) (hl : looF f n ≤ 4) : PMet G mX11_amount 12 0 0 [.ref h, .int (iI b), .int (iI w)] S σ (fun r S' τ => S' = S ∧ hFr σ τ h ∧ Ob S τ h R n f m g z sg ∧ ∃ v : Int, r = some (.int (iI v)) ∧ (b = 16 → v = -100002) ∧ (b < 16 → w = 0 → v = amF f n b) ∧ (b < 16 → w = 1 → isLst f n b v) ∧ (b < 16 → w = 2 → isGrt f n b v)) := by
  obtain ⟨hA, hK, ⟨rfl, rfl⟩, ⟨rfl, rfl⟩, rfl, rfl⟩ := hO
  obtain ⟨⟨hT, hMt, hmm, hlc, hld, hes, hek⟩, hss, hg, hdr, hte, hho, hbs, hvk⟩ := (hillOk_iff σ h).mp hK.1
  refine PMet.weaken (c_X11_amount hA (b := b) (w := w) (by unfold inR; omega) (by unfold inR; omega) hT hlc hes hek) fun r S' τ q => ?_
  obtain ⟨h2, v, h1, q1, q2, q3, q4, q5, q6, q7, q8⟩ := q
  have e : ∀ b, b < h + 149 ∨ h + 171 ≤ b → τ b = σ b := fun b hb => q6 b (by omega)
  refine ⟨h2, fun b hb => e b (by omega), ⟨hA, hk_cg hK (fun b hb => e b (by omega)) ⟨q7, q8⟩ (hlG_congr (e _ (by omega)) (e _ (by omega)) hg) (drOk_congr (e _ (by omega)) (e _ (by omega)) (e _ (by omega)) (e _ (by omega)) hdr) (by rw [e (h + 12 + 1) (by omega), e (h + 12) (by omega)]; exact hbs) (hlV_congr (e _ (by omega)) (fun b b0 b1 => e b (by omega)) hvk), ⟨by rw [e _ (by omega)], by rw [e _ (by omega)]⟩, ⟨by rw [e _ (by omega)], by rw [e _ (by omega)]⟩, by rw [e _ (by omega)], by rw [e _ (by omega)]⟩, v, h1, fun hb16 => q1 (by omega), fun hb16 hw0 => ?_, fun hb16 hw1 => q4 (by omega) hw1 (by omega), fun hb16 hw2 => q5 (by omega) hw2 (by omega)⟩
  rw [q2 (by omega) hw0]
  unfold amF
  exact smF_congr fun c c0 c1 => clF_eq (hld c c0 (by omega)) b

set_option maxRecDepth 20000 in
theorem v_sight {G : GT} {S : Shp} {σ : Sto} {h : Nat} {R n m z : Int} {f g sg : Int → Int} {x y b : Int} (hO : Ob S σ h R n f m g z sg) (hk : sgOk 0 x y b 0 0) (hz : z < 30) (rx : inR x) (ry : inR y) (rb : inR b) : PMet G mX11_sight 4 0 0 [.ref h, .int (iI 0), .int (iI x), .int (iI y), .int (iI b), .int (iI 0), .int (iI 0)] S σ (vP (z) S σ h (fun τ => Ob S τ h (R) (n) (f) (m) (g) (z + 1) (sgF sg z 0 (8 * y + x) b 0 0))) := by
  obtain ⟨hA, hK, ⟨rfl, rfl⟩, ⟨rfl, rfl⟩, rfl, rfl⟩ := hO
  obtain ⟨⟨hT, hMt, hmm, hlc, hld, hes, hek⟩, hss, hg, hdr, hte, hho, hbs, hvk⟩ := (hillOk_iff σ h).mp hK.1
  have hw := fun f => sgWf_new (f := f) (n := σ (h + 171) 1) hk (show inR 0 by unfold inR; omega) (show inR 0 by unfold inR; omega)
  refine PMet.weaken (c_X11_sight hA hss (k := 0) (p := 0) (q := 0) (by unfold inR; omega) rx ry rb (by unfold inR; omega) (by unfold inR; omega)) fun r S' τ q => ?_
  obtain ⟨h1, h2, e⟩ := q
  rw [if_neg (fun q => q hk), if_neg (by clear hk; omega)] at h1
  rw [if_pos ⟨hk, hz⟩] at e
  clear hk
  refine ⟨h2, h1, fun b hb => by rw [e, upS_ne (by omega), upS_ne (by omega), upS_ne (by omega)], hA, hk_doubt hK (fun b _ _ b3 b4 b5 => by rw [e, upS_ne (by omega), upS_ne (by omega), upS_ne (by omega)]) (by rw [e, upS_same]) (taOk_congr (by rw [e, upS_ne (by omega), upS_ne (by omega), upS_ne (by omega)]) (by rw [e, upS_ne (by omega), upS_ne (by omega), upS_ne (by omega)]) hMt) (by rw [e, upS_ne (by omega), upS_ne (by omega), upS_ne (by omega)]; exact hmm) ?_, ⟨?_, ?_⟩, ⟨?_, ?_⟩, ?_, ?_⟩
  · have hs1 := hss.1
    unfold hlS sgsOk
    rw [e, upS_ne (show h + 171 ≠ h + 183 by omega), upS_same, up1_same, upS_ne (show h + 171 + 1 ≠ h + 183 by omega), upS_ne (show h + 171 + 1 ≠ h + 171 by omega), upS_same]
    refine ⟨by omega, fun i i0 i1 => ?_⟩
    by_cases ei : i = σ (h + 171) 1
    · rw [ei]
      exact hw _
    · exact sgWf_old (by omega) (hss.2 i i0 (by omega))
  · rw [e, upS_ne (by omega), upS_ne (by omega), upS_ne (by omega)]
  · rw [e, upS_ne (by omega), upS_ne (by omega), upS_ne (by omega)]
  · rw [e, upS_ne (by omega), upS_ne (by omega), upS_ne (by omega)]
  · rw [e, upS_ne (by omega), upS_ne (by omega), upS_ne (by omega)]
  · rw [e, upS_ne (by omega), upS_same, up1_same]
  · rw [e, upS_ne (by omega), upS_ne (by omega), upS_same]

set_option maxRecDepth 20000 in
theorem v_maybe {G : GT} {S : Shp} {σ : Sto} {h : Nat} {R n m z : Int} {f g sg : Int → Int} {k c0 c1 c2 c3 c4 : Int} (hO : Ob S σ h R n f m g z sg) (hk : okEv k c0 c1 c2 c3 c4) (hn : m < 4) (rk : inR k) (rc0 : inR c0) (rc1 : inR c1) (rc2 : inR c2) (rc3 : inR c3) (rc4 : inR c4) : PMet G mX11_maybe 7 0 0 [.ref h, .int (iI k), .int (iI c0), .int (iI c1), .int (iI c2), .int (iI c3), .int (iI c4)] S σ (vP (m) S σ h (fun τ => Ob S τ h (R) (n) (f) (m + 1) (adF g m k c0 c1 c2 c3 c4) (z) (sg))) := by
  obtain ⟨hA, hK, ⟨rfl, rfl⟩, ⟨rfl, rfl⟩, rfl, rfl⟩ := hO
  obtain ⟨⟨hT, hMt, hmm, hlc, hld, hes, hek⟩, hss, hg, hdr, hte, hho, hbs, hvk⟩ := (hillOk_iff σ h).mp hK.1
  have hMa := taOk_ad hMt rfl (show σ (h + 4) 2 < 16 by clear hk; omega) hk
  refine PMet.weaken (c_X11_maybe hA hMt hmm rk rc0 rc1 rc2 rc3 rc4) fun r S' τ q => ?_
  obtain ⟨h1, h2, e⟩ := q
  rw [if_neg (fun q => q hk), if_neg (by clear hk; omega)] at h1
  rw [if_pos ⟨hk, hn⟩] at e
  clear hk
  refine ⟨h2, h1, fun b hb => by rw [e, upS_ne (by omega), upS_ne (by omega), upS_ne (by omega)], hA, hk_doubt hK (fun b _ _ b3 b4 b5 => by rw [e, upS_ne (by omega), upS_ne (by omega), upS_ne (by omega)]) (by rw [e, upS_same]) (taOk_congr (by rw [e, upS_ne (by omega)]) (by rw [e, upS_ne (by omega)]) hMa) (by rw [e, upS_ne (by omega), upS_same, up1_same]; omega) (hlS_congr (by rw [e, upS_ne (by omega), upS_ne (by omega), upS_ne (by omega)]) (by rw [e, upS_ne (by omega), upS_ne (by omega), upS_ne (by omega)]) hss), ⟨?_, ?_⟩, ⟨?_, ?_⟩, ?_, ?_⟩
  · rw [e, upS_ne (by omega), upS_ne (by omega), upS_ne (by omega)]
  · rw [e, upS_ne (by omega), upS_ne (by omega), upS_ne (by omega)]
  · rw [e, upS_ne (by omega), upS_same, up1_same]
  · rw [e, upS_ne (by omega), upS_ne (by omega), upS_same]
  · rw [e, upS_ne (by omega), upS_ne (by omega), upS_ne (by omega)]
  · rw [e, upS_ne (by omega), upS_ne (by omega), upS_ne (by omega)]

set_option maxRecDepth 20000 in
theorem v_never {G : GT} {S : Shp} {σ : Sto} {h : Nat} {R n m z : Int} {f g sg : Int → Int}  (hO : Ob S σ h R n f m g z sg)  : PMet G mX11_never 2 0 0 [.ref h] S σ (vP (m) S σ h (fun τ => Ob S τ h (R) (n) (f) (0) (g) (z) (sg))) := by
  obtain ⟨hA, hK, ⟨rfl, rfl⟩, ⟨rfl, rfl⟩, rfl, rfl⟩ := hO
  obtain ⟨⟨hT, hMt, hmm, hlc, hld, hes, hek⟩, hss, hg, hdr, hte, hho, hbs, hvk⟩ := (hillOk_iff σ h).mp hK.1
  have hM1 := hMt.1
  refine PMet.weaken (c_X11_never hA hMt hmm) fun r S' τ q => ?_
  obtain ⟨h1, h2, e⟩ := q
  refine ⟨h2, h1, fun b hb => by rw [e, upS_ne (by omega), upS_ne (by omega)], hA, hk_doubt hK (fun b _ _ b3 b4 b5 => by rw [e, upS_ne (by omega), upS_ne (by omega)]) (by rw [e, upS_same]) (taOk_congr (by rw [e, upS_ne (by omega)]) (by rw [e, upS_ne (by omega)]) (taOk_up (v := 0) hMt (by omega) (by omega))) (by rw [e, upS_ne (by omega), upS_same, up1_same]; omega) (hlS_congr (by rw [e, upS_ne (by omega), upS_ne (by omega)]) (by rw [e, upS_ne (by omega), upS_ne (by omega)]) hss), ⟨?_, ?_⟩, ⟨?_, ?_⟩, ?_, ?_⟩
  · rw [e, upS_ne (by omega), upS_ne (by omega)]
  · rw [e, upS_ne (by omega), upS_ne (by omega)]
  · rw [e, upS_ne (by omega), upS_same, up1_same]
  · rw [e, upS_ne (by omega), upS_ne (by omega)]
  · rw [e, upS_ne (by omega), upS_ne (by omega)]
  · rw [e, upS_ne (by omega), upS_ne (by omega)]

set_option maxRecDepth 20000 in
theorem v_stories {G : GT} {S : Shp} {σ : Sto} {h : Nat} {R n m z : Int} {f g sg : Int → Int} {k : Int} (hO : Ob S σ h R n f m g z sg) (hk : -1 ≤ k ∧ k ≤ z) (h16 : n + m ≤ 16) (hRb : 0 ≤ R ∧ R < 2147483000) : PMet G mX11_stories 8 0 0 [.ref h, .int (iI k)] S σ (vP (ftC (uP n f m g sg (knF z k)) (nS m)) S σ h (fun τ => Ob S τ h (R + 1) (n) (f) (m) (g) (z) (sg))) := by
  obtain ⟨hA, hK, ⟨rfl, rfl⟩, ⟨rfl, rfl⟩, rfl, rfl⟩ := hO
  obtain ⟨⟨hT, hMt, hmm, hlc, hld, hes, hek⟩, hss, hg, hdr, hte, hho, hbs, hvk⟩ := (hillOk_iff σ h).mp hK.1
  have hs1 := hss.1
  have hT1 := hT.1
  have hM1 := hMt.1
  have hz : tsR σ h k = 0 := by
    unfold tsR
    rw [if_neg (fun x => x hk), if_neg (by omega)]
  have hkn : knF (σ (h + 171) 1) k ≤ σ (h + 171) 1 := by unfold knF; split <;> omega
  have eU : umS (σ (h + 171 + 1)) (σ (h + 4 + 1)) (ldF σ (h + 15)) (σ (h + 4) 2) (knF (σ (h + 171) 1) k) = uP (σ (h + 1) 2) (σ (h + 1 + 1)) (σ (h + 4) 2) (σ (h + 4 + 1)) (σ (h + 171 + 1)) (knF (σ (h + 171) 1) k) := umS_ld (sn := σ (h + 171) 1) (fun i i0 i1 => hss.2 i i0 i1) hkn (fun c c0 c1 => hld c c0 (by omega))
  refine PMet.weaken (c_X11_stories hA hT hMt hmm hlc hss hte (k := k) (by unfold inR; omega)) fun r S' τ q => ?_
  obtain ⟨h2, v, h1, -, q2⟩ := q
  obtain ⟨gg, hv⟩ := q2 hz
  have hK2 := hk_tell hK (by omega) hk gg
  obtain ⟨g1, -, -, ⟨-, -, -, g9, g6⟩, -⟩ := id gg
  rw [eU] at g9 g6
  exact ⟨h2, by rw [h1, hv, g9], fun b hb => g1 b (by omega), hA, hK2, ⟨by rw [g1 _ (by omega)], by rw [g1 _ (by omega)]⟩, ⟨by rw [g1 _ (by omega)], by rw [g1 _ (by omega)]⟩, by rw [g1 _ (by omega)], by rw [g1 _ (by omega)]⟩

set_option maxRecDepth 20000 in
theorem v_story {G : GT} {S : Shp} {σ : Sto} {h : Nat} {R n m z : Int} {f g sg : Int → Int} {k i j : Int} (hO : Ob S σ h R n f m g z sg) (hk : -1 ≤ k ∧ k ≤ z) (h16 : n + m ≤ 16) (hRb : 0 ≤ R ∧ R < 2147483000) (ri : inR i) (rj : inR j) : PMet G mX11_story 8 0 0 [.ref h, .int (iI k), .int (iI i), .int (iI j)] S σ (fun r S' τ => S' = S ∧ hFr σ τ h ∧ Ob S τ h (R + 1) n f m g z sg ∧ ∃ F : Int → Int, ftG (uP n f m g sg (knF z k)) F (nS m) ∧ r = some (.int (iI (if ¬ (0 ≤ i ∧ i < ftC (uP n f m g sg (knF z k)) (nS m)) then -1 else if j = -1 then lnE m (F i) else prt m (F i) j)))) := by
  obtain ⟨hA, hK, ⟨rfl, rfl⟩, ⟨rfl, rfl⟩, rfl, rfl⟩ := hO
  obtain ⟨⟨hT, hMt, hmm, hlc, hld, hes, hek⟩, hss, hg, hdr, hte, hho, hbs, hvk⟩ := (hillOk_iff σ h).mp hK.1
  have hs1 := hss.1
  have hT1 := hT.1
  have hM1 := hMt.1
  have hz : tsR σ h k = 0 := by
    unfold tsR
    rw [if_neg (fun x => x hk), if_neg (by omega)]
  have hkn : knF (σ (h + 171) 1) k ≤ σ (h + 171) 1 := by unfold knF; split <;> omega
  have eU : umS (σ (h + 171 + 1)) (σ (h + 4 + 1)) (ldF σ (h + 15)) (σ (h + 4) 2) (knF (σ (h + 171) 1) k) = uP (σ (h + 1) 2) (σ (h + 1 + 1)) (σ (h + 4) 2) (σ (h + 4 + 1)) (σ (h + 171 + 1)) (knF (σ (h + 171) 1) k) := umS_ld (sn := σ (h + 171) 1) (fun i i0 i1 => hss.2 i i0 i1) hkn (fun c c0 c1 => hld c c0 (by omega))
  refine PMet.weaken (c_X11_story hA hT hMt hmm hlc hss hte (k := k) (by unfold inR; omega) ri rj) fun r S' τ q => ?_
  obtain ⟨h2, v, h1, -, q2⟩ := q
  obtain ⟨gg, hv⟩ := q2 hz
  have hK2 := hk_tell hK (by omega) hk gg
  obtain ⟨g1, -, -, ⟨-, -, -, g9, g6⟩, -⟩ := id gg
  rw [eU] at g9 g6
  refine ⟨h2, fun b hb => g1 b (by omega), ⟨hA, hK2, ⟨by rw [g1 _ (by omega)], by rw [g1 _ (by omega)]⟩, ⟨by rw [g1 _ (by omega)], by rw [g1 _ (by omega)]⟩, by rw [g1 _ (by omega)], by rw [g1 _ (by omega)]⟩, τ (h + 183 + 6), g6, ?_⟩
  rw [h1, hv, g9]

set_option maxRecDepth 20000 in
theorem v_next {G : GT} {S : Shp} {σ : Sto} {h : Nat} {R n m z : Int} {f g sg : Int → Int} {k : Int} (hO : Ob S σ h R n f m g z sg) (hk : -1 ≤ k ∧ k ≤ z) (h16 : n + m ≤ 16) (hRb : 0 ≤ R ∧ R < 2147483000) : PMet G mX11_next 8 0 0 [.ref h, .int (iI k), .int (iI 1)] S σ (fun r S' τ => S' = S ∧ hFr σ τ h ∧ Ob S τ h (R + 1) n f m g z sg ∧ ∃ v : Int, r = some (.int (iI v)) ∧ (ftC (uP n f m g sg (knF z k)) (nS m) = 0 → v = -100003) ∧ (¬ ftC (uP n f m g sg (knF z k)) (nS m) = 0 → 0 ≤ v ∧ v ≤ ftC (uP n f m g sg (knF z k)) (nS m))) := by
  obtain ⟨hA, hK, ⟨rfl, rfl⟩, ⟨rfl, rfl⟩, rfl, rfl⟩ := hO
  obtain ⟨⟨hT, hMt, hmm, hlc, hld, hes, hek⟩, hss, hg, hdr, hte, hho, hbs, hvk⟩ := (hillOk_iff σ h).mp hK.1
  have hs1 := hss.1
  have hT1 := hT.1
  have hM1 := hMt.1
  have hz : tsR σ h k = 0 := by
    unfold tsR
    rw [if_neg (fun x => x hk), if_neg (by omega)]
  have hkn : knF (σ (h + 171) 1) k ≤ σ (h + 171) 1 := by unfold knF; split <;> omega
  have eU : umS (σ (h + 171 + 1)) (σ (h + 4 + 1)) (ldF σ (h + 15)) (σ (h + 4) 2) (knF (σ (h + 171) 1) k) = uP (σ (h + 1) 2) (σ (h + 1 + 1)) (σ (h + 4) 2) (σ (h + 4 + 1)) (σ (h + 171 + 1)) (knF (σ (h + 171) 1) k) := umS_ld (sn := σ (h + 171) 1) (fun i i0 i1 => hss.2 i i0 i1) hkn (fun c c0 c1 => hld c c0 (by omega))
  have hmb : 0 ≤ σ (h + 4) 2 ∧ σ (h + 4) 2 ≤ 4 := ⟨by omega, hmm⟩
  have nb := nS_b hmb
  refine PMet.weaken (c_X11_next hA hT hMt hmm hlc hss hte hho (k := k) (w := 1) (by unfold inR; omega) (by unfold inR; omega)) fun r S' τ q => ?_
  obtain ⟨h2, v, h1, -, -, q2⟩ := q
  obtain ⟨μ, gg, n1, n2⟩ := q2 ⟨by decide, by decide⟩ hz
  have hK2 := hk_tell hK (by omega) hk gg
  obtain ⟨g1, -, -, ⟨-, -, -, g9, g6⟩, -⟩ := id gg
  rw [eU] at g9 g6
  rw [g9] at n1 n2
  have fb := ftC_b (uP (σ (h + 1) 2) (σ (h + 1 + 1)) (σ (h + 4) 2) (σ (h + 4 + 1)) (σ (h + 171 + 1)) (knF (σ (h + 171) 1) k)) (i := nS (σ (h + 4) 2)) (by omega)
  by_cases h0 : ftC (uP (σ (h + 1) 2) (σ (h + 1 + 1)) (σ (h + 4) 2) (σ (h + 4 + 1)) (σ (h + 171 + 1)) (knF (σ (h + 171) 1) k)) (nS (σ (h + 4) 2)) = 0
  · obtain ⟨hv, e⟩ := n1 h0
    subst e
    exact ⟨h2, fun b hb => g1 b (by omega), ⟨hA, hK2, ⟨by rw [g1 _ (by omega)], by rw [g1 _ (by omega)]⟩, ⟨by rw [g1 _ (by omega)], by rw [g1 _ (by omega)]⟩, by rw [g1 _ (by omega)], by rw [g1 _ (by omega)]⟩, v, h1, fun _ => hv, fun x => absurd h0 x⟩
  · obtain ⟨t1, t2, t3, t4, hv⟩ := n2 h0
    have t0 : ∀ b, b < h + 183 ∨ h + 461 ≤ b → τ b = σ b := fun b hb => (t1 b (by omega) (by omega)).trans (g1 b (by omega))
    refine ⟨h2, fun b hb => t0 b (by omega), ⟨hA, hk_hole hK2 t1 t2 (by rw [g9]; exact t3) t4, ⟨by rw [t0 _ (by omega)], by rw [t0 _ (by omega)]⟩, ⟨by rw [t0 _ (by omega)], by rw [t0 _ (by omega)]⟩, by rw [t0 _ (by omega)], by rw [t0 _ (by omega)]⟩, v, h1, fun x => absurd x h0, fun _ => ?_⟩
    rw [hv, if_neg (by decide), if_pos rfl]
    have := (nhF_b (kapp μ h) (n := ftC (uP (σ (h + 1) 2) (σ (h + 1 + 1)) (σ (h + 4) 2) (σ (h + 4 + 1)) (σ (h + 171 + 1)) (knF (σ (h + 171) 1) k)) (nS (σ (h + 4) 2))) fb.1 (64 : Int).toNat).2.1
    exact this

set_option maxRecDepth 20000 in
theorem v_take {G : GT} {S : Shp} {σ : Sto} {h : Nat} {R n m z : Int} {f g sg : Int → Int} {k i : Int} (hO : Ob S σ h R n f m g z sg) (hk : -1 ≤ k ∧ k ≤ z) (h16 : n + m ≤ 16) (hRb : 0 ≤ R ∧ R < 2147483000) (ri : inR i) (hi : ¬ (0 ≤ i ∧ i < ftC (uP n f m g sg (knF z k)) (nS m))) : PMet G mX11_take 8 0 0 [.ref h, .int (iI k), .int (iI i)] S σ (vP (-100003) S σ h (fun τ => Ob S τ h (R + 1) (n) (f) (m) (g) (z) (sg))) := by
  obtain ⟨hA, hK, ⟨rfl, rfl⟩, ⟨rfl, rfl⟩, rfl, rfl⟩ := hO
  obtain ⟨⟨hT, hMt, hmm, hlc, hld, hes, hek⟩, hss, hg, hdr, hte, hho, hbs, hvk⟩ := (hillOk_iff σ h).mp hK.1
  have hs1 := hss.1
  have hT1 := hT.1
  have hM1 := hMt.1
  have hz : tsR σ h k = 0 := by
    unfold tsR
    rw [if_neg (fun x => x hk), if_neg (by omega)]
  have hkn : knF (σ (h + 171) 1) k ≤ σ (h + 171) 1 := by unfold knF; split <;> omega
  have eU : umS (σ (h + 171 + 1)) (σ (h + 4 + 1)) (ldF σ (h + 15)) (σ (h + 4) 2) (knF (σ (h + 171) 1) k) = uP (σ (h + 1) 2) (σ (h + 1 + 1)) (σ (h + 4) 2) (σ (h + 4 + 1)) (σ (h + 171 + 1)) (knF (σ (h + 171) 1) k) := umS_ld (sn := σ (h + 171) 1) (fun i i0 i1 => hss.2 i i0 i1) hkn (fun c c0 c1 => hld c c0 (by omega))
  refine PMet.weaken (c_X11_take hA hT hMt hmm hlc hss hte (k := k) (by unfold inR; omega) ri) fun r S' τ q => ?_
  obtain ⟨h2, v, h1, -, q2⟩ := q
  obtain ⟨μ, gg, n1, -⟩ := q2 hz
  have hK2 := hk_tell hK (by omega) hk gg
  obtain ⟨g1, -, -, ⟨-, -, -, g9, g6⟩, -⟩ := id gg
  rw [eU] at g9 g6
  rw [g9] at n1
  obtain ⟨hv, e⟩ := n1 hi
  subst e
  exact ⟨h2, by rw [h1, hv], fun b hb => g1 b (by omega), hA, hK2, ⟨by rw [g1 _ (by omega)], by rw [g1 _ (by omega)]⟩, ⟨by rw [g1 _ (by omega)], by rw [g1 _ (by omega)]⟩, by rw [g1 _ (by omega)], by rw [g1 _ (by omega)]⟩


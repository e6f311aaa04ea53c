theorem sgF_ne {f : Int → Int} {n k c b p q j : Int} (h : j < 5 * n) : sgF f n k c b p q j = f j := by
  unfold sgF
  rw [if_neg (by omega), if_neg (by omega), if_neg (by omega), if_neg (by omega), if_neg (by omega)]
theorem sgF_at {f : Int → Int} {n k c b p q : Int} : sgF f n k c b p q (5 * n) = k ∧ sgF f n k c b p q (5 * n + 1) = c ∧ sgF f n k c b p q (5 * n + 2) = b ∧ sgF f n k c b p q (5 * n + 3) = p ∧ sgF f n k c b p q (5 * n + 4) = q := by
  unfold sgF
  refine ⟨if_pos rfl, ?_, ?_, ?_, ?_⟩
  · rw [if_neg (by omega), if_pos rfl]
  · rw [if_neg (by omega), if_neg (by omega), if_pos rfl]
  · rw [if_neg (by omega), if_neg (by omega), if_neg (by omega), if_pos rfl]
  · rw [if_neg (by omega), if_neg (by omega), if_neg (by omega), if_neg (by omega), if_pos rfl]
def ldT (f : Int → Int) (n : Int) : Int → Int → Int := fun c => tlF f c zF n.toNat
theorem metS_ld {f : Int → Int} {i : Int} {A B : Int → Int → Int} (w : sgWf f i) (h : ∀ c, 0 ≤ c → c ≤ 63 → eq8 (A c) (B c)) : metS f i A ↔ metS f i B := by
  have hn := nxF_b w
  obtain ⟨w1, w2, w3⟩ := id w
  have w4 := w3.2.2.2.2.1
  exact metP_eq (h _ w1.1 w1.2) (fun _ => h _ hn.1 hn.2) w4
theorem umC_ld {f : Int → Int} {n : Int} {A B : Int → Int → Int} (w : ∀ i, 0 ≤ i → i < n → sgWf f i) (h : ∀ c, 0 ≤ c → c ≤ 63 → eq8 (A c) (B c)) {k : Int} (hk : k ≤ n) : umC f A k = umC f B k := smF_congr fun j j0 j1 => b01_congr (not_congr (metS_ld (w j j0 (by omega)) h))
theorem umS_ld {sf gf : Int → Int} {A B : Int → Int → Int} {gn k sn : Int} (w : ∀ i, 0 ≤ i → i < sn → sgWf sf i) (hk : k ≤ sn) (h : ∀ c, 0 ≤ c → c ≤ 63 → eq8 (A c) (B c)) : umS sf gf A gn k = umS sf gf B gn k := funext fun s => by
  show umC sf (lndS gf A gn s) k = umC sf (lndS gf B gn s) k
  exact umC_ld w (fun c c0 c1 => colS_eq (h c c0 c1)) hk
theorem tsR_0 {σ : Sto} {h : Nat} {k : Int} (hz : tsR σ h k = 0) : (-1 ≤ k ∧ k ≤ σ (h + 171) 1) ∧ ¬ 16 < σ (h + 1) 2 + σ (h + 4) 2 := by
  unfold tsR at hz
  split at hz
  · omega
  · split at hz
    · omega
    · exact ⟨by omega, by omega⟩
theorem sgWf_new {f : Int → Int} {n k x y b p q : Int} (h : sgOk k x y b p q) (rp : inR p) (rq : inR q) : sgWf (sgF f n k (8 * y + x) b p q) n := by
  obtain ⟨e0, e1, e2, e3, e4⟩ := sgF_at (f := f) (n := n) (k := k) (c := 8 * y + x) (b := b) (p := p) (q := q)
  have h2 := h.2.1
  have h3 := h.2.2.1
  unfold sgWf
  rw [e0, e1, e2, e3, e4, show (8 * y + x) % 8 = x by omega, show (8 * y + x) / 8 = y by omega]
  exact ⟨by omega, ⟨rp, rq⟩, h⟩
theorem sgWf_old {f : Int → Int} {n k c b p q i : Int} (hi : i < n) (h : sgWf f i) : sgWf (sgF f n k c b p q) i := by
  unfold sgWf
  rw [sgF_ne (by omega), sgF_ne (by omega), sgF_ne (by omega), sgF_ne (by omega), sgF_ne (by omega)]
  exact h
def kf (τ σ : Sto) (h : Nat) : Prop := ∀ b, b = h + 4 ∨ b = h + 5 ∨ b = h + 11 ∨ (h + 461 ≤ b ∧ b < h + 473) ∨ b = h + 12 ∨ b = h + 13 ∨ b = h + 171 ∨ b = h + 172 ∨ b = h + 173 ∨ b = h + 174 → τ b = σ b
theorem rn_step {σ μ : Sto} {h : Nat} {R : Int} (H : hkO σ h R) (hT : taOk μ (h + 1)) (e : ∀ b, b ≠ h + 1 → b ≠ h + 2 → b ≠ h + 3 → b ≠ h + 148 → μ b = σ b) : hkO (rnS μ h) h R ∧ hFr σ (rnS μ h) h ∧ kf (rnS μ h) σ h := by
  refine ⟨hk_rn H hT ?_ (fun b b0 _ _ _ _ _ _ b7 _ => e b (by omega) (by omega) (by omega) b7), fun b hb => ?_, fun b hb => ?_⟩
  · rw [e _ (by omega) (by omega) (by omega) (by omega), e _ (by omega) (by omega) (by omega) (by omega)]
    obtain ⟨-, -, -, -, -, -, hB, -⟩ := (hillOk_iff σ h).mp H.1
    exact hB
  · rw [rnS_ne (by omega)]
    exact e b (by omega) (by omega) (by omega) (by omega)
  · rw [rnS_ne (by omega)]
    exact e b (by omega) (by omega) (by omega) (by omega)
theorem IsHill.fr {S S' : Shp} {h : Nat} (H : IsHill S h) (e : ∀ b, h ≤ b → b < h + 473 → S'.2 b = S.2 b) (h3 : h + 473 ≤ S'.1) : IsHill S' h := by
  obtain ⟨hH0, hEv, hMi, hDf, hVr, hKp, hTx, hLd, hOt, hEn, hSg, hAg, hDw, hTe, hHo, hVs⟩ := H
  refine ⟨hH0.fr (e _ (by omega) (by omega)) (by omega), hEv.fr (fun b b0 b1 => e b (by omega) (by omega)) (by omega), hMi.fr (fun b b0 b1 => e b (by omega) (by omega)) (by omega), hDf.fr (fun b b0 b1 => e b (by omega) (by omega)) (by omega), hVr.fr (e _ (by omega) (by omega)) (by omega), hKp.fr (e _ (by omega) (by omega)) (by omega), hTx.fr (fun b b0 b1 => e b (by omega) (by omega)) (by omega), hLd.fr (fun b b0 b1 => e b (by omega) (by omega)) (by omega), hOt.fr (e _ (by omega) (by omega)) (e _ (by omega) (by omega)) (by omega), hEn.fr (fun b b0 b1 => e b (by omega) (by omega)) (by omega), hSg.fr (fun b b0 b1 => e b (by omega) (by omega)) (by omega), hAg.fr (fun b b0 b1 => e b (by omega) (by omega)) (by omega), hDw.fr (fun b b0 b1 => e b (by omega) (by omega)) (by omega), hTe.fr (fun b b0 b1 => e b (by omega) (by omega)) (by omega), hHo.fr (fun b b0 b1 => e b (by omega) (by omega)) (by omega), fun v v0 v1 => (hVs v v0 v1).fr (fun b b0 b1 => e b (by unfold veA at b0; omega) (by unfold veA at b1; omega)) (by unfold veA; omega)⟩

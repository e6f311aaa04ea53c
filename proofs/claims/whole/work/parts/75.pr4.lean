theorem pr_keep {G : GT} {S : Shp} {σ : Sto} {h m : Nat} {R : Int} {v : Int} (hR : Rel S σ h m R) (hRb : 0 ≤ R ∧ R < 2147483000) (rv : inR v) : Pr G S σ h m R mX11_keep mX12_keep 3 1 [.int (iI v)] := by
  have hR0 := hR
  obtain ⟨hA, hM, hm, hK, hMR⟩ := hR
  obtain ⟨⟨hT, hMt, hmm, hlc, hld, hes, hek⟩, hss, hg, hdr, hte, hho, hbs, hvk⟩ := (hillOk_iff σ h).mp hK.1
  obtain ⟨qe, qb, qv, qt, qs, qa⟩ := id hMR
  refine Pr_g hR0 (PMet.weaken (c_X11_keep hA rv hvk.1) cP_if) (fun τ hc e => ?_) (fun τ hc e H => ⟨_, c_X12_keep hM H.1.1 rv, fun r S' μ q => ?_⟩) (fun hc H => ⟨_, c_X12_keep hM H.1.1 rv, fun r S' μ q => ?_⟩)
  · have va : h + 461 ≤ veA h v ∧ veA h v + 1 < h + 473 := by unfold veA; omega
    have eg : ∀ b, b < h + 461 → b ≠ h + 11 → τ b = σ b := fun b b1 b2 => by rw [e, upS_ne b2, upS_ne (by omega), upS_ne (by omega)]
    refine ⟨hk_cg hK (fun b hb => eg b (by omega) (by omega)) (hE_congr hK fun b b0 b1 => eg b (by omega) (by omega)) (hlG_congr (eg _ (by omega) (by omega)) (eg _ (by omega) (by omega)) hg) (drOk_congr (eg _ (by omega) (by omega)) (eg _ (by omega) (by omega)) (eg _ (by omega) (by omega)) (eg _ (by omega) (by omega)) hdr) (by rw [eg _ (by omega) (by omega), eg _ (by omega) (by omega)]; exact hbs) ⟨fun u u0 u1 => ?_, fun u u0 u1 hu => ?_⟩, fun b hb => by rw [e, upS_ne (by omega), upS_ne (by omega), upS_ne (by omega)]⟩
    · rw [e, upS_same]
      by_cases q : u = v
      · rw [q, up1_same]
        omega
      · rw [up1_ne q]
        exact hvk.1 u u0 u1
    · by_cases q : u = v
      · rw [q]
        exact taOk_be (σ := σ) (t := h + 1) hT (by rw [e, upS_ne (by omega), upS_same, up1_same]) (by rw [e, upS_ne (by omega), upS_ne (by omega), upS_same])
      · rw [e, upS_same, up1_ne q] at hu
        have hne : veA h u ≠ veA h v ∧ veA h u + 1 ≠ veA h v ∧ veA h u ≠ veA h v + 1 ∧ veA h u + 1 ≠ veA h v + 1 ∧ h + 461 ≤ veA h u := by unfold veA; omega
        exact taOk_congr (by rw [e, upS_ne (by omega), upS_ne hne.1, upS_ne hne.2.2.1]) (by rw [e, upS_ne (by omega), upS_ne hne.2.1, upS_ne hne.2.2.2.1]) (hvk.2 u u0 u1 hu)
  · have va : h + 461 ≤ veA h v ∧ veA h v + 1 < h + 473 := by unfold veA; omega
    obtain ⟨q1, q2, -, q3⟩ := q
    have q4 := q3 hc
    have q5 := vKp_fr q4
    have q6 : μ m = τ m := q5 m (by omega)
    refine ⟨q1, q2, fun b hb => q5 b (by omega), MR_V H (fun b hb => q5 b (by omega)) (fun j _ => by rw [q6]) (fun b hb => by rw [e, upS_ne (by omega), upS_ne (by omega), upS_ne (by omega)]) ?_⟩
    have hn := H.1.1.2.1
    refine vKp_vs H.1.1 H.2.2.1 q4 (fun u u0 u1 => ?_) (fun u u0 u1 => ?_) (fun u u0 u1 hu => ?_) (fun w hw => ?_)
    · rw [e, upS_same]
      rfl
    · show τ (veA h u) 2 = if u = v then σ (h + 1) 2 else σ (veA h u) 2
      have hne : u ≠ v → veA h u ≠ veA h v ∧ veA h u ≠ veA h v + 1 := fun q => by unfold veA; omega
      have hu2 : h + 461 ≤ veA h u := by unfold veA; omega
      by_cases q : u = v
      · rw [if_pos q, q, e, upS_ne (by omega), upS_same, up1_same]
      · rw [if_neg q, e, upS_ne (by omega), upS_ne (hne q).1, upS_ne (hne q).2]
    · show τ (veA h u + 1) = σ (veA h u + 1)
      have hne : veA h u + 1 ≠ veA h v ∧ veA h u + 1 ≠ veA h v + 1 ∧ h + 461 ≤ veA h u := by unfold veA; omega
      rw [e, upS_ne (by omega), upS_ne hne.1, upS_ne hne.2.1]
    · show mVr w m v (τ (veA h v + 1)) (σ (h + 1) 2)
      rw [e, upS_ne (by omega), upS_ne (by omega), upS_same]
      exact mVr_f hw (cpF_f hn.2)
  · obtain ⟨q1, q2, q3, -⟩ := q
    have q4 := q3 hc
    exact ⟨q1, q2, fun b hb => by rw [q4], by rw [q4]; exact H⟩

theorem pr_feed {G : GT} {S : Shp} {σ : Sto} {h m : Nat} {R : Int} {n : Int} {b : Int64} (hR : Rel S σ h m R) (hRb : 0 ≤ R ∧ R < 2147483000) (rn : inR n) : Pr G S σ h m R mX11_feed mX12_feed 2 1 [.int (iI n), .long b] := by
  have hR0 := hR
  obtain ⟨hA, hM, hm, hK, hMR⟩ := hR
  obtain ⟨⟨hT, hMt, hmm, hlc, hld, hes, hek⟩, hss, hg, hdr, hte, hho, hbs, hvk⟩ := (hillOk_iff σ h).mp hK.1
  obtain ⟨qe, qb, qv, qt, qs, qa⟩ := id hMR
  have hz := hbs.1
  refine Pr_g hR0 (PMet.weaken (c_X11_feed (b := b) hA rn hz) cP_if) (fun τ hc e => ?_) (fun τ hc e H => ⟨_, c_X12_feed (b := b) hM H.2.2.2.1.1 hz rn, fun r S' μ q => ?_⟩) (fun hc H => ⟨_, c_X12_feed (b := b) hM H.2.2.2.1.1 hz rn, fun r S' μ q => ?_⟩)
  · have eg : ∀ b, b ≠ h + 12 → b ≠ h + 12 + 1 → τ b = σ b := fun b b1 b2 => by rw [e, upS_ne b1, upS_ne b2]
    refine ⟨hk_cg hK (fun b hb => eg b (by omega) (by omega)) (hE_congr hK fun b b0 b1 => eg b (by omega) (by omega)) (hlG_congr (eg _ (by omega) (by omega)) (eg _ (by omega) (by omega)) hg) (drOk_congr (eg _ (by omega) (by omega)) (eg _ (by omega) (by omega)) (eg _ (by omega) (by omega)) (eg _ (by omega) (by omega)) hdr) ?_ (hlV_congr (eg _ (by omega) (by omega)) (fun b b0 b1 => eg b (by omega) (by omega)) hvk), fun b hb => eg b (by omega) (by omega)⟩
    rw [e, upS_same, up1_same, upS_ne (show h + 12 + 1 ≠ h + 12 by omega), upS_same]
    exact bsOk_fd hbs (by omega) (by omega)
  · obtain ⟨q1, q2, q3⟩ := q
    rw [if_pos hc] at q3
    refine ⟨q2, q1, fun b hb => by rw [q3, upS_ne (by omega), upS_ne (by omega)], MR_T H (fun b hb => by rw [q3, upS_ne (by omega), upS_ne (by omega)]) (fun j hj => by rw [q3, upS_same, up1_ne (by omega)]) (fun b hb => by rw [e, upS_ne (by omega), upS_ne (by omega)]) ?_⟩
    obtain ⟨t1, t2, t3⟩ := H.2.2.2.1
    have k1 : τ (h + 12) = up1 (σ (h + 12)) 2 (σ (h + 12) 2 + n) := by rw [e, upS_same]
    have k2 : τ (h + 12 + 1) = fdF (σ (h + 12 + 1)) (σ (h + 12) 2) n (n - 1) b := by rw [e, upS_ne (by omega), upS_same]
    exact ⟨by rw [q3, upS_same, up1_same, k1, up1_same], by rw [q3, upS_ne (by omega), upS_same, t2, k2], by rw [q3, upS_same, up1_ne (by decide), k1, up1_ne (by decide), t3]⟩
  · obtain ⟨q1, q2, q3⟩ := q
    rw [if_neg hc] at q3
    exact ⟨q2, q1, fun b hb => by rw [q3], by rw [q3]; exact H⟩

theorem pr_read {G : GT} {S : Shp} {σ : Sto} {h m : Nat} {R : Int}  (hR : Rel S σ h m R) (hRb : 0 ≤ R ∧ R < 2147483000)  : Pr G S σ h m R mX11_read mX12_read 9 7 [] := by
  have hR0 := hR
  obtain ⟨hA, hM, hm, hK, hMR⟩ := hR
  obtain ⟨⟨hT, hMt, hmm, hlc, hld, hes, hek⟩, hss, hg, hdr, hte, hho, hbs, hvk⟩ := (hillOk_iff σ h).mp hK.1
  obtain ⟨qe, qb, qv, qt, qs, qa⟩ := id hMR
  refine Pr_mk hR0 (c_X11_read hA hbs) fun r S' τ q => ?_
  obtain ⟨hS, rfl, ν, q1, q2, q3, q4, q5, q6⟩ := q
  have hS2 := hS.symm
  subst hS2
  have q7 : bsOk (ν (h + 12 + 1)) (ν (h + 12) 2) := by
    rw [q3]
    exact ⟨by decide, fun i i0 i1 => by omega⟩
  generalize hRD : (rdT (σ (h + 12 + 1)) (σ (h + 12) 2) 17 0 0 (σ (h + 7 + 1))) = Z at *
  have hE : MR τ m σ h → PMet G mX12_read 7 0 0 [.ref m] S τ (fun r S'' μ => S'' = S ∧ r = some (.int (iI (if Z.1 = 0 then Z.2.2.1 else -10 - Z.1))) ∧ (∀ b, b < m ∨ (m + 6 < b ∧ b ≠ m + 8 ∧ b ≠ m + 9) → μ b = τ b) ∧ (∀ j, j ≠ 2 → j ≠ 8 → j ≠ 9 → j ≠ 10 → j ≠ 11 → j ≠ 12 → j ≠ 13 → j ≠ 16 → μ m j = τ m j) ∧ μ m 8 = 0 ∧ μ m 11 = Z.2.1 ∧ (Z.1 = 0 → mCore μ m Z.2.2.2 Z.2.2.1) ∧ (¬ Z.1 = 0 → mCore μ m (σ (h + 1 + 1)) (σ (h + 1) 2))) := fun H => by
    obtain ⟨t1, t2, t3⟩ := H.2.2.2.1
    have k := c_X12_read (G := G) (S := S) (F0 := σ (h + 7 + 1)) hM H.1 (by rw [t2]; exact hbs) t1
    rw [t2, hRD] at k
    exact k
  by_cases hz : Z.1 = 0
  · obtain ⟨q8, q9, q10⟩ := q5 hz
    rw [if_pos hz] at q1
    refine ⟨rfl, _, rfl, ?_, fun b hb => ?_, fun H => ⟨_, hE H, fun r S'' μ q' => ?_⟩⟩
    · rw [q1]
      exact (hk_rn hK q8 q7 (fun b b0 b1 b2 b3 b4 b5 b6 b7 b8 => q2 b b4 b6 b1 b2 (by omega) (by omega))).mono (by omega)
    · rw [q1, rnS_ne (by omega)]
      exact q2 b (by omega) (by omega) (by omega) (by omega) (by omega) (by omega)
    · obtain ⟨c1, c2, c3, c4, c5, c6, c7, -⟩ := q'
      refine ⟨c1, c2, fun b hb => c3 b (by omega), ?_⟩
      have c8 := c7 hz
      have e12 : τ (h + 12) = ν (h + 12) := by rw [q1, rnS_ne (by omega)]
      have eτ : ∀ b, b ≠ h + 12 → (b < h + 1 ∨ (h + 2 < b ∧ b < h + 7) ∨ (h + 8 < b ∧ b < h + 14) ∨ (h + 147 ≤ b ∧ b ≠ h + 149 ∧ b ≠ h + 183)) → τ b = σ b := fun b b1 b2 => by
        rw [q1, rnS_ne (by omega)]
        exact q2 b b1 (by omega) (by omega) (by omega) (by omega) (by omega)
      have hn := c8.1.2.1
      have x : qE μ m τ h := qE_of (mCore_f c8 (cpF_f (g := σ (h + 1 + 1)) hn.2)) (by rw [q1, rnS_ne (by omega), q10]) (by rw [q1, rnS_ne (by omega), q9])
      have xT : qT μ m τ h := ⟨by rw [c5, e12, q3], by rw [c3 _ (by omega), eτ (h + 12 + 1) (by omega) (by omega)]; exact H.2.2.2.1.2.1, by rw [c6, e12, q4]⟩
      obtain ⟨-, HB, HV, -, HS, HA⟩ := H
      exact ⟨x, qB_cg HB (fun b hb => c3 b (by omega)) (fun j hj => c4 j (by omega) (by omega) (by omega) (by omega) (by omega) (by omega) (by omega) (by omega)) (fun b hb => eτ b (by omega) (by omega)), qV_cg HV (fun b hb => c3 b (by omega)) (fun b hb => eτ b (by omega) (by omega)), xT, qS_cg HS (fun b hb => c3 b (by omega)) (fun j hj => c4 j (by omega) (by omega) (by omega) (by omega) (by omega) (by omega) (by omega) (by omega)) (fun b hb => eτ b (by omega) (by omega)), qA_cg HA (fun b hb => c3 b (by omega)) (fun j hj => c4 j (by omega) (by omega) (by omega) (by omega) (by omega) (by omega) (by omega) (by omega)) (fun b hb => eτ b (by omega) (by omega))⟩
  · obtain ⟨q8, q9⟩ := q6 hz
    rw [if_neg hz] at q1
    subst q1
    have eg : ∀ b, b ≠ h + 12 → b ≠ h + 14 → b ≠ h + 7 → b ≠ h + 8 → τ b = σ b := fun b b1 b2 b3 b4 => by
      by_cases e1 : b = h + 1
      · rw [e1]; exact q8
      · by_cases e2 : b = h + 2
        · rw [e2]; exact q9
        · exact q2 b b1 b2 b3 b4 e1 e2
    refine ⟨rfl, _, rfl, ?_, fun b hb => eg b (by omega) (by omega) (by omega) (by omega), fun H => ⟨_, hE H, fun r S'' μ q' => ?_⟩⟩
    · exact (hk_cg hK (fun b hb => eg b (by omega) (by omega) (by omega) (by omega)) (hE_congr hK fun b b0 b1 => eg b (by omega) (by omega) (by omega) (by omega)) (hlG_congr (eg _ (by omega) (by omega) (by omega) (by omega)) (eg _ (by omega) (by omega) (by omega) (by omega)) hg) (drOk_congr (eg _ (by omega) (by omega) (by omega) (by omega)) (eg _ (by omega) (by omega) (by omega) (by omega)) (eg _ (by omega) (by omega) (by omega) (by omega)) (eg _ (by omega) (by omega) (by omega) (by omega)) hdr) q7 (hlV_congr (eg _ (by omega) (by omega) (by omega) (by omega)) (fun b b0 b1 => eg b (by omega) (by omega) (by omega) (by omega)) hvk)).mono (by omega)
    · obtain ⟨c1, c2, c3, c4, c5, c6, -, c7⟩ := q'
      refine ⟨c1, c2, fun b hb => c3 b (by omega), ?_⟩
      have c8 := c7 hz
      have x : qE μ m τ h := qE_of c8 (eg _ (by omega) (by omega) (by omega) (by omega)) (by rw [eg (h + 1) (by omega) (by omega) (by omega) (by omega)])
      have xT : qT μ m τ h := ⟨by rw [c5, q3], by rw [c3 _ (by omega), eg (h + 12 + 1) (by omega) (by omega) (by omega) (by omega)]; exact H.2.2.2.1.2.1, by rw [c6, q4]⟩
      obtain ⟨-, HB, HV, -, HS, HA⟩ := H
      exact ⟨x, qB_cg HB (fun b hb => c3 b (by omega)) (fun j hj => c4 j (by omega) (by omega) (by omega) (by omega) (by omega) (by omega) (by omega) (by omega)) (fun b hb => eg b (by omega) (by omega) (by omega) (by omega)), qV_cg HV (fun b hb => c3 b (by omega)) (fun b hb => eg b (by omega) (by omega) (by omega) (by omega)), xT, qS_cg HS (fun b hb => c3 b (by omega)) (fun j hj => c4 j (by omega) (by omega) (by omega) (by omega) (by omega) (by omega) (by omega) (by omega)) (fun b hb => eg b (by omega) (by omega) (by omega) (by omega)), qA_cg HA (fun b hb => c3 b (by omega)) (fun j hj => c4 j (by omega) (by omega) (by omega) (by omega) (by omega) (by omega) (by omega) (by omega)) (fun b hb => eg b (by omega) (by omega) (by omega) (by omega))⟩

theorem pr_draw {G : GT} {S : Shp} {σ : Sto} {h m : Nat} {R : Int} {b a l k i : Int} (hR : Rel S σ h m R) (hRb : 0 ≤ R ∧ R < 2147483000) (rb : inR b) (ra : inR a) (rl : inR l) (rk : inR k) (ri : inR i) : Pr G S σ h m R mX11_draw mX12_draw 6 3 [.int (iI b), .int (iI a), .int (iI l), .int (iI k), .int (iI i)] := by
  have hR0 := hR
  obtain ⟨hA, hM, hm, hK, hMR⟩ := hR
  obtain ⟨⟨hT, hMt, hmm, hlc, hld, hes, hek⟩, hss, hg, hdr, hte, hho, hbs, hvk⟩ := (hillOk_iff σ h).mp hK.1
  obtain ⟨qe, qb, qv, qt, qs, qa⟩ := id hMR
  refine Pr_mk hR0 (c_X11_draw hA hss hdr rb ra rl rk ri) fun r S' τ q => ?_
  obtain ⟨hS, v, rfl, q1, q2⟩ := q
  have hS2 := hS.symm
  subst hS2
  by_cases hc : ((0 ≤ b ∧ b < 16) ∧ (a = 0 ∨ a = 1) ∧ (0 ≤ l ∧ l < 8) ∧ (-1 ≤ k ∧ k ≤ σ (h + 171) 1) ∧ (i = -1 ∨ (0 ≤ i ∧ i < 8)))
  · have hib : ¬ i = -1 → 0 ≤ i ∧ i < 8 := fun q => by omega
    obtain ⟨lo, hi, e, g1, g2, g3, g4⟩ := q2 hc
    refine ⟨rfl, v, rfl, (hk_cg hK (fun b hb => g1 b (by omega)) (hE_congr hK fun b b0 b1 => g1 b (by omega)) (hlG_congr (g1 _ (by omega)) (g1 _ (by omega)) hg) g2 (by rw [g1 _ (by omega), g1 _ (by omega)]; exact hbs) (hlV_congr (g1 _ (by omega)) (fun b b0 b1 => g1 b (by omega)) hvk)).mono (by omega), fun b hb => g1 b (by omega), fun H => ⟨_, c_X12_draw hM H.2.2.2.2.1 rb ra rl rk ri, fun r S'' μ q' => ?_⟩⟩
    obtain ⟨c1, c2, v', c3, -, c4⟩ := q'
    obtain ⟨lo', hi', e', f3, f4⟩ := c4 hc
    have el : ∀ s, 0 ≤ s → s < 8 → lo s = lo' s ∧ hi s = hi' s := fun s s0 s1 => ⟨(e s s0 s1).1.trans (e' s s0 s1).1.symm, (e s s0 s1).2.trans (e' s s0 s1).2.symm⟩
    have ep : posP lo hi ↔ posP lo' hi' := by
      have : firI (posB lo hi) 8 = firI (posB lo' hi') 8 := firI_congr fun s s0 s1 => decide_eq_decide.mpr (by rw [(el s s0 (by omega)).1, (el s s0 (by omega)).2])
      unfold posP
      rw [this]
    have hv : v' = v := by
      by_cases hp : posP lo hi
      · obtain ⟨bd, ht, d1, d2⟩ := g4 hp
        obtain ⟨bd', ht', d1', d2'⟩ := f4 (ep.mp hp)
        obtain ⟨u1, u2⟩ := (d1.congr el (fun _ _ _ => rfl)).uniq d1'
        rw [d2, d2']
        by_cases hi1 : i = -1
        · rw [if_pos hi1, if_pos hi1]
          exact u1.symm
        · rw [if_neg hi1, if_neg hi1]
          exact (u2 i (hib hi1).1 (hib hi1).2).symm
      · rw [g3 hp, f3 (fun x => hp (ep.mpr x))]
    subst hv
    exact ⟨c1, c3, fun b hb => c2 b (by omega), MR_0 H (fun b hb => c2 b (by omega)) (fun j _ => by rw [c2 m (by omega)]) (fun b hb => g1 b (by omega))⟩
  · obtain ⟨q3, q4⟩ := q1 hc
    have q4s := q4.symm
    subst q4s
    refine ⟨rfl, v, rfl, hK.mono (by omega), fun _ _ => rfl, fun H => ⟨_, c_X12_draw hM H.2.2.2.2.1 rb ra rl rk ri, fun r S'' μ q' => ?_⟩⟩
    obtain ⟨c1, c2, v', c3, c4, -⟩ := q'
    have hv : v' = v := (c4 hc).trans q3.symm
    subst hv
    exact ⟨c1, c3, fun b hb => c2 b (by omega), MR_0 H (fun b hb => c2 b (by omega)) (fun j _ => by rw [c2 m (by omega)]) (fun _ _ => rfl)⟩

theorem pr_amount {G : GT} {S : Shp} {σ : Sto} {h m : Nat} {R : Int} {b w : Int} (hR : Rel S σ h m R) (hRb : 0 ≤ R ∧ R < 2147483000) (rb : inR b) (rw_ : inR w) : Pr G S σ h m R mX11_amount mX12_amount 12 7 [.int (iI b), .int (iI w)] := by
  have hR0 := hR
  obtain ⟨hA, hM, hm, hK, hMR⟩ := hR
  obtain ⟨⟨hT, hMt, hmm, hlc, hld, hes, hek⟩, hss, hg, hdr, hte, hho, hbs, hvk⟩ := (hillOk_iff σ h).mp hK.1
  obtain ⟨qe, qb, qv, qt, qs, qa⟩ := id hMR
  refine Pr_mk hR0 (c_X11_amount hA rb rw_ hT hlc hes hek) fun r S' τ q => ?_
  obtain ⟨hS, v, rfl, q1, q2, q3, q4, q5, g1, g2, g3⟩ := q
  have hS2 := hS.symm
  subst hS2
  refine ⟨rfl, v, rfl, (hk_cg hK (fun b hb => g1 b (by omega)) ⟨g2, g3⟩ (hlG_congr (g1 _ (by omega)) (g1 _ (by omega)) hg) (drOk_congr (g1 _ (by omega)) (g1 _ (by omega)) (g1 _ (by omega)) (g1 _ (by omega)) hdr) (by rw [g1 _ (by omega), g1 _ (by omega)]; exact hbs) (hlV_congr (g1 _ (by omega)) (fun b b0 b1 => g1 b (by omega)) hvk)).mono (by omega), fun b hb => g1 b (by omega), fun H => ⟨_, c_X12_amount hM H.1 rb rw_, fun r S'' μ q' => ?_⟩⟩
  obtain ⟨c1, v', c2, c3, f1, f2, f3, f4, f5⟩ := q'
  have hv : v' = v := by
    by_cases hc : ((0 ≤ b ∧ b < 16) ∧ (0 ≤ w ∧ w ≤ 2))
    · have hc' : ¬ ¬ ((0 ≤ b ∧ b < 16) ∧ (0 ≤ w ∧ w ≤ 2)) := fun x => x hc
      by_cases h0 : w = 0
      · rw [q2 hc' h0, f2 hc h0]
        exact smF_congr fun c c0 c1 => (clF_eq (hld c c0 c1) b).symm
      · by_cases hl : 4 < looF (σ (h + 1 + 1)) (σ (h + 1) 2)
        · rw [q3 hc' h0 hl, f3 hc h0 hl]
        · rcases (show w = 1 ∨ w = 2 by omega) with hw | hw
          · exact isLst_uniq (f4 hc hw hl) (q4 hc' hw hl)
          · exact isGrt_uniq (f5 hc hw hl) (q5 hc' hw hl)
    · rw [q1 hc, f1 hc]
  subst hv
  have c4 : eFr τ μ m := mFg.e c3.1
  exact ⟨c1, c2, fun b hb => c4.1 b (by omega), MR_E H (fun b hb => c4.1 b (by omega)) (fun j hj => c4.2 j (by omega)) (fun b hb => g1 b (by omega)) (qE_of (c3.core H.1) (g1 _ (by omega)) (by rw [g1 _ (by omega)]))⟩


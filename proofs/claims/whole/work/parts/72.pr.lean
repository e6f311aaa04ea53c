theorem hwk {σ : Sto} {h : Nat} (hg : hlG σ h) : wOk (σ (h + 173 + 1)) := fun j j0 j1 => by
  have h1 := hg.1
  have h2 := hg.2 j j0 j1
  omega
theorem pr_told {G : GT} {S : Shp} {σ : Sto} {h m : Nat} {R : Int} {i w : Int} (hR : Rel S σ h m R) (hRb : 0 ≤ R ∧ R < 2147483000) (ri : inR i) (rw : inR w) : Pr G S σ h m R mX11_told mX12_told 2 3 [.int (iI i), .int (iI w)] := by
  have hR0 := hR
  obtain ⟨hA, hM, hm, hK, hMR⟩ := hR
  obtain ⟨⟨hT, hMt, hmm, hlc, hld, hes, hek⟩, hss, hg, hdr, hte, hho, hbs, hvk⟩ := (hillOk_iff σ h).mp hK.1
  obtain ⟨qe, qb, qv, qt, qs, qa⟩ := id hMR
  exact Pr_ro hR0 (c_X11_told hA hT ri rw) (c_X12_told hM qe ri rw) isP_ro rfl

theorem pr_youth {G : GT} {S : Shp} {σ : Sto} {h m : Nat} {R : Int} {b : Int} (hR : Rel S σ h m R) (hRb : 0 ≤ R ∧ R < 2147483000) (rb : inR b) : Pr G S σ h m R mX11_youth mX12_youth 3 1 [.int (iI b)] := by
  have hR0 := hR
  obtain ⟨hA, hM, hm, hK, hMR⟩ := hR
  obtain ⟨⟨hT, hMt, hmm, hlc, hld, hes, hek⟩, hss, hg, hdr, hte, hho, hbs, hvk⟩ := (hillOk_iff σ h).mp hK.1
  obtain ⟨qe, qb, qv, qt, qs, qa⟩ := id hMR
  exact Pr_ro hR0 (c_X11_youth hA hT rb) (c_X12_youth hM qe.1 rb) isP_ro rfl

theorem pr_fault {G : GT} {S : Shp} {σ : Sto} {h m : Nat} {R : Int}  (hR : Rel S σ h m R) (hRb : 0 ≤ R ∧ R < 2147483000)  : Pr G S σ h m R mX11_fault mX12_fault 1 0 [] := by
  have hR0 := hR
  obtain ⟨hA, hM, hm, hK, hMR⟩ := hR
  obtain ⟨⟨hT, hMt, hmm, hlc, hld, hes, hek⟩, hss, hg, hdr, hte, hho, hbs, hvk⟩ := (hillOk_iff σ h).mp hK.1
  obtain ⟨qe, qb, qv, qt, qs, qa⟩ := id hMR
  exact Pr_ro hR0 (c_X11_fault hA) (c_X12_fault hM) isP_ro qt.2.2

theorem pr_broken {G : GT} {S : Shp} {σ : Sto} {h m : Nat} {R : Int}  (hR : Rel S σ h m R) (hRb : 0 ≤ R ∧ R < 2147483000)  : Pr G S σ h m R mX11_broken mX12_broken 5 1 [] := by
  have hR0 := hR
  obtain ⟨hA, hM, hm, hK, hMR⟩ := hR
  obtain ⟨⟨hT, hMt, hmm, hlc, hld, hes, hek⟩, hss, hg, hdr, hte, hho, hbs, hvk⟩ := (hillOk_iff σ h).mp hK.1
  obtain ⟨qe, qb, qv, qt, qs, qa⟩ := id hMR
  exact Pr_ro hR0 (c_X11_broken hA hT (hwk hg)) (c_X12_broken hM qe.1 qa) isP_ro rfl

theorem pr_count {G : GT} {S : Shp} {σ : Sto} {h m : Nat} {R : Int} {w : Int} (hR : Rel S σ h m R) (hRb : 0 ≤ R ∧ R < 2147483000) (rw_ : inR w) : Pr G S σ h m R mX11_count mX12_count 6 5 [.int (iI w)] := by
  have hR0 := hR
  obtain ⟨hA, hM, hm, hK, hMR⟩ := hR
  obtain ⟨⟨hT, hMt, hmm, hlc, hld, hes, hek⟩, hss, hg, hdr, hte, hho, hbs, hvk⟩ := (hillOk_iff σ h).mp hK.1
  obtain ⟨qe, qb, qv, qt, qs, qa⟩ := id hMR
  have e7 : smF (fun j => xcF (σ (cA (h + 15) j + 1)) (birF (σ (h + 1 + 1)) (σ (h + 1) 2))) 64 = smF (fun c => xcF (tlF (σ (h + 1 + 1)) c zF (σ (h + 1) 2).toNat) (birF (σ (h + 1 + 1)) (σ (h + 1) 2))) 64 := smF_congr fun j j0 j1 => xcF_eq (hld j j0 j1) _
  have e8 : umC (σ (h + 171 + 1)) (ldF σ (h + 15)) (σ (h + 171) 1) = umC (σ (h + 171 + 1)) (ldT (σ (h + 1 + 1)) (σ (h + 1) 2)) (σ (h + 171) 1) := umC_ld (fun i i0 i1 => hss.2 i i0 i1) (fun c c0 c1 => hld c c0 (by omega)) (Int.le_refl _)
  exact Pr_ro hR0 (c_X11_count hA hT rw_ hMt hss.1 hss hlc hvk.1) (c_X12_count hM qe qs qv qa.1 qb.1.1 qt.1 rw_) upS_ro (by rw [e7, e8])

theorem pr_at {G : GT} {S : Shp} {σ : Sto} {h m : Nat} {R : Int} {x y z : Int} (hR : Rel S σ h m R) (hRb : 0 ≤ R ∧ R < 2147483000) (rx : inR x) (ry : inR y) (rz : inR z) : Pr G S σ h m R mX11_at mX12_at 3 2 [.int (iI x), .int (iI y), .int (iI z)] := by
  have hR0 := hR
  obtain ⟨hA, hM, hm, hK, hMR⟩ := hR
  obtain ⟨⟨hT, hMt, hmm, hlc, hld, hes, hek⟩, hss, hg, hdr, hte, hho, hbs, hvk⟩ := (hillOk_iff σ h).mp hK.1
  obtain ⟨qe, qb, qv, qt, qs, qa⟩ := id hMR
  exact Pr_ro hR0 (c_X11_at hA hlc rx ry rz) (c_X12_at hM qe rx ry rz) isP_ro (by
    by_cases hc : ¬ ((0 ≤ x ∧ x < 8) ∧ (0 ≤ y ∧ y < 8) ∧ (-40 ≤ z ∧ z ≤ 39))
    · rw [if_pos hc, if_pos hc]
    · rw [if_neg hc, if_neg hc]
      exact ((hld (8 * y + x) (by omega) (by omega)) (z + 40) (by omega) (by omega)).symm)

theorem pr_skin {G : GT} {S : Shp} {σ : Sto} {h m : Nat} {R : Int} {x y w : Int} (hR : Rel S σ h m R) (hRb : 0 ≤ R ∧ R < 2147483000) (rx : inR x) (ry : inR y) (rw : inR w) : Pr G S σ h m R mX11_skin mX12_skin 3 3 [.int (iI x), .int (iI y), .int (iI w)] := by
  have hR0 := hR
  obtain ⟨hA, hM, hm, hK, hMR⟩ := hR
  obtain ⟨⟨hT, hMt, hmm, hlc, hld, hes, hek⟩, hss, hg, hdr, hte, hho, hbs, hvk⟩ := (hillOk_iff σ h).mp hK.1
  obtain ⟨qe, qb, qv, qt, qs, qa⟩ := id hMR
  exact Pr_ro hR0 (c_X11_skin hA hlc rx ry rw) (c_X12_skin hM qe rx ry rw) isP_ro (by
    by_cases hc : ¬ ((0 ≤ x ∧ x < 8) ∧ (0 ≤ y ∧ y < 8) ∧ (0 ≤ w ∧ w ≤ 1))
    · rw [if_pos hc, if_pos hc]
    · rw [if_neg hc, if_neg hc]
      rw [skF_eq (hld (8 * y + x) (by omega) (by omega)), sbF_eq (hld (8 * y + x) (by omega) (by omega))])

theorem pr_top {G : GT} {S : Shp} {σ : Sto} {h m : Nat} {R : Int} {b x y w : Int} (hR : Rel S σ h m R) (hRb : 0 ≤ R ∧ R < 2147483000) (rb : inR b) (rx : inR x) (ry : inR y) (rw : inR w) : Pr G S σ h m R mX11_top mX12_top 3 3 [.int (iI b), .int (iI x), .int (iI y), .int (iI w)] := by
  have hR0 := hR
  obtain ⟨hA, hM, hm, hK, hMR⟩ := hR
  obtain ⟨⟨hT, hMt, hmm, hlc, hld, hes, hek⟩, hss, hg, hdr, hte, hho, hbs, hvk⟩ := (hillOk_iff σ h).mp hK.1
  obtain ⟨qe, qb, qv, qt, qs, qa⟩ := id hMR
  exact Pr_ro hR0 (c_X11_top hA hlc rb rx ry rw) (c_X12_top hM qe rb rx ry rw) isP_ro (by
    by_cases hc : ¬ ((0 ≤ b ∧ b < 16) ∧ (0 ≤ x ∧ x < 8) ∧ (0 ≤ y ∧ y < 8) ∧ (0 ≤ w ∧ w ≤ 1))
    · rw [if_pos hc, if_pos hc]
    · rw [if_neg hc, if_neg hc]
      rw [toF_eq (hld (8 * y + x) (by omega) (by omega)), clF_eq (hld (8 * y + x) (by omega) (by omega))])

theorem pr_met {G : GT} {S : Shp} {σ : Sto} {h m : Nat} {R : Int} {i : Int} (hR : Rel S σ h m R) (hRb : 0 ≤ R ∧ R < 2147483000) (ri : inR i) : Pr G S σ h m R mX11_met mX12_met 5 4 [.int (iI i)] := by
  have hR0 := hR
  obtain ⟨hA, hM, hm, hK, hMR⟩ := hR
  obtain ⟨⟨hT, hMt, hmm, hlc, hld, hes, hek⟩, hss, hg, hdr, hte, hho, hbs, hvk⟩ := (hillOk_iff σ h).mp hK.1
  obtain ⟨qe, qb, qv, qt, qs, qa⟩ := id hMR
  exact Pr_ro hR0 (c_X11_met hA hss hlc ri) (c_X12_met hM qe qs ri) isP_ro (by
    by_cases hc : ¬ (0 ≤ i ∧ i < σ (h + 171) 1)
    · rw [if_pos hc, if_pos hc]
    · rw [if_neg hc, if_neg hc]
      exact b01_congr (metS_ld (hss.2 i (by omega) (by omega)) (fun c c0 c1 => eq8.symm (hld c c0 (by omega)))))

theorem pr_unmet {G : GT} {S : Shp} {σ : Sto} {h m : Nat} {R : Int} {k i : Int} (hR : Rel S σ h m R) (hRb : 0 ≤ R ∧ R < 2147483000) (rk : inR k) (ri : inR i) : Pr G S σ h m R mX11_unmet mX12_unmet 6 4 [.int (iI k), .int (iI i)] := by
  have hR0 := hR
  obtain ⟨hA, hM, hm, hK, hMR⟩ := hR
  obtain ⟨⟨hT, hMt, hmm, hlc, hld, hes, hek⟩, hss, hg, hdr, hte, hho, hbs, hvk⟩ := (hillOk_iff σ h).mp hK.1
  obtain ⟨qe, qb, qv, qt, qs, qa⟩ := id hMR
  have hs0 := hss.1
  exact Pr_ro hR0 (c_X11_unmet hA hss hlc rk ri) (c_X12_unmet hM qe qs rk ri) isP_ro (by
    by_cases hc : ¬ (-1 ≤ k ∧ k ≤ σ (h + 171) 1)
    · rw [if_pos hc, if_pos hc]
    · rw [if_neg hc, if_neg hc]
      exact umW_ld (n := σ (h + 171) 1) (fun i i0 i1 => hss.2 i i0 i1) (fun c c0 c1 => eq8.symm (hld c c0 (by omega))) (by unfold knF; split <;> omega))


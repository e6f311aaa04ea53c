theorem c_X12_bow {G : GT} {S : Shp} {σ : Sto} {m : Nat} {i x : Int} (hA : IsMod S m) (hi : 2 ≤ i ∧ i ≤ 7) : PMet G mX12_bow 0 0 0 [.ref m, .int (iI (i)), .int (iI (x))] S σ (isP (some (.int (iI (sq (σ (m + 28) (i - 2) - 2 * σ (m + 28) (i - 1) + x))))) S (σ)) := by
  obtain ⟨hM0, hM1, hM2, hM3, hM4, hM5, hM6, hM7, hM8, hM9, hM10, hM11, hM12, hM13, hM14, hM15, hM16, hM17, hM18, hM19, hM20, hM21, hM22, hM23, hM24, hM25, hM26, hM27, hM28, hM29, hM30, hM31, hM32, hM33, hM34⟩ := id hA
  refine PMet.of [(0, .ref m), (1, .int (iI (i))), (2, .int (iI (x)))] (by decide +kernel) rfl (Nat.le_of_ble_eq_true rfl) ?_
  refine PW.aload_n dX12_bow_0 rfl ?_
  refine PW.getR fl_X12_97 rfl (by assumption) rfl dX12_bow_1 ?_
  refine PW.iload_n dX12_bow_4 rfl ?_
  refine PW.iconst dX12_bow_5 ?_
  refine PW.isub dX12_bow_6 ?_
  refine PW.iaload (by assumption) (by first | assumption | (unfold inR; omega)) (by omega) (by omega) dX12_bow_7 ?_
  refine PW.iconst dX12_bow_8 ?_
  refine PW.aload_n dX12_bow_9 rfl ?_
  refine PW.getR fl_X12_97 rfl (by assumption) rfl dX12_bow_10 ?_
  refine PW.iload_n dX12_bow_13 rfl ?_
  refine PW.iconst dX12_bow_14 ?_
  refine PW.isub dX12_bow_15 ?_
  refine PW.iaload (by assumption) (by first | assumption | (unfold inR; omega)) (by omega) (by omega) dX12_bow_16 ?_
  refine PW.imul dX12_bow_17 ?_
  refine PW.isub dX12_bow_18 ?_
  refine PW.iload_n dX12_bow_19 rfl ?_
  refine PW.iadd dX12_bow_20 ?_
  refine PW.istore_n [(0, _), (1, _), (2, _), (3, _)] dX12_bow_21 rfl (Nat.le_of_ble_eq_true rfl) ?_
  refine PW.iload_n dX12_bow_22 rfl ?_
  refine PW.iload_n dX12_bow_23 rfl ?_
  refine PW.imul dX12_bow_24 ?_
  exact PW.iret rfl rfl dX12_bow_25 ⟨ret_eq rfl, rfl, rfl⟩
theorem mo_dr_in {G : GT} {S : Shp} {σ : Sto} {m : Nat} {b ax l k i : Int} {b0 : Int} {Q : Option Value → Shp → Sto → Prop} (hA : IsMod S m) (hk : bndOk (σ (m + 25)) (σ (m + 26))) (hr : restM (σ (m + 27)) (σ (m + 25)) (σ (m + 26)) 1) (hb : σ (m + 25) 0 ≤ b0 ∧ b0 ≤ σ (m + 26) 0) (hK : ∀ u h, (∀ x y, σ (m + 25) 0 ≤ x → x ≤ σ (m + 26) 0 → σ (m + 25) 1 ≤ y → y ≤ σ (m + 26) 1 → (x < b0 + 1) → u ≤ drW (σ (m + 25)) (σ (m + 26)) 1 x y ∧ (u = drW (σ (m + 25)) (σ (m + 26)) 1 x y → h 0 < x ∨ (h 0 = x ∧ h 1 ≤ y))) → (u = 1000000 ∨ ((σ (m + 25) 0 ≤ h 0 ∧ h 0 ≤ σ (m + 26) 0) ∧ (σ (m + 25) 1 ≤ h 1 ∧ h 1 ≤ σ (m + 26) 1) ∧ u = drW (σ (m + 25)) (σ (m + 26)) 1 (h 0) (h 1) ∧ (h 0 < b0 + 1))) → (0 ≤ u ∧ u ≤ 1000000) → PW (fm G mX12_draw 3 0 0 Q) G S (upS σ (m + 28) h) 0 0 211 [(0, .ref m), (1, .int (iI (b))), (2, .int (iI (ax))), (3, .int (iI (l))), (4, .int (iI (k))), (5, .int (iI (i))), (6, .int (iI u)), (7, .int (iI b0))] []) : ∀ (t : Nat) (j : Int) (u : Int) (h : Int → Int), σ (m + 25) 1 ≤ j → j ≤ σ (m + 26) 1 + 1 → σ (m + 26) 1 + 1 - j < t → (∀ x y, σ (m + 25) 0 ≤ x → x ≤ σ (m + 26) 0 → σ (m + 25) 1 ≤ y → y ≤ σ (m + 26) 1 → (x < b0 ∨ (x = b0 ∧ y < j)) → u ≤ drW (σ (m + 25)) (σ (m + 26)) 1 x y ∧ (u = drW (σ (m + 25)) (σ (m + 26)) 1 x y → h 0 < x ∨ (h 0 = x ∧ h 1 ≤ y))) → (u = 1000000 ∨ ((σ (m + 25) 0 ≤ h 0 ∧ h 0 ≤ σ (m + 26) 0) ∧ (σ (m + 25) 1 ≤ h 1 ∧ h 1 ≤ σ (m + 26) 1) ∧ u = drW (σ (m + 25)) (σ (m + 26)) 1 (h 0) (h 1) ∧ (h 0 < b0 ∨ (h 0 = b0 ∧ h 1 < j)))) → (0 ≤ u ∧ u ≤ 1000000) → PW (fm G mX12_draw 3 0 0 Q) G S (upS σ (m + 28) h) 0 0 146 [(0, .ref m), (1, .int (iI (b))), (2, .int (iI (ax))), (3, .int (iI (l))), (4, .int (iI (k))), (5, .int (iI (i))), (6, .int (iI (u))), (7, .int (iI (b0))), (8, .int (iI (j)))] [] := by
  obtain ⟨hM0, hM1, hM2, hM3, hM4, hM5, hM6, hM7, hM8, hM9, hM10, hM11, hM12, hM13, hM14, hM15, hM16, hM17, hM18, hM19, hM20, hM21, hM22, hM23, hM24, hM25, hM26, hM27, hM28, hM29, hM30, hM31, hM32, hM33, hM34⟩ := id hA
  have k0 := hk 0 (by omega) (by omega)
  have k1 := hk 1 (by omega) (by omega)
  intro t
  induction t with
  | zero => intro j u h h1 h2 h3 g1 g2 g3; omega
  | succ t ih =>
    intro j u h h1 h2 h3 g1 g2 g3
    refine PW.iload dX12_draw_146 rfl ?_
    refine PW.aload_n dX12_draw_148 rfl ?_
    refine PW.getR fl_X12_91 rfl (by assumption) rfl dX12_draw_149 ?_
    refine PW.iconst dX12_draw_152 ?_
    refine PW.iaload (by assumption) (by unfold inR; omega) (by omega) (by omega) dX12_draw_153 ?_
    refine PW.top (σ (m + 26) (1)) (by rw [upS_ne (by omega)]) ?_
    refine PW.icmp_gt 211 dX12_draw_154 (by decide) (by first | assumption | (unfold inR; omega)) (by first | assumption | (unfold inR; omega)) (fun h154 => ?_) (fun h154 => ?_)
    · refine PW.take 8 ?_
      refine hK u h (fun x y q1 q2 q3 q4 q5 => g1 x y q1 q2 q3 q4 (by omega)) ?_ g3
      rcases g2 with g2 | g2
      · exact Or.inl g2
      · exact Or.inr ⟨g2.1, g2.2.1, g2.2.2.1, by omega⟩
    · refine PW.aload_n dX12_draw_157 rfl ?_
      refine PW.getR fl_X12_94 rfl (by assumption) rfl dX12_draw_158 ?_
      refine PW.iconst dX12_draw_161 ?_
      refine PW.iload dX12_draw_162 rfl ?_
      refine PW.bipush (by decide) dX12_draw_164 ?_
      refine PW.iadd dX12_draw_166 ?_
      refine PW.iload dX12_draw_167 rfl ?_
      refine PW.bipush (by decide) dX12_draw_169 ?_
      refine PW.iadd dX12_draw_171 ?_
      refine PW.callSr (c_X12_bendAt) cs_X12_bendAt lk_X12_377 dX12_draw_172 rfl rfl rfl ?_
      refine PW.iaload (by assumption) (by unfold inR; omega) (by omega) (by omega) dX12_draw_175 ?_
      refine PW.top (drW (σ (m + 25)) (σ (m + 26)) 1 b0 j) (by rw [upS_ne (by omega)]; exact hr 1 b0 j (by omega) (by omega) (by rw [show (1 : Int) - 1 = 0 from rfl]; omega) (by rw [show (1 : Int) - 1 = 0 from rfl]; omega) (by omega) (by omega)) ?_
      have wb := drW_b hk (s := 1) (b := b0) (c := j) (by omega) (by omega) (by omega)
      refine PW.istore [(0, _), (1, _), (2, _), (3, _), (4, _), (5, _), (6, _), (7, _), (8, _), (9, _)] dX12_draw_176 rfl (Nat.le_of_ble_eq_true rfl) ?_
      refine PW.iload dX12_draw_178 rfl ?_
      refine PW.iload dX12_draw_180 rfl ?_
      refine PW.icmp_ge 205 dX12_draw_182 (by decide) (by first | assumption | (unfold inR; omega)) (by first | assumption | (unfold inR; omega)) (fun h182 => ?_) (fun h182 => ?_)
      · first
          | refine PW.st (upS σ (m + 28) (up1 (up1 h 0 b0) 1 j)) (by simp only [upS_upS, upS_same]) ?_
          | skip
        refine PW.iinc [(0, _), (1, _), (2, _), (3, _), (4, _), (5, _), (6, _), (7, _), (8, _), (9, _)] dX12_draw_205 rfl rfl (Nat.le_of_ble_eq_true rfl) ?_
        refine PW.goto 146 dX12_draw_208 (by decide) ?_
        refine PW.take 9 ?_
        first
          | (refine ih (j + 1) u h (by omega) (by omega) (by omega) ?_ ?_ g3
             · intro x y q1 q2 q3 q4 q5
               by_cases e : x = b0 ∧ y = j
               · obtain ⟨rfl, rfl⟩ := e
                 omega
               · exact g1 x y q1 q2 q3 q4 (by omega)
             · rcases g2 with g2 | g2
               · exact Or.inl g2
               · exact Or.inr ⟨g2.1, g2.2.1, g2.2.2.1, by omega⟩)
          | (refine ih (j + 1) _ _ (by omega) (by omega) (by omega) ?_ ?_ (by omega)
             · intro x y q1 q2 q3 q4 q5
               have z0 : up1 (up1 h 0 b0) 1 j 0 = b0 := by simp [up1]
               have z1 : up1 (up1 h 0 b0) 1 j 1 = j := by simp [up1]
               rw [z0, z1]
               by_cases e : x = b0 ∧ y = j
               · obtain ⟨rfl, rfl⟩ := e
                 omega
               · have := g1 x y q1 q2 q3 q4 (by omega)
                 omega
             · have z0 : up1 (up1 h 0 b0) 1 j 0 = b0 := by simp [up1]
               have z1 : up1 (up1 h 0 b0) 1 j 1 = j := by simp [up1]
               rw [z0, z1]
               exact Or.inr ⟨by omega, by omega, rfl, by omega⟩)
      · refine PW.iload dX12_draw_185 rfl ?_
        refine PW.istore [(0, _), (1, _), (2, _), (3, _), (4, _), (5, _), (6, _), (7, _), (8, _), (9, _)] dX12_draw_187 rfl (Nat.le_of_ble_eq_true rfl) ?_
        refine PW.aload_n dX12_draw_189 rfl ?_
        refine PW.getR fl_X12_97 rfl (by assumption) rfl dX12_draw_190 ?_
        refine PW.iconst dX12_draw_193 ?_
        refine PW.iload dX12_draw_194 rfl ?_
        refine PW.iastore (by assumption) (by first | assumption | (unfold inR; omega)) (by omega) (by omega) dX12_draw_196 ?_
        refine PW.aload_n dX12_draw_197 rfl ?_
        refine PW.getR fl_X12_97 rfl (by assumption) rfl dX12_draw_198 ?_
        refine PW.iconst dX12_draw_201 ?_
        refine PW.iload dX12_draw_202 rfl ?_
        refine PW.iastore (by assumption) (by first | assumption | (unfold inR; omega)) (by omega) (by omega) dX12_draw_204 ?_
        first
          | refine PW.st (upS σ (m + 28) (up1 (up1 h 0 b0) 1 j)) (by simp only [upS_upS, upS_same]) ?_
          | skip
        refine PW.iinc [(0, _), (1, _), (2, _), (3, _), (4, _), (5, _), (6, _), (7, _), (8, _), (9, _)] dX12_draw_205 rfl rfl (Nat.le_of_ble_eq_true rfl) ?_
        refine PW.goto 146 dX12_draw_208 (by decide) ?_
        refine PW.take 9 ?_
        first
          | (refine ih (j + 1) u h (by omega) (by omega) (by omega) ?_ ?_ g3
             · intro x y q1 q2 q3 q4 q5
               by_cases e : x = b0 ∧ y = j
               · obtain ⟨rfl, rfl⟩ := e
                 omega
               · exact g1 x y q1 q2 q3 q4 (by omega)
             · rcases g2 with g2 | g2
               · exact Or.inl g2
               · exact Or.inr ⟨g2.1, g2.2.1, g2.2.2.1, by omega⟩)
          | (refine ih (j + 1) _ _ (by omega) (by omega) (by omega) ?_ ?_ (by omega)
             · intro x y q1 q2 q3 q4 q5
               have z0 : up1 (up1 h 0 b0) 1 j 0 = b0 := by simp [up1]
               have z1 : up1 (up1 h 0 b0) 1 j 1 = j := by simp [up1]
               rw [z0, z1]
               by_cases e : x = b0 ∧ y = j
               · obtain ⟨rfl, rfl⟩ := e
                 omega
               · have := g1 x y q1 q2 q3 q4 (by omega)
                 omega
             · have z0 : up1 (up1 h 0 b0) 1 j 0 = b0 := by simp [up1]
               have z1 : up1 (up1 h 0 b0) 1 j 1 = j := by simp [up1]
               rw [z0, z1]
               exact Or.inr ⟨by omega, by omega, rfl, by omega⟩)
theorem mo_dr_out {G : GT} {S : Shp} {σ : Sto} {m : Nat} {b ax l k i : Int} {Q : Option Value → Shp → Sto → Prop} (hA : IsMod S m) (hk : bndOk (σ (m + 25)) (σ (m + 26))) (hr : restM (σ (m + 27)) (σ (m + 25)) (σ (m + 26)) 1) (hK : ∀ u h, (σ (m + 25) 0 ≤ h 0 ∧ h 0 ≤ σ (m + 26) 0) → (σ (m + 25) 1 ≤ h 1 ∧ h 1 ≤ σ (m + 26) 1) → u = drW (σ (m + 25)) (σ (m + 26)) 1 (h 0) (h 1) → (∀ x y, σ (m + 25) 0 ≤ x → x ≤ σ (m + 26) 0 → σ (m + 25) 1 ≤ y → y ≤ σ (m + 26) 1 → u ≤ drW (σ (m + 25)) (σ (m + 26)) 1 x y ∧ (u = drW (σ (m + 25)) (σ (m + 26)) 1 x y → h 0 < x ∨ (h 0 = x ∧ h 1 ≤ y))) → PW (fm G mX12_draw 3 0 0 Q) G S (upS σ (m + 28) h) 0 0 217 [(0, .ref m), (1, .int (iI (b))), (2, .int (iI (ax))), (3, .int (iI (l))), (4, .int (iI (k))), (5, .int (iI (i))), (6, .int (iI u))] []) : ∀ (t : Nat) (j : Int) (u : Int) (h : Int → Int), σ (m + 25) 0 ≤ j → j ≤ σ (m + 26) 0 + 1 → σ (m + 26) 0 + 1 - j < t → (∀ x y, σ (m + 25) 0 ≤ x → x ≤ σ (m + 26) 0 → σ (m + 25) 1 ≤ y → y ≤ σ (m + 26) 1 → (x < j) → u ≤ drW (σ (m + 25)) (σ (m + 26)) 1 x y ∧ (u = drW (σ (m + 25)) (σ (m + 26)) 1 x y → h 0 < x ∨ (h 0 = x ∧ h 1 ≤ y))) → (u = 1000000 ∨ ((σ (m + 25) 0 ≤ h 0 ∧ h 0 ≤ σ (m + 26) 0) ∧ (σ (m + 25) 1 ≤ h 1 ∧ h 1 ≤ σ (m + 26) 1) ∧ u = drW (σ (m + 25)) (σ (m + 26)) 1 (h 0) (h 1) ∧ (h 0 < j))) → (0 ≤ u ∧ u ≤ 1000000) → PW (fm G mX12_draw 3 0 0 Q) G S (upS σ (m + 28) h) 0 0 127 [(0, .ref m), (1, .int (iI (b))), (2, .int (iI (ax))), (3, .int (iI (l))), (4, .int (iI (k))), (5, .int (iI (i))), (6, .int (iI (u))), (7, .int (iI (j)))] [] := by
  obtain ⟨hM0, hM1, hM2, hM3, hM4, hM5, hM6, hM7, hM8, hM9, hM10, hM11, hM12, hM13, hM14, hM15, hM16, hM17, hM18, hM19, hM20, hM21, hM22, hM23, hM24, hM25, hM26, hM27, hM28, hM29, hM30, hM31, hM32, hM33, hM34⟩ := id hA
  have k0 := hk 0 (by omega) (by omega)
  have k1 := hk 1 (by omega) (by omega)
  intro t
  induction t with
  | zero => intro j u h h1 h2 h3 g1 g2 g3; omega
  | succ t ih =>
    intro j u h h1 h2 h3 g1 g2 g3
    refine PW.iload dX12_draw_127 rfl ?_
    refine PW.aload_n dX12_draw_129 rfl ?_
    refine PW.getR fl_X12_91 rfl (by assumption) rfl dX12_draw_130 ?_
    refine PW.iconst dX12_draw_133 ?_
    refine PW.iaload (by assumption) (by unfold inR; omega) (by omega) (by omega) dX12_draw_134 ?_
    refine PW.top (σ (m + 26) (0)) (by rw [upS_ne (by omega)]) ?_
    refine PW.icmp_gt 217 dX12_draw_135 (by decide) (by first | assumption | (unfold inR; omega)) (by first | assumption | (unfold inR; omega)) (fun h135 => ?_) (fun h135 => ?_)
    · refine PW.take 7 ?_
      have w0 := drW_b hk (s := 1) (b := σ (m + 25) 0) (c := σ (m + 25) 1) (by omega) (by omega) (by omega)
      have w1 := (g1 (σ (m + 25) 0) (σ (m + 25) 1) (by omega) (by omega) (by omega) (by omega) (by omega)).1
      rcases g2 with g2 | g2
      · omega
      · exact hK u h g2.1 g2.2.1 g2.2.2.1 (fun x y q1 q2 q3 q4 => g1 x y q1 q2 q3 q4 (by omega))
    · refine PW.aload_n dX12_draw_138 rfl ?_
      refine PW.getR fl_X12_88 rfl (by assumption) rfl dX12_draw_139 ?_
      refine PW.iconst dX12_draw_142 ?_
      refine PW.iaload (by assumption) (by unfold inR; omega) (by omega) (by omega) dX12_draw_143 ?_
      refine PW.top (σ (m + 25) (1)) (by rw [upS_ne (by omega)]) ?_
      refine PW.istore [(0, _), (1, _), (2, _), (3, _), (4, _), (5, _), (6, _), (7, _), (8, _)] dX12_draw_144 rfl (Nat.le_of_ble_eq_true rfl) ?_
      refine mo_dr_in hA hk hr (by omega) ?_ 42 _ u h (by omega) (by omega) (by omega) (fun x y q1 q2 q3 q4 q5 => g1 x y q1 q2 q3 q4 (by omega)) ?_ g3
      · intro u' h' p1 p2 p3
        refine PW.iinc [(0, _), (1, _), (2, _), (3, _), (4, _), (5, _), (6, _), (7, _)] dX12_draw_211 rfl rfl (Nat.le_of_ble_eq_true rfl) ?_
        refine PW.goto 127 dX12_draw_214 (by decide) ?_
        exact ih (j + 1) u' h' (by omega) (by omega) (by omega) p1 p2 p3
      · rcases g2 with g2 | g2
        · exact Or.inl g2
        · exact Or.inr ⟨g2.1, g2.2.1, g2.2.2.1, by omega⟩
theorem mo_dr_find {G : GT} {S : Shp} {σ : Sto} {m : Nat} {b ax l k i : Int} {s u : Int} {h : Int → Int} {Q : Option Value → Shp → Sto → Prop} (hA : IsMod S m) (hk : bndOk (σ (m + 25)) (σ (m + 26))) (hr : restM (σ (m + 27)) (σ (m + 25)) (σ (m + 26)) 1) (hs : 2 ≤ s ∧ s ≤ 7) (h0 : -20 ≤ h (s - 2) ∧ h (s - 2) ≤ 20) (h1_ : σ (m + 25) (s - 1) ≤ h (s - 1) ∧ h (s - 1) ≤ σ (m + 26) (s - 1)) (hK : ∀ v, (σ (m + 25) s ≤ v ∧ v ≤ σ (m + 26) s) → drG (σ (m + 25)) (σ (m + 26)) (s - 1) (h (s - 2)) (h (s - 1)) v = drW (σ (m + 25)) (σ (m + 26)) (s - 1) (h (s - 2)) (h (s - 1)) → (∀ e, σ (m + 25) s ≤ e → e < v → drG (σ (m + 25)) (σ (m + 26)) (s - 1) (h (s - 2)) (h (s - 1)) e ≠ drW (σ (m + 25)) (σ (m + 26)) (s - 1) (h (s - 2)) (h (s - 1))) → PW (fm G mX12_draw 3 0 0 Q) G S (upS σ (m + 28) h) 0 0 321 [(0, .ref m), (1, .int (iI (b))), (2, .int (iI (ax))), (3, .int (iI (l))), (4, .int (iI (k))), (5, .int (iI (i))), (6, .int (iI u)), (7, .int (iI s)), (8, .int (iI (drW (σ (m + 25)) (σ (m + 26)) (s - 1) (h (s - 2)) (h (s - 1))))), (9, .int (iI v))] []) : ∀ (t : Nat) (j : Int), σ (m + 25) s ≤ j → j ≤ σ (m + 26) s → σ (m + 26) s - j < t → (∀ e, σ (m + 25) s ≤ e → e < j → drG (σ (m + 25)) (σ (m + 26)) (s - 1) (h (s - 2)) (h (s - 1)) e ≠ drW (σ (m + 25)) (σ (m + 26)) (s - 1) (h (s - 2)) (h (s - 1))) → PW (fm G mX12_draw 3 0 0 Q) G S (upS σ (m + 28) h) 0 0 274 [(0, .ref m), (1, .int (iI (b))), (2, .int (iI (ax))), (3, .int (iI (l))), (4, .int (iI (k))), (5, .int (iI (i))), (6, .int (iI (u))), (7, .int (iI (s))), (8, .int (iI (drW (σ (m + 25)) (σ (m + 26)) (s - 1) (h (s - 2)) (h (s - 1))))), (9, .int (iI (j)))] [] := by
  obtain ⟨hM0, hM1, hM2, hM3, hM4, hM5, hM6, hM7, hM8, hM9, hM10, hM11, hM12, hM13, hM14, hM15, hM16, hM17, hM18, hM19, hM20, hM21, hM22, hM23, hM24, hM25, hM26, hM27, hM28, hM29, hM30, hM31, hM32, hM33, hM34⟩ := id hA
  have k0 := hk s (by omega) (by omega)
  have k1 := hk (s - 1) (by omega) (by omega)
  have wb := drW_b hk (s := s - 1) (b := h (s - 2)) (c := h (s - 1)) (by omega) h0 (by omega)
  obtain ⟨y, y0, y1, y2⟩ := drW_at hk (s := s - 1) (b := h (s - 2)) (c := h (s - 1)) (by omega) h0 (by omega)
  rw [show s - 1 + 1 = s by omega] at y0 y1
  intro t
  induction t with
  | zero => intro j h1 h2 h3 g1; omega
  | succ t ih =>
    intro j h1 h2 h3 g1
    have gb := drG_b hk (s := s - 1) (b := h (s - 2)) (c := h (s - 1)) (e := j) (by omega) h0 (by omega) (by omega)
    have hyj : j ≤ y := by
      by_cases q : y < j
      · exact absurd y2.symm (g1 y y0 q)
      · omega
    refine PW.aload_n dX12_draw_274 rfl ?_
    refine PW.iload dX12_draw_275 rfl ?_
    refine PW.iload dX12_draw_277 rfl ?_
    refine PW.callVr (c_X12_bow hA (by omega)) cv_X12_bow lk_X12_390 (by first | assumption | exact And.left (by assumption)) dX12_draw_279 rfl rfl rfl rfl ?_
    refine PW.aload_n dX12_draw_282 rfl ?_
    refine PW.getR fl_X12_94 rfl (by assumption) rfl dX12_draw_283 ?_
    refine PW.iload dX12_draw_286 rfl ?_
    refine PW.aload_n dX12_draw_288 rfl ?_
    refine PW.getR fl_X12_97 rfl (by assumption) rfl dX12_draw_289 ?_
    refine PW.iload dX12_draw_292 rfl ?_
    refine PW.iconst dX12_draw_294 ?_
    refine PW.isub dX12_draw_295 ?_
    refine PW.iaload (by assumption) (by unfold inR; omega) (by omega) (by omega) dX12_draw_296 ?_
    refine PW.top (h (s - 1)) (by rw [upS_same]) ?_
    refine PW.bipush (by decide) dX12_draw_297 ?_
    refine PW.iadd dX12_draw_299 ?_
    refine PW.iload dX12_draw_300 rfl ?_
    refine PW.bipush (by decide) dX12_draw_302 ?_
    refine PW.iadd dX12_draw_304 ?_
    refine PW.callSr (c_X12_bendAt) cs_X12_bendAt lk_X12_377 dX12_draw_305 rfl rfl rfl ?_
    refine PW.iaload (by assumption) (by unfold inR; omega) (by omega) (by omega) dX12_draw_308 ?_
    refine PW.top (drW (σ (m + 25)) (σ (m + 26)) s (h (s - 1)) j) (by rw [upS_ne (by omega)]; exact hr s _ _ (by omega) (by omega) (by omega) (by omega) (by omega) (by omega)) ?_
    refine PW.iadd dX12_draw_309 ?_
    refine PW.top (drG (σ (m + 25)) (σ (m + 26)) (s - 1) (h (s - 2)) (h (s - 1)) j) (by rw [upS_same]; unfold drG; rw [show s - 1 + 1 = s by omega]) ?_
    refine PW.iload dX12_draw_310 rfl ?_
    refine PW.icmp_eq 321 dX12_draw_312 (by decide) (by first | assumption | (unfold inR; omega)) (by first | assumption | (unfold inR; omega)) (fun h312 => ?_) (fun h312 => ?_)
    · exact hK j ⟨h1, h2⟩ (by assumption) g1
    · refine PW.iinc [(0, _), (1, _), (2, _), (3, _), (4, _), (5, _), (6, _), (7, _), (8, _), (9, _)] dX12_draw_315 rfl rfl (Nat.le_of_ble_eq_true rfl) ?_
      refine PW.goto 274 dX12_draw_318 (by decide) ?_
      have hny : y ≠ j := fun q => by
        rw [q] at y2
        omega
      exact ih (j + 1) (by omega) (by omega) (by omega) (fun e q1 q2 => by
        by_cases q3 : e = j
        · rw [q3]; assumption
        · exact g1 e q1 (by omega))
theorem mo_dr_go {G : GT} {S : Shp} {σ : Sto} {m : Nat} {b ax l k i : Int} {u : Int} {Q : Option Value → Shp → Sto → Prop} (hA : IsMod S m) (hk : bndOk (σ (m + 25)) (σ (m + 26))) (hr : restM (σ (m + 27)) (σ (m + 25)) (σ (m + 26)) 1) (hK : ∀ h, Drawn (σ (m + 25)) (σ (m + 26)) u h → PW (fm G mX12_draw 3 0 0 Q) G S (upS σ (m + 28) h) 0 0 336 [(0, .ref m), (1, .int (iI (b))), (2, .int (iI (ax))), (3, .int (iI (l))), (4, .int (iI (k))), (5, .int (iI (i))), (6, .int (iI u))] []) : ∀ (t : Nat) (s : Int) (h : Int → Int), 2 ≤ s → s ≤ 8 → 8 - s < t → drPre (σ (m + 25)) (σ (m + 26)) u h (s - 1) → PW (fm G mX12_draw 3 0 0 Q) G S (upS σ (m + 28) h) 0 0 220 [(0, .ref m), (1, .int (iI (b))), (2, .int (iI (ax))), (3, .int (iI (l))), (4, .int (iI (k))), (5, .int (iI (i))), (6, .int (iI (u))), (7, .int (iI (s)))] [] := by
  obtain ⟨hM0, hM1, hM2, hM3, hM4, hM5, hM6, hM7, hM8, hM9, hM10, hM11, hM12, hM13, hM14, hM15, hM16, hM17, hM18, hM19, hM20, hM21, hM22, hM23, hM24, hM25, hM26, hM27, hM28, hM29, hM30, hM31, hM32, hM33, hM34⟩ := id hA
  intro t
  induction t with
  | zero => intro s h h1 h2 h3 g1; omega
  | succ t ih =>
    intro s h h1 h2 h3 g1
    refine PW.iload dX12_draw_220 rfl ?_
    refine PW.bipush (by decide) dX12_draw_222 ?_
    refine PW.icmp_ge 336 dX12_draw_224 (by decide) (by first | assumption | (unfold inR; omega)) (by first | assumption | (unfold inR; omega)) (fun h224 => ?_) (fun h224 => ?_)
    · refine PW.take 7 ?_
      have hs_ : s = 8 := by omega
      subst hs_
      exact hK h ⟨g1.1, g1.2.1, g1.2.2.1, g1.2.2.2.1, fun s s0 s1 => g1.2.2.2.2 s s0 (by omega)⟩
    · have k0 := hk s (by omega) (by omega)
      have k1 := hk (s - 1) (by omega) (by omega)
      have k2 := hk (s - 2) (by omega) (by omega)
      have r1 := g1.rng (q := s - 1) (by omega) (by omega)
      have r2 := g1.rng (q := s - 2) (by omega) (by omega)
      refine PW.aload_n dX12_draw_227 rfl ?_
      refine PW.getR fl_X12_94 rfl (by assumption) rfl dX12_draw_228 ?_
      refine PW.iload dX12_draw_231 rfl ?_
      refine PW.iconst dX12_draw_233 ?_
      refine PW.isub dX12_draw_234 ?_
      refine PW.aload_n dX12_draw_235 rfl ?_
      refine PW.getR fl_X12_97 rfl (by assumption) rfl dX12_draw_236 ?_
      refine PW.iload dX12_draw_239 rfl ?_
      refine PW.iconst dX12_draw_241 ?_
      refine PW.isub dX12_draw_242 ?_
      refine PW.iaload (by assumption) (by unfold inR; omega) (by omega) (by omega) dX12_draw_243 ?_
      refine PW.top (h (s - 2)) (by rw [upS_same]) ?_
      refine PW.bipush (by decide) dX12_draw_244 ?_
      refine PW.iadd dX12_draw_246 ?_
      refine PW.aload_n dX12_draw_247 rfl ?_
      refine PW.getR fl_X12_97 rfl (by assumption) rfl dX12_draw_248 ?_
      refine PW.iload dX12_draw_251 rfl ?_
      refine PW.iconst dX12_draw_253 ?_
      refine PW.isub dX12_draw_254 ?_
      refine PW.iaload (by assumption) (by unfold inR; omega) (by omega) (by omega) dX12_draw_255 ?_
      refine PW.top (h (s - 1)) (by rw [upS_same]) ?_
      refine PW.bipush (by decide) dX12_draw_256 ?_
      refine PW.iadd dX12_draw_258 ?_
      refine PW.callSr (c_X12_bendAt) cs_X12_bendAt lk_X12_377 dX12_draw_259 rfl rfl rfl ?_
      refine PW.iaload (by assumption) (by unfold inR; omega) (by omega) (by omega) dX12_draw_262 ?_
      refine PW.top (drW (σ (m + 25)) (σ (m + 26)) (s - 1) (h (s - 2)) (h (s - 1))) (by rw [upS_ne (by omega)]; exact hr (s - 1) _ _ (by omega) (by omega) (by rw [show s - 1 - 1 = s - 2 by omega]; omega) (by rw [show s - 1 - 1 = s - 2 by omega]; omega) (by omega) (by omega)) ?_
      refine PW.istore [(0, _), (1, _), (2, _), (3, _), (4, _), (5, _), (6, _), (7, _), (8, _)] dX12_draw_263 rfl (Nat.le_of_ble_eq_true rfl) ?_
      refine PW.aload_n dX12_draw_265 rfl ?_
      refine PW.getR fl_X12_88 rfl (by assumption) rfl dX12_draw_266 ?_
      refine PW.iload dX12_draw_269 rfl ?_
      refine PW.iaload (by assumption) (by unfold inR; omega) (by omega) (by omega) dX12_draw_271 ?_
      refine PW.top (σ (m + 25) (s)) (by rw [upS_ne (by omega)]) ?_
      refine PW.istore [(0, _), (1, _), (2, _), (3, _), (4, _), (5, _), (6, _), (7, _), (8, _), (9, _)] dX12_draw_272 rfl (Nat.le_of_ble_eq_true rfl) ?_
      refine mo_dr_find hA hk hr ⟨h1, by omega⟩ (by omega) r1 ?_ 42 _ (by omega) (by omega) (by omega) (fun e q1 q2 => by omega)
      intro v v0 v1 v2
      refine PW.aload_n dX12_draw_321 rfl ?_
      refine PW.getR fl_X12_97 rfl (by assumption) rfl dX12_draw_322 ?_
      refine PW.iload dX12_draw_325 rfl ?_
      refine PW.iload dX12_draw_327 rfl ?_
      refine PW.iastore (by assumption) (by first | assumption | (unfold inR; omega)) (by omega) (by omega) dX12_draw_329 ?_
      refine PW.iinc [(0, _), (1, _), (2, _), (3, _), (4, _), (5, _), (6, _), (7, _), (8, _), (9, _)] dX12_draw_330 rfl rfl (Nat.le_of_ble_eq_true rfl) ?_
      refine PW.goto 220 dX12_draw_333 (by decide) ?_
      refine PW.take 8 ?_
      refine PW.st (upS σ (m + 28) (up1 h s v)) (by rw [upS_upS, upS_same]) ?_
      refine ih (s + 1) _ (by omega) (by omega) (by omega) ?_
      have e := drPre.step (s := s - 1) (v := v) (by omega) g1 (by
        rw [show s - 1 + 1 = s by omega, show s - 1 - 1 = s - 2 by omega]
        exact ⟨v0, v1, v2⟩)
      rw [show s - 1 + 1 = s by omega] at e
      rw [show s + 1 - 1 = s by omega]
      exact e
theorem mo_dr_pos {G : GT} {S : Shp} {σ : Sto} {m : Nat} {b ax l k i : Int} {Q : Option Value → Shp → Sto → Prop} (hA : IsMod S m) (hbv : ∀ s, 0 ≤ s → s < 8 → (-20 ≤ σ (m + 25) s ∧ σ (m + 25) s ≤ 39) ∧ (-40 ≤ σ (m + 26) s ∧ σ (m + 26) s ≤ 20)) (hQ : ¬ posP (σ (m + 25)) (σ (m + 26)) → Q (some (.int (iI (-100003)))) S σ) (hK : posP (σ (m + 25)) (σ (m + 26)) → PW (fm G mX12_draw 3 0 0 Q) G S σ 0 0 110 [(0, .ref m), (1, .int (iI (b))), (2, .int (iI (ax))), (3, .int (iI (l))), (4, .int (iI (k))), (5, .int (iI (i)))] []) : ∀ (t : Nat) (j : Int), 0 ≤ j → j ≤ 8 → 8 - j < t → (∀ q, 0 ≤ q → q < j → posB (σ (m + 25)) (σ (m + 26)) q = false) → PW (fm G mX12_draw 3 0 0 Q) G S (σ) 0 0 77 [(0, .ref m), (1, .int (iI (b))), (2, .int (iI (ax))), (3, .int (iI (l))), (4, .int (iI (k))), (5, .int (iI (i))), (6, .int (iI (j)))] [] := by
  obtain ⟨hM0, hM1, hM2, hM3, hM4, hM5, hM6, hM7, hM8, hM9, hM10, hM11, hM12, hM13, hM14, hM15, hM16, hM17, hM18, hM19, hM20, hM21, hM22, hM23, hM24, hM25, hM26, hM27, hM28, hM29, hM30, hM31, hM32, hM33, hM34⟩ := id hA
  intro t
  induction t with
  | zero => intro j h1 h2 h3 g1; omega
  | succ t ih =>
    intro j h1 h2 h3 g1
    refine PW.iload dX12_draw_77 rfl ?_
    refine PW.bipush (by decide) dX12_draw_79 ?_
    refine PW.icmp_ge 110 dX12_draw_81 (by decide) (by first | assumption | (unfold inR; omega)) (by first | assumption | (unfold inR; omega)) (fun h81 => ?_) (fun h81 => ?_)
    · refine PW.take 6 ?_
      exact hK (firI_none (fun q q0 q1 => g1 q q0 (by omega)))
    · have hb := hbv j h1 (by omega)
      refine PW.aload_n dX12_draw_84 rfl ?_
      refine PW.getR fl_X12_88 rfl (by assumption) rfl dX12_draw_85 ?_
      refine PW.iload dX12_draw_88 rfl ?_
      refine PW.iaload (by assumption) (by first | assumption | (unfold inR; omega)) (by omega) (by omega) dX12_draw_90 ?_
      refine PW.aload_n dX12_draw_91 rfl ?_
      refine PW.getR fl_X12_91 rfl (by assumption) rfl dX12_draw_92 ?_
      refine PW.iload dX12_draw_95 rfl ?_
      refine PW.iaload (by assumption) (by first | assumption | (unfold inR; omega)) (by omega) (by omega) dX12_draw_97 ?_
      refine PW.icmp_le 104 dX12_draw_98 (by decide) (by first | assumption | (unfold inR; omega)) (by first | assumption | (unfold inR; omega)) (fun h98 => ?_) (fun h98 => ?_)
      · refine PW.iinc [(0, _), (1, _), (2, _), (3, _), (4, _), (5, _), (6, _)] dX12_draw_104 rfl rfl (Nat.le_of_ble_eq_true rfl) ?_
        refine PW.goto 77 dX12_draw_107 (by decide) ?_
        exact ih (j + 1) (by omega) (by omega) (by omega) (fun q q0 q1 => by
          by_cases e : q = j
          · rw [e]; exact decide_eq_false (by omega)
          · exact g1 q q0 (by omega))
      · refine PW.ldc (-100003) kc_X12_200 rfl rfl dX12_draw_101 ?_
        have e : firI (posB (σ (m + 25)) (σ (m + 26))) 8 = j := firI_hit h1 (decide_eq_true (by omega)) g1 (by omega)
        exact PW.iret rfl rfl dX12_draw_103 (hQ (by show ¬ firI _ 8 = -1; rw [e]; omega))
theorem mo_dr_rest {G : GT} {S : Shp} {σ : Sto} {m : Nat} {b ax l k i : Int} {Q : Option Value → Shp → Sto → Prop} (hA : IsMod S m) (hk : bndOk (σ (m + 25)) (σ (m + 26))) (hi_ : i = -1 ∨ (0 ≤ i ∧ i < 8)) (hQ : ∀ (τ : Sto) (bd : Int) (ht : Int → Int), (∀ q, q < m + 27 ∨ m + 28 < q → τ q = σ q) → Drawn (σ (m + 25)) (σ (m + 26)) bd ht → Q (some (.int (iI (if i = -1 then bd else ht i)))) S τ) : PW (fm G mX12_draw 3 0 0 Q) G S σ 0 0 110 [(0, .ref m), (1, .int (iI (b))), (2, .int (iI (ax))), (3, .int (iI (l))), (4, .int (iI (k))), (5, .int (iI (i)))] [] := by
  obtain ⟨hM0, hM1, hM2, hM3, hM4, hM5, hM6, hM7, hM8, hM9, hM10, hM11, hM12, hM13, hM14, hM15, hM16, hM17, hM18, hM19, hM20, hM21, hM22, hM23, hM24, hM25, hM26, hM27, hM28, hM29, hM30, hM31, hM32, hM33, hM34⟩ := id hA
  have k0 := hk 0 (by omega) (by omega)
  have k1 := hk 1 (by omega) (by omega)
  refine PW.aload_n dX12_draw_110 rfl ?_
  refine PW.callVg (c_X12_findBends hA hk) cv_X12_findBends lk_X12_387 (by first | assumption | exact And.left (by assumption)) dX12_draw_111 rfl rfl rfl rfl (fun r S' τ111 hq => ?_)
  obtain ⟨rfl, hS, f, rfl, hr⟩ := hq
  have hS2 := hS.symm
  subst hS2
  have e25 : (upS σ (m + 27) f) (m + 25) = σ (m + 25) := upS_ne (by omega)
  have e26 : (upS σ (m + 27) f) (m + 26) = σ (m + 26) := upS_ne (by omega)
  have hk2 : bndOk ((upS σ (m + 27) f) (m + 25)) ((upS σ (m + 27) f) (m + 26)) := by rw [e25, e26]; exact hk
  have hr2 : restM ((upS σ (m + 27) f) (m + 27)) ((upS σ (m + 27) f) (m + 25)) ((upS σ (m + 27) f) (m + 26)) 1 := by rw [e25, e26, upS_same]; exact hr
  refine PW.ldcw (1000000) kc_X12_370 rfl rfl dX12_draw_114 ?_
  refine PW.istore [(0, _), (1, _), (2, _), (3, _), (4, _), (5, _), (6, _)] dX12_draw_117 rfl (Nat.le_of_ble_eq_true rfl) ?_
  refine PW.aload_n dX12_draw_119 rfl ?_
  refine PW.getR fl_X12_88 rfl (by assumption) rfl dX12_draw_120 ?_
  refine PW.iconst dX12_draw_123 ?_
  refine PW.iaload (by assumption) (by unfold inR; omega) (by omega) (by omega) dX12_draw_124 ?_
  refine PW.top (σ (m + 25) (0)) (by rw [upS_ne (by omega)]) ?_
  refine PW.istore [(0, _), (1, _), (2, _), (3, _), (4, _), (5, _), (6, _), (7, _)] dX12_draw_125 rfl (Nat.le_of_ble_eq_true rfl) ?_
  refine PW.st (upS (upS σ (m + 27) f) (m + 28) ((upS σ (m + 27) f) (m + 28))) (upS_self _ _).symm ?_
  refine mo_dr_out (σ := upS σ (m + 27) f) hA hk2 hr2 ?_ 42 _ 1000000 _ (by simp only [e25]; omega) (by simp only [e26]; omega) (by simp only [e26]; omega) (fun x y q1 q2 q3 q4 q5 => by rw [e25] at q1; omega) (Or.inl rfl) (by decide)
  rw [e25, e26]
  intro u h p1 p2 p3 p4
  refine PW.iconst dX12_draw_217 ?_
  refine PW.istore [(0, _), (1, _), (2, _), (3, _), (4, _), (5, _), (6, _), (7, _)] dX12_draw_218 rfl (Nat.le_of_ble_eq_true rfl) ?_
  refine mo_dr_go (σ := upS σ (m + 27) f) hA hk2 hr2 ?_ 7 2 h (by omega) (by omega) (by omega) (by rw [e25, e26]; exact ⟨p1, p2, p3, p4, fun q q0 q1 => by omega⟩)
  rw [e25, e26]
  intro ht hD
  have db : 0 ≤ u := by
    have := drW_b hk (s := 1) (b := h 0) (c := h 1) (by omega) (by omega) (by omega)
    omega
  refine PW.iload dX12_draw_336 rfl ?_
  refine PW.if_ge 346 dX12_draw_338 (by decide) (by first | assumption | (unfold inR; omega)) (fun h338 => ?_) (fun h338 => ?_)
  · refine PW.aload_n dX12_draw_346 rfl ?_
    refine PW.getR fl_X12_97 rfl (by assumption) rfl dX12_draw_347 ?_
    refine PW.iload dX12_draw_350 rfl ?_
    refine PW.iaload (by assumption) (by unfold inR; omega) (by omega) (by omega) dX12_draw_352 ?_
    refine PW.top (ht i) (by rw [upS_same]) ?_
    have e := hQ (upS (upS σ (m + 27) f) (m + 28) ht) u ht (fun q hq => by rw [upS_ne (by omega), upS_ne (by omega)]) hD
    first
      | (rw [if_pos (by omega)] at e; exact PW.iret rfl rfl dX12_draw_353 e)
      | (rw [if_neg (by omega)] at e; exact PW.iret rfl rfl dX12_draw_353 e)
  · refine PW.iload dX12_draw_341 rfl ?_
    refine PW.goto 353 dX12_draw_343 (by decide) ?_
    have e := hQ (upS (upS σ (m + 27) f) (m + 28) ht) u ht (fun q hq => by rw [upS_ne (by omega), upS_ne (by omega)]) hD
    first
      | (rw [if_pos (by omega)] at e; exact PW.iret rfl rfl dX12_draw_353 e)
      | (rw [if_neg (by omega)] at e; exact PW.iret rfl rfl dX12_draw_353 e)
theorem c_X12_draw {G : GT} {S : Shp} {σ : Sto} {m : Nat} {b ax l k i : Int} {sn : Int} {sf : Int → Int} (hA : IsMod S m) (hs : mSg σ m sf sn) (rb : inR b) (rax : inR ax) (rl : inR l) (rk : inR k) (ri : inR i) : PMet G mX12_draw 3 0 0 [.ref m, .int (iI (b)), .int (iI (ax)), .int (iI (l)), .int (iI (k)), .int (iI (i))] S σ (fun r S' τ => S' = S ∧ (∀ q, q < m + 25 ∨ m + 28 < q → τ q = σ q) ∧ ∃ v : Int, r = some (.int (iI v)) ∧ (¬ ((0 ≤ b ∧ b < 16) ∧ (ax = 0 ∨ ax = 1) ∧ (0 ≤ l ∧ l < 8) ∧ (-1 ≤ k ∧ k ≤ sn) ∧ (i = -1 ∨ (0 ≤ i ∧ i < 8))) → v = -100002) ∧ (((0 ≤ b ∧ b < 16) ∧ (ax = 0 ∨ ax = 1) ∧ (0 ≤ l ∧ l < 8) ∧ (-1 ≤ k ∧ k ≤ sn) ∧ (i = -1 ∨ (0 ≤ i ∧ i < 8))) → ∃ lo hi : Int → Int, (∀ s, 0 ≤ s → s < 8 → lo s = bdL sf b ax l s (knF sn k).toNat ∧ hi s = bdH sf b ax l s (knF sn k).toNat) ∧ (¬ posP lo hi → v = -100003) ∧ (posP lo hi → ∃ (bd : Int) (ht : Int → Int), Drawn lo hi bd ht ∧ v = if i = -1 then bd else ht i))) := by
  obtain ⟨hM0, hM1, hM2, hM3, hM4, hM5, hM6, hM7, hM8, hM9, hM10, hM11, hM12, hM13, hM14, hM15, hM16, hM17, hM18, hM19, hM20, hM21, hM22, hM23, hM24, hM25, hM26, hM27, hM28, hM29, hM30, hM31, hM32, hM33, hM34⟩ := id hA
  have hsn := hs.1
  have hsb := hs.2.1
  have hsw : ∀ i, 0 ≤ i → i < sn → sgWf sf i := fun i i0 i1 => (hs.2.2 i i0 i1).1
  refine PMet.of [(0, .ref m), (1, .int (iI (b))), (2, .int (iI (ax))), (3, .int (iI (l))), (4, .int (iI (k))), (5, .int (iI (i)))] (by decide +kernel) rfl (Nat.le_of_ble_eq_true rfl) ?_
  refine PW.iload_n dX12_draw_0 rfl ?_
  refine PW.i2l (by first | assumption | (unfold inR; omega)) dX12_draw_1 ?_
  refine PW.lconst (z := 0) rfl dX12_draw_2 ?_
  refine PW.ldc2 (15) kc_X12_310 rfl rfl dX12_draw_3 ?_
  refine PW.callSr (c_X12_in (inL_R (by assumption)) (by unfold inL; omega) (by unfold inL; omega)) cs_X12_in lk_X12_134 dX12_draw_6 rfl rfl rfl ?_
  refine PW.if_eqB 58 dX12_draw_9 (by decide) (fun h9 => ?_) (fun h9 => ?_)
  · refine PW.ldc (-100002) kc_X12_195 rfl rfl dX12_draw_58 ?_
    exact PW.iret rfl rfl dX12_draw_60 ⟨rfl, fun _ _ => rfl, _, rfl, fun _ => rfl, fun q => absurd q (by omega)⟩
  · refine PW.iload_n dX12_draw_12 rfl ?_
    refine PW.i2l (by first | assumption | (unfold inR; omega)) dX12_draw_13 ?_
    refine PW.lconst (z := 0) rfl dX12_draw_14 ?_
    refine PW.lconst (z := 1) rfl dX12_draw_15 ?_
    refine PW.callSr (c_X12_in (inL_R (by assumption)) (by unfold inL; omega) (by unfold inL; omega)) cs_X12_in lk_X12_134 dX12_draw_16 rfl rfl rfl ?_
    refine PW.if_eqB 58 dX12_draw_19 (by decide) (fun h19 => ?_) (fun h19 => ?_)
    · refine PW.ldc (-100002) kc_X12_195 rfl rfl dX12_draw_58 ?_
      exact PW.iret rfl rfl dX12_draw_60 ⟨rfl, fun _ _ => rfl, _, rfl, fun _ => rfl, fun q => absurd q (by omega)⟩
    · refine PW.iload_n dX12_draw_22 rfl ?_
      refine PW.i2l (by first | assumption | (unfold inR; omega)) dX12_draw_23 ?_
      refine PW.lconst (z := 0) rfl dX12_draw_24 ?_
      refine PW.ldc2 (7) kc_X12_298 rfl rfl dX12_draw_25 ?_
      refine PW.callSr (c_X12_in (inL_R (by assumption)) (by unfold inL; omega) (by unfold inL; omega)) cs_X12_in lk_X12_134 dX12_draw_28 rfl rfl rfl ?_
      refine PW.if_eqB 58 dX12_draw_31 (by decide) (fun h31 => ?_) (fun h31 => ?_)
      · refine PW.ldc (-100002) kc_X12_195 rfl rfl dX12_draw_58 ?_
        exact PW.iret rfl rfl dX12_draw_60 ⟨rfl, fun _ _ => rfl, _, rfl, fun _ => rfl, fun q => absurd q (by omega)⟩
      · refine PW.aload_n dX12_draw_34 rfl ?_
        refine PW.iload dX12_draw_35 rfl ?_
        refine PW.callVr (c_X12_isKnown hA hs (by assumption)) cv_X12_isKnown lk_X12_362 (by first | assumption | exact And.left (by assumption)) dX12_draw_37 rfl rfl rfl rfl ?_
        refine PW.if_eqB 58 dX12_draw_40 (by decide) (fun h40 => ?_) (fun h40 => ?_)
        · refine PW.ldc (-100002) kc_X12_195 rfl rfl dX12_draw_58 ?_
          exact PW.iret rfl rfl dX12_draw_60 ⟨rfl, fun _ _ => rfl, _, rfl, fun _ => rfl, fun q => absurd q (by omega)⟩
        · refine PW.iload dX12_draw_43 rfl ?_
          refine PW.i2l (by first | assumption | (unfold inR; omega)) dX12_draw_45 ?_
          refine PW.ldc2 (-1) kc_X12_346 rfl rfl dX12_draw_46 ?_
          refine PW.ldc2 (7) kc_X12_298 rfl rfl dX12_draw_49 ?_
          refine PW.callSr (c_X12_in (inL_R (by assumption)) (by unfold inL; omega) (by unfold inL; omega)) cs_X12_in lk_X12_134 dX12_draw_52 rfl rfl rfl ?_
          refine PW.if_neB 61 dX12_draw_55 (by decide) (fun h55 => ?_) (fun h55 => ?_)
          · refine PW.aload_n dX12_draw_61 rfl ?_
            refine PW.iload_n dX12_draw_62 rfl ?_
            refine PW.iload_n dX12_draw_63 rfl ?_
            refine PW.iload_n dX12_draw_64 rfl ?_
            refine PW.aload_n dX12_draw_65 rfl ?_
            refine PW.iload dX12_draw_66 rfl ?_
            refine PW.callVr (c_X12_first hA hs (by assumption) (by omega)) cv_X12_first lk_X12_365 (by first | assumption | exact And.left (by assumption)) dX12_draw_68 rfl rfl rfl rfl ?_
            refine PW.callVg (c_X12_findBounds hA hs (by unfold knF; split <;> omega) (by omega) (by assumption) (by omega)) cv_X12_findBounds lk_X12_383 (by first | assumption | exact And.left (by assumption)) dX12_draw_71 rfl rfl rfl rfl (fun r S' τ71 hq => ?_)
            obtain ⟨rfl, hS, lo, hi, rfl, hbd⟩ := hq
            have hS2 := hS.symm
            subst hS2
            have hbv := fun s => bd_b (f := sf) (bed := b) (ax := ax) (line := l) (s := s) (k := (knF sn k).toNat) (fun j j0 j1 => hsw j j0 (by unfold knF at j1; split at j1 <;> omega))
            have e25 : (upS (upS σ (m + 25) (lo)) (m + 26) (hi)) (m + 25) = lo := by rw [upS_ne (by omega), upS_same]
            have e26 : (upS (upS σ (m + 25) (lo)) (m + 26) (hi)) (m + 26) = hi := upS_same _ _ _
            refine PW.iconst dX12_draw_74 ?_
            refine PW.istore [(0, _), (1, _), (2, _), (3, _), (4, _), (5, _), (6, _)] dX12_draw_75 rfl (Nat.le_of_ble_eq_true rfl) ?_
            refine mo_dr_pos (σ := upS (upS σ (m + 25) (lo)) (m + 26) (hi)) hA (fun s s0 s1 => ?_) (fun hp => ?_) (fun hp => ?_) 9 0 (by omega) (by omega) (by omega) (fun q q0 q1 => by omega)
            · rw [e25, e26]
              have := hbd s s0 s1
              have := hbv s
              omega
            · rw [e25, e26] at hp
              refine ⟨rfl, fun q hq => by rw [upS_ne (by omega), upS_ne (by omega)], _, rfl, fun q => absurd (show ((0 ≤ b ∧ b < 16) ∧ (ax = 0 ∨ ax = 1) ∧ (0 ≤ l ∧ l < 8) ∧ (-1 ≤ k ∧ k ≤ sn) ∧ (i = -1 ∨ (0 ≤ i ∧ i < 8))) by omega) q, fun _ => ⟨lo, hi, hbd, fun _ => rfl, fun q => absurd q hp⟩⟩
            · rw [e25, e26] at hp
              refine mo_dr_rest (σ := upS (upS σ (m + 25) (lo)) (m + 26) (hi)) hA ?_ (by omega) ?_
              · rw [e25, e26]
                exact pos_bnd hp (fun s s0 s1 => by
                  have := hbd s s0 s1
                  have := hbv s
                  omega)
              · rw [e25, e26]
                intro τ bd ht hfr hD
                exact ⟨rfl, fun q hq => by rw [hfr q (by omega), upS_ne (by omega), upS_ne (by omega)], _, rfl, fun q => absurd (show ((0 ≤ b ∧ b < 16) ∧ (ax = 0 ∨ ax = 1) ∧ (0 ≤ l ∧ l < 8) ∧ (-1 ≤ k ∧ k ≤ sn) ∧ (i = -1 ∨ (0 ≤ i ∧ i < 8))) by omega) q, fun _ => ⟨lo, hi, hbd, fun q => absurd hp q, fun _ => ⟨bd, ht, hD, rfl⟩⟩⟩
          · refine PW.ldc (-100002) kc_X12_195 rfl rfl dX12_draw_58 ?_
            exact PW.iret rfl rfl dX12_draw_60 ⟨rfl, fun _ _ => rfl, _, rfl, fun _ => rfl, fun q => absurd q (by omega)⟩

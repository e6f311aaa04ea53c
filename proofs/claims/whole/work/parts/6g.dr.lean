def mbF (s b c : Int) : Int := 1681 * s + 41 * (b + 20) + (c + 20)
/-- the model's bends as far as they stand -/
def restM (r lo hi : Int → Int) (s : Int) : Prop := ∀ q b c, s ≤ q → q ≤ 7 → lo (q - 1) ≤ b → b ≤ hi (q - 1) → lo q ≤ c → c ≤ hi q → r (mbF q b c) = drW lo hi q b c
theorem fb_st {σ : Sto} {a b : Nat} {f g v w : Int → Int} (h : a ≠ b) : upS (upS (upS (upS σ a f) b g) a v) b w = upS (upS σ a v) b w := upS_4 h
theorem mo_fb_in {G : GT} {S : Shp} {σ : Sto} {m : Nat} {n b ax l s at_ : Int} {lo hi : Int → Int} {sn : Int} {sf : Int → Int} {Q : Option Value → Shp → Sto → Prop} (hA : IsMod S m) (hs : mSg σ m sf sn) (hn : 0 ≤ n ∧ n ≤ sn) (hax : ax = 0 ∨ ax = 1) (hs8 : 0 ≤ s ∧ s < 8) (rb : inR b) (hat : at_ = (if ax = 0 then 8 * l + s else 8 * s + l)) (rat : inR at_) (hK : PW (fm G mX12_findBounds 0 0 0 Q) G S (upS (upS σ (m + 25) (up1 lo s (bdL sf b ax l s n.toNat))) (m + 26) (up1 hi s (bdH sf b ax l s n.toNat))) 0 0 183 [(0, .ref m), (1, .int (iI (b))), (2, .int (iI (ax))), (3, .int (iI (l))), (4, .int (iI (n))), (5, .int (iI s)), (6, .int (iI at_))] []) : ∀ (t : Nat) (i : Int), 0 ≤ i → i ≤ n → n - i < t → PW (fm G mX12_findBounds 0 0 0 Q) G S (upS (upS σ (m + 25) (up1 lo s (bdL sf b ax l s i.toNat))) (m + 26) (up1 hi s (bdH sf b ax l s i.toNat))) 0 0 54 [(0, .ref m), (1, .int (iI (b))), (2, .int (iI (ax))), (3, .int (iI (l))), (4, .int (iI (n))), (5, .int (iI (s))), (6, .int (iI (at_))), (7, .int (iI (i)))] [] := by
  obtain ⟨hM0, hM1, hM2, hM3, hM4, hM5, hM6, hM7, hM8, hM9, hM10, hM11, hM12, hM13, hM14, hM15, hM16, hM17, hM18, hM19, hM20, hM21, hM22, hM23, hM24, hM25, hM26, hM27, hM28, hM29, hM30, hM31, hM32, hM33, hM34⟩ := id hA
  have hsn := hs.1
  have hsb := hs.2.1
  have hsw : ∀ i, 0 ≤ i → i < sn → sgWf sf i := fun i i0 i1 => (hs.2.2 i i0 i1).1
  intro t
  induction t with
  | zero => intro i h1 h2 h3; omega
  | succ t ih =>
    intro i h1 h2 h3
    have bb := bd_b (f := sf) (bed := b) (ax := ax) (line := l) (s := s) (k := i.toNat) (fun j q1 q2 => hsw j q1 (by omega))
    have bl := bdL_s sf b ax l s h1
    have bh := bdH_s sf b ax l s h1
    refine PW.iload dX12_findBounds_54 rfl ?_
    refine PW.iload dX12_findBounds_56 rfl ?_
    refine PW.icmp_ge 183 dX12_findBounds_58 (by decide) (by first | assumption | (unfold inR; omega)) (by first | assumption | (unfold inR; omega)) (fun h58 => ?_) (fun h58 => ?_)
    · have hi_ : i = n := by omega
      subst hi_
      refine PW.take 7 ?_
      exact hK
    · obtain ⟨w, s0, s1, s2, s3, s4⟩ := hs.2.2 i h1 (by omega)
      obtain ⟨w1, ⟨w2, w2'⟩, w3⟩ := id w
      have w5 := w3.1
      have w6 := w3.2.2.2.1
      refine PW.aload_n dX12_findBounds_61 rfl ?_
      refine PW.getR fl_X12_61 rfl (by assumption) rfl dX12_findBounds_62 ?_
      refine PW.iload dX12_findBounds_65 rfl ?_
      refine PW.iaload (by assumption) (by unfold inR; omega) (by omega) (by omega) dX12_findBounds_67 ?_
      refine PW.top (sf (5 * i)) (by rw [upS_ne (by omega), upS_ne (by omega)]; exact s0) ?_
      refine PW.iconst dX12_findBounds_68 ?_
      refine PW.icmp_ne 177 dX12_findBounds_69 (by decide) (by first | assumption | (unfold inR; omega)) (by first | assumption | (unfold inR; omega)) (fun h69 => ?_) (fun h69 => ?_)
      · refine PW.iinc [(0, _), (1, _), (2, _), (3, _), (4, _), (5, _), (6, _), (7, _)] dX12_findBounds_177 rfl rfl (Nat.le_of_ble_eq_true rfl) ?_
        refine PW.goto 54 dX12_findBounds_180 (by decide) ?_
        have e := ih (i + 1) (by omega) (by omega) (by omega)
        first
          | (have hm : ¬ mtB sf b ax l s i := fun r => by have r1 := r.1; have r2 := r.2.1; have r3 := r.2.2; omega
             rw [bl, bh, if_neg hm, if_neg hm] at e
             exact e)
          | (refine PW.st _ ?_ e
             rw [upS_same, up1_up1, upS_upS]
             congr 2
             omega)
      · refine PW.aload_n dX12_findBounds_72 rfl ?_
        refine PW.getR fl_X12_67 rfl (by assumption) rfl dX12_findBounds_73 ?_
        refine PW.iload dX12_findBounds_76 rfl ?_
        refine PW.iaload (by assumption) (by unfold inR; omega) (by omega) (by omega) dX12_findBounds_78 ?_
        refine PW.top (sf (5 * i + 2)) (by rw [upS_ne (by omega), upS_ne (by omega)]; exact s2) ?_
        refine PW.iload_n dX12_findBounds_79 rfl ?_
        refine PW.icmp_ne 177 dX12_findBounds_80 (by decide) (by first | assumption | (unfold inR; omega)) (by first | assumption | (unfold inR; omega)) (fun h80 => ?_) (fun h80 => ?_)
        · refine PW.iinc [(0, _), (1, _), (2, _), (3, _), (4, _), (5, _), (6, _), (7, _)] dX12_findBounds_177 rfl rfl (Nat.le_of_ble_eq_true rfl) ?_
          refine PW.goto 54 dX12_findBounds_180 (by decide) ?_
          have e := ih (i + 1) (by omega) (by omega) (by omega)
          first
            | (have hm : ¬ mtB sf b ax l s i := fun r => by have r1 := r.1; have r2 := r.2.1; have r3 := r.2.2; omega
               rw [bl, bh, if_neg hm, if_neg hm] at e
               exact e)
            | (refine PW.st _ ?_ e
               rw [upS_same, up1_up1, upS_upS]
               congr 2
               omega)
        · refine PW.aload_n dX12_findBounds_83 rfl ?_
          refine PW.getR fl_X12_64 rfl (by assumption) rfl dX12_findBounds_84 ?_
          refine PW.iload dX12_findBounds_87 rfl ?_
          refine PW.iaload (by assumption) (by unfold inR; omega) (by omega) (by omega) dX12_findBounds_89 ?_
          refine PW.top (sf (5 * i + 1)) (by rw [upS_ne (by omega), upS_ne (by omega)]; exact s1) ?_
          refine PW.iload dX12_findBounds_90 rfl ?_
          refine PW.icmp_ne 177 dX12_findBounds_92 (by decide) (by first | assumption | (unfold inR; omega)) (by first | assumption | (unfold inR; omega)) (fun h92 => ?_) (fun h92 => ?_)
          · refine PW.iinc [(0, _), (1, _), (2, _), (3, _), (4, _), (5, _), (6, _), (7, _)] dX12_findBounds_177 rfl rfl (Nat.le_of_ble_eq_true rfl) ?_
            refine PW.goto 54 dX12_findBounds_180 (by decide) ?_
            have e := ih (i + 1) (by omega) (by omega) (by omega)
            first
              | (have hm : ¬ mtB sf b ax l s i := fun r => by have r1 := r.1; have r2 := r.2.1; have r3 := r.2.2; omega
                 rw [bl, bh, if_neg hm, if_neg hm] at e
                 exact e)
              | (refine PW.st _ ?_ e
                 rw [upS_same, up1_up1, upS_upS]
                 congr 2
                 omega)
          · have hm : mtB sf b ax l s i := ⟨by assumption, by assumption, by rw [← hat]; assumption⟩
            have w8 := w3.2.2.2.2.2.1 hm.1
            rw [if_pos hm] at bl bh
            refine PW.aload_n dX12_findBounds_95 rfl ?_
            refine PW.getR fl_X12_88 rfl (by assumption) rfl dX12_findBounds_96 ?_
            refine PW.iload dX12_findBounds_99 rfl ?_
            refine PW.aload_n dX12_findBounds_101 rfl ?_
            refine PW.getR fl_X12_70 rfl (by assumption) rfl dX12_findBounds_102 ?_
            refine PW.iload dX12_findBounds_105 rfl ?_
            refine PW.iaload (by assumption) (by unfold inR; omega) (by omega) (by omega) dX12_findBounds_107 ?_
            refine PW.top (sf (5 * i + 3)) (by rw [upS_ne (by omega), upS_ne (by omega)]; exact s3) ?_
            refine PW.aload_n dX12_findBounds_108 rfl ?_
            refine PW.getR fl_X12_88 rfl (by assumption) rfl dX12_findBounds_109 ?_
            refine PW.iload dX12_findBounds_112 rfl ?_
            refine PW.iaload (by assumption) (by unfold inR; omega) (by omega) (by omega) dX12_findBounds_114 ?_
            refine PW.top (bdL sf b ax l s i.toNat) (by rw [upS_ne (by omega), upS_same, up1_same]) ?_
            refine PW.icmp_le 128 dX12_findBounds_115 (by decide) (by first | assumption | (unfold inR; omega)) (by first | assumption | (unfold inR; omega)) (fun h115 => ?_) (fun h115 => ?_)
            · refine PW.aload_n dX12_findBounds_128 rfl ?_
              refine PW.getR fl_X12_88 rfl (by assumption) rfl dX12_findBounds_129 ?_
              refine PW.iload dX12_findBounds_132 rfl ?_
              refine PW.iaload (by assumption) (by unfold inR; omega) (by omega) (by omega) dX12_findBounds_134 ?_
              refine PW.top (bdL sf b ax l s i.toNat) (by rw [upS_ne (by omega), upS_same, up1_same]) ?_
              refine PW.iastore (by assumption) (by first | assumption | (unfold inR; omega)) (by omega) (by omega) dX12_findBounds_135 ?_
              refine PW.st (upS (upS σ (m + 25) (up1 lo s (bdL sf b ax l s (i + 1).toNat))) (m + 26) (up1 hi s (bdH sf b ax l s i.toNat))) (by
                rw [upS_ne (by omega), upS_same, up1_up1, upS_comm (show m + 26 ≠ m + 25 by omega), upS_upS]
                congr 3
                omega) ?_
              refine PW.aload_n dX12_findBounds_136 rfl ?_
              refine PW.getR fl_X12_91 rfl (by assumption) rfl dX12_findBounds_137 ?_
              refine PW.iload dX12_findBounds_140 rfl ?_
              refine PW.aload_n dX12_findBounds_142 rfl ?_
              refine PW.getR fl_X12_73 rfl (by assumption) rfl dX12_findBounds_143 ?_
              refine PW.iload dX12_findBounds_146 rfl ?_
              refine PW.iaload (by assumption) (by unfold inR; omega) (by omega) (by omega) dX12_findBounds_148 ?_
              refine PW.top (sf (5 * i + 4)) (by rw [upS_ne (by omega), upS_ne (by omega)]; exact s4) ?_
              refine PW.aload_n dX12_findBounds_149 rfl ?_
              refine PW.getR fl_X12_91 rfl (by assumption) rfl dX12_findBounds_150 ?_
              refine PW.iload dX12_findBounds_153 rfl ?_
              refine PW.iaload (by assumption) (by unfold inR; omega) (by omega) (by omega) dX12_findBounds_155 ?_
              refine PW.top (bdH sf b ax l s i.toNat) (by rw [upS_same, up1_same]) ?_
              refine PW.icmp_ge 169 dX12_findBounds_156 (by decide) (by first | assumption | (unfold inR; omega)) (by first | assumption | (unfold inR; omega)) (fun h156 => ?_) (fun h156 => ?_)
              · refine PW.aload_n dX12_findBounds_169 rfl ?_
                refine PW.getR fl_X12_91 rfl (by assumption) rfl dX12_findBounds_170 ?_
                refine PW.iload dX12_findBounds_173 rfl ?_
                refine PW.iaload (by assumption) (by unfold inR; omega) (by omega) (by omega) dX12_findBounds_175 ?_
                refine PW.top (bdH sf b ax l s i.toNat) (by rw [upS_same, up1_same]) ?_
                refine PW.iastore (by assumption) (by first | assumption | (unfold inR; omega)) (by omega) (by omega) dX12_findBounds_176 ?_
                refine PW.iinc [(0, _), (1, _), (2, _), (3, _), (4, _), (5, _), (6, _), (7, _)] dX12_findBounds_177 rfl rfl (Nat.le_of_ble_eq_true rfl) ?_
                refine PW.goto 54 dX12_findBounds_180 (by decide) ?_
                have e := ih (i + 1) (by omega) (by omega) (by omega)
                first
                  | (have hm : ¬ mtB sf b ax l s i := fun r => by have r1 := r.1; have r2 := r.2.1; have r3 := r.2.2; omega
                     rw [bl, bh, if_neg hm, if_neg hm] at e
                     exact e)
                  | (refine PW.st _ ?_ e
                     rw [upS_same, up1_up1, upS_upS]
                     congr 2
                     omega)
              · refine PW.aload_n dX12_findBounds_159 rfl ?_
                refine PW.getR fl_X12_73 rfl (by assumption) rfl dX12_findBounds_160 ?_
                refine PW.iload dX12_findBounds_163 rfl ?_
                refine PW.iaload (by assumption) (by unfold inR; omega) (by omega) (by omega) dX12_findBounds_165 ?_
                refine PW.top (sf (5 * i + 4)) (by rw [upS_ne (by omega), upS_ne (by omega)]; exact s4) ?_
                refine PW.goto 176 dX12_findBounds_166 (by decide) ?_
                refine PW.iastore (by assumption) (by first | assumption | (unfold inR; omega)) (by omega) (by omega) dX12_findBounds_176 ?_
                refine PW.iinc [(0, _), (1, _), (2, _), (3, _), (4, _), (5, _), (6, _), (7, _)] dX12_findBounds_177 rfl rfl (Nat.le_of_ble_eq_true rfl) ?_
                refine PW.goto 54 dX12_findBounds_180 (by decide) ?_
                have e := ih (i + 1) (by omega) (by omega) (by omega)
                first
                  | (have hm : ¬ mtB sf b ax l s i := fun r => by have r1 := r.1; have r2 := r.2.1; have r3 := r.2.2; omega
                     rw [bl, bh, if_neg hm, if_neg hm] at e
                     exact e)
                  | (refine PW.st _ ?_ e
                     rw [upS_same, up1_up1, upS_upS]
                     congr 2
                     omega)
            · refine PW.aload_n dX12_findBounds_118 rfl ?_
              refine PW.getR fl_X12_70 rfl (by assumption) rfl dX12_findBounds_119 ?_
              refine PW.iload dX12_findBounds_122 rfl ?_
              refine PW.iaload (by assumption) (by unfold inR; omega) (by omega) (by omega) dX12_findBounds_124 ?_
              refine PW.top (sf (5 * i + 3)) (by rw [upS_ne (by omega), upS_ne (by omega)]; exact s3) ?_
              refine PW.goto 135 dX12_findBounds_125 (by decide) ?_
              refine PW.iastore (by assumption) (by first | assumption | (unfold inR; omega)) (by omega) (by omega) dX12_findBounds_135 ?_
              refine PW.st (upS (upS σ (m + 25) (up1 lo s (bdL sf b ax l s (i + 1).toNat))) (m + 26) (up1 hi s (bdH sf b ax l s i.toNat))) (by
                rw [upS_ne (by omega), upS_same, up1_up1, upS_comm (show m + 26 ≠ m + 25 by omega), upS_upS]
                congr 3
                omega) ?_
              refine PW.aload_n dX12_findBounds_136 rfl ?_
              refine PW.getR fl_X12_91 rfl (by assumption) rfl dX12_findBounds_137 ?_
              refine PW.iload dX12_findBounds_140 rfl ?_
              refine PW.aload_n dX12_findBounds_142 rfl ?_
              refine PW.getR fl_X12_73 rfl (by assumption) rfl dX12_findBounds_143 ?_
              refine PW.iload dX12_findBounds_146 rfl ?_
              refine PW.iaload (by assumption) (by unfold inR; omega) (by omega) (by omega) dX12_findBounds_148 ?_
              refine PW.top (sf (5 * i + 4)) (by rw [upS_ne (by omega), upS_ne (by omega)]; exact s4) ?_
              refine PW.aload_n dX12_findBounds_149 rfl ?_
              refine PW.getR fl_X12_91 rfl (by assumption) rfl dX12_findBounds_150 ?_
              refine PW.iload dX12_findBounds_153 rfl ?_
              refine PW.iaload (by assumption) (by unfold inR; omega) (by omega) (by omega) dX12_findBounds_155 ?_
              refine PW.top (bdH sf b ax l s i.toNat) (by rw [upS_same, up1_same]) ?_
              refine PW.icmp_ge 169 dX12_findBounds_156 (by decide) (by first | assumption | (unfold inR; omega)) (by first | assumption | (unfold inR; omega)) (fun h156 => ?_) (fun h156 => ?_)
              · refine PW.aload_n dX12_findBounds_169 rfl ?_
                refine PW.getR fl_X12_91 rfl (by assumption) rfl dX12_findBounds_170 ?_
                refine PW.iload dX12_findBounds_173 rfl ?_
                refine PW.iaload (by assumption) (by unfold inR; omega) (by omega) (by omega) dX12_findBounds_175 ?_
                refine PW.top (bdH sf b ax l s i.toNat) (by rw [upS_same, up1_same]) ?_
                refine PW.iastore (by assumption) (by first | assumption | (unfold inR; omega)) (by omega) (by omega) dX12_findBounds_176 ?_
                refine PW.iinc [(0, _), (1, _), (2, _), (3, _), (4, _), (5, _), (6, _), (7, _)] dX12_findBounds_177 rfl rfl (Nat.le_of_ble_eq_true rfl) ?_
                refine PW.goto 54 dX12_findBounds_180 (by decide) ?_
                have e := ih (i + 1) (by omega) (by omega) (by omega)
                first
                  | (have hm : ¬ mtB sf b ax l s i := fun r => by have r1 := r.1; have r2 := r.2.1; have r3 := r.2.2; omega
                     rw [bl, bh, if_neg hm, if_neg hm] at e
                     exact e)
                  | (refine PW.st _ ?_ e
                     rw [upS_same, up1_up1, upS_upS]
                     congr 2
                     omega)
              · refine PW.aload_n dX12_findBounds_159 rfl ?_
                refine PW.getR fl_X12_73 rfl (by assumption) rfl dX12_findBounds_160 ?_
                refine PW.iload dX12_findBounds_163 rfl ?_
                refine PW.iaload (by assumption) (by unfold inR; omega) (by omega) (by omega) dX12_findBounds_165 ?_
                refine PW.top (sf (5 * i + 4)) (by rw [upS_ne (by omega), upS_ne (by omega)]; exact s4) ?_
                refine PW.goto 176 dX12_findBounds_166 (by decide) ?_
                refine PW.iastore (by assumption) (by first | assumption | (unfold inR; omega)) (by omega) (by omega) dX12_findBounds_176 ?_
                refine PW.iinc [(0, _), (1, _), (2, _), (3, _), (4, _), (5, _), (6, _), (7, _)] dX12_findBounds_177 rfl rfl (Nat.le_of_ble_eq_true rfl) ?_
                refine PW.goto 54 dX12_findBounds_180 (by decide) ?_
                have e := ih (i + 1) (by omega) (by omega) (by omega)
                first
                  | (have hm : ¬ mtB sf b ax l s i := fun r => by have r1 := r.1; have r2 := r.2.1; have r3 := r.2.2; omega
                     rw [bl, bh, if_neg hm, if_neg hm] at e
                     exact e)
                  | (refine PW.st _ ?_ e
                     rw [upS_same, up1_up1, upS_upS]
                     congr 2
                     omega)
theorem mo_fb_out {G : GT} {S : Shp} {σ : Sto} {m : Nat} {n b ax l : Int} {sn : Int} {sf : Int → Int} {Q : Option Value → Shp → Sto → Prop} (hA : IsMod S m) (hs : mSg σ m sf sn) (hn : 0 ≤ n ∧ n ≤ sn) (hax : ax = 0 ∨ ax = 1) (rb : inR b) (hl : 0 ≤ l ∧ l < 8) (hQ : ∀ lo hi : Int → Int, (∀ q, 0 ≤ q → q < 8 → lo q = bdL sf b ax l q n.toNat ∧ hi q = bdH sf b ax l q n.toNat) → Q none S (upS (upS σ (m + 25) (lo)) (m + 26) (hi))) : ∀ (t : Nat) (s : Int) (lo : Int → Int) (hi : Int → Int), 0 ≤ s → s ≤ 8 → 8 - s < t → (∀ q, 0 ≤ q → q < s → lo q = bdL sf b ax l q n.toNat ∧ hi q = bdH sf b ax l q n.toNat) → PW (fm G mX12_findBounds 0 0 0 Q) G S (upS (upS σ (m + 25) (lo)) (m + 26) (hi)) 0 0 3 [(0, .ref m), (1, .int (iI (b))), (2, .int (iI (ax))), (3, .int (iI (l))), (4, .int (iI (n))), (5, .int (iI (s)))] [] := by
  obtain ⟨hM0, hM1, hM2, hM3, hM4, hM5, hM6, hM7, hM8, hM9, hM10, hM11, hM12, hM13, hM14, hM15, hM16, hM17, hM18, hM19, hM20, hM21, hM22, hM23, hM24, hM25, hM26, hM27, hM28, hM29, hM30, hM31, hM32, hM33, hM34⟩ := id hA
  have hsn := hs.1
  have hsb := hs.2.1
  have hsw : ∀ i, 0 ≤ i → i < sn → sgWf sf i := fun i i0 i1 => (hs.2.2 i i0 i1).1
  intro t
  induction t with
  | zero => intro s lo hi h1 h2 h3 g1; omega
  | succ t ih =>
    intro s lo hi h1 h2 h3 g1
    refine PW.iload dX12_findBounds_3 rfl ?_
    refine PW.bipush (by decide) dX12_findBounds_5 ?_
    refine PW.icmp_ge 189 dX12_findBounds_7 (by decide) (by first | assumption | (unfold inR; omega)) (by first | assumption | (unfold inR; omega)) (fun h7 => ?_) (fun h7 => ?_)
    · exact PW.vret rfl dX12_findBounds_189 (hQ lo hi (fun q q0 q1 => g1 q q0 (by omega)))
    · refine PW.aload_n dX12_findBounds_10 rfl ?_
      refine PW.getR fl_X12_88 rfl (by assumption) rfl dX12_findBounds_11 ?_
      refine PW.iload dX12_findBounds_14 rfl ?_
      refine PW.bipush (by decide) dX12_findBounds_16 ?_
      refine PW.iastore (by assumption) (by first | assumption | (unfold inR; omega)) (by omega) (by omega) dX12_findBounds_18 ?_
      refine PW.aload_n dX12_findBounds_19 rfl ?_
      refine PW.getR fl_X12_91 rfl (by assumption) rfl dX12_findBounds_20 ?_
      refine PW.iload dX12_findBounds_23 rfl ?_
      refine PW.bipush (by decide) dX12_findBounds_25 ?_
      refine PW.iastore (by assumption) (by first | assumption | (unfold inR; omega)) (by omega) (by omega) dX12_findBounds_27 ?_
      refine PW.iload_n dX12_findBounds_28 rfl ?_
      refine PW.if_ne 42 dX12_findBounds_29 (by decide) (by first | assumption | (unfold inR; omega)) (fun h29 => ?_) (fun h29 => ?_)
      · refine PW.bipush (by decide) dX12_findBounds_42 ?_
        refine PW.iload dX12_findBounds_44 rfl ?_
        refine PW.imul dX12_findBounds_46 ?_
        refine PW.iload_n dX12_findBounds_47 rfl ?_
        refine PW.iadd dX12_findBounds_48 ?_
        refine PW.istore [(0, _), (1, _), (2, _), (3, _), (4, _), (5, _), (6, _)] dX12_findBounds_49 rfl (Nat.le_of_ble_eq_true rfl) ?_
        refine PW.iconst dX12_findBounds_51 ?_
        refine PW.istore [(0, _), (1, _), (2, _), (3, _), (4, _), (5, _), (6, _), (7, _)] dX12_findBounds_52 rfl (Nat.le_of_ble_eq_true rfl) ?_
        refine PW.st (upS (upS σ (m + 25) (up1 lo s (bdL sf b ax l s (0 : Int).toNat))) (m + 26) (up1 hi s (bdH sf b ax l s (0 : Int).toNat))) (by
          rw [upS_ne (show m + 25 ≠ m + 26 by omega), upS_same, fb_st (by omega)]
          first
            | (rw [upS_ne (show m + 26 ≠ m + 25 by omega), upS_same]; rfl)
            | rfl) ?_
        refine mo_fb_in (lo := lo) (hi := hi) (s := s) hA hs hn hax ⟨h1, by omega⟩ rb (by first | (rw [if_pos (by omega)]; done) | (rw [if_neg (by omega)]; done)) (by unfold inR; omega) ?_ 31 0 (by omega) (by omega) (by omega)
        refine PW.iinc [(0, _), (1, _), (2, _), (3, _), (4, _), (5, _), (6, _)] dX12_findBounds_183 rfl rfl (Nat.le_of_ble_eq_true rfl) ?_
        refine PW.goto 3 dX12_findBounds_186 (by decide) ?_
        refine PW.take 6 ?_
        refine ih (s + 1) _ _ (by omega) (by omega) (by omega) (fun q q0 q1 => ?_)
        by_cases hq : q = s
        · rw [hq, up1_same, up1_same]
          exact ⟨rfl, rfl⟩
        · rw [up1_ne hq, up1_ne hq]
          exact g1 q q0 (by omega)
      · refine PW.bipush (by decide) dX12_findBounds_32 ?_
        refine PW.iload_n dX12_findBounds_34 rfl ?_
        refine PW.imul dX12_findBounds_35 ?_
        refine PW.iload dX12_findBounds_36 rfl ?_
        refine PW.iadd dX12_findBounds_38 ?_
        refine PW.goto 49 dX12_findBounds_39 (by decide) ?_
        refine PW.istore [(0, _), (1, _), (2, _), (3, _), (4, _), (5, _), (6, _)] dX12_findBounds_49 rfl (Nat.le_of_ble_eq_true rfl) ?_
        refine PW.iconst dX12_findBounds_51 ?_
        refine PW.istore [(0, _), (1, _), (2, _), (3, _), (4, _), (5, _), (6, _), (7, _)] dX12_findBounds_52 rfl (Nat.le_of_ble_eq_true rfl) ?_
        refine PW.st (upS (upS σ (m + 25) (up1 lo s (bdL sf b ax l s (0 : Int).toNat))) (m + 26) (up1 hi s (bdH sf b ax l s (0 : Int).toNat))) (by
          rw [upS_ne (show m + 25 ≠ m + 26 by omega), upS_same, fb_st (by omega)]
          first
            | (rw [upS_ne (show m + 26 ≠ m + 25 by omega), upS_same]; rfl)
            | rfl) ?_
        refine mo_fb_in (lo := lo) (hi := hi) (s := s) hA hs hn hax ⟨h1, by omega⟩ rb (by first | (rw [if_pos (by omega)]; done) | (rw [if_neg (by omega)]; done)) (by unfold inR; omega) ?_ 31 0 (by omega) (by omega) (by omega)
        refine PW.iinc [(0, _), (1, _), (2, _), (3, _), (4, _), (5, _), (6, _)] dX12_findBounds_183 rfl rfl (Nat.le_of_ble_eq_true rfl) ?_
        refine PW.goto 3 dX12_findBounds_186 (by decide) ?_
        refine PW.take 6 ?_
        refine ih (s + 1) _ _ (by omega) (by omega) (by omega) (fun q q0 q1 => ?_)
        by_cases hq : q = s
        · rw [hq, up1_same, up1_same]
          exact ⟨rfl, rfl⟩
        · rw [up1_ne hq, up1_ne hq]
          exact g1 q q0 (by omega)
theorem c_X12_findBounds {G : GT} {S : Shp} {σ : Sto} {m : Nat} {n b ax l : Int} {sn : Int} {sf : Int → Int} (hA : IsMod S m) (hs : mSg σ m sf sn) (hn : 0 ≤ n ∧ n ≤ sn) (hax : ax = 0 ∨ ax = 1) (rb : inR b) (hl : 0 ≤ l ∧ l < 8) : PMet G mX12_findBounds 0 0 0 [.ref m, .int (iI b), .int (iI ax), .int (iI l), .int (iI n)] S σ (fun r S' τ => r = none ∧ S' = S ∧ ∃ lo hi : Int → Int, τ = upS (upS σ (m + 25) (lo)) (m + 26) (hi) ∧ ∀ q, 0 ≤ q → q < 8 → lo q = bdL sf b ax l q n.toNat ∧ hi q = bdH sf b ax l q n.toNat) := by
  obtain ⟨hM0, hM1, hM2, hM3, hM4, hM5, hM6, hM7, hM8, hM9, hM10, hM11, hM12, hM13, hM14, hM15, hM16, hM17, hM18, hM19, hM20, hM21, hM22, hM23, hM24, hM25, hM26, hM27, hM28, hM29, hM30, hM31, hM32, hM33, hM34⟩ := id hA
  refine PMet.of [(0, .ref m), (1, .int (iI (b))), (2, .int (iI (ax))), (3, .int (iI (l))), (4, .int (iI (n)))] (by decide +kernel) rfl (Nat.le_of_ble_eq_true rfl) ?_
  refine PW.iconst dX12_findBounds_0 ?_
  refine PW.istore [(0, _), (1, _), (2, _), (3, _), (4, _), (5, _)] dX12_findBounds_1 rfl (Nat.le_of_ble_eq_true rfl) ?_
  refine PW.st (upS (upS σ (m + 25) (σ (m + 25))) (m + 26) (σ (m + 26))) (by rw [upS_self, upS_self]) ?_
  exact mo_fb_out hA hs hn hax rb hl (fun lo hi h => ⟨rfl, rfl, lo, hi, rfl, h⟩) 9 0 _ _ (by omega) (by omega) (by omega) (fun q q0 q1 => by omega)
theorem mo_bf_loop {G : GT} {S : Shp} {σ : Sto} {m : Nat} {s b c : Int} {Q : Option Value → Shp → Sto → Prop} (hA : IsMod S m) (hk : bndOk (σ (m + 25)) (σ (m + 26))) (hr : restM (σ (m + 27)) (σ (m + 25)) (σ (m + 26)) (s + 1)) (hs : 1 ≤ s ∧ s ≤ 7) (hb : -20 ≤ b ∧ b ≤ 20) (hc : σ (m + 25) s ≤ c ∧ c ≤ σ (m + 26) s) (hs6 : s ≤ 6) (hQ : Q (some (.int (iI (drW (σ (m + 25)) (σ (m + 26)) s b c)))) S σ) : ∀ (t : Nat) (i : Int), σ (m + 25) (s + 1) ≤ i → i ≤ σ (m + 26) (s + 1) + 1 → σ (m + 26) (s + 1) + 1 - i < t → PW (fm G mX12_bendFrom 1 0 0 Q) G S (σ) 0 0 23 [(0, .ref m), (1, .int (iI (s))), (2, .int (iI (b))), (3, .int (iI (c))), (4, .int (iI (mnI (drG (σ (m + 25)) (σ (m + 26)) s b c) (σ (m + 25) (s + 1)) 1000000 (i - σ (m + 25) (s + 1)).toNat))), (5, .int (iI (i)))] [] := by
  obtain ⟨hM0, hM1, hM2, hM3, hM4, hM5, hM6, hM7, hM8, hM9, hM10, hM11, hM12, hM13, hM14, hM15, hM16, hM17, hM18, hM19, hM20, hM21, hM22, hM23, hM24, hM25, hM26, hM27, hM28, hM29, hM30, hM31, hM32, hM33, hM34⟩ := id hA
  have k0 := hk s (by omega) (by omega)
  have k1 := hk (s + 1) (by omega) (by omega)
  intro t
  induction t with
  | zero => intro i h1 h2 h3; omega
  | succ t ih =>
    intro i h1 h2 h3
    have mm := mnI_mn (drG (σ (m + 25)) (σ (m + 26)) s b c) (σ (m + 25) (s + 1)) 1000000 (i - σ (m + 25) (s + 1)).toNat
    have m1 := mm.1
    have m0 : 0 ≤ mnI (drG (σ (m + 25)) (σ (m + 26)) s b c) (σ (m + 25) (s + 1)) 1000000 (i - σ (m + 25) (s + 1)).toNat := by
      rcases mm.2.2 with q | ⟨x, x0, x1, q⟩
      · omega
      · have := drG_b hk (s := s) (b := b) (c := c) (e := x) (by omega) hb (by omega) (by omega)
        omega
    clear mm
    have sb := sq_0 (b - 2 * c + i)
    have ms := mnI_s (g := drG (σ (m + 25)) (σ (m + 26)) s b c) (cap := 1000000) h1
    have hg : drG (σ (m + 25)) (σ (m + 26)) s b c i = (b - 2 * c + i) * (b - 2 * c + i) + drW (σ (m + 25)) (σ (m + 26)) (s + 1) c i := rfl
    rw [hg] at ms
    unfold sq at sb
    refine PW.iload dX12_bendFrom_23 rfl ?_
    refine PW.aload_n dX12_bendFrom_25 rfl ?_
    refine PW.getR fl_X12_91 rfl (by assumption) rfl dX12_bendFrom_26 ?_
    refine PW.iload_n dX12_bendFrom_29 rfl ?_
    refine PW.iconst dX12_bendFrom_30 ?_
    refine PW.iadd dX12_bendFrom_31 ?_
    refine PW.iaload (by assumption) (by unfold inR; omega) (by omega) (by omega) dX12_bendFrom_32 ?_
    refine PW.icmp_gt 96 dX12_bendFrom_33 (by decide) (by first | assumption | (unfold inR; omega)) (by first | assumption | (unfold inR; omega)) (fun h33 => ?_) (fun h33 => ?_)
    · refine PW.iload dX12_bendFrom_96 rfl ?_
      have hi_ : i = σ (m + 26) (s + 1) + 1 := by omega
      have e := drW_s (lo := σ (m + 25)) (hi := σ (m + 26)) (s := s) (b := b) (c := c) hs6
      rw [e, ← hi_] at hQ
      exact PW.iret rfl rfl dX12_bendFrom_98 hQ
    · have sb2 := sq_b (x := b - 2 * c + i) (by omega)
      unfold sq at sb2
      have wb := drW_b hk (s := s + 1) (b := c) (c := i) (by omega) (by omega) (by omega)
      refine PW.iload_n dX12_bendFrom_36 rfl ?_
      refine PW.iconst dX12_bendFrom_37 ?_
      refine PW.iload_n dX12_bendFrom_38 rfl ?_
      refine PW.imul dX12_bendFrom_39 ?_
      refine PW.isub dX12_bendFrom_40 ?_
      refine PW.iload dX12_bendFrom_41 rfl ?_
      refine PW.iadd dX12_bendFrom_43 ?_
      refine PW.istore [(0, _), (1, _), (2, _), (3, _), (4, _), (5, _), (6, _)] dX12_bendFrom_44 rfl (Nat.le_of_ble_eq_true rfl) ?_
      refine PW.iload dX12_bendFrom_46 rfl ?_
      refine PW.iload dX12_bendFrom_48 rfl ?_
      refine PW.imul dX12_bendFrom_50 ?_
      refine PW.aload_n dX12_bendFrom_51 rfl ?_
      refine PW.getR fl_X12_94 rfl (by assumption) rfl dX12_bendFrom_52 ?_
      refine PW.iload_n dX12_bendFrom_55 rfl ?_
      refine PW.iconst dX12_bendFrom_56 ?_
      refine PW.iadd dX12_bendFrom_57 ?_
      refine PW.iload_n dX12_bendFrom_58 rfl ?_
      refine PW.bipush (by decide) dX12_bendFrom_59 ?_
      refine PW.iadd dX12_bendFrom_61 ?_
      refine PW.iload dX12_bendFrom_62 rfl ?_
      refine PW.bipush (by decide) dX12_bendFrom_64 ?_
      refine PW.iadd dX12_bendFrom_66 ?_
      refine PW.callSr (c_X12_bendAt) cs_X12_bendAt lk_X12_377 dX12_bendFrom_67 rfl rfl rfl ?_
      refine PW.iaload (by assumption) (by unfold inR; omega) (by omega) (by omega) dX12_bendFrom_70 ?_
      refine PW.top (drW (σ (m + 25)) (σ (m + 26)) (s + 1) c i) (by exact hr (s + 1) c i (by omega) (by omega) (by rw [show s + 1 - 1 = s by omega]; omega) (by rw [show s + 1 - 1 = s by omega]; omega) (by omega) (by omega)) ?_
      refine PW.iadd dX12_bendFrom_71 ?_
      refine PW.istore [(0, _), (1, _), (2, _), (3, _), (4, _), (5, _), (6, _), (7, _)] dX12_bendFrom_72 rfl (Nat.le_of_ble_eq_true rfl) ?_
      refine PW.iload dX12_bendFrom_74 rfl ?_
      refine PW.iload dX12_bendFrom_76 rfl ?_
      refine PW.icmp_ge 86 dX12_bendFrom_78 (by decide) (by first | assumption | (unfold inR; omega)) (by first | assumption | (unfold inR; omega)) (fun h78 => ?_) (fun h78 => ?_)
      · refine PW.iload dX12_bendFrom_86 rfl ?_
        refine PW.istore [(0, _), (1, _), (2, _), (3, _), (4, _), (5, _), (6, _), (7, _)] dX12_bendFrom_88 rfl (Nat.le_of_ble_eq_true rfl) ?_
        refine PW.iinc [(0, _), (1, _), (2, _), (3, _), (4, _), (5, _), (6, _), (7, _)] dX12_bendFrom_90 rfl rfl (Nat.le_of_ble_eq_true rfl) ?_
        refine PW.goto 23 dX12_bendFrom_93 (by decide) ?_
        have e := ih (i + 1) (by omega) (by omega) (by omega)
        rw [ms] at e
        refine PW.take 6 ?_
        first
          | (rw [Int.min_eq_right (by omega)] at e; exact e)
          | (rw [Int.min_eq_left (by omega)] at e; exact e)
      · refine PW.iload dX12_bendFrom_81 rfl ?_
        refine PW.goto 88 dX12_bendFrom_83 (by decide) ?_
        refine PW.istore [(0, _), (1, _), (2, _), (3, _), (4, _), (5, _), (6, _), (7, _)] dX12_bendFrom_88 rfl (Nat.le_of_ble_eq_true rfl) ?_
        refine PW.iinc [(0, _), (1, _), (2, _), (3, _), (4, _), (5, _), (6, _), (7, _)] dX12_bendFrom_90 rfl rfl (Nat.le_of_ble_eq_true rfl) ?_
        refine PW.goto 23 dX12_bendFrom_93 (by decide) ?_
        have e := ih (i + 1) (by omega) (by omega) (by omega)
        rw [ms] at e
        refine PW.take 6 ?_
        first
          | (rw [Int.min_eq_right (by omega)] at e; exact e)
          | (rw [Int.min_eq_left (by omega)] at e; exact e)
theorem c_X12_bendFrom {G : GT} {S : Shp} {σ : Sto} {m : Nat} {s b c : Int} (hA : IsMod S m) (hk : bndOk (σ (m + 25)) (σ (m + 26))) (hr : restM (σ (m + 27)) (σ (m + 25)) (σ (m + 26)) (s + 1)) (hs : 1 ≤ s ∧ s ≤ 7) (hb : -20 ≤ b ∧ b ≤ 20) (hc : σ (m + 25) s ≤ c ∧ c ≤ σ (m + 26) s) : PMet G mX12_bendFrom 1 0 0 [.ref m, .int (iI s), .int (iI b), .int (iI c)] S σ (isP (some (.int (iI (drW (σ (m + 25)) (σ (m + 26)) s b c)))) S σ) := by
  obtain ⟨hM0, hM1, hM2, hM3, hM4, hM5, hM6, hM7, hM8, hM9, hM10, hM11, hM12, hM13, hM14, hM15, hM16, hM17, hM18, hM19, hM20, hM21, hM22, hM23, hM24, hM25, hM26, hM27, hM28, hM29, hM30, hM31, hM32, hM33, hM34⟩ := id hA
  have k0 := hk s (by omega) (by omega)
  refine PMet.of [(0, .ref m), (1, .int (iI (s))), (2, .int (iI (b))), (3, .int (iI (c)))] (by decide +kernel) rfl (Nat.le_of_ble_eq_true rfl) ?_
  refine PW.iload_n dX12_bendFrom_0 rfl ?_
  refine PW.bipush (by decide) dX12_bendFrom_1 ?_
  refine PW.icmp_ne 8 dX12_bendFrom_3 (by decide) (by first | assumption | (unfold inR; omega)) (by first | assumption | (unfold inR; omega)) (fun h3 => ?_) (fun h3 => ?_)
  · have hs6 : s ≤ 6 := by omega
    have k1 := hk (s + 1) (by omega) (by omega)
    refine PW.ldcw (1000000) kc_X12_370 rfl rfl dX12_bendFrom_8 ?_
    refine PW.istore [(0, _), (1, _), (2, _), (3, _), (4, _)] dX12_bendFrom_11 rfl (Nat.le_of_ble_eq_true rfl) ?_
    refine PW.aload_n dX12_bendFrom_13 rfl ?_
    refine PW.getR fl_X12_88 rfl (by assumption) rfl dX12_bendFrom_14 ?_
    refine PW.iload_n dX12_bendFrom_17 rfl ?_
    refine PW.iconst dX12_bendFrom_18 ?_
    refine PW.iadd dX12_bendFrom_19 ?_
    refine PW.iaload (by assumption) (by first | assumption | (unfold inR; omega)) (by omega) (by omega) dX12_bendFrom_20 ?_
    refine PW.istore [(0, _), (1, _), (2, _), (3, _), (4, _), (5, _)] dX12_bendFrom_21 rfl (Nat.le_of_ble_eq_true rfl) ?_
    have e0 : mnI (drG (σ (m + 25)) (σ (m + 26)) s b c) (σ (m + 25) (s + 1)) 1000000 (σ (m + 25) (s + 1) - σ (m + 25) (s + 1)).toNat = 1000000 := by
      rw [Int.sub_self]
      rfl
    have e := mo_bf_loop (G := G) (S := S) hA hk hr hs hb hc hs6 (Q := isP (some (.int (iI (drW (σ (m + 25)) (σ (m + 26)) s b c)))) S σ) ⟨rfl, rfl, rfl⟩ 42 (σ (m + 25) (s + 1)) (by omega) (by omega) (by omega)
    rw [e0] at e
    exact e
  · refine PW.iconst dX12_bendFrom_6 ?_
    exact PW.iret rfl rfl dX12_bendFrom_7 ⟨ret_eq (by rw [show s = 7 by omega]; exact (drW_7 _ _ _ _).symm), rfl, rfl⟩
theorem mo_fd_in {G : GT} {S : Shp} {σ : Sto} {m : Nat} {s b0 : Int} {Q : Option Value → Shp → Sto → Prop} (hA : IsMod S m) (hk : bndOk (σ (m + 25)) (σ (m + 26))) (hs : 1 ≤ s ∧ s ≤ 7) (hb : σ (m + 25) (s - 1) ≤ b0 ∧ b0 ≤ σ (m + 26) (s - 1)) (hK : ∀ f, restM f (σ (m + 25)) (σ (m + 26)) (s + 1) → (∀ b c, σ (m + 25) (s - 1) ≤ b → b ≤ σ (m + 26) (s - 1) → σ (m + 25) s ≤ c → c ≤ σ (m + 26) s → (b < b0 + 1) → f (mbF s b c) = drW (σ (m + 25)) (σ (m + 26)) s b c) → PW (fm G mX12_findBends 2 0 0 Q) G S (upS σ (m + 27) f) 0 0 75 [(0, .ref m), (1, .int (iI s)), (2, .int (iI b0))] []) : ∀ (t : Nat) (i : Int) (f : Int → Int), σ (m + 25) s ≤ i → i ≤ σ (m + 26) s + 1 → σ (m + 26) s + 1 - i < t → restM f (σ (m + 25)) (σ (m + 26)) (s + 1) → (∀ b c, σ (m + 25) (s - 1) ≤ b → b ≤ σ (m + 26) (s - 1) → σ (m + 25) s ≤ c → c ≤ σ (m + 26) s → (b < b0 ∨ (b = b0 ∧ c < i)) → f (mbF s b c) = drW (σ (m + 25)) (σ (m + 26)) s b c) → PW (fm G mX12_findBends 2 0 0 Q) G S (upS σ (m + 27) f) 0 0 35 [(0, .ref m), (1, .int (iI (s))), (2, .int (iI (b0))), (3, .int (iI (i)))] [] := by
  obtain ⟨hM0, hM1, hM2, hM3, hM4, hM5, hM6, hM7, hM8, hM9, hM10, hM11, hM12, hM13, hM14, hM15, hM16, hM17, hM18, hM19, hM20, hM21, hM22, hM23, hM24, hM25, hM26, hM27, hM28, hM29, hM30, hM31, hM32, hM33, hM34⟩ := id hA
  have k0 := hk s (by omega) (by omega)
  have k1 := hk (s - 1) (by omega) (by omega)
  intro t
  induction t with
  | zero => intro i f h1 h2 h3 g1 g2; omega
  | succ t ih =>
    intro i f h1 h2 h3 g1 g2
    have e1 : (upS σ (m + 27) f) (m + 25) = σ (m + 25) := upS_ne (by omega)
    have e2 : (upS σ (m + 27) f) (m + 26) = σ (m + 26) := upS_ne (by omega)
    have e5 : (upS σ (m + 27) f) (m + 27) = f := upS_same _ _ _
    refine PW.iload_n dX12_findBends_35 rfl ?_
    refine PW.aload_n dX12_findBends_36 rfl ?_
    refine PW.getR fl_X12_91 rfl (by assumption) rfl dX12_findBends_37 ?_
    refine PW.iload_n dX12_findBends_40 rfl ?_
    refine PW.iaload (by assumption) (by unfold inR; omega) (by omega) (by omega) dX12_findBends_41 ?_
    refine PW.top (σ (m + 26) (s)) (by rw [upS_ne (by omega)]) ?_
    refine PW.icmp_gt 75 dX12_findBends_42 (by decide) (by first | assumption | (unfold inR; omega)) (by first | assumption | (unfold inR; omega)) (fun h42 => ?_) (fun h42 => ?_)
    · refine PW.take 3 ?_
      exact hK f g1 (fun b c q3 q4 q5 q6 q7 => g2 b c q3 q4 q5 q6 (by omega))
    · refine PW.aload_n dX12_findBends_45 rfl ?_
      refine PW.getR fl_X12_94 rfl (by assumption) rfl dX12_findBends_46 ?_
      refine PW.iload_n dX12_findBends_49 rfl ?_
      refine PW.iload_n dX12_findBends_50 rfl ?_
      refine PW.bipush (by decide) dX12_findBends_51 ?_
      refine PW.iadd dX12_findBends_53 ?_
      refine PW.iload_n dX12_findBends_54 rfl ?_
      refine PW.bipush (by decide) dX12_findBends_55 ?_
      refine PW.iadd dX12_findBends_57 ?_
      refine PW.callSr (c_X12_bendAt) cs_X12_bendAt lk_X12_377 dX12_findBends_58 rfl rfl rfl ?_
      refine PW.aload_n dX12_findBends_61 rfl ?_
      refine PW.iload_n dX12_findBends_62 rfl ?_
      refine PW.iload_n dX12_findBends_63 rfl ?_
      refine PW.iload_n dX12_findBends_64 rfl ?_
      refine PW.callVr (c_X12_bendFrom hA (by rw [e1, e2]; exact hk) (by rw [e1, e2, e5]; exact g1) hs (by omega) (by rw [e1, e2]; omega)) cv_X12_bendFrom lk_X12_380 (by first | assumption | exact And.left (by assumption)) dX12_findBends_65 rfl rfl rfl rfl ?_
      refine PW.top (drW (σ (m + 25)) (σ (m + 26)) s b0 i) (by rw [e1, e2]) ?_
      have wb := drW_b hk (s := s) (b := b0) (c := i) (by omega) (by omega) (by omega)
      refine PW.iastore (by assumption) (by first | assumption | (unfold inR; omega)) (by omega) (by omega) dX12_findBends_68 ?_
      refine PW.st (upS σ (m + 27) (up1 f (mbF s b0 i) (drW (σ (m + 25)) (σ (m + 26)) s b0 i))) (by rw [upS_upS, upS_same]; rfl) ?_
      refine PW.iinc [(0, _), (1, _), (2, _), (3, _)] dX12_findBends_69 rfl rfl (Nat.le_of_ble_eq_true rfl) ?_
      refine PW.goto 35 dX12_findBends_72 (by decide) ?_
      refine ih (i + 1) _ (by omega) (by omega) (by omega) ?_ ?_
      · intro q b c q1 q2 q3 q4 q5 q6
        have kq := hk q (by omega) (by omega)
        have kr := hk (q - 1) (by omega) (by omega)
        rw [up1_ne (by unfold mbF; omega)]
        exact g1 q b c q1 q2 q3 q4 q5 q6
      · intro b c q3 q4 q5 q6 q7
        by_cases e : b = b0 ∧ c = i
        · rw [e.1, e.2, up1_same]
        · rw [up1_ne (by unfold mbF; omega)]
          exact g2 b c q3 q4 q5 q6 (by omega)
theorem mo_fd_mid {G : GT} {S : Shp} {σ : Sto} {m : Nat} {s : Int} {Q : Option Value → Shp → Sto → Prop} (hA : IsMod S m) (hk : bndOk (σ (m + 25)) (σ (m + 26))) (hs : 1 ≤ s ∧ s ≤ 7) (hK : ∀ f, restM f (σ (m + 25)) (σ (m + 26)) s → PW (fm G mX12_findBends 2 0 0 Q) G S (upS σ (m + 27) f) 0 0 81 [(0, .ref m), (1, .int (iI s))] []) : ∀ (t : Nat) (i : Int) (f : Int → Int), σ (m + 25) (s - 1) ≤ i → i ≤ σ (m + 26) (s - 1) + 1 → σ (m + 26) (s - 1) + 1 - i < t → restM f (σ (m + 25)) (σ (m + 26)) (s + 1) → (∀ b c, σ (m + 25) (s - 1) ≤ b → b ≤ σ (m + 26) (s - 1) → σ (m + 25) s ≤ c → c ≤ σ (m + 26) s → (b < i) → f (mbF s b c) = drW (σ (m + 25)) (σ (m + 26)) s b c) → PW (fm G mX12_findBends 2 0 0 Q) G S (upS σ (m + 27) f) 0 0 16 [(0, .ref m), (1, .int (iI (s))), (2, .int (iI (i)))] [] := by
  obtain ⟨hM0, hM1, hM2, hM3, hM4, hM5, hM6, hM7, hM8, hM9, hM10, hM11, hM12, hM13, hM14, hM15, hM16, hM17, hM18, hM19, hM20, hM21, hM22, hM23, hM24, hM25, hM26, hM27, hM28, hM29, hM30, hM31, hM32, hM33, hM34⟩ := id hA
  have k0 := hk s (by omega) (by omega)
  have k1 := hk (s - 1) (by omega) (by omega)
  intro t
  induction t with
  | zero => intro i f h1 h2 h3 g1 g2; omega
  | succ t ih =>
    intro i f h1 h2 h3 g1 g2
    have e1 : (upS σ (m + 27) f) (m + 25) = σ (m + 25) := upS_ne (by omega)
    have e2 : (upS σ (m + 27) f) (m + 26) = σ (m + 26) := upS_ne (by omega)
    have e5 : (upS σ (m + 27) f) (m + 27) = f := upS_same _ _ _
    refine PW.iload_n dX12_findBends_16 rfl ?_
    refine PW.aload_n dX12_findBends_17 rfl ?_
    refine PW.getR fl_X12_91 rfl (by assumption) rfl dX12_findBends_18 ?_
    refine PW.iload_n dX12_findBends_21 rfl ?_
    refine PW.iconst dX12_findBends_22 ?_
    refine PW.isub dX12_findBends_23 ?_
    refine PW.iaload (by assumption) (by unfold inR; omega) (by omega) (by omega) dX12_findBends_24 ?_
    refine PW.top (σ (m + 26) (s - 1)) (by rw [upS_ne (by omega)]) ?_
    refine PW.icmp_gt 81 dX12_findBends_25 (by decide) (by first | assumption | (unfold inR; omega)) (by first | assumption | (unfold inR; omega)) (fun h25 => ?_) (fun h25 => ?_)
    · refine PW.take 2 ?_
      refine hK f fun q b c q1 q2 q3 q4 q5 q6 => ?_
      by_cases e : q = s
      · subst e
        exact g2 b c q3 q4 q5 q6 (by omega)
      · exact g1 q b c (by omega) q2 q3 q4 q5 q6
    · refine PW.aload_n dX12_findBends_28 rfl ?_
      refine PW.getR fl_X12_88 rfl (by assumption) rfl dX12_findBends_29 ?_
      refine PW.iload_n dX12_findBends_32 rfl ?_
      refine PW.iaload (by assumption) (by unfold inR; omega) (by omega) (by omega) dX12_findBends_33 ?_
      refine PW.top (σ (m + 25) (s)) (by rw [upS_ne (by omega)]) ?_
      refine PW.istore_n [(0, _), (1, _), (2, _), (3, _)] dX12_findBends_34 rfl (Nat.le_of_ble_eq_true rfl) ?_
      refine mo_fd_in hA hk hs (by omega) ?_ 100 _ f (by omega) (by omega) (by omega) g1 (fun b c q3 q4 q5 q6 q7 => g2 b c q3 q4 q5 q6 (by omega))
      intro f' p1 p2
      refine PW.iinc [(0, _), (1, _), (2, _)] dX12_findBends_75 rfl rfl (Nat.le_of_ble_eq_true rfl) ?_
      refine PW.goto 16 dX12_findBends_78 (by decide) ?_
      exact ih (i + 1) f' (by omega) (by omega) (by omega) p1 p2
theorem mo_fd_out {G : GT} {S : Shp} {σ : Sto} {m : Nat} {Q : Option Value → Shp → Sto → Prop} (hA : IsMod S m) (hk : bndOk (σ (m + 25)) (σ (m + 26))) (hQ : ∀ f, restM f (σ (m + 25)) (σ (m + 26)) 1 → Q none S (upS σ (m + 27) f)) : ∀ (t : Nat) (s : Int) (f : Int → Int), 0 ≤ s → s ≤ 7 → s < t → restM f (σ (m + 25)) (σ (m + 26)) (s + 1) → PW (fm G mX12_findBends 2 0 0 Q) G S (upS σ (m + 27) f) 0 0 3 [(0, .ref m), (1, .int (iI (s)))] [] := by
  obtain ⟨hM0, hM1, hM2, hM3, hM4, hM5, hM6, hM7, hM8, hM9, hM10, hM11, hM12, hM13, hM14, hM15, hM16, hM17, hM18, hM19, hM20, hM21, hM22, hM23, hM24, hM25, hM26, hM27, hM28, hM29, hM30, hM31, hM32, hM33, hM34⟩ := id hA
  intro t
  induction t with
  | zero => intro s f h1 h2 h3 g1; omega
  | succ t ih =>
    intro s f h1 h2 h3 g1
    have e1 : (upS σ (m + 27) f) (m + 25) = σ (m + 25) := upS_ne (by omega)
    have e2 : (upS σ (m + 27) f) (m + 26) = σ (m + 26) := upS_ne (by omega)
    have e5 : (upS σ (m + 27) f) (m + 27) = f := upS_same _ _ _
    refine PW.iload_n dX12_findBends_3 rfl ?_
    refine PW.if_le 87 dX12_findBends_4 (by decide) (by first | assumption | (unfold inR; omega)) (fun h4 => ?_) (fun h4 => ?_)
    · exact PW.vret rfl dX12_findBends_87 (hQ f (by rw [show (1 : Int) = s + 1 by omega]; exact g1))
    · have k0 := hk s (by omega) (by omega)
      have k1 := hk (s - 1) (by omega) (by omega)
      refine PW.aload_n dX12_findBends_7 rfl ?_
      refine PW.getR fl_X12_88 rfl (by assumption) rfl dX12_findBends_8 ?_
      refine PW.iload_n dX12_findBends_11 rfl ?_
      refine PW.iconst dX12_findBends_12 ?_
      refine PW.isub dX12_findBends_13 ?_
      refine PW.iaload (by assumption) (by unfold inR; omega) (by omega) (by omega) dX12_findBends_14 ?_
      refine PW.top (σ (m + 25) (s - 1)) (by rw [upS_ne (by omega)]) ?_
      refine PW.istore_n [(0, _), (1, _), (2, _)] dX12_findBends_15 rfl (Nat.le_of_ble_eq_true rfl) ?_
      refine mo_fd_mid hA hk ⟨by omega, by omega⟩ ?_ 100 _ f (by omega) (by omega) (by omega) g1 (fun b c q3 q4 q5 q6 q7 => by omega)
      intro f' p1
      refine PW.iinc [(0, _), (1, _)] dX12_findBends_81 rfl rfl (Nat.le_of_ble_eq_true rfl) ?_
      refine PW.goto 3 dX12_findBends_84 (by decide) ?_
      exact ih (s + -1) f' (by omega) (by omega) (by omega) (by rw [show s + -1 + 1 = s by omega]; exact p1)
theorem c_X12_findBends {G : GT} {S : Shp} {σ : Sto} {m : Nat} (hA : IsMod S m) (hk : bndOk (σ (m + 25)) (σ (m + 26))) : PMet G mX12_findBends 2 0 0 [.ref m] S σ (fun r S' τ => r = none ∧ S' = S ∧ ∃ f : Int → Int, τ = upS σ (m + 27) f ∧ restM f (σ (m + 25)) (σ (m + 26)) 1) := by
  obtain ⟨hM0, hM1, hM2, hM3, hM4, hM5, hM6, hM7, hM8, hM9, hM10, hM11, hM12, hM13, hM14, hM15, hM16, hM17, hM18, hM19, hM20, hM21, hM22, hM23, hM24, hM25, hM26, hM27, hM28, hM29, hM30, hM31, hM32, hM33, hM34⟩ := id hA
  refine PMet.of [(0, .ref m)] (by decide +kernel) rfl (Nat.le_of_ble_eq_true rfl) ?_
  refine PW.bipush (by decide) dX12_findBends_0 ?_
  refine PW.istore_n [(0, _), (1, _)] dX12_findBends_2 rfl (Nat.le_of_ble_eq_true rfl) ?_
  refine PW.st (upS σ (m + 27) (σ (m + 27))) (upS_self _ _).symm ?_
  exact mo_fd_out hA hk (fun f h => ⟨rfl, rfl, f, rfl, h⟩) 8 _ _ (by omega) (by omega) (by omega) (fun q b c q1 q2 => by omega)

/-! shifts -/
section
variable {F : Nat} {σ τ : kS}
theorem jI_jI (τ : kS) (k : Nat) (a b : Int32) : jI (jI τ k a) k b = jI τ k b := by
  unfold jI
  show (va_up (va_up τ.1 k a) k b, τ.2) = (va_up τ.1 k b, τ.2)
  rw [bx_uu]
theorem kI_jI (τ : kS) (k : Nat) (a : Int32) : kI (jI τ k a) k = a := by
  show (if k = k then a else _) = a
  rw [if_pos rfl]
/-- the better of two shifts -/
noncomputable def bS (σ : kS) (l : Nat) (b d : Int32) : Int32 := @ite Int32 (cS σ d.toInt l ≤ cS σ b.toInt l) (Nat.decLe _ _) b d
theorem p_shift_step {l : Nat} (hF : 200000 ≤ F) (h : cPl σ) (hT : rTab l σ τ) (rc : kS × Int32 × Int32 × Int32 → Option (Int32 × kS)) (f : Nat) (b d g : Int32) (hd : -30 ≤ d.toInt) (hd2 : d.toInt ≤ 30) (hg : ¬ g < d) : itr (fun rec20 q => s_X6_bestShift_20 F rc rec20 q.1 q.2.1 q.2.2.1 q.2.2.2.1 q.2.2.2.2) (f + 1) (σ, b, nI (cS σ b.toInt l), g, d) = itr (fun rec20 q => s_X6_bestShift_20 F rc rec20 q.1 q.2.1 q.2.2.1 q.2.2.2.1 q.2.2.2.2) f (σ, bS σ l b d, nI (cS σ (bS σ l b d).toInt l), g, d + 2 * g) := by
  have hl := hT.2.2.1
  have e0 : itr (fun rec20 q => s_X6_bestShift_20 F rc rec20 q.1 q.2.1 q.2.2.1 q.2.2.2.1 q.2.2.2.2) (f + 1) (σ, b, nI (cS σ b.toInt l), g, d) = s_X6_bestShift_20 F rc (itr (fun rec20 q => s_X6_bestShift_20 F rc rec20 q.1 q.2.1 q.2.2.1 q.2.2.2.1 q.2.2.2.2) f) σ b (nI (cS σ b.toInt l)) g d := rfl
  rw [e0]
  unfold s_X6_bestShift_20 s_X6_bestShift_46
  have c1 := cS_le (σ := σ) d.toInt l
  have c2 := cS_le (σ := σ) b.toInt l
  have hle := nI_leI (a := cS σ d.toInt l) (b := cS σ b.toInt l) (by omega) (by omega)
  rw [if_neg hg, kb_eq (p_linesSo hF h hT d hd hd2), kn_eq, kn_eq]
  unfold bS
  by_cases c : cS σ d.toInt l ≤ cS σ b.toInt l
  · rw [if_pos (hle.mpr c), if_pos c]
  · rw [if_neg (fun q => c (hle.mp q)), if_neg c]
theorem p8_shift_step {l : Nat} (hF : 200000 ≤ F) (h : cPl σ) (hm : mPl σ τ) (hT : rTab l σ τ) (rm : kS × Int32 × Int32 × Int32 → Option (Int32 × kS)) (f : Nat) (x b d g wy : Int32) (hd : -30 ≤ d.toInt) (hd2 : d.toInt ≤ 30) (hw : ¬ (2 : Int32) ≤ wy) (hwd : wy * g = d) : itr (fun rec34 q => s_X8_shift_34 F rm rec34 q.1 q.2.1 q.2.2.1 q.2.2.2.1 q.2.2.2.2) (f + 1) (jI τ 6 b, x, nI (cS σ b.toInt l), g, wy) = itr (fun rec34 q => s_X8_shift_34 F rm rec34 q.1 q.2.1 q.2.2.1 q.2.2.2.1 q.2.2.2.2) f (jI τ 6 (bS σ l b d), x, nI (cS σ (bS σ l b d).toInt l), g, wy + 2) := by
  have hl := hT.2.2.1
  have e0 : itr (fun rec34 q => s_X8_shift_34 F rm rec34 q.1 q.2.1 q.2.2.1 q.2.2.2.1 q.2.2.2.2) (f + 1) (jI τ 6 b, x, nI (cS σ b.toInt l), g, wy) = s_X8_shift_34 F rm (itr (fun rec34 q => s_X8_shift_34 F rm rec34 q.1 q.2.1 q.2.2.1 q.2.2.2.1 q.2.2.2.2) f) (jI τ 6 b) x (nI (cS σ b.toInt l)) g wy := rfl
  rw [e0]
  generalize itr (fun rec34 q => s_X8_shift_34 F rm rec34 q.1 q.2.1 q.2.2.1 q.2.2.2.1 q.2.2.2.2) f = R
  unfold s_X8_shift_34 s_X8_shift_68 s_X8_shift_83
  have c1 := cS_le (σ := σ) d.toInt l
  have c2 := cS_le (σ := σ) b.toInt l
  have hle := nI_leI (a := cS σ d.toInt l) (b := cS σ b.toInt l) (by omega) (by omega)
  have hm' : mPl σ (jI τ 6 b) := hm
  have hT' : rTab l σ (jI τ 6 b) := hT
  rw [if_neg hw, hwd, kb_eq (p8_so hF h hm' hT' d hd hd2), kI_jI, jI_jI, jI_jI]
  unfold bS
  by_cases c : cS σ d.toInt l ≤ cS σ b.toInt l
  · rw [if_pos (hle.mpr c), if_pos (hle.mpr c), if_pos c]
  · rw [if_neg (fun q => c (hle.mp q)), if_neg (fun q => c (hle.mp q)), if_neg c]
theorem bS_b {l : Nat} {b d : Int32} (h1 : -30 ≤ b.toInt ∧ b.toInt ≤ 30) (h2 : -30 ≤ d.toInt ∧ d.toInt ≤ 30) : -30 ≤ (bS σ l b d).toInt ∧ (bS σ l b d).toInt ≤ 30 := by
  unfold bS
  by_cases c : cS σ d.toInt l ≤ cS σ b.toInt l
  · rw [if_pos c]; exact h1
  · rw [if_neg c]; exact h2
theorem q_shift_loop {l : Nat} (hF : 200000 ≤ F) (h : cPl σ) (hm : mPl σ τ) (hT : rTab l σ τ) (x : Int32) (hx : x = 0 ∨ x = 1) : ∀ (f g : Nat) (b : Int32), 1 ≤ g → g ≤ 31 → 31 - g < f → -30 ≤ b.toInt ∧ b.toInt ≤ 30 → ∃ b2 : Int32, (-30 ≤ b2.toInt ∧ b2.toInt ≤ 30) ∧ itr (fun rec10 q => s_X6_bestShift_10 F rec10 q.1 q.2.1 q.2.2.1 q.2.2.2) f (σ, b, nI (cS σ b.toInt l), nI g) = some (b2, σ) ∧ itr (fun rec25 q => s_X8_shift_25 F rec25 q.1 q.2.1 q.2.2.1 q.2.2.2) f (jI τ 6 b, x, nI (cS σ b.toInt l), nI g) = some ((if x = 0 then nI (cS σ b2.toInt l) else b2 + 30), jI τ 6 b2) := by
  intro f
  induction f with
  | zero => intro g b _ _ h; omega
  | succ f ih =>
    intro g b hg1 hg hf hb
    show ∃ b2 : Int32, (-30 ≤ b2.toInt ∧ b2.toInt ≤ 30) ∧ s_X6_bestShift_10 F (itr (fun rec10 q => s_X6_bestShift_10 F rec10 q.1 q.2.1 q.2.2.1 q.2.2.2) f) σ b (nI (cS σ b.toInt l)) (nI g) = some (b2, σ) ∧ s_X8_shift_25 F (itr (fun rec25 q => s_X8_shift_25 F rec25 q.1 q.2.1 q.2.2.1 q.2.2.2) f) (jI τ 6 b) x (nI (cS σ b.toInt l)) (nI g) = some ((if x = 0 then nI (cS σ b2.toInt l) else b2 + 30), jI τ 6 b2)
    generalize hRc : itr (fun rec10 q => s_X6_bestShift_10 F rec10 q.1 q.2.1 q.2.2.1 q.2.2.2) f = Rc at ih ⊢
    generalize hRm : itr (fun rec25 q => s_X8_shift_25 F rec25 q.1 q.2.1 q.2.2.1 q.2.2.2) f = Rm at ih ⊢
    unfold s_X6_bestShift_10 s_X8_shift_25
    have hlt : (30 : Int32) < nI g ↔ 30 < g := nI_ltI (a := 30) (b := g) (by omega) (by omega)
    by_cases c : 30 < g
    · rw [if_pos (hlt.mpr c), if_pos (hlt.mpr c), kI_jI]
      refine ⟨b, hb, rfl, ?_⟩
      rcases hx with rfl | rfl
      · rw [if_pos k00, if_pos k00]
      · rw [if_neg k10, if_neg k10]
    · rw [if_neg (fun q => c (hlt.mp q)), if_neg (fun q => c (hlt.mp q))]
      unfold f_X6_bestShift_20 f_X8_shift_34
      have hgt : (nI g).toInt = g := nI_toInt (by omega)
      have d1 : (-nI g).toInt = -(g : Int) := by rw [fb_negI (by omega), hgt]
      have z2 : (2 : Int32).toInt = 2 := rfl
      have t2 : ((2 : Int32) * nI g).toInt = 2 * g := by rw [fb_mulI (by rw [z2]; omega) (by rw [z2]; omega), hgt, z2]
      have e2 : -nI g + 2 * nI g = nI g := by rw [fa_eq, fb_addI (by omega) (by omega), d1, t2, hgt]; omega
      have t3 : (nI g + 2 * nI g).toInt = 3 * g := by rw [fb_addI (by omega) (by omega), hgt, t2]; omega
      have w1 : (-1 : Int32) * nI g = -nI g := by
        have zm : (-1 : Int32).toInt = -1 := rfl
        rw [fa_eq, fb_mulI (by rw [zm]; omega) (by rw [zm]; omega), d1, hgt, zm]; omega
      have w2 : (1 : Int32) * nI g = nI g := Int32.one_mul _
      have wy : (-1 : Int32) + 2 = 1 := by decide
      have wz : (1 : Int32) + 2 = 3 := by decide
      have hb1 := bS_b (σ := σ) (l := l) (d := -nI g) hb (by omega)
      have hb2 := bS_b (σ := σ) (l := l) (d := nI g) hb1 (by omega)
      obtain ⟨k, hk⟩ : ∃ k, F = k + 1 + 1 + 1 := ⟨F - 3, by omega⟩
      have sc : itr (fun rec20 q => s_X6_bestShift_20 F Rc rec20 q.1 q.2.1 q.2.2.1 q.2.2.2.1 q.2.2.2.2) (k + 1 + 1 + 1) (σ, b, nI (cS σ b.toInt l), nI g, -nI g) = Rc (σ, bS σ l (bS σ l b (-nI g)) (nI g), nI (cS σ (bS σ l (bS σ l b (-nI g)) (nI g)).toInt l), nI g + 1) := by
        rw [p_shift_step hF h hT Rc _ b (-nI g) (nI g) (by omega) (by omega) (by rw [fa_lt]; omega), e2, p_shift_step hF h hT Rc _ _ (nI g) (nI g) (by omega) (by omega) (by rw [fa_lt]; omega)]
        show s_X6_bestShift_20 F Rc _ σ _ _ (nI g) (nI g + 2 * nI g) = _
        unfold s_X6_bestShift_20
        rw [if_pos (by rw [fa_lt]; omega)]
      have sm : itr (fun rec34 q => s_X8_shift_34 F Rm rec34 q.1 q.2.1 q.2.2.1 q.2.2.2.1 q.2.2.2.2) (k + 1 + 1 + 1) (jI τ 6 b, x, nI (cS σ b.toInt l), nI g, -1) = Rm (jI τ 6 (bS σ l (bS σ l b (-nI g)) (nI g)), x, nI (cS σ (bS σ l (bS σ l b (-nI g)) (nI g)).toInt l), nI g + 1) := by
        rw [p8_shift_step hF h hm hT Rm _ x b (-nI g) (nI g) (-1) (by omega) (by omega) (by decide) w1, wy, p8_shift_step hF h hm hT Rm _ x _ (nI g) (nI g) 1 (by omega) (by omega) (by decide) w2, wz]
        show s_X8_shift_34 F Rm _ _ x _ (nI g) 3 = _
        unfold s_X8_shift_34
        rw [if_pos (by decide)]
      have fc : itr (fun rec20 q => s_X6_bestShift_20 F Rc rec20 q.1 q.2.1 q.2.2.1 q.2.2.2.1 q.2.2.2.2) F (σ, b, nI (cS σ b.toInt l), nI g, -nI g) = Rc (σ, bS σ l (bS σ l b (-nI g)) (nI g), nI (cS σ (bS σ l (bS σ l b (-nI g)) (nI g)).toInt l), nI g + 1) := by
        rw [← sc]; congr 1
      have fmm : itr (fun rec34 q => s_X8_shift_34 F Rm rec34 q.1 q.2.1 q.2.2.1 q.2.2.2.1 q.2.2.2.2) F (jI τ 6 b, x, nI (cS σ b.toInt l), nI g, -1) = Rm (jI τ 6 (bS σ l (bS σ l b (-nI g)) (nI g)), x, nI (cS σ (bS σ l (bS σ l b (-nI g)) (nI g)).toInt l), nI g + 1) := by
        rw [← sm]; congr 1
      rw [fc, fmm, nI_1]
      exact ih (g + 1) _ (by omega) (by omega) (by omega) hb2
theorem q_shift {l : Nat} (hF : 200000 ≤ F) (h : cPl σ) (hm : mPl σ τ) (hT : rTab l σ τ) (x : Int32) : ∃ v τ', f_X7_shift F σ x = some (v, σ) ∧ f_X8_shift F τ x = some (v, τ') ∧ (τ' = τ ∨ ∃ y, τ' = jI τ 6 y) := by
  unfold f_X7_shift s_X7_shift_0 f_X8_shift s_X8_shift_0
  have e2 := p8_inI (F := F) (τ := τ) x 0 1 0 1 rfl rfl
  have a0 := fa_lt x 0
  have a2 := fa_le x 1
  have z0 : (0 : Int32).toInt = 0 := rfl
  have z1 : (1 : Int32).toInt = 1 := rfl
  rw [z0] at a0
  rw [z1] at a2
  by_cases c : x.toInt < 0
  · rw [if_pos (a0.mpr c), kb_eq (e2.2 (by omega)), if_pos k00]
    exact ⟨_, _, rfl, rfl, Or.inl rfl⟩
  · rw [if_neg (fun q => c (a0.mp q))]
    by_cases d : x.toInt ≤ 1
    · rw [if_pos (a2.mpr d), kb_eq (e2.1 (by omega)), if_neg k10, kb_eq (p8_so hF h hm hT 0 (by omega) (by omega))]
      have hx : x = 0 ∨ x = 1 := by
        obtain ⟨k, hk, rfl⟩ := k_kg x (by omega)
        rcases (show k = 0 ∨ k = 1 by omega) with rfl | rfl
        · exact Or.inl rfl
        · exact Or.inr rfl
      obtain ⟨b2, hb2, v1, v2⟩ := q_shift_loop (F := F) hF h hm hT x hx F 1 0 (by omega) (by omega) (by omega) (by omega)
      have f1 : f_X6_bestShift F σ = some (b2, σ) := by
        unfold f_X6_bestShift s_X6_bestShift_0
        rw [kb_eq (p_linesSo hF h hT 0 (by omega) (by omega))]
        exact v1
      rw [kb_eq f1]
      refine ⟨_, _, ?_, v2, Or.inr ⟨b2, rfl⟩⟩
      rcases hx with rfl | rfl
      · rw [if_pos k00, if_pos k00, kb_eq (p_linesSo hF h hT b2 hb2.1 hb2.2)]
      · rw [if_neg k10, if_neg k10]
    · rw [if_neg (fun q => d (a2.mp q)), kb_eq (e2.2 (by omega)), if_pos k00]
      exact ⟨_, _, rfl, rfl, Or.inl rfl⟩
end

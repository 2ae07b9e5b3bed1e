/-! who rules: class and reference -/
theorem k_32_64 (x : Int32) : x.toInt64.toInt = x.toInt := Int32.toInt_toInt64 x
section
variable {F : Nat} {σ : kS}
theorem p_partsBehindBegin (h : cPl σ) (m : Int64) (h1 : -10000000 ≤ m.toInt) (h2 : m.toInt ≤ 10000000000000) : ∃ v : Int64, f_X2_partsBehindBegin F σ m (kI σ 15) = some (v, σ) ∧ v.toInt = cX σ m.toInt := by
  obtain ⟨p1, e1, g1⟩ := p_partsOfMinute (F := F) h
  obtain ⟨p2, e2, g2⟩ := p_partsOfTide (F := F) h
  have hb := cPl_b h
  obtain ⟨-, -, -, -, -, ⟨o1, o2⟩, ⟨s1, s2⟩, ⟨y1, y2⟩⟩ := h
  unfold f_X2_partsBehindBegin s_X2_partsBehindBegin_0
  rw [kn_eq]
  rw [kb_eq e1, kb_eq e2]
  have hm := mulb s1 s2 y1 y2
  have a1 : ((kI σ 13).toInt64 * (kI σ 15).toInt64).toInt = (kI σ 13).toInt * (kI σ 15).toInt := by
    rw [fb_mulL (by rw [k_32_64, k_32_64]; omega) (by rw [k_32_64, k_32_64]; omega), k_32_64, k_32_64]
  have a2 : (m - (kI σ 12).toInt64).toInt = m.toInt - (kI σ 12).toInt := by
    rw [fb_subL (by rw [k_32_64]; omega) (by rw [k_32_64]; omega), k_32_64]
  have a3 : (m - (kI σ 12).toInt64 - (kI σ 13).toInt64 * (kI σ 15).toInt64).toInt = m.toInt - (kI σ 12).toInt - (kI σ 13).toInt * (kI σ 15).toInt := by
    rw [fb_subL (by rw [a1, a2]; omega) (by rw [a1, a2]; omega), a1, a2]
  generalize m - (kI σ 12).toInt64 - (kI σ 13).toInt64 * (kI σ 15).toInt64 = x at a3 ⊢
  have hx := muls (a := x.toInt) (b := cPt σ) (A := 10000010000000) (B := 400) (by omega) (by omega) (by omega) (by omega)
  have a4 : (x * p1.toInt64).toInt = x.toInt * cPt σ := by
    rw [fb_mulL (by rw [k_32_64, g1]; omega) (by rw [k_32_64, g1]; omega), k_32_64, g1]
  obtain ⟨r, e3, g3⟩ := p_floorMod (F := F) (σ := σ) (x * p1.toInt64) p2.toInt64 (by rw [k_32_64, g2]; omega)
  rw [kb_eq e3]
  refine ⟨r, rfl, ?_⟩
  unfold cX
  rw [g3, a4, a3, k_32_64, g2]
theorem cX_b (h : cPl σ) (z : Int) : 0 ≤ cX σ z ∧ cX σ z < cTd σ := by
  have hb := cPl_b h
  exact ⟨Int.emod_nonneg _ (by omega), Int.emod_lt_of_pos _ (by omega)⟩
theorem p_rulerAtParts (h : cPl σ) (x : Int64) (h1 : 0 ≤ x.toInt) (h2 : x.toInt < cTd σ) : f_X1_rulerAtParts F σ x = some (cRp σ x.toInt, σ) := by
  obtain ⟨p1, e1, g1⟩ := p_partsOfMinute (F := F) h
  obtain ⟨p2, e2, g2⟩ := p_partsOfTide (F := F) h
  obtain ⟨p3, e3, g3⟩ := p_partsOfHigh (F := F) h
  have hb := cPl_b h
  unfold f_X1_rulerAtParts s_X1_rulerAtParts_0 s_X1_rulerAtParts_58
  rw [kb_eq e1, kb_eq e3]
  have hz : (0 : Int64).toInt = 0 := rfl
  have a1 : (x + p1.toInt64).toInt = x.toInt + cPt σ := by
    rw [fb_addL (by rw [k_32_64, g1]; omega) (by rw [k_32_64, g1]; omega), k_32_64, g1]
  unfold cRp
  by_cases c1 : x.toInt = 0
  · rw [if_pos ((lg_0 x 0).mpr c1), if_pos (Or.inl c1)]
  · rw [if_neg (fun q => c1 ((lg_0 x 0).mp q)), kb_eq e2]
    by_cases c2 : x.toInt + cPt σ ≤ cTd σ
    · rw [if_pos ((lg_le _ _).mpr (by rw [a1, k_32_64, g2]; exact c2))]
      by_cases c3 : cHi σ < x.toInt
      · rw [if_pos ((lg_gt _ _).mpr (by rw [k_32_64, g3]; exact c3)), if_pos ((lg_ge _ _).mpr (by rw [k_32_64, g3]; omega)), if_neg (by omega), if_neg (by omega)]
      · rw [if_neg (fun q => c3 (by have := (lg_gt _ _).mp q; rw [k_32_64, g3] at this; exact this))]
        by_cases c4 : x.toInt + cPt σ ≤ cHi σ
        · rw [if_pos ((lg_ge _ _).mpr (by rw [a1, k_32_64, g3]; exact c4)), if_neg (fun q => by have := (lg_ge _ _).mp q; rw [k_32_64, g3] at this; omega), if_neg (by omega), if_pos (by omega)]
        · rw [if_neg (fun q => c4 (by have := (lg_ge _ _).mp q; rw [a1, k_32_64, g3] at this; exact this)), if_pos (by omega)]
    · rw [if_neg (fun q => c2 (by have := (lg_le _ _).mp q; rw [a1, k_32_64, g2] at this; exact this)), if_pos (by omega)]
theorem p_rulerAt (h : cPl σ) (m : Int64) (h1 : -10000000 ≤ m.toInt) (h2 : m.toInt ≤ 10000000000000) : f_X1_rulerAt F σ m = some (cR σ m.toInt, σ) := by
  obtain ⟨v, e1, g1⟩ := p_partsBehindBegin (F := F) h m h1 h2
  have hb := cX_b h m.toInt
  unfold f_X1_rulerAt s_X1_rulerAt_0
  rw [kb_eq e1, kb_eq (p_rulerAtParts (F := F) h v (by omega) (by omega)), g1]
  rfl
/-- the reference has the same plan and year -/
def mPl (σ τ : kS) : Prop := kA τ 1 0 = kI σ 8 ∧ kA τ 1 1 = kI σ 9 ∧ kA τ 1 2 = kI σ 10 ∧ kA τ 1 3 = kI σ 11 ∧ kA τ 1 4 = kI σ 12 ∧ kA τ 1 5 = kI σ 13 ∧ (kB τ 0 1).toInt = (kI σ 15).toInt
theorem p8_ruler {τ : kS} (h : cPl σ) (hm : mPl σ τ) (m : Int64) (h1 : -10000000 ≤ m.toInt) (h2 : m.toInt ≤ 10000000000000) : f_X8_ruler F τ m = some (cR σ m.toInt, τ) := by
  have hb := cPl_b h
  have hxb := cX_b h m.toInt
  obtain ⟨-, -, -, -, -, ⟨o1, o2⟩, ⟨s1, s2⟩, ⟨y1, y2⟩⟩ := h
  obtain ⟨n0, n1, n2, n3, n4, n5, n6⟩ := hm
  unfold f_X8_ruler s_X8_ruler_0 kn
  dsimp only
  rw [n0, n1, n2, n3, n4, n5]
  have q1 : ((kI σ 9 * kI σ 11).toInt64).toInt = cPt σ := by rw [k_32_64]; exact fb_mulI (by show _ ≤ cPt σ; omega) (by show cPt σ < _; omega)
  have q2 : ((kI σ 8 * kI σ 11).toInt64).toInt = cTd σ := by rw [k_32_64]; exact fb_mulI (by show _ ≤ cTd σ; omega) (by show cTd σ < _; omega)
  have q3 : ((kI σ 8 * kI σ 10).toInt64).toInt = cHi σ := by rw [k_32_64]; exact fb_mulI (by show _ ≤ cHi σ; omega) (by show cHi σ < _; omega)
  generalize (kI σ 9 * kI σ 11).toInt64 = p1 at q1 ⊢
  generalize (kI σ 8 * kI σ 11).toInt64 = p2 at q2 ⊢
  generalize (kI σ 8 * kI σ 10).toInt64 = p3 at q3 ⊢
  have hp2 : ¬ p2 = 0 := fun e => by rw [e] at q2; have : (0 : Int64).toInt = 0 := rfl; omega
  rw [if_neg hp2]
  have hmm := mulb s1 s2 y1 y2
  have a1 : ((kI σ 13).toInt64 * kB τ 0 1).toInt = (kI σ 13).toInt * (kI σ 15).toInt := by
    rw [fb_mulL (by rw [k_32_64, n6]; omega) (by rw [k_32_64, n6]; omega), k_32_64, n6]
  have a2 : (m - (kI σ 12).toInt64).toInt = m.toInt - (kI σ 12).toInt := by
    rw [fb_subL (by rw [k_32_64]; omega) (by rw [k_32_64]; omega), k_32_64]
  have a3 : (m - (kI σ 12).toInt64 - (kI σ 13).toInt64 * kB τ 0 1).toInt = m.toInt - (kI σ 12).toInt - (kI σ 13).toInt * (kI σ 15).toInt := by
    rw [fb_subL (by rw [a1, a2]; omega) (by rw [a1, a2]; omega), a1, a2]
  generalize m - (kI σ 12).toInt64 - (kI σ 13).toInt64 * kB τ 0 1 = x at a3 ⊢
  have hx := muls (a := x.toInt) (b := cPt σ) (A := 10000010000000) (B := 400) (by omega) (by omega) (by omega) (by omega)
  have a4 : (x * p1).toInt = x.toInt * cPt σ := by rw [fb_mulL (by rw [q1]; omega) (by rw [q1]; omega), q1]
  generalize x * p1 = w at a4 ⊢
  have er := Kit.i64_rem w p2
  generalize w - w / p2 * p2 = r at er ⊢
  obtain ⟨m1, m2⟩ := tm_em w.toInt p2.toInt (by omega)
  have t1 := tmod_bounds (a := w.toInt) (M := p2.toInt) (by omega)
  have hcx : cX σ m.toInt = w.toInt % p2.toInt := by rw [a4, a3, q2]; rfl
  have fin : ∀ y : Int64, y.toInt = cX σ m.toInt → s_X8_ruler_95 F τ p1 p2 p3 y = some (cR σ m.toInt, τ) := by
    intro y hy
    unfold s_X8_ruler_95 s_X8_ruler_134 cR cRp
    rw [← hy] at hxb ⊢
    have b1 : (p2 - y).toInt = cTd σ - y.toInt := by rw [fb_subL (by omega) (by omega), q2]
    have b2 : (p3 - y).toInt = cHi σ - y.toInt := by rw [fb_subL (by omega) (by omega), q3]
    have hz : (0 : Int64).toInt = 0 := rfl
    by_cases c1 : y.toInt = 0
    · rw [if_pos ((lg_0 y 0).mpr c1), if_pos (Or.inl c1)]
    · rw [if_neg (fun q => c1 ((lg_0 y 0).mp q))]
      by_cases c2 : cTd σ < y.toInt + cPt σ
      · rw [if_pos ((lg_lt _ _).mpr (by rw [b1, q1]; omega)), if_pos (Or.inr (Or.inl c2))]
      · rw [if_neg (fun q => c2 (by have := (lg_lt _ _).mp q; rw [b1, q1] at this; omega))]
        by_cases c3 : cHi σ < y.toInt
        · rw [if_pos ((lg_gt _ _).mpr (by rw [q3]; exact c3)), if_pos ((lg_ge _ _).mpr (by rw [q3]; omega)), if_neg (by omega), if_neg (by omega)]
        · rw [if_neg (fun q => c3 (by have := (lg_gt _ _).mp q; rw [q3] at this; exact this))]
          by_cases c4 : y.toInt + cPt σ ≤ cHi σ
          · rw [if_pos ((lg_ge _ _).mpr (by rw [b2, q1]; omega)), if_neg (fun q => by have := (lg_ge _ _).mp q; rw [q3] at this; omega), if_neg (by omega), if_pos (by omega)]
          · rw [if_neg (fun q => c4 (by have := (lg_ge _ _).mp q; rw [b2, q1] at this; omega)), if_pos (by omega)]
  by_cases hr : 0 ≤ r.toInt
  · rw [if_pos ((lg_ge r 0).mpr hr)]
    exact fin r (by rw [hcx, m1 (by omega), er])
  · rw [if_neg (fun q => hr ((lg_ge r 0).mp q))]
    exact fin (r + p2) (by rw [fb_addL (by omega) (by omega), hcx, m2 (by omega), er])
end

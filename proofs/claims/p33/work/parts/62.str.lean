/-! stretches of one ruler -/
section
variable {σ : kS}
theorem cX_add (h : cPl σ) (z : Int) (k : Nat) : cX σ (z + k) = (cX σ z + k * cPt σ) % cTd σ := by
  unfold cX
  rw [Int.emod_add_emod]
  congr 1
  rw [show z + (k : Int) - (kI σ 12).toInt - (kI σ 13).toInt * (kI σ 15).toInt = (z - (kI σ 12).toInt - (kI σ 13).toInt * (kI σ 15).toInt) + k by omega, Int.add_mul]
/-- how many minutes from z on have one ruler; 1 for the turn -/
def cSt (σ : kS) (z : Int) : Int := if cR σ z = 2 then 1 else if cR σ z = 0 then (cHi σ - cX σ z) / cPt σ else (cTd σ - cX σ z) / cPt σ
theorem cR_2 {z : Int} : cR σ z = 2 ↔ (cX σ z = 0 ∨ cTd σ < cX σ z + cPt σ ∨ (cX σ z ≤ cHi σ ∧ cHi σ < cX σ z + cPt σ)) := by
  unfold cR cRp
  by_cases c : cX σ z = 0 ∨ cTd σ < cX σ z + cPt σ ∨ (cX σ z ≤ cHi σ ∧ cHi σ < cX σ z + cPt σ)
  · rw [if_pos c]; exact ⟨fun _ => c, fun _ => rfl⟩
  · rw [if_neg c]
    refine ⟨fun q => ?_, fun q => absurd q c⟩
    by_cases d : cX σ z < cHi σ
    · rw [if_pos d] at q; exact absurd q (by decide)
    · rw [if_neg d] at q; exact absurd q (by decide)
theorem cR_0 {z : Int} : cR σ z = 0 ↔ (¬ cR σ z = 2 ∧ cX σ z < cHi σ) := by
  have h2 := cR_2 (σ := σ) (z := z)
  unfold cR cRp at *
  by_cases c : cX σ z = 0 ∨ cTd σ < cX σ z + cPt σ ∨ (cX σ z ≤ cHi σ ∧ cHi σ < cX σ z + cPt σ)
  · rw [if_pos c]
    exact ⟨fun q => absurd q (by decide), fun q => absurd rfl q.1⟩
  · rw [if_neg c]
    by_cases d : cX σ z < cHi σ
    · rw [if_pos d]; exact ⟨fun _ => ⟨by decide, d⟩, fun _ => rfl⟩
    · rw [if_neg d]; exact ⟨fun q => absurd q (by decide), fun q => absurd q.2 d⟩
theorem cR_1 {z : Int} : cR σ z = 1 ↔ (¬ cR σ z = 2 ∧ ¬ cX σ z < cHi σ) := by
  have h2 := cR_2 (σ := σ) (z := z)
  unfold cR cRp at *
  by_cases c : cX σ z = 0 ∨ cTd σ < cX σ z + cPt σ ∨ (cX σ z ≤ cHi σ ∧ cHi σ < cX σ z + cPt σ)
  · rw [if_pos c]
    exact ⟨fun q => absurd q (by decide), fun q => absurd rfl q.1⟩
  · rw [if_neg c]
    by_cases d : cX σ z < cHi σ
    · rw [if_pos d]; exact ⟨fun q => absurd q (by decide), fun q => absurd d q.2⟩
    · rw [if_neg d]; exact ⟨fun _ => ⟨by decide, d⟩, fun _ => rfl⟩
theorem cR_cases (z : Int) : cR σ z = 0 ∨ cR σ z = 1 ∨ cR σ z = 2 := by
  by_cases a : cR σ z = 2
  · exact Or.inr (Or.inr a)
  · by_cases d : cX σ z < cHi σ
    · exact Or.inl (cR_0.mpr ⟨a, d⟩)
    · exact Or.inr (Or.inl (cR_1.mpr ⟨a, d⟩))
/-- inside a stretch up to e (high or tide), k parts on -/
theorem cSt_in (h : cPl σ) {z e : Int} (k : Nat) (h0 : 0 < cX σ z) (he : e ≤ cTd σ) (hk : cX σ z + k * cPt σ + cPt σ ≤ e) : cX σ (z + k) = cX σ z + k * cPt σ := by
  have hb := cPl_b h
  have hp : 0 ≤ (k : Int) * cPt σ := Int.mul_nonneg (by omega) (by omega)
  rw [cX_add h, Int.emod_eq_of_lt (by omega) (by omega)]
theorem divb {a p : Int} (hp : 0 < p) : a / p * p ≤ a ∧ a < a / p * p + p := by
  have h1 := Int.mul_ediv_add_emod a p
  have h2 := Int.emod_nonneg a (show p ≠ 0 by omega)
  have h3 := Int.emod_lt_of_pos a hp
  have h4 : p * (a / p) = a / p * p := Int.mul_comm _ _
  omega
theorem cSt_same (h : cPl σ) (z : Int) (k : Nat) (hk : (k : Int) < cSt σ z) : cR σ (z + k) = cR σ z := by
  have hb := cPl_b h
  have hx := cX_b h z
  unfold cSt at hk
  by_cases c2 : cR σ z = 2
  · rw [if_pos c2] at hk
    have : k = 0 := by omega
    subst this
    simp
  · rw [if_neg c2] at hk
    have n2 : ¬ (cX σ z = 0 ∨ cTd σ < cX σ z + cPt σ ∨ (cX σ z ≤ cHi σ ∧ cHi σ < cX σ z + cPt σ)) := fun q => c2 (cR_2.mpr q)
    have x0 : 0 < cX σ z := by
      rcases Int.lt_or_le 0 (cX σ z) with q | q
      · exact q
      · exact absurd (Or.inl (by omega)) n2
    have hkm : ∀ e : Int, (k : Int) < e / cPt σ → k * cPt σ + cPt σ ≤ e := by
      intro e he
      have d := divb (a := e) (p := cPt σ) (by omega)
      have : ((k : Int) + 1) * cPt σ ≤ e / cPt σ * cPt σ := Int.mul_le_mul_of_nonneg_right (by omega) (by omega)
      rw [Int.add_mul, Int.one_mul] at this
      omega
    have hp : 0 ≤ (k : Int) * cPt σ := Int.mul_nonneg (by omega) (by omega)
    by_cases c0 : cR σ z = 0
    · rw [if_pos c0] at hk
      have hh := hkm _ hk
      have hlt := (cR_0.mp c0).2
      have e1 := cSt_in h (z := z) (e := cHi σ) k x0 (by omega) (by omega)
      rw [c0, cR_0, cR_2, e1]
      omega
    · rw [if_neg c0] at hk
      have c1 : cR σ z = 1 := by rcases cR_cases (σ := σ) z with q | q | q <;> first | exact q | exact absurd q c0 | exact absurd q c2
      have hh := hkm _ hk
      have hlt := (cR_1.mp c1).2
      have e1 := cSt_in h (z := z) (e := cTd σ) k x0 (by omega) (by omega)
      rw [c1, cR_1, cR_2, e1]
      omega
theorem cSt_pos (h : cPl σ) (z : Int) : 1 ≤ cSt σ z ∧ cSt σ z ≤ 19980 := by
  have hb := cPl_b h
  have hx := cX_b h z
  unfold cSt
  by_cases c2 : cR σ z = 2
  · rw [if_pos c2]; omega
  · rw [if_neg c2]
    have n2 : ¬ (cX σ z = 0 ∨ cTd σ < cX σ z + cPt σ ∨ (cX σ z ≤ cHi σ ∧ cHi σ < cX σ z + cPt σ)) := fun q => c2 (cR_2.mpr q)
    have dv : ∀ e : Int, cPt σ ≤ e → e ≤ 19980 → 1 ≤ e / cPt σ ∧ e / cPt σ ≤ 19980 := by
      intro e h1 h2
      refine ⟨Int.le_ediv_of_mul_le (by omega) (by omega), ?_⟩
      have := Int.ediv_le_self (cPt σ) (show 0 ≤ e by omega)
      omega
    by_cases c0 : cR σ z = 0
    · rw [if_pos c0]
      have hlt := (cR_0.mp c0).2
      exact dv _ (by omega) (by omega)
    · rw [if_neg c0]
      exact dv _ (by omega) (by omega)
theorem cSt_end (h : cPl σ) (z : Int) (c2 : ¬ cR σ z = 2) : cR σ (z + cSt σ z) = 2 := by
  have hb := cPl_b h
  have hx := cX_b h z
  have hp := cSt_pos h z
  obtain ⟨k, hk⟩ : ∃ k : Nat, cSt σ z = (k : Int) := ⟨(cSt σ z).toNat, by omega⟩
  rw [hk]
  have n2 : ¬ (cX σ z = 0 ∨ cTd σ < cX σ z + cPt σ ∨ (cX σ z ≤ cHi σ ∧ cHi σ < cX σ z + cPt σ)) := fun q => c2 (cR_2.mpr q)
  unfold cSt at hk
  rw [if_neg c2] at hk
  have key : cX σ (z + k) = (cX σ z + k * cPt σ) % cTd σ := cX_add h z k
  rw [cR_2]
  have hkp : 0 ≤ (k : Int) * cPt σ := Int.mul_nonneg (by omega) (by omega)
  by_cases c0 : cR σ z = 0
  · rw [if_pos c0] at hk
    have d := divb (a := cHi σ - cX σ z) (p := cPt σ) (by omega)
    rw [hk] at d
    rw [Int.emod_eq_of_lt (by omega) (by omega)] at key
    omega
  · rw [if_neg c0] at hk
    have d := divb (a := cTd σ - cX σ z) (p := cPt σ) (by omega)
    rw [hk] at d
    by_cases q : cX σ z + k * cPt σ = cTd σ
    · rw [q, Int.emod_self] at key
      exact Or.inl key
    · rw [Int.emod_eq_of_lt (by omega) (by omega)] at key
      omega
theorem cR_per (h : cPl σ) (z : Int) : cR σ (z + (kI σ 8).toInt) = cR σ z := by
  have hb := cPl_b h
  have hn : 0 ≤ (kI σ 8).toInt := by have := h.1.1; omega
  obtain ⟨k, hk⟩ : ∃ k : Nat, (kI σ 8).toInt = (k : Int) := ⟨(kI σ 8).toInt.toNat, by omega⟩
  have e : cX σ (z + (kI σ 8).toInt) = cX σ z := by
    have hm : (k : Int) * cPt σ = cTd σ * (kI σ 9).toInt := by
      rw [← hk]
      unfold cPt cTd
      rw [Int.mul_comm (kI σ 9).toInt, ← Int.mul_assoc]
    rw [hk, cX_add h, hm, Int.add_mul_emod_self_left, Int.emod_eq_of_lt (cX_b h z).1 (cX_b h z).2]
  unfold cR
  rw [e]
end

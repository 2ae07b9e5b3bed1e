/-! numbers -/
theorem lg_0 (a b : Int64) : lg_cmp a b = 0 ↔ a.toInt = b.toInt := by
  unfold lg_cmp
  have e := fa_eq64 a b
  have g := fa_lt64 b a
  by_cases h1 : b < a
  · rw [if_pos h1]
    have := g.mp h1
    constructor
    · intro h; exact absurd h (by decide)
    · intro h; omega
  · rw [if_neg h1]
    by_cases h2 : a = b
    · rw [if_pos h2]; simp [h2]
    · rw [if_neg h2]
      constructor
      · intro h; exact absurd h (by decide)
      · intro h; exact absurd (e.mpr h) h2
theorem lg_le (a b : Int64) : lg_cmp a b ≤ 0 ↔ a.toInt ≤ b.toInt := by
  unfold lg_cmp
  have e := fa_eq64 a b
  have g := fa_lt64 b a
  by_cases h1 : b < a
  · rw [if_pos h1]
    have := g.mp h1
    constructor
    · intro h; exact absurd h (by decide)
    · intro h; omega
  · rw [if_neg h1]
    have h3 : ¬ b.toInt < a.toInt := fun h => h1 (g.mpr h)
    by_cases h2 : a = b
    · rw [if_pos h2]; simp [h2]
    · rw [if_neg h2]
      constructor
      · intro _; omega
      · intro _; decide
theorem lg_gt (a b : Int64) : 0 < lg_cmp a b ↔ b.toInt < a.toInt := by
  have h := lg_le a b
  have h2 := fa_lt 0 (lg_cmp a b)
  have h3 := fa_le (lg_cmp a b) 0
  constructor
  · intro q
    have := h2.mp q
    rcases Int.lt_or_le b.toInt a.toInt with r | r
    · exact r
    · have := h3.mp (h.mpr r); omega
  · intro q
    apply h2.mpr
    rcases Int.lt_or_le (0 : Int32).toInt (lg_cmp a b).toInt with r | r
    · exact r
    · have := h.mp (h3.mpr r); omega
theorem lg_ge (a b : Int64) : 0 ≤ lg_cmp a b ↔ b.toInt ≤ a.toInt := by
  have h0 := lg_0 a b
  have h1 := lg_gt a b
  have a1 := fa_lt 0 (lg_cmp a b)
  have a2 := fa_le 0 (lg_cmp a b)
  have a3 := fa_eq (lg_cmp a b) 0
  rw [h1] at a1; rw [h0] at a3; rw [a2]; omega
theorem lg_lt (a b : Int64) : lg_cmp a b < 0 ↔ a.toInt < b.toInt := by
  have h1 := lg_ge a b
  have a1 := fa_lt (lg_cmp a b) 0
  have a2 := fa_le 0 (lg_cmp a b)
  rw [h1] at a2; rw [a1]; omega
theorem xor_nn (a b : Int64) (hb : 0 ≤ b.toInt) : 0 ≤ (a ^^^ b).toInt ↔ 0 ≤ a.toInt := by
  have h1 : ∀ x : Int64, x.toBitVec.msb = decide (x.toInt < 0) := fun x => BitVec.msb_eq_toInt
  have h2 : (a ^^^ b).toBitVec.msb = (a.toBitVec.msb ^^ b.toBitVec.msb) := by
    show (a.toBitVec ^^^ b.toBitVec).msb = _
    rw [BitVec.msb_xor]
  rw [h1, h1, h1] at h2
  have h3 : decide (b.toInt < 0) = false := decide_eq_false (by omega)
  rw [h3, Bool.xor_false] at h2
  have h4 := decide_eq_decide.mp h2
  omega
theorem mulb {a b A B : Int} (h1 : 0 ≤ a) (h2 : a ≤ A) (h3 : 0 ≤ b) (h4 : b ≤ B) : 0 ≤ a * b ∧ a * b ≤ A * B :=
  ⟨Int.mul_nonneg h1 h3, Int.le_trans (Int.mul_le_mul_of_nonneg_right h2 h3) (Int.mul_le_mul_of_nonneg_left h4 (by omega))⟩
theorem muls {a b A B : Int} (h1 : -A ≤ a) (h2 : a ≤ A) (h3 : 0 ≤ b) (h4 : b ≤ B) : -(A * B) ≤ a * b ∧ a * b ≤ A * B := by
  have hA : 0 ≤ A := by omega
  have k1 : A * b ≤ A * B := Int.mul_le_mul_of_nonneg_left h4 hA
  have k2 : a * b ≤ A * b := Int.mul_le_mul_of_nonneg_right h2 h3
  have k3 : -A * b ≤ a * b := Int.mul_le_mul_of_nonneg_right h1 h3
  rw [Int.neg_mul] at k3
  omega
/-! the tide -/
/-- bounds of a laid plan, and of the year -/
def cPl (σ : kS) : Prop := (20 ≤ (kI σ 8).toInt ∧ (kI σ 8).toInt ≤ 999) ∧ (1 ≤ (kI σ 9).toInt ∧ (kI σ 9).toInt ≤ 20) ∧ 20 * (kI σ 9).toInt ≤ (kI σ 8).toInt ∧ (2 ≤ (kI σ 11).toInt ∧ (kI σ 11).toInt ≤ 20) ∧ (1 ≤ (kI σ 10).toInt ∧ (kI σ 10).toInt + 1 ≤ (kI σ 11).toInt) ∧ (0 ≤ (kI σ 12).toInt ∧ (kI σ 12).toInt ≤ 999) ∧ (0 ≤ (kI σ 13).toInt ∧ (kI σ 13).toInt ≤ 99) ∧ (0 ≤ (kI σ 15).toInt ∧ (kI σ 15).toInt ≤ 99)
def cPt (σ : kS) : Int := (kI σ 9).toInt * (kI σ 11).toInt
def cTd (σ : kS) : Int := (kI σ 8).toInt * (kI σ 11).toInt
def cHi (σ : kS) : Int := (kI σ 8).toInt * (kI σ 10).toInt
def cX (σ : kS) (z : Int) : Int := ((z - (kI σ 12).toInt - (kI σ 13).toInt * (kI σ 15).toInt) * cPt σ) % cTd σ
/-- who rules, by the parts behind the tide's begin -/
def cRp (σ : kS) (x : Int) : Int32 := if x = 0 ∨ cTd σ < x + cPt σ ∨ (x ≤ cHi σ ∧ cHi σ < x + cPt σ) then 2 else if x < cHi σ then 0 else 1
def cR (σ : kS) (z : Int) : Int32 := cRp σ (cX σ z)
theorem cPl_b {σ : kS} (h : cPl σ) : (2 ≤ cPt σ ∧ cPt σ ≤ 400) ∧ (40 ≤ cTd σ ∧ cTd σ ≤ 19980) ∧ (20 ≤ cHi σ ∧ cHi σ + 20 ≤ cTd σ) ∧ 20 * cPt σ ≤ cTd σ := by
  obtain ⟨⟨a1, a2⟩, ⟨b1, b2⟩, c1, ⟨d1, d2⟩, ⟨e1, e2⟩, -, -, -⟩ := h
  unfold cPt cTd cHi
  generalize (kI σ 8).toInt = N at *
  generalize (kI σ 9).toInt = D at *
  generalize (kI σ 10).toInt = P at *
  generalize (kI σ 11).toInt = Q at *
  have m1 := mulb (a := D) (b := Q) (A := 20) (B := 20) (by omega) b2 (by omega) d2
  have m2 := mulb (a := N) (b := Q) (A := 999) (B := 20) (by omega) a2 (by omega) d2
  have l1 : 1 * Q ≤ D * Q := Int.mul_le_mul_of_nonneg_right b1 (by omega)
  have l2 : 20 * Q ≤ N * Q := Int.mul_le_mul_of_nonneg_right a1 (by omega)
  have l3 : 20 * D * Q ≤ N * Q := Int.mul_le_mul_of_nonneg_right c1 (by omega)
  rw [Int.mul_assoc] at l3
  have l4 : N * (P + 1) ≤ N * Q := Int.mul_le_mul_of_nonneg_left e2 (by omega)
  rw [Int.mul_add, Int.mul_one] at l4
  have l5 : N * 1 ≤ N * P := Int.mul_le_mul_of_nonneg_left e1 (by omega)
  omega
section
variable {F : Nat} {σ : kS}
theorem p_partsOfMinute (h : cPl σ) : ∃ v : Int32, f_X2_partsOfMinute F σ = some (v, σ) ∧ v.toInt = cPt σ := by
  have hb := cPl_b h
  have e : ((kI σ 9) * (kI σ 11)).toInt = cPt σ := fb_mulI (by show _ ≤ cPt σ; omega) (by show cPt σ < _; omega)
  refine ⟨(kI σ 9) * (kI σ 11), ?_, e⟩
  show some (_, σ) = _
  rw [if_pos]
  rw [fa_lt, e]
  show (1 : Int) < _
  omega
theorem p_partsOfTide (h : cPl σ) : ∃ v : Int32, f_X2_partsOfTide F σ = some (v, σ) ∧ v.toInt = cTd σ := by
  have hb := cPl_b h
  have e : ((kI σ 8) * (kI σ 11)).toInt = cTd σ := fb_mulI (by show _ ≤ cTd σ; omega) (by show cTd σ < _; omega)
  refine ⟨(kI σ 8) * (kI σ 11), ?_, e⟩
  show some (_, σ) = _
  rw [if_pos]
  rw [fa_lt, e]
  show (1 : Int) < _
  omega
theorem p_partsOfHigh (h : cPl σ) : ∃ v : Int32, f_X2_partsOfHigh F σ = some (v, σ) ∧ v.toInt = cHi σ := by
  have hb := cPl_b h
  have e : ((kI σ 8) * (kI σ 10)).toInt = cHi σ := fb_mulI (by show _ ≤ cHi σ; omega) (by show cHi σ < _; omega)
  exact ⟨(kI σ 8) * (kI σ 10), rfl, e⟩
theorem tm_em (a b : Int) (hb : 0 < b) : (0 ≤ a.tmod b → a % b = a.tmod b) ∧ (a.tmod b < 0 → a % b = a.tmod b + b) := by
  have hq : a.tmod b + b * a.tdiv b = a := Int.tmod_add_mul_tdiv a b
  have t1 := tmod_bounds (a := a) (M := b) hb
  have key : a % b = (a.tmod b) % b := by
    conv => lhs; rw [← hq]
    rw [Int.add_mul_emod_self_left]
  refine ⟨fun h => ?_, fun h => ?_⟩
  · rw [key, Int.emod_eq_of_lt h (by omega)]
  · have k2 : (a.tmod b) % b = (a.tmod b + b * 1) % b := by rw [Int.add_mul_emod_self_left]
    rw [key, k2, Int.mul_one, Int.emod_eq_of_lt (by omega) (by omega)]
theorem tm_neg {a b : Int} (hb : 0 < b) (ha : a < 0) : a.tmod b ≤ 0 := by
  have e2 : a.tmod b = -((-a) % b) := by
    rw [← Int.tmod_eq_emod_of_nonneg (by omega), Int.neg_tmod, Int.neg_neg]
  have hm := Int.emod_nonneg (-a) (show b ≠ 0 by omega)
  omega
theorem p_floorMod (a b : Int64) (hb : 0 < b.toInt) : ∃ v : Int64, f_J9_floorMod_f86c9 F σ a b = some (v, σ) ∧ v.toInt = a.toInt % b.toInt := by
  unfold f_J9_floorMod_f86c9 s_J9_floorMod_f86c9_0 kn
  have hb0 : ¬ b = 0 := fun e => by rw [e] at hb; exact absurd hb (by decide)
  rw [if_neg hb0]
  have er := Kit.i64_rem a b
  generalize a - a / b * b = r at er ⊢
  dsimp only
  have hx := lg_ge (a ^^^ b) 0
  have hz : (0 : Int64).toInt = 0 := rfl
  rw [hz, xor_nn a b (by omega)] at hx
  have h0 := lg_0 r 0
  rw [hz] at h0
  have t1 := tmod_bounds (a := a.toInt) (M := b.toInt) hb
  obtain ⟨m1, m2⟩ := tm_em a.toInt b.toInt hb
  have hrb := fb_rngL b
  by_cases ha : 0 ≤ a.toInt
  · rw [if_pos (hx.mpr ha)]
    exact ⟨r, rfl, by rw [er, Int.tmod_eq_emod_of_nonneg ha]⟩
  · rw [if_neg (fun q => ha (hx.mp q))]
    have hn := tm_neg hb (show a.toInt < 0 by omega)
    by_cases hr : r.toInt = 0
    · rw [if_pos (h0.mpr hr)]
      exact ⟨r, rfl, by rw [m1 (by omega), er]⟩
    · rw [if_neg (fun q => hr (h0.mp q))]
      exact ⟨r + b, rfl, by rw [fb_addL (by omega) (by omega), er, m2 (by omega)]⟩
end

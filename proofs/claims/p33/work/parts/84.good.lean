/-! what an item tells: taken by both, or by neither -/
section
variable {F : Nat} {σ τ : kS} {k : Nat}
/-- bounds of a draft's tide -/
def dPl (σ : kS) : Prop := (20 ≤ (kI σ 1).toInt ∧ (kI σ 1).toInt ≤ 999) ∧ (1 ≤ (kI σ 2).toInt ∧ (kI σ 2).toInt ≤ 20) ∧ 20 * (kI σ 2).toInt ≤ (kI σ 1).toInt ∧ (2 ≤ (kI σ 4).toInt ∧ (kI σ 4).toInt ≤ 20) ∧ (1 ≤ (kI σ 3).toInt ∧ (kI σ 3).toInt + 1 ≤ (kI σ 4).toInt) ∧ (0 ≤ (kI σ 5).toInt ∧ (kI σ 5).toInt ≤ 999) ∧ (0 ≤ (kI σ 6).toInt ∧ (kI σ 6).toInt ≤ 99)
/-- an act's numbers -/
def gAc (x0 x1 x2 x3 x4 : Int32) : Prop := (0 ≤ x0.toInt ∧ x0.toInt ≤ 4) ∧ (0 ≤ x1.toInt ∧ x1.toInt ≤ 3) ∧ (1 ≤ x2.toInt ∧ x2.toInt ≤ 99) ∧ (0 ≤ x3.toInt ∧ x3.toInt ≤ 99) ∧ (0 ≤ x4.toInt ∧ x4.toInt ≤ 99)
/-- the draft, with b acts, is the same in both -/
def rDr (b : Nat) (σ τ : kS) : Prop := b ≤ 6 ∧ kI σ 7 = nI b ∧ kA τ 2 1 = nI b ∧ (kA τ 1 6 = kI σ 1 ∧ kA τ 1 7 = kI σ 2 ∧ kA τ 1 8 = kI σ 3 ∧ kA τ 1 9 = kI σ 4 ∧ kA τ 1 10 = kI σ 5 ∧ kA τ 1 11 = kI σ 6) ∧ dPl σ ∧ (∀ j, j < 5 * b → kA τ 3 (30 + j) = kA σ 2 j) ∧ ∀ i, i < b → gAc (kA σ 2 (5 * i)) (kA σ 2 (5 * i + 1)) (kA σ 2 (5 * i + 2)) (kA σ 2 (5 * i + 3)) (kA σ 2 (5 * i + 4))
def gTd (x0 x1 x2 x3 : Int32) : Prop := (20 ≤ x0.toInt ∧ x0.toInt ≤ 999) ∧ (1 ≤ x1.toInt ∧ x1.toInt ≤ 20) ∧ 20 * x1.toInt ≤ x0.toInt ∧ (2 ≤ x3.toInt ∧ x3.toInt ≤ 20) ∧ (1 ≤ x2.toInt ∧ x2.toInt + 1 ≤ x3.toInt)
theorem p_takeTide (x0 x1 x2 x3 : Int32) (h1 : 0 ≤ x1.toInt) (h2 : x1.toInt ≤ 999) (h3 : 0 ≤ x3.toInt) (h4 : x3.toInt ≤ 999) : (gTd x0 x1 x2 x3 → f_X2_takeTide F σ x0 x1 x2 x3 = some (1, jI (jI (jI (jI σ 1 x0) 2 x1) 3 x2) 4 x3)) ∧ (¬ gTd x0 x1 x2 x3 → f_X2_takeTide F σ x0 x1 x2 x3 = some (0, σ)) := by
  have z20 : (20 : Int32).toInt = 20 := rfl
  have z1 : (1 : Int32).toInt = 1 := rfl
  have em : ((20 : Int32) * x1).toInt = 20 * x1.toInt := by rw [fb_mulI (by rw [z20]; omega) (by rw [z20]; omega), z20]
  have es : (x3 - 1).toInt = x3.toInt - 1 := by rw [fb_subI (by rw [z1]; omega) (by rw [z1]; omega), z1]
  have a1 := k_lt x0 20 20 rfl
  have a2 := k_gt x0 999 999 rfl
  have a3 := k_lt x1 1 1 rfl
  have a4 := k_gt x1 20 20 rfl
  have a5 := fa_le (20 * x1) x0
  rw [em] at a5
  have a6 := k_lt x3 2 2 rfl
  have a7 := k_gt x3 20 20 rfl
  have a8 := k_lt x2 1 1 rfl
  have a9 := fa_le x2 (x3 - 1)
  rw [es] at a9
  unfold f_X2_takeTide s_X2_takeTide_0 gTd
  by_cases c1 : x0.toInt < 20
  · rw [if_pos (a1.mpr c1)]; exact ⟨fun h => by omega, fun _ => rfl⟩
  rw [if_neg (fun z => c1 (a1.mp z))]
  by_cases c2 : 999 < x0.toInt
  · rw [if_pos (a2.mpr c2)]; exact ⟨fun h => by omega, fun _ => rfl⟩
  rw [if_neg (fun z => c2 (a2.mp z))]
  by_cases c3 : x1.toInt < 1
  · rw [if_pos (a3.mpr c3)]; exact ⟨fun h => by omega, fun _ => rfl⟩
  rw [if_neg (fun z => c3 (a3.mp z))]
  by_cases c4 : 20 < x1.toInt
  · rw [if_pos (a4.mpr c4)]; exact ⟨fun h => by omega, fun _ => rfl⟩
  rw [if_neg (fun z => c4 (a4.mp z))]
  by_cases c5 : 20 * x1.toInt ≤ x0.toInt
  · rw [if_pos (a5.mpr c5)]
    by_cases c6 : x3.toInt < 2
    · rw [if_pos (a6.mpr c6)]; exact ⟨fun h => by omega, fun _ => rfl⟩
    rw [if_neg (fun z => c6 (a6.mp z))]
    by_cases c7 : 20 < x3.toInt
    · rw [if_pos (a7.mpr c7)]; exact ⟨fun h => by omega, fun _ => rfl⟩
    rw [if_neg (fun z => c7 (a7.mp z))]
    by_cases c8 : x2.toInt < 1
    · rw [if_pos (a8.mpr c8)]; exact ⟨fun h => by omega, fun _ => rfl⟩
    rw [if_neg (fun z => c8 (a8.mp z))]
    by_cases c9 : x2.toInt ≤ x3.toInt - 1
    · rw [if_pos (a9.mpr c9)]; exact ⟨fun _ => rfl, fun h => absurd (by omega) h⟩
    · rw [if_neg (fun z => c9 (a9.mp z))]; exact ⟨fun h => by omega, fun _ => rfl⟩
  · rw [if_neg (fun z => c5 (a5.mp z))]; exact ⟨fun h => by omega, fun _ => rfl⟩
theorem p8_isIn (j : Nat) (hj : j < 5) (x lo hi : Int32) (hx : x = nI j) : (lo.toInt ≤ (kA τ 8 j).toInt ∧ (kA τ 8 j).toInt ≤ hi.toInt → f_X8_isIn F τ x lo hi = some (1, τ)) ∧ (¬ (lo.toInt ≤ (kA τ 8 j).toInt ∧ (kA τ 8 j).toInt ≤ hi.toInt) → f_X8_isIn F τ x lo hi = some (0, τ)) := by
  subst hx
  have e := p8_inI (F := F) (τ := τ) (kA τ 8 j) lo.toInt64 hi.toInt64 lo.toInt hi.toInt (k_32_64 lo) (k_32_64 hi)
  unfold f_X8_isIn s_X8_isIn_0
  rw [if_neg (nI_in (by omega) (by omega)), nI_clamp (by omega)]
  constructor
  · intro h
    rw [kb_eq (e.1 h), if_pos (by decide)]
  · intro h
    rw [kb_eq (e.2 h), if_pos (by decide)]
theorem ix6 (m : Nat) : (6 : Int32) + nI m = nI (6 + m) := nI_add 6 m
theorem p8_good8 (hb : ∀ j, j < 4 → 0 ≤ (kA τ 8 j).toInt ∧ (kA τ 8 j).toInt ≤ 999) : ∀ (f m : Nat), m ≤ 4 → 4 - m < f → (gTd (kA τ 8 0) (kA τ 8 1) (kA τ 8 2) (kA τ 8 3) → itr (fun rec8 q => s_X8_isGood_8 F rec8 q.1 q.2) f (zA τ 1 (fb_put (kA τ 1) (kA τ 8) 6 m), nI m) = some (1, zA τ 1 (fb_put (kA τ 1) (kA τ 8) 6 4))) ∧ (¬ gTd (kA τ 8 0) (kA τ 8 1) (kA τ 8 2) (kA τ 8 3) → itr (fun rec8 q => s_X8_isGood_8 F rec8 q.1 q.2) f (zA τ 1 (fb_put (kA τ 1) (kA τ 8) 6 m), nI m) = some (0, zA τ 1 (fb_put (kA τ 1) (kA τ 8) 6 4))) := by
  intro f
  induction f with
  | zero => intro m _ h; omega
  | succ f ih =>
    intro m hm hf
    have e0 : itr (fun rec8 q => s_X8_isGood_8 F rec8 q.1 q.2) (f + 1) (zA τ 1 (fb_put (kA τ 1) (kA τ 8) 6 m), nI m) = s_X8_isGood_8 F (itr (fun rec8 q => s_X8_isGood_8 F rec8 q.1 q.2) f) (zA τ 1 (fb_put (kA τ 1) (kA τ 8) 6 m)) (nI m) := rfl
    rw [e0]
    unfold s_X8_isGood_8
    have hle := nI_leI (a := 4) (b := m) (by omega) (by omega)
    by_cases c : 4 ≤ m
    · have e : m = 4 := by omega
      subst e
      rw [if_pos (show (4 : Int32) ≤ nI 4 from hle.mpr c)]
      have i0 := p8_isIn (F := F) (τ := zA τ 1 (fb_put (kA τ 1) (kA τ 8) 6 4)) 0 (by omega) 0 20 999 rfl
      have i1 := p8_isIn (F := F) (τ := zA τ 1 (fb_put (kA τ 1) (kA τ 8) 6 4)) 1 (by omega) 1 1 20 rfl
      have i3 := p8_isIn (F := F) (τ := zA τ 1 (fb_put (kA τ 1) (kA τ 8) 6 4)) 3 (by omega) 3 2 20 rfl
      have i2 := p8_isIn (F := F) (τ := zA τ 1 (fb_put (kA τ 1) (kA τ 8) 6 4)) 2 (by omega) 2 1 (kA τ 8 3 - 1) rfl
      have w0 : kA (zA τ 1 (fb_put (kA τ 1) (kA τ 8) 6 4)) 8 0 = kA τ 8 0 := rfl
      have w1 : kA (zA τ 1 (fb_put (kA τ 1) (kA τ 8) 6 4)) 8 1 = kA τ 8 1 := rfl
      have w2 : kA (zA τ 1 (fb_put (kA τ 1) (kA τ 8) 6 4)) 8 2 = kA τ 8 2 := rfl
      have w3 : kA (zA τ 1 (fb_put (kA τ 1) (kA τ 8) 6 4)) 8 3 = kA τ 8 3 := rfl
      generalize zA τ 1 (fb_put (kA τ 1) (kA τ 8) 6 4) = T at *
      have z20 : (20 : Int32).toInt = 20 := rfl
      have z1 : (1 : Int32).toInt = 1 := rfl
      have z2 : (2 : Int32).toInt = 2 := rfl
      have z9 : (999 : Int32).toInt = 999 := rfl
      have b1 := hb 1 (by omega)
      have b3 := hb 3 (by omega)
      have em : ((20 : Int32) * kA τ 8 1).toInt = 20 * (kA τ 8 1).toInt := by rw [fb_mulI (by rw [z20]; omega) (by rw [z20]; omega), z20]
      have es : (kA τ 8 3 - 1).toInt = (kA τ 8 3).toInt - 1 := by rw [fb_subI (by rw [z1]; omega) (by rw [z1]; omega), z1]
      rw [w0, z20, z9] at i0
      rw [w1, z1, z20] at i1
      rw [w3, z2, z20] at i3
      rw [w2, z1, es] at i2
      have a5 := fa_lt (kA τ 8 0) (20 * kA τ 8 1)
      rw [em] at a5
      unfold gTd
      by_cases c0 : 20 ≤ (kA τ 8 0).toInt ∧ (kA τ 8 0).toInt ≤ 999
      · rw [kb_eq (i0.1 c0), if_neg k10]
        by_cases c1 : 1 ≤ (kA τ 8 1).toInt ∧ (kA τ 8 1).toInt ≤ 20
        · rw [kb_eq (i1.1 c1), if_neg k10, w0, w1]
          by_cases c5 : (kA τ 8 0).toInt < 20 * (kA τ 8 1).toInt
          · rw [if_pos (a5.mpr c5)]; exact ⟨fun h => by omega, fun _ => rfl⟩
          · rw [if_neg (fun z => c5 (a5.mp z))]
            by_cases c3 : 2 ≤ (kA τ 8 3).toInt ∧ (kA τ 8 3).toInt ≤ 20
            · rw [kb_eq (i3.1 c3), if_neg k10, w3]
              by_cases c2 : 1 ≤ (kA τ 8 2).toInt ∧ (kA τ 8 2).toInt ≤ (kA τ 8 3).toInt - 1
              · rw [kb_eq (i2.1 c2), if_neg k10]; exact ⟨fun _ => rfl, fun h => absurd (by omega) h⟩
              · rw [kb_eq (i2.2 c2), if_pos k00]; exact ⟨fun h => by omega, fun _ => rfl⟩
            · rw [kb_eq (i3.2 c3), if_pos k00]; exact ⟨fun h => by omega, fun _ => rfl⟩
        · rw [kb_eq (i1.2 c1), if_pos k00]; exact ⟨fun h => by omega, fun _ => rfl⟩
      · rw [kb_eq (i0.2 c0), if_pos k00]; exact ⟨fun h => by omega, fun _ => rfl⟩
    · have e := fb_put_succ (kA τ 1) (kA τ 8) 6 m
      have w : kA (zA τ 1 (fb_put (kA τ 1) (kA τ 8) 6 m)) 8 m = kA τ 8 m := rfl
      rw [if_neg (show ¬ (4 : Int32) ≤ nI m from fun q => c (hle.mp q)), ix6, if_neg (nI_in (by omega) (by omega)), if_neg (nI_in (by omega) (by omega)), nI_clamp (by omega), nI_clamp (by omega), w, jA_zA, e, nI_1]
      exact ih (m + 1) (by omega) (by omega)
theorem p8_good235 {b : Nat} (hb : b < 6) (h2 : kA τ 2 1 = nI b) : ∀ (f m : Nat), m ≤ 5 → 5 - m < f → itr (fun rec235 q => s_X8_isGood_235 F rec235 q.1 q.2) f (zA τ 3 (fb_put (kA τ 3) (kA τ 8) (30 + 5 * b) m), nI m) = some (1, jA (zA τ 3 (fb_put (kA τ 3) (kA τ 8) (30 + 5 * b) 5)) 2 1 (nI (b + 1))) := by
  intro f
  induction f with
  | zero => intro m _ h; omega
  | succ f ih =>
    intro m hm hf
    show s_X8_isGood_235 F _ (zA τ 3 (fb_put (kA τ 3) (kA τ 8) (30 + 5 * b) m)) (nI m) = _
    unfold s_X8_isGood_235
    have hle := nI_leI (a := 5) (b := m) (by omega) (by omega)
    have w2 : kA (zA τ 3 (fb_put (kA τ 3) (kA τ 8) (30 + 5 * b) m)) 2 1 = nI b := h2
    rw [w2]
    by_cases c : 5 ≤ m
    · have e : m = 5 := by omega
      subst e
      rw [if_pos (show (5 : Int32) ≤ nI 5 from hle.mpr c), nI_1]
    · have e := fb_put_succ (kA τ 3) (kA τ 8) (30 + 5 * b) m
      have w : kA (zA τ 3 (fb_put (kA τ 3) (kA τ 8) (30 + 5 * b) m)) 8 m = kA τ 8 m := rfl
      have ex : (30 : Int32) + 5 * nI b + nI m = nI (30 + 5 * b + m) := by
        rw [show (5 : Int32) = nI 5 from rfl, pk_mul, show (30 : Int32) = nI 30 from rfl, nI_add, nI_add]
      rw [if_neg (show ¬ (5 : Int32) ≤ nI m from fun q => c (hle.mp q)), ex, if_neg (nI_in (by omega) (by omega)), if_neg (nI_in (by omega) (by omega)), nI_clamp (by omega), nI_clamp (by omega), w, jA_zA, e, nI_1]
      exact ih (m + 1) (by omega) (by omega)
/-- both refuse, or both take -/
def Tk (b : Nat) (σ τ : kS) (x y : Option (Int32 × kS)) : Prop := ∃ σ' τ', fC σ σ' ∧ fM τ τ' ∧ ((x = some (0, σ') ∧ y = some (0, τ')) ∨ (x = some (1, σ') ∧ y = some (1, τ') ∧ kI τ' 1 = kI τ 1 ∧ ∃ b', b' ≤ b + 1 ∧ rDr b' σ' τ'))
theorem q_take116 (hF : 200000 ≤ F) {b : Nat} (hD : rDr b σ τ) (hs : sN 4 (kA σ 1) (kA τ 8)) : Tk b σ τ (f_X2_takeItem F σ 116) (f_X8_isGood F τ 116) := by
  obtain ⟨d1, d2, d3, ⟨t1, t2, t3, t4, t5, t6⟩, ⟨-, -, -, -, -, o6, o7⟩, d6, d7⟩ := hD
  obtain ⟨e0, -⟩ := hs 0 (by omega)
  obtain ⟨e1, l1, u1⟩ := hs 1 (by omega)
  obtain ⟨e2, -⟩ := hs 2 (by omega)
  obtain ⟨e3, l3, u3⟩ := hs 3 (by omega)
  have hb : ∀ j, j < 4 → 0 ≤ (kA τ 8 j).toInt ∧ (kA τ 8 j).toInt ≤ 999 := fun j hj => by
    obtain ⟨q1, q2⟩ := hs j hj
    rw [q1] at q2
    exact q2
  have C := p_takeTide (F := F) (σ := σ) (kA σ 1 0) (kA σ 1 1) (kA σ 1 2) (kA σ 1 3) l1 u1 l3 u3
  have M := p8_good8 (F := F) (τ := τ) hb F 0 (by omega) (by omega)
  rw [fb_put_0, zA_self] at M
  have fm : fM τ (zA τ 1 (fb_put (kA τ 1) (kA τ 8) 6 4)) := fM_1 _ (fun j hj => fb_put_out (Or.inl hj))
  have pin : ∀ j, j < 4 → fb_put (kA τ 1) (kA τ 8) 6 4 (6 + j) = kA τ 8 j := fun j hj => by
    rw [fb_put_in (by omega) (by omega), show 6 + j - 6 = j by omega]
  have pout : ∀ j, 10 ≤ j → fb_put (kA τ 1) (kA τ 8) 6 4 j = kA τ 1 j := fun j hj => fb_put_out (Or.inr (by omega))
  unfold f_X2_takeItem s_X2_takeItem_0 f_X8_isGood s_X8_isGood_0
  rw [if_pos (show (5 : Int32) ≤ 5 by decide), if_neg (show ¬ (116 : Int32) = 97 by decide), if_neg (show ¬ (116 : Int32) = 111 by decide), if_neg (show ¬ (116 : Int32) = 115 by decide), if_pos rfl, if_pos rfl]
  by_cases g : gTd (kA σ 1 0) (kA σ 1 1) (kA σ 1 2) (kA σ 1 3)
  · have g' := g
    rw [e0, e1, e2, e3] at g'
    rw [kb_eq (C.1 g), if_pos (show (1 : Int32) &&& 1 = 1 by decide)]
    refine ⟨_, _, ((fC_I 1 (by omega) (by omega) _).tr (fC_I 2 (by omega) (by omega) _)).tr ((fC_I 3 (by omega) (by omega) _).tr (fC_I 4 (by omega) (by omega) _)), fm, Or.inr ⟨rfl, M.1 g', rfl, b, by omega, d1, d2, d3, ⟨(pin 0 (by omega)).trans e0.symm, (pin 1 (by omega)).trans e1.symm, (pin 2 (by omega)).trans e2.symm, (pin 3 (by omega)).trans e3.symm, (pout 10 (by omega)).trans t5, (pout 11 (by omega)).trans t6⟩, ?_, d6, d7⟩⟩
    obtain ⟨g1, g2, g3, g4, g5⟩ := g
    exact ⟨g1, g2, g3, g4, g5, o6, o7⟩
  · have g' := g
    rw [e0, e1, e2, e3] at g'
    rw [kb_eq (C.2 g), if_pos (show (0 : Int32) &&& 1 = 0 by decide)]
    exact ⟨_, _, fC.rf, fm, Or.inl ⟨rfl, M.2 g'⟩⟩
theorem q_take111 {b : Nat} (hD : rDr b σ τ) (hs : sN 1 (kA σ 1) (kA τ 8)) : Tk b σ τ (f_X2_takeItem F σ 111) (f_X8_isGood F τ 111) := by
  obtain ⟨d1, d2, d3, ⟨t1, t2, t3, t4, t5, t6⟩, ⟨o1, o2, o3, o4, o5, o6, o7⟩, d6, d7⟩ := hD
  obtain ⟨e0, l0, u0⟩ := hs 0 (by omega)
  unfold f_X2_takeItem s_X2_takeItem_0 f_X8_isGood s_X8_isGood_0 f_X2_takeOrigin s_X2_takeOrigin_0
  have i0 := p8_isIn (F := F) (τ := jA τ 1 10 (kA τ 8 0)) 0 (by omega) 0 0 999 rfl
  have w0 : kA (jA τ 1 10 (kA τ 8 0)) 8 0 = kA τ 8 0 := rfl
  have z0 : (0 : Int32).toInt = 0 := rfl
  have z9 : (999 : Int32).toInt = 999 := rfl
  rw [w0, z0, z9, ← e0] at i0
  rw [← e0]
  have a1 := k_lt (kA σ 1 0) 0 0 rfl
  have a2 := k_le (kA σ 1 0) 999 999 rfl
  rw [if_pos (show (5 : Int32) ≤ 5 by decide), if_neg (show ¬ (111 : Int32) = 97 by decide), if_pos rfl, if_neg (show ¬ (111 : Int32) = 116 by decide), if_pos rfl, if_neg (fun z => by have := a1.mp z; omega), if_pos (a2.mpr (by omega)), kb_eq rfl, kb_eq (i0.1 ⟨l0, u0⟩), if_pos (show (1 : Int32) &&& 1 = 1 by decide), if_pos (show (1 : Int32) &&& 1 = 1 by decide)]
  refine ⟨_, _, fC_I 5 (by omega) (by omega) _, fM_1 _ (fun j hj => pk_un (by omega)), Or.inr ⟨rfl, rfl, rfl, b, by omega, d1, d2, d3, ⟨t1, t2, t3, t4, rfl, t6⟩, ⟨o1, o2, o3, o4, o5, ⟨l0, u0⟩, o7⟩, d6, d7⟩⟩
theorem q_take115 {b : Nat} (hD : rDr b σ τ) (hs : sN 1 (kA σ 1) (kA τ 8)) : Tk b σ τ (f_X2_takeItem F σ 115) (f_X8_isGood F τ 115) := by
  obtain ⟨d1, d2, d3, ⟨t1, t2, t3, t4, t5, t6⟩, ⟨o1, o2, o3, o4, o5, o6, o7⟩, d6, d7⟩ := hD
  obtain ⟨e0, l0, u0⟩ := hs 0 (by omega)
  unfold f_X2_takeItem s_X2_takeItem_0 f_X8_isGood s_X8_isGood_0 f_X2_takeSilt s_X2_takeSilt_0
  have i0 := p8_isIn (F := F) (τ := jA τ 1 11 (kA τ 8 0)) 0 (by omega) 0 0 99 rfl
  have w0 : kA (jA τ 1 11 (kA τ 8 0)) 8 0 = kA τ 8 0 := rfl
  have z0 : (0 : Int32).toInt = 0 := rfl
  have z9 : (99 : Int32).toInt = 99 := rfl
  rw [w0, z0, z9, ← e0] at i0
  rw [← e0]
  have a1 := k_lt (kA σ 1 0) 0 0 rfl
  have a2 := k_le (kA σ 1 0) 99 99 rfl
  rw [if_pos (show (5 : Int32) ≤ 5 by decide), if_neg (show ¬ (115 : Int32) = 97 by decide), if_neg (show ¬ (115 : Int32) = 111 by decide), if_pos rfl, if_neg (show ¬ (115 : Int32) = 116 by decide), if_neg (show ¬ (115 : Int32) = 111 by decide), if_pos rfl, if_neg (fun z => by have := a1.mp z; omega)]
  have fm : fM τ (jA τ 1 11 (kA σ 1 0)) := fM_1 _ (fun j hj => pk_un (by omega))
  by_cases c : (kA σ 1 0).toInt ≤ 99
  · rw [if_pos (a2.mpr c), kb_eq rfl, kb_eq (i0.1 ⟨l0, c⟩), if_pos (show (1 : Int32) &&& 1 = 1 by decide), if_pos (show (1 : Int32) &&& 1 = 1 by decide)]
    exact ⟨_, _, fC_I 6 (by omega) (by omega) _, fm, Or.inr ⟨rfl, rfl, rfl, b, by omega, d1, d2, d3, ⟨t1, t2, t3, t4, t5, rfl⟩, ⟨o1, o2, o3, o4, o5, o6, ⟨l0, c⟩⟩, d6, d7⟩⟩
  · rw [if_neg (fun z => c (a2.mp z)), kb_eq rfl, kb_eq (i0.2 (by omega)), if_pos (show (0 : Int32) &&& 1 = 0 by decide), if_pos (show (0 : Int32) &&& 1 = 0 by decide)]
    exact ⟨_, _, fC.rf, fm, Or.inl ⟨rfl, rfl⟩⟩
end

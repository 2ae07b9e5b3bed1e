/-! keep, back -/
section
variable {F : Nat} {σ τ : kS} {k : Nat}
def putK (σ : kS) (p c : Nat) : kS := jI (jI (jA (jA (jA (jA (jB σ 1 p (kG σ 0)) 10 p (kI σ 15)) 11 p (kI σ 16)) 12 p (kI σ 17)) 13 p (kI σ 18)) 24 (nI (p + 1))) 25 (nI c)
theorem p_putK {t c : Nat} (ht : t ≤ 2) (hc : c < 2) (h23 : kI σ 23 = 2) (h24 : kI σ 24 = nI t) (h25 : kI σ 25 = nI c) : f_X5_put_v1 F σ = some ((), putK σ (t % 2) (c + 1)) := by
  have e25 : (if (2 : Int32) < nI c + 1 then (2 : Int32) else nI c + 1) = nI (c + 1) := by
    rw [nI_1]
    have q := nI_ltI (a := 2) (b := c + 1) (by omega) (by omega)
    rw [if_neg (show ¬ (2 : Int32) < nI (c + 1) from fun z => by have := q.mp z; omega)]
  unfold f_X5_put_v1 s_X5_put_v1_0
  have qt := nI_ltI (a := t) (b := 2) (by omega) (by omega)
  by_cases d : t < 2
  · rw [h23, h24, if_pos (show nI t < 2 from qt.mpr d)]
    unfold s_X5_put_v1_16
    rw [h23, h24, h25, if_neg (nI_in (by omega) (by omega)), if_neg (nI_in (by omega) (by omega)), if_neg (nI_in (by omega) (by omega)), if_neg (nI_in (by omega) (by omega)), if_neg (nI_in (by omega) (by omega)), e25, nI_clamp (by omega), nI_1, Nat.mod_eq_of_lt d]
    rfl
  · rw [h23, h24, if_neg (show ¬ nI t < 2 from fun z => d (qt.mp z))]
    have e : t = 2 := by omega
    subst e
    unfold s_X5_put_v1_16
    have z8 : ¬ ((0 : Int32) < 0 ∨ 2 ≤ (0 : Int32).toNatClampNeg) := by decide
    rw [show kI (jI σ 24 0) 24 = 0 from rfl, show kI (jI σ 24 0) 23 = 2 from h23, show kI (jI σ 24 0) 25 = nI c from h25, if_neg z8, if_neg z8, if_neg z8, if_neg z8, if_neg z8, e25]
    show some ((), jI (jI (jI (jA (jA (jA (jA (jB σ 1 0 (kG σ 0)) 10 0 (kI σ 15)) 11 0 (kI σ 16)) 12 0 (kI σ 17)) 13 0 (kI σ 18)) 24 0) 24 (nI 1)) 25 _) = _
    rw [jI_jI]
    rfl
theorem putL_succ (f g : Nat → Int64) (a n : Nat) : vp_updL (fb_put f g a n) (a + n) (g n) = fb_put f g a (n + 1) := by
  funext j
  unfold vp_updL fb_put
  by_cases e : j = a + n
  · rw [if_pos e, if_pos (by omega), e, show a + n - a = n by omega]
  · rw [if_neg e]
    by_cases d : a ≤ j ∧ j < a + n
    · rw [if_pos d, if_pos (by omega)]
    · rw [if_neg d, if_neg (by omega)]
theorem ixn (c : Nat) (y : Int32) (hy : y = nI c) (i j : Nat) : y * nI i + nI j = nI (c * i + j) := by
  rw [hy, pk_mul, nI_add]
theorem p8_cp2 {x y : Nat} (hx : x ≤ 2) (hy : y ≤ 2) (hxy : x ≠ y) : ∀ (f m : Nat), m ≤ 4 → 4 - m < f → itr (fun rec38 q => s_X8_copies_38 F rec38 q.1 q.2.1 q.2.2.1 q.2.2.2) f (zB τ 0 (fb_put (kB τ 0) (fun j => kB τ 0 (4 * x + j)) (4 * y) m), nI x, nI y, nI m) = some ((), zB τ 0 (fb_put (kB τ 0) (fun j => kB τ 0 (4 * x + j)) (4 * y) 4)) := by
  intro f
  induction f with
  | zero => intro m _ h; omega
  | succ f ih =>
    intro m hm hf
    show s_X8_copies_38 F _ (zB τ 0 (fb_put (kB τ 0) (fun j => kB τ 0 (4 * x + j)) (4 * y) m)) (nI x) (nI y) (nI m) = _
    unfold s_X8_copies_38
    have hle := nI_leI (a := 4) (b := m) (by omega) (by omega)
    by_cases c : 4 ≤ m
    · have e : m = 4 := by omega
      subst e
      rw [if_pos (show (4 : Int32) ≤ nI 4 from hle.mpr c)]
    · rw [if_neg (show ¬ (4 : Int32) ≤ nI m from fun q => c (hle.mp q)), ixn 4 4 rfl, ixn 4 4 rfl, if_neg (nI_in (by omega) (by omega)), if_neg (nI_in (by omega) (by omega)), nI_clamp (by omega), nI_clamp (by omega), kB_zB, fb_put_out (by omega), jB_zB, nI_1]
      have e := putL_succ (kB τ 0) (fun j => kB τ 0 (4 * x + j)) (4 * y) m
      rw [e]
      exact ih (m + 1) (by omega) (by omega)
theorem p8_cp1 {x y : Nat} (hF : 200000 ≤ F) (hx : x ≤ 2) (hy : y ≤ 2) (hxy : x ≠ y) : ∀ (f m : Nat), m ≤ 6 → 6 - m < f → itr (fun rec2 q => s_X8_copies_2 F rec2 q.1 q.2.1 q.2.2.1 q.2.2.2) f (zA τ 4 (fb_put (kA τ 4) (fun j => kA τ 4 (6 * x + j)) (6 * y) m), nI x, nI y, nI m) = some ((), zB (zA τ 4 (fb_put (kA τ 4) (fun j => kA τ 4 (6 * x + j)) (6 * y) 6)) 0 (fb_put (kB τ 0) (fun j => kB τ 0 (4 * x + j)) (4 * y) 4)) := by
  intro f
  induction f with
  | zero => intro m _ h; omega
  | succ f ih =>
    intro m hm hf
    show s_X8_copies_2 F _ (zA τ 4 (fb_put (kA τ 4) (fun j => kA τ 4 (6 * x + j)) (6 * y) m)) (nI x) (nI y) (nI m) = _
    unfold s_X8_copies_2
    have hle := nI_leI (a := 6) (b := m) (by omega) (by omega)
    by_cases c : 6 ≤ m
    · have e : m = 6 := by omega
      subst e
      rw [if_pos (show (6 : Int32) ≤ nI 6 from hle.mpr c)]
      have := p8_cp2 (F := F) (τ := zA τ 4 (fb_put (kA τ 4) (fun j => kA τ 4 (6 * x + j)) (6 * y) 6)) hx hy hxy F 0 (by omega) (by omega)
      rw [fb_put_0, zB_self] at this
      exact this
    · rw [if_neg (show ¬ (6 : Int32) ≤ nI m from fun q => c (hle.mp q)), ixn 6 6 rfl, ixn 6 6 rfl, if_neg (nI_in (by omega) (by omega)), if_neg (nI_in (by omega) (by omega)), nI_clamp (by omega), nI_clamp (by omega), kA_zA, fb_put_out (by omega), jA_zA, nI_1]
      have e := fb_put_succ (kA τ 4) (fun j => kA τ 4 (6 * x + j)) (6 * y) m
      rw [e]
      exact ih (m + 1) (by omega) (by omega)
theorem p8_copies (hF : 200000 ≤ F) {x y : Nat} (hx : x ≤ 2) (hy : y ≤ 2) (hxy : x ≠ y) : f_X8_copies F τ (nI x) (nI y) = some ((), zB (zA τ 4 (fb_put (kA τ 4) (fun j => kA τ 4 (6 * x + j)) (6 * y) 6)) 0 (fb_put (kB τ 0) (fun j => kB τ 0 (4 * x + j)) (4 * y) 4)) := by
  have := p8_cp1 (F := F) (τ := τ) hF hx hy hxy F 0 (by omega) (by omega)
  rw [fb_put_0, zA_self] at this
  exact this
theorem r_keep (hF : 200000 ≤ F) (R : Rel k σ τ) : Ok (k + 1) (f_X7_keep F σ) (f_X8_keep F τ) := by
  have R0 := R
  obtain ⟨a, w, l, n, r, h, c, hP, hM, hA, hL, hT, hX, hR, hN, hU, hK⟩ := R.up (show k ≤ k + 1 by omega)
  obtain ⟨k1, k2, k3, k4, t, k5, k6, k7⟩ := hK
  have ha := hA.1
  unfold f_X7_keep f_X8_keep s_X7_keep_0 s_X8_keep_0
  have q0 := nI_ltI (a := c) (b := 2) (by omega) (by omega)
  have q1 := nI_eq (a := c) (b := 2) (by omega) (by omega)
  rw [k3, k4]
  by_cases d : c < 2
  · have cp := p8_copies (F := F) (τ := jI τ 2 (nI (c + 1))) hF (x := 0) (y := c + 1) (by omega) (by omega) (by omega)
    have eB : ∀ j, j < 4 * (c + 1) → fb_put (kB τ 0) (fun j => kB τ 0 (4 * 0 + j)) (4 * (c + 1)) 4 j = kB τ 0 j := fun j hj => fb_put_out (Or.inl hj)
    have eA : ∀ j, j < 6 * (c + 1) → fb_put (kA τ 4) (fun j => kA τ 4 (6 * 0 + j)) (6 * (c + 1)) 6 j = kA τ 4 j := fun j hj => fb_put_out (Or.inl hj)
    have iB : ∀ j, j < 4 → fb_put (kB τ 0) (fun j => kB τ 0 (4 * 0 + j)) (4 * (c + 1)) 4 (4 * (c + 1) + j) = kB τ 0 j := fun j hj => by
      rw [fb_put_in (by omega) (by omega), show 4 * 0 + (4 * (c + 1) + j - 4 * (c + 1)) = j by omega]
    have iA : ∀ j, j < 6 → fb_put (kA τ 4) (fun j => kA τ 4 (6 * 0 + j)) (6 * (c + 1)) 6 (6 * (c + 1) + j) = kA τ 4 j := fun j hj => by
      rw [fb_put_in (by omega) (by omega), show 6 * 0 + (6 * (c + 1) + j - 6 * (c + 1)) = j by omega]
    have cp2 : f_X8_copies F (jI τ 2 (nI (c + 1))) 0 (nI (c + 1)) = some ((), zB (zA (jI τ 2 (nI (c + 1))) 4 (fb_put (kA τ 4) (fun j => kA τ 4 (6 * 0 + j)) (6 * (c + 1)) 6)) 0 (fb_put (kB τ 0) (fun j => kB τ 0 (4 * 0 + j)) (4 * (c + 1)) 4)) := cp
    rw [if_pos (show nI c < 2 from q0.mpr d), if_neg (show ¬ nI c = 2 from fun z => by have := q1.mp z; omega), kb_eq (p_putK k5 d k1 k6 k3), nI_1, kb_eq cp2]
    clear cp cp2
    generalize fb_put (kB τ 0) (fun j => kB τ 0 (4 * 0 + j)) (4 * (c + 1)) 4 = B at *
    generalize fb_put (kA τ 4) (fun j => kA τ 4 (6 * 0 + j)) (6 * (c + 1)) 6 = A at *
    obtain ⟨m0, m1, m2, m3, m4, m5, m6⟩ := hM
    obtain ⟨n1, n2, n3, n4⟩ := hN
    refine ok_mk rfl ⟨a, w, l, n, r, h, c + 1, hP, ⟨m0, m1, m2, m3, m4, m5, ?_⟩, hA, ⟨hL.1, hL.2.1, fun i hi => (eA i (by omega)).trans (hL.2.2 i hi)⟩, hT, hX, hR, ⟨(eB 0 (by omega)).trans n1, ?_, ?_, n4⟩, hU, ⟨k1, by omega, rfl, rfl, t % 2 + 1, by omega, rfl, fun j hj => ?_⟩⟩
    · show (B 1).toInt = _
      rw [eB 1 (by omega)]; exact m6
    · show (B 2).toInt = _
      rw [eB 2 (by omega)]; exact n2
    · show (B 3).toInt = _
      rw [eB 3 (by omega)]; exact n3
    · by_cases e : j = 0
      · subst e
        have ep : (t % 2 + 1 + 1 - 0) % 2 = t % 2 := by omega
        rw [ep, Nat.sub_zero]
        have x1 : kB (putK σ (t % 2) (c + 1)) 1 (t % 2) = kG σ 0 := (kB_jB _ 1 (t % 2) (t % 2) _).trans (if_pos rfl)
        have x2 : kA (putK σ (t % 2) (c + 1)) 10 (t % 2) = kI σ 15 := (kA_jA (jB σ 1 (t % 2) (kG σ 0)) 10 (t % 2) (t % 2) (kI σ 15)).trans (if_pos rfl)
        have x3 : kA (putK σ (t % 2) (c + 1)) 11 (t % 2) = kI σ 16 := (kA_jA σ 11 (t % 2) (t % 2) (kI σ 16)).trans (if_pos rfl)
        have x4 : kA (putK σ (t % 2) (c + 1)) 12 (t % 2) = kI σ 17 := (kA_jA σ 12 (t % 2) (t % 2) (kI σ 17)).trans (if_pos rfl)
        have x5 : kA (putK σ (t % 2) (c + 1)) 13 (t % 2) = kI σ 18 := (kA_jA σ 13 (t % 2) (t % 2) (kI σ 18)).trans (if_pos rfl)
        unfold kpE
        rw [x1, x2, x3, x4, x5]
        refine ⟨(iB 0 (by omega)).trans n1, ?_, hP.2.2.2.2.2.2.2, ?_, ?_, n4, w, hL.2.1, hL.1, fun q hq => (iA q (by omega)).trans (hL.2.2 q hq)⟩
        · show (B (4 * (c + 1) + 1)).toInt = _
          rw [iB 1 (by omega)]; exact m6
        · show (B (4 * (c + 1) + 2)).toInt = _
          rw [iB 2 (by omega)]; exact n2
        · show (B (4 * (c + 1) + 3)).toInt = _
          rw [iB 3 (by omega)]; exact n3
      · obtain ⟨i, rfl⟩ : ∃ i, j = i + 1 := ⟨j - 1, by omega⟩
        have kk := k7 i (by omega)
        have ep : (t % 2 + 1 + 1 - (i + 1)) % 2 = (t + 1 - i) % 2 := by omega
        have ne : ¬ (t + 1 - i) % 2 = t % 2 := by omega
        rw [ep, show c + 1 - (i + 1) = c - i by omega]
        generalize (t + 1 - i) % 2 = p at *
        have x1 : kB (putK σ (t % 2) (c + 1)) 1 p = kB σ 1 p := (kB_jB _ 1 (t % 2) p _).trans (if_neg ne)
        have x2 : kA (putK σ (t % 2) (c + 1)) 10 p = kA σ 10 p := (kA_jA (jB σ 1 (t % 2) (kG σ 0)) 10 (t % 2) p (kI σ 15)).trans (if_neg ne)
        have x3 : kA (putK σ (t % 2) (c + 1)) 11 p = kA σ 11 p := (kA_jA σ 11 (t % 2) p (kI σ 16)).trans (if_neg ne)
        have x4 : kA (putK σ (t % 2) (c + 1)) 12 p = kA σ 12 p := (kA_jA σ 12 (t % 2) p (kI σ 17)).trans (if_neg ne)
        have x5 : kA (putK σ (t % 2) (c + 1)) 13 p = kA σ 13 p := (kA_jA σ 13 (t % 2) p (kI σ 18)).trans (if_neg ne)
        obtain ⟨g1, g2, g3, g4, g5, g6, w2, g7, g8, g9⟩ := kk
        unfold kpE
        rw [x1, x2, x3, x4, x5]
        refine ⟨(eB _ (by omega)).trans g1, ?_, g3, ?_, ?_, g6, w2, g7, g8, fun q hq => (eA _ (by omega)).trans (g9 q hq)⟩
        · show (B (4 * (c - i) + 1)).toInt = _
          rw [eB _ (by omega)]; exact g2
        · show (B (4 * (c - i) + 2)).toInt = _
          rw [eB _ (by omega)]; exact g4
        · show (B (4 * (c - i) + 3)).toInt = _
          rw [eB _ (by omega)]; exact g5
  · rw [if_neg (show ¬ nI c < 2 from fun z => d (q0.mp z)), if_pos (show nI c = 2 from q1.mpr (by omega))]
    exact ok_s R0 _
def takK (σ : kS) (p c : Nat) : kS := jI (jI (jI (jI (jG (jI (jI σ 25 (nI c)) 24 (nI p)) 0 (kB σ 1 p)) 15 (kA σ 10 p)) 16 (kA σ 11 p)) 17 (kA σ 12 p)) 18 (kA σ 13 p)
theorem p_takeK {t c : Nat} (ht : t ≤ 2) (h1 : 1 ≤ c) (hc : c ≤ 2) (h23 : kI σ 23 = 2) (h24 : kI σ 24 = nI t) (h25 : kI σ 25 = nI c) : f_X5_takeInto_v1 F σ = some ((), takK σ ((t + 1) % 2) (c - 1)) := by
  unfold f_X5_takeInto_v1 s_X5_takeInto_v1_0
  have q0 := nI_ltI (a := 0) (b := c) (by omega) (by omega)
  have qt := nI_leI (a := t) (b := 0) (by omega) (by omega)
  have fin : ∀ p : Nat, p < 2 → s_X5_takeInto_v1_41 F (jI σ 25 (nI (c - 1))) (nI p) = some ((), takK σ p (c - 1)) := by
    intro p hp
    unfold s_X5_takeInto_v1_41
    rw [if_neg (nI_in (by omega) (by omega)), if_neg (nI_in (by omega) (by omega)), if_neg (nI_in (by omega) (by omega)), if_neg (nI_in (by omega) (by omega)), if_neg (nI_in (by omega) (by omega)), nI_clamp (by omega)]
    rfl
  rw [h23, h24, h25, if_pos (show (0 : Int32) < nI c from q0.mpr (by omega)), k_m1 h1]
  by_cases c0 : t = 0
  · rw [if_pos (show nI t ≤ 0 from qt.mpr (by omega)), show (2 : Int32) - 1 = nI 1 by decide, show (t + 1) % 2 = 1 by omega]
    exact fin 1 (by omega)
  · rw [if_neg (show ¬ nI t ≤ 0 from fun z => c0 (by have := qt.mp z; omega)), k_m1 (show 1 ≤ t by omega), show (t + 1) % 2 = t - 1 by omega]
    exact fin (t - 1) (by omega)
theorem r_back (hF : 200000 ≤ F) (R : Rel k σ τ) : Ok (k + 1) (f_X7_back F σ) (f_X8_back F τ) := by
  have R0 := R
  obtain ⟨a, w, l, n, r, h, c, hP, hM, hA, hL, hT, hX, hR, hN, hU, hK⟩ := R.up (show k ≤ k + 1 by omega)
  obtain ⟨k1, k2, k3, k4, t, k5, k6, k7⟩ := hK
  obtain ⟨u1, u2, u3, u4, t2, S, v1, v2, -⟩ := hU
  have ha := hA.1
  unfold f_X7_back f_X8_back s_X7_back_0 s_X8_back_0
  have q1 := nI_eq (a := c) (b := 0) (by omega) (by omega)
  rw [k3, k4]
  by_cases d : c = 0
  · rw [if_pos (show nI c = 0 from q1.mpr d), if_pos (show nI c = 0 from q1.mpr d)]
    exact ok_s R0 _
  · have cp := p8_copies (F := F) (τ := τ) hF (x := c) (y := 0) (by omega) (by omega) d
    have cp2 : f_X8_copies F τ (nI c) 0 = _ := cp
    rw [if_neg (show ¬ nI c = 0 from fun z => d (q1.mp z)), if_neg (show ¬ nI c = 0 from fun z => d (q1.mp z)), kb_eq (p_takeK k5 (by omega) k2 k1 k6 k3), kb_eq cp2]
    clear cp cp2
    have eB : ∀ j, 4 ≤ j → fb_put (kB τ 0) (fun j => kB τ 0 (4 * c + j)) (4 * 0) 4 j = kB τ 0 j := fun j hj => fb_put_out (Or.inr (by omega))
    have eA : ∀ j, 6 ≤ j → fb_put (kA τ 4) (fun j => kA τ 4 (6 * c + j)) (6 * 0) 6 j = kA τ 4 j := fun j hj => fb_put_out (Or.inr (by omega))
    have iB : ∀ j, j < 4 → fb_put (kB τ 0) (fun j => kB τ 0 (4 * c + j)) (4 * 0) 4 j = kB τ 0 (4 * c + j) := fun j hj => by
      rw [fb_put_in (by omega) (by omega), show j - 4 * 0 = j by omega]
    have iA : ∀ j, j < 6 → fb_put (kA τ 4) (fun j => kA τ 4 (6 * c + j)) (6 * 0) 6 j = kA τ 4 (6 * c + j) := fun j hj => by
      rw [fb_put_in (by omega) (by omega), show j - 6 * 0 = j by omega]
    generalize fb_put (kB τ 0) (fun j => kB τ 0 (4 * c + j)) (4 * 0) 4 = B at *
    generalize fb_put (kA τ 4) (fun j => kA τ 4 (6 * c + j)) (6 * 0) 6 = A at *
    have ez : kI (zB (zA τ 4 A) 0 B) 2 = nI c := k4
    rw [ez, k_m1 (by omega)]
    have kk := k7 0 (by omega)
    have ep : (t + 1 - 0) % 2 = (t + 1) % 2 := rfl
    rw [ep, Nat.sub_zero] at kk
    obtain ⟨g1, g2, g3, g4, g5, g6, w2, g7, g8, g9⟩ := kk
    unfold f_X5_clear s_X5_clear_0
    rw [kb_eq rfl]
    have kq : ∀ j, j < c - 1 → kpE a (k + 1) σ τ (((t + 1) % 2 + 1 - j) % 2) (c - 1 - j) := by
      intro j hj
      have := k7 (j + 1) (by omega)
      rw [show (t + 1 - (j + 1)) % 2 = ((t + 1) % 2 + 1 - j) % 2 by omega, show c - (j + 1) = c - 1 - j by omega] at this
      exact this
    have pl : (t + 1) % 2 ≤ 2 := by omega
    generalize (t + 1) % 2 = p at *
    obtain ⟨m0, m1, m2, m3, m4, m5, m6⟩ := hM
    obtain ⟨p1, p2, p3, p4, p5, p6, p7, -⟩ := hP
    refine ok_mk rfl ⟨a, w2, l, n, r, 0, c - 1, ⟨p1, p2, p3, p4, p5, p6, p7, g3⟩, ⟨m0, m1, m2, m3, m4, m5, ?_⟩, hA, ⟨g8, g7, fun i hi => (iA i (by omega)).trans (g9 i hi)⟩, hT, hX, hR, ⟨(iB 0 (by omega)).trans g1, ?_, ?_, g6⟩, ⟨u1, by omega, rfl, rfl, t2, fun _ => cur (takK σ p (c - 1)), v1, v2, rfl, fun j hj => absurd hj (by omega), fun j hj => absurd hj (by omega), fun j hj => ⟨g6, w2, g7, g8⟩⟩, ⟨k1, by omega, rfl, rfl, p, pl, rfl, fun j hj => ?_⟩⟩
    · show (B 1).toInt = _
      rw [iB 1 (by omega)]; exact g2
    · show (B 2).toInt = _
      rw [iB 2 (by omega)]; exact g4
    · show (B 3).toInt = _
      rw [iB 3 (by omega)]; exact g5
    · obtain ⟨g1, g2, g3, g4, g5, g6, w2, g7, g8, g9⟩ := kq j hj
      refine ⟨(eB _ (by omega)).trans g1, ?_, g3, ?_, ?_, g6, w2, g7, g8, fun q hq => (eA _ (by omega)).trans (g9 q hq)⟩
      · show (B (4 * (c - 1 - j) + 1)).toInt = _
        rw [eB _ (by omega)]; exact g2
      · show (B (4 * (c - 1 - j) + 2)).toInt = _
        rw [eB _ (by omega)]; exact g4
      · show (B (4 * (c - 1 - j) + 3)).toInt = _
        rw [eB _ (by omega)]; exact g5
end

/-! what can be undone: put, known; pass, doAct, allow, undo -/
section
variable {F : Nat} {σ τ : kS} {k : Nat}
def putS (σ : kS) (p h : Nat) : kS := jI (jI (jA (jA (jA (jA (jB σ 0 p (kG σ 0)) 6 p (kI σ 15)) 7 p (kI σ 16)) 8 p (kI σ 17)) 9 p (kI σ 18)) 21 (nI (p + 1))) 22 (nI h)
theorem p_put {t h : Nat} (ht : t ≤ 8) (hh : h ≤ 8) (h20 : kI σ 20 = 8) (h21 : kI σ 21 = nI t) (h22 : kI σ 22 = nI h) : f_X5_put F σ = some ((), putS σ (t % 8) (if h < 8 then h + 1 else 8)) := by
  have e22 : (if (8 : Int32) < nI h + 1 then (8 : Int32) else nI h + 1) = nI (if h < 8 then h + 1 else 8) := by
    rw [nI_1]
    have q := nI_ltI (a := 8) (b := h + 1) (by omega) (by omega)
    by_cases c : h < 8
    · rw [if_neg (show ¬ (8 : Int32) < nI (h + 1) from fun z => by have := q.mp z; omega), if_pos c]
    · rw [if_pos (show (8 : Int32) < nI (h + 1) from q.mpr (by omega)), if_neg c]
      rfl
  unfold f_X5_put s_X5_put_0
  have qt := nI_ltI (a := t) (b := 8) (by omega) (by omega)
  by_cases c : t < 8
  · rw [h20, h21, if_pos (show nI t < 8 from qt.mpr c)]
    unfold s_X5_put_16
    rw [h20, h21, h22, if_neg (nI_in (by omega) (by omega)), if_neg (nI_in (by omega) (by omega)), if_neg (nI_in (by omega) (by omega)), if_neg (nI_in (by omega) (by omega)), if_neg (nI_in (by omega) (by omega)), e22, nI_clamp (by omega), nI_1, Nat.mod_eq_of_lt c]
    rfl
  · rw [h20, h21, if_neg (show ¬ nI t < 8 from fun z => c (qt.mp z))]
    have e : t = 8 := by omega
    subst e
    unfold s_X5_put_16
    have z8 : ¬ ((0 : Int32) < 0 ∨ 8 ≤ (0 : Int32).toNatClampNeg) := by decide
    rw [show kI (jI σ 21 0) 21 = 0 from rfl, show kI (jI σ 21 0) 20 = 8 from h20, show kI (jI σ 21 0) 22 = nI h from h22, if_neg z8, if_neg z8, if_neg z8, if_neg z8, if_neg z8, e22]
    show some ((), jI (jI (jI (jA (jA (jA (jA (jB σ 0 0 (kG σ 0)) 6 0 (kI σ 15)) 7 0 (kI σ 16)) 8 0 (kI σ 17)) 9 0 (kI σ 18)) 21 0) 21 (nI 1)) 22 _) = _
    rw [jI_jI]
    rfl
theorem ix3 (i : Nat) : (3 : Int32) * nI i = nI (3 * i) := by
  rw [show (3 : Int32) = nI 3 from rfl, pk_mul]
theorem nI_2 (i : Nat) : nI i + 2 = nI (i + 2) := nI_add i 2
theorem nI_3 (i : Nat) : nI i + 3 = nI (i + 3) := nI_add i 3
theorem p8_known51 {h : Nat} (hh : h < 8) (h3 : kI τ 3 = nI h) (x y z : Int32) : s_X8_known_51 F τ x y z = some ((), jI (jA (jA (jA τ 5 (3 * h) x) 5 (3 * h + 1) y) 5 (3 * h + 2) z) 3 (nI (h + 1))) := by
  unfold s_X8_known_51
  rw [h3, ix3, nI_1, nI_1, nI_2, if_neg (nI_in (by omega) (by omega)), if_neg (nI_in (by omega) (by omega)), if_neg (nI_in (by omega) (by omega)), nI_clamp (by omega), nI_clamp (by omega), nI_clamp (by omega)]
theorem p8_known12 (x y z : Int32) : ∀ (f m : Nat), m ≤ 21 → 21 - m < f → itr (fun rec12 q => s_X8_known_12 F rec12 q.1 q.2.1 q.2.2.1 q.2.2.2.1 q.2.2.2.2) f (zA τ 5 (fa_fill (fun j => kA τ 5 (j + 3)) (kA τ 5) m), x, y, z, nI m) = s_X8_known_51 F (jI (zA τ 5 (fa_fill (fun j => kA τ 5 (j + 3)) (kA τ 5) 21)) 3 (kI τ 3 - 1)) x y z := by
  intro f
  induction f with
  | zero => intro m _ h; omega
  | succ f ih =>
    intro m hm hf
    show s_X8_known_12 F _ (zA τ 5 (fa_fill (fun j => kA τ 5 (j + 3)) (kA τ 5) m)) x y z (nI m) = _
    unfold s_X8_known_12
    have hle := nI_leI (a := 21) (b := m) (by omega) (by omega)
    by_cases c : 21 ≤ m
    · have e : m = 21 := by omega
      subst e
      rw [if_pos (show (21 : Int32) ≤ nI 21 from hle.mpr c)]
      rfl
    · rw [if_neg (show ¬ (21 : Int32) ≤ nI m from fun q => c (hle.mp q)), nI_3, if_neg (nI_in (by omega) (by omega)), if_neg (nI_in (by omega) (by omega)), nI_clamp (by omega), nI_clamp (by omega), kA_zA, fa_fill_out (by omega), jA_zA, nI_1]
      have e := fa_fill_succ (fun j => kA τ 5 (j + 3)) (kA τ 5) m
      rw [e]
      exact ih (m + 1) (by omega) (by omega)
theorem p8_known (hF : 200000 ≤ F) {h : Nat} (hh : h ≤ 8) (h3 : kI τ 3 = nI h) (x y z : Int32) : ∃ g : Nat → Int32, f_X8_known F τ x y z = some ((), jI (zA τ 5 g) 3 (nI (if h < 8 then h + 1 else 8))) ∧ g (3 * (if h < 8 then h else 7)) = x ∧ g (3 * (if h < 8 then h else 7) + 1) = y ∧ g (3 * (if h < 8 then h else 7) + 2) = z ∧ ∀ j, j < 3 * (if h < 8 then h else 7) → g j = kA τ 5 (j + if h < 8 then 0 else 3) := by
  unfold f_X8_known s_X8_known_0
  have q8 := nI_eq (a := h) (b := 8) (by omega) (by omega)
  by_cases c : h < 8
  · rw [if_pos c, if_pos c, if_pos c, h3, if_neg (show ¬ nI h = 8 from fun q => by have := q8.mp q; omega), p8_known51 c h3]
    refine ⟨upd (upd (upd (kA τ 5) (3 * h) x) (3 * h + 1) y) (3 * h + 2) z, ?_, ?_, ?_, ?_, ?_⟩
    · rw [show jA τ 5 (3 * h) x = zA τ 5 (upd (kA τ 5) (3 * h) x) from rfl, jA_zA, jA_zA]
    · rw [pk_un (by omega), pk_un (by omega), pk_us]
    · rw [pk_un (by omega), pk_us]
    · rw [pk_us]
    · intro j hj
      rw [pk_un (by omega), pk_un (by omega), pk_un (by omega), Nat.add_zero]
  · have e : h = 8 := by omega
    subst e
    rw [if_neg c, if_neg c, if_neg c, h3, if_pos (show nI 8 = (8 : Int32) from rfl)]
    have e1 := p8_known12 (F := F) (τ := τ) x y z F 0 (by omega) (by omega)
    rw [fa_fill_0, zA_self, h3, show nI 8 - 1 = nI 7 by decide] at e1
    have e2 : f_X8_known_12 F (τ, x, y, z, 0) = _ := e1
    rw [e2, p8_known51 (h := 7) (by omega) rfl]
    refine ⟨upd (upd (upd (fa_fill (fun j => kA τ 5 (j + 3)) (kA τ 5) 21) 21 x) 22 y) 23 z, ?_, ?_, ?_, ?_, ?_⟩
    · show some ((), jI (jI (jA (jA (jA (zA τ 5 (fa_fill (fun j => kA τ 5 (j + 3)) (kA τ 5) 21)) 5 21 x) 5 22 y) 5 23 z) 3 (nI 7)) 3 (nI 8)) = _
      rw [jI_jI, jA_zA, jA_zA, jA_zA]
    · rw [pk_un (by omega), pk_un (by omega), pk_us]
    · rw [pk_un (by omega), pk_us]
    · rw [pk_us]
    · intro j hj
      rw [pk_un (by omega), pk_un (by omega), pk_un (by omega), fa_fill_in (by omega)]
def nS (s : kRg) (S : Nat → kRg) : Nat → kRg
  | 0 => s
  | j + 1 => S j
theorem rgStep_fr {a : Nat} {σ2 : kS} (ac : ∀ j, kA σ2 3 j = kA σ 3 j) {s t : kRg} {d0 d1 d2 : Int32} (h : rgStep a σ s t d0 d1 d2) : rgStep a σ2 s t d0 d1 d2 := by
  unfold rgStep lst at *
  rcases h with h | ⟨h0, i, h1⟩ | h
  · exact Or.inl h
  · refine Or.inr (Or.inl ⟨h0, i, ?_⟩)
    rw [ac, ac, ac, ac]
    exact h1
  · exact Or.inr (Or.inr h)
theorem rgB_up {k2 : Nat} {s : kRg} (h : rgB k s) (hk : k ≤ k2) : rgB k2 s := ⟨bR_up h.1 hk, h.2⟩
theorem rPast_new {a h t : Nat} {S : Nat → kRg} {σ2 τ2 : kS} {d0 d1 d2 : Int32} (hh : h ≤ 8) (ht : t ≤ 8) (s0 : S 0 = cur σ)
    (s1 : ∀ j, j < h → (kB σ 0 ((t + 7 - j) % 8), kA σ 7 ((t + 7 - j) % 8), kA σ 8 ((t + 7 - j) % 8), kA σ 9 ((t + 7 - j) % 8)) = S (j + 1))
    (s2 : ∀ j, j < h → rgStep a σ (S j) (S (j + 1)) (kA τ 5 (3 * (h - 1 - j))) (kA τ 5 (3 * (h - 1 - j) + 1)) (kA τ 5 (3 * (h - 1 - j) + 2)))
    (s3 : ∀ j, j ≤ h → rgB k (S j))
    (c20 : kI σ2 20 = 8) (c21 : kI σ2 21 = nI (t % 8 + 1)) (c22 : kI σ2 22 = nI (if h < 8 then h + 1 else 8)) (m3 : kI τ2 3 = nI (if h < 8 then h + 1 else 8))
    (r0 : ∀ j, kB σ2 0 j = if j = t % 8 then kG σ 0 else kB σ 0 j) (r7 : ∀ j, kA σ2 7 j = if j = t % 8 then kI σ 16 else kA σ 7 j) (r8 : ∀ j, kA σ2 8 j = if j = t % 8 then kI σ 17 else kA σ 8 j) (r9 : ∀ j, kA σ2 9 j = if j = t % 8 then kI σ 18 else kA σ 9 j)
    (ac : ∀ j, kA σ2 3 j = kA σ 3 j)
    (g0 : kA τ2 5 (3 * (if h < 8 then h else 7)) = d0) (g1 : kA τ2 5 (3 * (if h < 8 then h else 7) + 1) = d1) (g2 : kA τ2 5 (3 * (if h < 8 then h else 7) + 2) = d2)
    (gg : ∀ j, j < 3 * (if h < 8 then h else 7) → kA τ2 5 j = kA τ 5 (j + if h < 8 then 0 else 3))
    (st : rgStep a σ (cur σ2) (cur σ) d0 d1 d2) (bd : rgB (k + 1) (cur σ2)) : rPast a (k + 1) (if h < 8 then h + 1 else 8) σ2 τ2 := by
  obtain ⟨h', e1, e2, e3, e4⟩ : ∃ h' : Nat, (if h < 8 then h + 1 else 8) = h' ∧ (if h < 8 then h else 7) = h' - 1 ∧ (1 ≤ h' ∧ h' ≤ 8 ∧ h' ≤ h + 1) ∧ (h' - 1) + (if h < 8 then 0 else 1) = h := by
    by_cases c : h < 8
    · exact ⟨h + 1, by rw [if_pos c], by rw [if_pos c]; omega, by omega, by rw [if_pos c]; omega⟩
    · exact ⟨8, by rw [if_neg c], by rw [if_neg c], by omega, by rw [if_neg c]; omega⟩
  have e5 : (if h < 8 then 0 else 3) = 3 * (if h < 8 then 0 else 1) := by
    by_cases c : h < 8
    · rw [if_pos c, if_pos c]
    · rw [if_neg c, if_neg c]
  rw [e1] at c22 m3 ⊢
  rw [e2] at g0 g1 g2
  rw [e2, e5] at gg
  generalize (if h < 8 then 0 else 1) = o at e4 gg
  refine ⟨c20, by omega, c22, m3, t % 8 + 1, nS (cur σ2) S, by omega, c21, rfl, ?_, ?_, ?_⟩
  · intro j hj
    rw [r0, r7, r8, r9]
    by_cases c : j = 0
    · subst c
      rw [if_pos (by omega), if_pos (by omega), if_pos (by omega), if_pos (by omega)]
      exact s0.symm
    · obtain ⟨i, rfl⟩ : ∃ i, j = i + 1 := ⟨j - 1, by omega⟩
      have ne : ¬ (t % 8 + 1 + 7 - (i + 1)) % 8 = t % 8 := by omega
      have eq : (t % 8 + 1 + 7 - (i + 1)) % 8 = (t + 7 - i) % 8 := by omega
      rw [if_neg ne, if_neg ne, if_neg ne, if_neg ne, eq]
      exact s1 i (by omega)
  · intro j hj
    by_cases c : j = 0
    · subst c
      show rgStep a σ2 (cur σ2) (S 0) _ _ _
      rw [Nat.sub_zero, g0, g1, g2, s0]
      exact rgStep_fr ac st
    · obtain ⟨i, rfl⟩ : ∃ i, j = i + 1 := ⟨j - 1, by omega⟩
      show rgStep a σ2 (S i) (S (i + 1)) _ _ _
      have x := s2 i (by omega)
      rw [gg _ (by omega), gg _ (by omega), gg _ (by omega)]
      rw [show 3 * (h' - 1 - (i + 1)) + 3 * o = 3 * (h - 1 - i) by omega, show 3 * (h' - 1 - (i + 1)) + 1 + 3 * o = 3 * (h - 1 - i) + 1 by omega, show 3 * (h' - 1 - (i + 1)) + 2 + 3 * o = 3 * (h - 1 - i) + 2 by omega]
      exact rgStep_fr ac x
  · intro j hj
    by_cases c : j = 0
    · subst c
      exact bd
    · obtain ⟨i, rfl⟩ : ∃ i, j = i + 1 := ⟨j - 1, by omega⟩
      exact rgB_up (s3 i (by omega)) (by omega)
theorem ok_mk {α : Type} {v v' : α} {σ' τ' : kS} (e : v' = v) (R : Rel k σ' τ') : Ok k (some (v, σ')) (some (v', τ')) := ⟨v, σ', τ', rfl, by rw [e], R⟩
theorem r_pass (hF : 200000 ≤ F) (hk : k < 600) (R : Rel k σ τ) (x : Int32) : Ok (k + 1) (f_X7_pass F σ x) (f_X8_pass F τ x) := by
  have R0 := R
  obtain ⟨a, w, l, n, r, h, c, hP, hM, hA, hL, hT, hX, hR, hN, hU, hK⟩ := R
  unfold f_X7_pass f_X8_pass s_X7_pass_0 s_X8_pass_0 s_X7_pass_12
  have e1 := p8_inI (F := F) (τ := τ) x 1 9999 1 9999 rfl rfl
  have b0 := k_lt x 1 1 rfl
  have b1 := k_le x 9999 9999 rfl
  by_cases c1 : x.toInt < 1
  · rw [if_pos (b0.mpr c1), kb_eq (e1.2 (by omega)), if_pos k00]
    exact ok_s R0 _
  · by_cases d : x.toInt ≤ 9999
    · obtain ⟨u1, u2, u3, u4, t, S, v1, v2, v3, v4, v5, v6⟩ := hU
      obtain ⟨n1, n2, n3, ⟨⟨n4, n5⟩, n6⟩⟩ := hN
      obtain ⟨g, y1, y2, y3, y4, y5⟩ := p8_known (F := F) (τ := jB τ 0 0 (kB τ 0 0 + x.toInt64)) hF u2 u4 0 x 0
      rw [if_neg (fun q => c1 (b0.mp q)), if_pos (b1.mpr d), kb_eq (e1.1 (by omega)), if_neg k10, kb_eq (p_put v1 u2 u1 v2 u3), kb_eq y1]
      have em : (kG σ 0 + x.toInt64).toInt = (kG σ 0).toInt + x.toInt := by
        rw [fb_addL (by rw [k_32_64]; omega) (by rw [k_32_64]; omega), k_32_64]
      have eb : bR (k + 1) (kG σ 0 + x.toInt64) (kI σ 16) (kI σ 17) := by
        have := bR_up (k := k) (k2 := k + 1) (m := kG σ 0) ⟨⟨n4, n5⟩, n6⟩ (by omega)
        refine ⟨?_, this.2⟩
        rw [em]
        omega
      refine ok_mk (show kB τ 0 0 + x.toInt64 = kG σ 0 + x.toInt64 by rw [n1]) ⟨a, w, l, n, r, (if h < 8 then h + 1 else 8), c, hP, hM, hA, hL, hT, hX, hR, ⟨(show kB τ 0 0 + x.toInt64 = kG σ 0 + x.toInt64 by rw [n1]), n2, n3, eb⟩, ?_, rKept_fr (rKept_up hK (by omega)) rfl rfl rfl (fun p => ⟨rfl, rfl, rfl, rfl, rfl⟩) rfl (fun i hi => (kB_jB τ 0 0 i (kB τ 0 0 + x.toInt64)).trans (if_neg (by omega))) (fun i hi => rfl)⟩
      refine rPast_new (σ := σ) (τ := τ) u2 v1 v3 v4 v5 v6 u1 rfl rfl rfl (fun j => kB_jB _ 0 _ j _) (fun j => kA_jA (jA (jB σ 0 (t % 8) (kG σ 0)) 6 (t % 8) (kI σ 15)) 7 _ j _) (fun j => kA_jA (jA (jA (jB σ 0 (t % 8) (kG σ 0)) 6 (t % 8) (kI σ 15)) 7 (t % 8) (kI σ 16)) 8 _ j _) (fun j => kA_jA (jA (jA (jA (jB σ 0 (t % 8) (kG σ 0)) 6 (t % 8) (kI σ 15)) 7 (t % 8) (kI σ 16)) 8 (t % 8) (kI σ 17)) 9 _ j _) (fun j => rfl) y2 y3 y4 y5 ?_ ?_
      · exact Or.inl ⟨rfl, (Int64.add_sub_cancel _ _).symm, rfl, rfl, rfl⟩
      · exact ⟨eb, w, hL.2.1, hL.1⟩
    · rw [if_neg (fun q => c1 (b0.mp q)), if_neg (fun q => d (b1.mp q)), kb_eq (e1.2 (by omega)), if_pos k00]
      exact ok_s R0 _
end

/-! undo, keep, back -/
section
variable {F : Nat} {σ τ : kS} {k : Nat}
def takS (σ : kS) (p h : Nat) : kS := jI (jI (jI (jI (jG (jI (jI σ 22 (nI h)) 21 (nI p)) 0 (kB σ 0 p)) 15 (kA σ 6 p)) 16 (kA σ 7 p)) 17 (kA σ 8 p)) 18 (kA σ 9 p)
theorem k_m1 {h : Nat} (h1 : 1 ≤ h) : nI h - 1 = nI (h - 1) := pk_sub (b := 1) h1
theorem p_takeInto {t h : Nat} (ht : t ≤ 8) (h1 : 1 ≤ h) (hh : h ≤ 8) (h20 : kI σ 20 = 8) (h21 : kI σ 21 = nI t) (h22 : kI σ 22 = nI h) : f_X5_takeInto F σ = some ((), takS σ ((t + 7) % 8) (h - 1)) := by
  unfold f_X5_takeInto s_X5_takeInto_0
  have q0 := nI_ltI (a := 0) (b := h) (by omega) (by omega)
  have qt := nI_leI (a := t) (b := 0) (by omega) (by omega)
  have fin : ∀ p : Nat, p < 8 → s_X5_takeInto_41 F (jI σ 22 (nI (h - 1))) (nI p) = some ((), takS σ p (h - 1)) := by
    intro p hp
    unfold s_X5_takeInto_41
    rw [if_neg (nI_in (by omega) (by omega)), if_neg (nI_in (by omega) (by omega)), if_neg (nI_in (by omega) (by omega)), if_neg (nI_in (by omega) (by omega)), if_neg (nI_in (by omega) (by omega)), nI_clamp (by omega)]
    rfl
  rw [h20, h21, h22, if_pos (show (0 : Int32) < nI h from q0.mpr (by omega)), k_m1 h1]
  by_cases c : t = 0
  · rw [if_pos (show nI t ≤ 0 from qt.mpr (by omega)), show (8 : Int32) - 1 = nI 7 by decide, show (t + 7) % 8 = 7 by omega]
    exact fin 7 (by omega)
  · rw [if_neg (show ¬ nI t ≤ 0 from fun z => c (by have := qt.mp z; omega)), k_m1 (show 1 ≤ t by omega), show (t + 7) % 8 = t - 1 by omega]
    exact fin (t - 1) (by omega)
theorem r_undo (hk : k < 600) (R : Rel k σ τ) : Ok (k + 1) (f_X7_undo F σ) (f_X8_undo F τ) := by
  have R0 := R
  obtain ⟨a, w, l, n, r, h, c, hP, hM, hA, hL, hT, hX, hR, hN, hU, hK⟩ := R.up (show k ≤ k + 1 by omega)
  obtain ⟨u1, u2, u3, u4, t, S, v1, v2, v3, v4, v5, v6⟩ := hU
  have ha := hA.1
  unfold f_X7_undo f_X8_undo s_X7_undo_0 s_X8_undo_0 s_X8_undo_160
  have q0 := nI_eq (a := h) (b := 0) (by omega) (by omega)
  by_cases c0 : h = 0
  · rw [u3, u4, if_pos (show nI h = 0 from q0.mpr c0), if_pos (show nI h = 0 from q0.mpr c0)]
    exact ok_s R0 _
  · have ne : ¬ nI h = 0 := fun z => c0 (q0.mp z)
    have e1 := (v4 0 (by omega)).symm
    have st := v5 0 (by omega)
    have b1 := v6 1 (by omega)
    rw [Nat.sub_zero] at e1 st
    have e1' : S 1 = (kB σ 0 ((t + 7) % 8), kA σ 7 ((t + 7) % 8), kA σ 8 ((t + 7) % 8), kA σ 9 ((t + 7) % 8)) := e1
    have st' : rgStep a σ (S 0) (S 1) (kA τ 5 (3 * (h - 1))) (kA τ 5 (3 * (h - 1) + 1)) (kA τ 5 (3 * (h - 1) + 2)) := st
    clear st e1
    rw [v3, e1'] at st'
    rw [e1'] at b1
    rw [u3, u4, if_neg ne, if_neg ne, kb_eq (p_takeInto v1 (by omega) u2 u1 v2 u3), k_m1 (by omega), ix3, nI_1, nI_2, if_neg (nI_in (by omega) (by omega)), kn_eq, if_neg (nI_in (by omega) (by omega)), if_neg (nI_in (by omega) (by omega)), if_neg (nI_in (by omega) (by omega)), nI_clamp (by omega), nI_clamp (by omega), nI_clamp (by omega)]
    have pst : ∀ τ2 : kS, kI τ2 3 = nI (h - 1) → (∀ j, kA τ2 5 j = kA τ 5 j) → rPast a (k + 1) (h - 1) (jI (takS σ ((t + 7) % 8) (h - 1)) 15 (kI σ 15)) τ2 := by
      intro τ2 z3 z5
      refine ⟨u1, by omega, rfl, z3, (t + 7) % 8, fun j => S (j + 1), by omega, rfl, e1', fun j hj => ?_, fun j hj => ?_, fun j hj => v6 (j + 1) (by omega)⟩
      · have := v4 (j + 1) (by omega)
        rw [show ((t + 7) % 8 + 7 - j) % 8 = (t + 7 - (j + 1)) % 8 by omega]
        exact this
      · have := v5 (j + 1) (by omega)
        rw [z5, z5, z5, show h - 1 - 1 - j = h - 1 - (j + 1) by omega]
        exact rgStep_fr (fun j => rfl) this
    generalize hp : (t + 7) % 8 = p at *
    obtain ⟨bb, w', hw', ew'⟩ := b1
    have ew : kA σ 9 p = nI w' := ew'
    rcases st' with ⟨d0, t1, t2, t3, t4⟩ | ⟨d0, i, hi, d1, t1, t2, t3, t4⟩ | ⟨d0, t1, t2, t3, i, v, w2, hi, d1, hv, hw2, f1, f2, d2, f3⟩
    · have t1 : kB σ 0 p = kG σ 0 - (kA τ 5 (3 * (h - 1) + 1)).toInt64 := t1
      have t2 : kA σ 7 p = kI σ 16 := t2
      have t3 : kA σ 8 p = kI σ 17 := t3
      have t4 : kA σ 9 p = kI σ 18 := t4
      rw [if_pos d0]
      refine ok_mk rfl ⟨a, w, l, n, r, h - 1, c, hP, hM, hA, ⟨t4.trans hL.1, hL.2.1, hL.2.2⟩, hT, hX, hR, ⟨?_, ?_, ?_, bb⟩, pst _ rfl (fun j => rfl), rKept_fr hK rfl rfl rfl (fun p => ⟨rfl, rfl, rfl, rfl, rfl⟩) rfl (fun i hi => (kB_jB _ 0 0 i _).trans (if_neg (by omega))) (fun i hi => rfl)⟩
      · show kB τ 0 0 - (kA τ 5 (3 * (h - 1) + 1)).toInt64 = kB σ 0 p
        rw [t1, hN.1]
      · show (kB τ 0 2).toInt = (kA σ 7 p).toInt
        rw [t2]; exact hN.2.1
      · show (kB τ 0 3).toInt = (kA σ 8 p).toInt
        rw [t3]; exact hN.2.2.1
    · have t1 : kB σ 0 p = kG σ 0 - (lst σ i).toInt64 := t1
      have t2 : kI σ 16 = kA σ 7 p + (kA σ 3 (5 * i + 3) - 50) := t2
      have t3 : kI σ 17 = kA σ 8 p + (kA σ 3 (5 * i + 4) - 50) := t3
      have t4 : kA σ 9 p = kI σ 18 := t4
      obtain ⟨-, -, ⟨q1, q2⟩, ⟨q3, q4⟩⟩ := hA.2.2.2.2 i hi
      obtain ⟨q9, ⟨q5, q6⟩, q7, q8⟩ := bb
      rw [d1, if_neg (show ¬ kA τ 5 (3 * (h - 1)) = 0 by rw [d0]; decide), if_pos d0, kb_eq (p8_lasts (τ := jI τ 3 (nI (h - 1))) hA i hi), ix5 i 3 3 rfl, ix5 i 4 4 rfl, if_neg (nI_in (by omega) (by omega)), if_neg (nI_in (by omega) (by omega)), nI_clamp (by omega), nI_clamp (by omega)]
      refine ok_mk rfl ⟨a, w, l, n, r, h - 1, c, hP, hM, hA, ⟨t4.trans hL.1, hL.2.1, hL.2.2⟩, hT, hX, hR, ⟨?_, ?_, ?_, ⟨q9, ⟨q5, q6⟩, q7, q8⟩⟩, pst _ rfl (fun j => rfl), rKept_fr hK rfl rfl rfl (fun p => ⟨rfl, rfl, rfl, rfl, rfl⟩) rfl (fun i hi => ?_) (fun i hi => rfl)⟩
      · show kB τ 0 0 - (lst σ i).toInt64 = kB σ 0 p
        rw [t1, hN.1]
      · show (kB τ 0 2 - (kA τ 3 (5 * i + 3) - 50).toInt64).toInt = (kA σ 7 p).toInt
        rw [hA.2.2.2.1 _ (by omega)]
        exact wback hN.2.1 t2 (by have : -(50 * ((k + 1 : Nat) : Int)) ≤ (kA σ 7 p).toInt := q5; omega) (by have : (kA σ 7 p).toInt ≤ 50 * ((k + 1 : Nat) : Int) := q6; omega) q1 q2
      · show (kB τ 0 3 - (kA τ 3 (5 * i + 4) - 50).toInt64).toInt = (kA σ 8 p).toInt
        rw [hA.2.2.2.1 _ (by omega)]
        exact wback hN.2.2.1 t3 (by have : -(50 * ((k + 1 : Nat) : Int)) ≤ (kA σ 8 p).toInt := q7; omega) (by have : (kA σ 8 p).toInt ≤ 50 * ((k + 1 : Nat) : Int) := q8; omega) q3 q4
      · refine (kB_jB _ 0 3 _ _).trans ?_
        rw [if_neg (by omega), kB_jB, if_neg (by omega), kB_jB, if_neg (by omega)]
        rfl
    · have t1 : kB σ 0 p = kG σ 0 := t1
      have t2 : kA σ 7 p = kI σ 16 := t2
      have t3 : kA σ 8 p = kI σ 17 := t3
      have f1 : kI σ 18 = nI v := f1
      have f2 : kA σ 9 p = nI w2 := f2
      have ev : v = w := (nI_eq (by omega) (by have := hL.2.1; omega)).mp (f1.symm.trans hL.1)
      rw [d1, if_neg (show ¬ kA τ 5 (3 * (h - 1)) = 0 by rw [d0]; decide), if_neg (show ¬ kA τ 5 (3 * (h - 1)) = 1 by rw [d0]; decide), if_neg (nI_in (by omega) (by omega)), nI_clamp (by omega), d2]
      refine ok_mk rfl ⟨a, w2, l, n, r, h - 1, c, hP, hM, hA, ⟨f2, hw2, fun j hj => ?_⟩, hT, hX, hR, ⟨?_, ?_, ?_, bb⟩, pst _ rfl (fun j => rfl), rKept_fr hK rfl rfl rfl (fun p => ⟨rfl, rfl, rfl, rfl, rfl⟩) rfl (fun i hi => rfl) (fun j hj => (kA_jA _ 4 i j _).trans (if_neg (by omega)))⟩
      · refine (kA_jA _ 4 i j _).trans ?_
        by_cases e : j = i
        · rw [if_pos e, e]; rfl
        · rw [if_neg e]
          refine (show kA (jI τ 3 (nI (h - 1))) 4 j = kA τ 4 j from rfl).trans ((hL.2.2 j hj).trans ?_)
          have h9 := f3 j hj e
          rw [ev] at h9
          unfold dg at h9
          rw [h9]
      · show kB τ 0 0 = kB σ 0 p
        rw [t1, hN.1]
      · show (kB τ 0 2).toInt = (kA σ 7 p).toInt
        rw [t2]; exact hN.2.1
      · show (kB τ 0 3).toInt = (kA σ 8 p).toInt
        rw [t3]; exact hN.2.2.1
end

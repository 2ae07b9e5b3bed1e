/-! fault: the two readers alike -/
section
variable {F : Nat} {σ τ : kS} {k : Nat}
theorem p_takeAct {b : Nat} (hb : b ≤ 6) (h7 : kI σ 7 = nI b) (hs : ∀ j, j < 5 → 0 ≤ (kA σ 1 j).toInt) : (b < 6 ∧ gAc (kA σ 1 0) (kA σ 1 1) (kA σ 1 2) (kA σ 1 3) (kA σ 1 4) → f_X2_takeAct F σ = some (1, jI (jC σ 1 2 0 (b * 5) 5) 7 (nI (b + 1)))) ∧ (¬ (b < 6 ∧ gAc (kA σ 1 0) (kA σ 1 1) (kA σ 1 2) (kA σ 1 3) (kA σ 1 4)) → f_X2_takeAct F σ = some (0, σ)) := by
  have s0 := hs 0 (by omega)
  have s1 := hs 1 (by omega)
  have s2 := hs 2 (by omega)
  have s3 := hs 3 (by omega)
  have s4 := hs 4 (by omega)
  have a1 := k_gt (kA σ 1 0) 4 4 rfl
  have a2 := k_gt (kA σ 1 1) 3 3 rfl
  have a3 := k_lt (kA σ 1 2) 1 1 rfl
  have a4 := k_le (kA σ 1 2) 99 99 rfl
  have a5 := k_gt (kA σ 1 3) 99 99 rfl
  have a6 := k_le (kA σ 1 4) 99 99 rfl
  have h6 := nI_leI (a := 6) (b := b) (by omega) (by omega)
  have e5 : nI b * 5 = nI (b * 5) := by rw [show (5 : Int32) = nI 5 from rfl, pk_mul]
  unfold f_X2_takeAct s_X2_takeAct_0 gAc
  rw [h7, e5, if_neg (nI_pos (by omega))]
  by_cases c0 : 6 ≤ b
  · rw [if_pos (show (6 : Int32) ≤ nI b from h6.mpr c0)]; exact ⟨fun h => by omega, fun _ => rfl⟩
  rw [if_neg (show ¬ (6 : Int32) ≤ nI b from fun z => c0 (h6.mp z)), if_pos (show (5 : Int32) ≤ 5 by decide)]
  by_cases c1 : 4 < (kA σ 1 0).toInt
  · rw [if_pos (a1.mpr c1)]; exact ⟨fun h => by omega, fun _ => rfl⟩
  rw [if_neg (fun z => c1 (a1.mp z))]
  by_cases c2 : 3 < (kA σ 1 1).toInt
  · rw [if_pos (a2.mpr c2)]; exact ⟨fun h => by omega, fun _ => rfl⟩
  rw [if_neg (fun z => c2 (a2.mp z))]
  by_cases c3 : (kA σ 1 2).toInt < 1
  · rw [if_pos (a3.mpr c3)]; exact ⟨fun h => by omega, fun _ => rfl⟩
  rw [if_neg (fun z => c3 (a3.mp z))]
  by_cases c4 : (kA σ 1 2).toInt ≤ 99
  · rw [if_pos (a4.mpr c4)]
    by_cases c5 : 99 < (kA σ 1 3).toInt
    · rw [if_pos (a5.mpr c5)]; exact ⟨fun h => by omega, fun _ => rfl⟩
    rw [if_neg (fun z => c5 (a5.mp z))]
    by_cases c6 : (kA σ 1 4).toInt ≤ 99
    · have n5 : (5 : Int32).toNatClampNeg = 5 := by decide
      have n0 : (0 : Int32).toNatClampNeg = 0 := by decide
      have nn : (nI (b * 5)).toNatClampNeg = b * 5 := nI_clamp (by omega)
      have ng : ¬ ((0 : Int32) < 0 ∨ nI (b * 5) < 0 ∨ (5 : Int32) < 0 ∨ 5 < (0 : Int32).toNatClampNeg + (5 : Int32).toNatClampNeg ∨ 30 < (nI (b * 5)).toNatClampNeg + (5 : Int32).toNatClampNeg) := by
        rw [n5, n0, nn]
        rintro (z | z | z | z | z)
        · exact absurd z (by decide)
        · exact nI_pos (by omega) z
        · exact absurd z (by decide)
        · omega
        · omega
      rw [if_pos (a6.mpr c6), if_neg ng, nn, nI_1]
      exact ⟨fun _ => rfl, fun h => absurd (by omega) h⟩
    · rw [if_neg (fun z => c6 (a6.mp z))]; exact ⟨fun h => by omega, fun _ => rfl⟩
  · rw [if_neg (fun z => c4 (a4.mp z))]; exact ⟨fun h => by omega, fun _ => rfl⟩
theorem p8_good97 (hF : 200000 ≤ F) {b : Nat} (hb : b ≤ 6) (h2 : kA τ 2 1 = nI b) : (b < 6 ∧ gAc (kA τ 8 0) (kA τ 8 1) (kA τ 8 2) (kA τ 8 3) (kA τ 8 4) → f_X8_isGood F τ 97 = some (1, jA (zA τ 3 (fb_put (kA τ 3) (kA τ 8) (30 + 5 * b) 5)) 2 1 (nI (b + 1)))) ∧ (¬ (b < 6 ∧ gAc (kA τ 8 0) (kA τ 8 1) (kA τ 8 2) (kA τ 8 3) (kA τ 8 4)) → f_X8_isGood F τ 97 = some (0, τ)) := by
  have i0 := p8_isIn (F := F) (τ := τ) 0 (by omega) 0 0 4 rfl
  have i1 := p8_isIn (F := F) (τ := τ) 1 (by omega) 1 0 3 rfl
  have i2 := p8_isIn (F := F) (τ := τ) 2 (by omega) 2 1 99 rfl
  have i3 := p8_isIn (F := F) (τ := τ) 3 (by omega) 3 0 99 rfl
  have i4 := p8_isIn (F := F) (τ := τ) 4 (by omega) 4 0 99 rfl
  have z0 : (0 : Int32).toInt = 0 := rfl
  have z1 : (1 : Int32).toInt = 1 := rfl
  have z3 : (3 : Int32).toInt = 3 := rfl
  have z4 : (4 : Int32).toInt = 4 := rfl
  have z9 : (99 : Int32).toInt = 99 := rfl
  rw [z0, z4] at i0
  rw [z0, z3] at i1
  rw [z1, z9] at i2
  rw [z0, z9] at i3 i4
  have q6 := nI_eq (a := b) (b := 6) (by omega) (by omega)
  unfold f_X8_isGood s_X8_isGood_0 gAc
  rw [if_neg (show ¬ (97 : Int32) = 116 by decide), if_neg (show ¬ (97 : Int32) = 111 by decide), if_neg (show ¬ (97 : Int32) = 115 by decide)]
  by_cases c0 : 0 ≤ (kA τ 8 0).toInt ∧ (kA τ 8 0).toInt ≤ 4
  · rw [kb_eq (i0.1 c0), if_neg k10]
    by_cases c1 : 0 ≤ (kA τ 8 1).toInt ∧ (kA τ 8 1).toInt ≤ 3
    · rw [kb_eq (i1.1 c1), if_neg k10]
      by_cases c2 : 1 ≤ (kA τ 8 2).toInt ∧ (kA τ 8 2).toInt ≤ 99
      · rw [kb_eq (i2.1 c2), if_neg k10]
        by_cases c3 : 0 ≤ (kA τ 8 3).toInt ∧ (kA τ 8 3).toInt ≤ 99
        · rw [kb_eq (i3.1 c3), if_neg k10]
          by_cases c4 : 0 ≤ (kA τ 8 4).toInt ∧ (kA τ 8 4).toInt ≤ 99
          · rw [kb_eq (i4.1 c4), if_neg k10, h2]
            by_cases c5 : b = 6
            · rw [if_pos (show nI b = 6 from q6.mpr c5)]; exact ⟨fun h => by omega, fun _ => rfl⟩
            · rw [if_neg (show ¬ nI b = 6 from fun z => c5 (q6.mp z))]
              have := p8_good235 (F := F) (τ := τ) (b := b) (by omega) h2 F 0 (by omega) (by omega)
              rw [fb_put_0, zA_self] at this
              exact ⟨fun _ => this, fun h => absurd ⟨by omega, c0, c1, c2, c3, c4⟩ h⟩
          · rw [kb_eq (i4.2 c4), if_pos k00]; exact ⟨fun h => by omega, fun _ => rfl⟩
        · rw [kb_eq (i3.2 c3), if_pos k00]; exact ⟨fun h => by omega, fun _ => rfl⟩
      · rw [kb_eq (i2.2 c2), if_pos k00]; exact ⟨fun h => by omega, fun _ => rfl⟩
    · rw [kb_eq (i1.2 c1), if_pos k00]; exact ⟨fun h => by omega, fun _ => rfl⟩
  · rw [kb_eq (i0.2 c0), if_pos k00]; exact ⟨fun h => by omega, fun _ => rfl⟩
theorem q_take97 (hF : 200000 ≤ F) {b : Nat} (hD : rDr b σ τ) (hs : sN 5 (kA σ 1) (kA τ 8)) : Tk b σ τ (f_X2_takeItem F σ 97) (f_X8_isGood F τ 97) := by
  obtain ⟨d1, d2, d3, d4, d5, d6, d7⟩ := hD
  have C := p_takeAct (F := F) (σ := σ) d1 d2 (fun j hj => (hs j hj).2.1)
  have M := p8_good97 (F := F) (τ := τ) hF d1 d3
  rw [← (hs 0 (by omega)).1, ← (hs 1 (by omega)).1, ← (hs 2 (by omega)).1, ← (hs 3 (by omega)).1, ← (hs 4 (by omega)).1] at M
  unfold f_X2_takeItem s_X2_takeItem_0
  rw [if_pos (show (5 : Int32) ≤ 5 by decide), if_pos rfl]
  by_cases g : b < 6 ∧ gAc (kA σ 1 0) (kA σ 1 1) (kA σ 1 2) (kA σ 1 3) (kA σ 1 4)
  · rw [kb_eq (C.1 g), if_pos (show (1 : Int32) &&& 1 = 1 by decide)]
    refine ⟨_, _, (fC_A 2 (by omega) (va_cpy (kA σ 1) (kA σ 2) 0 (b * 5) 5)).tr (fC_I 7 (by omega) (by omega) (nI (b + 1))), (fM_3 (fb_put (kA τ 3) (kA τ 8) (30 + 5 * b) 5) (fun j hj => fb_put_out (Or.inl (by omega)))).tr (fM_2 (nI (b + 1))), Or.inr ⟨rfl, M.1 g, rfl, b + 1, by omega, by omega, rfl, rfl, d4, d5, fun j hj => ?_, fun i hi => ?_⟩⟩
    · show fb_put (kA τ 3) (kA τ 8) (30 + 5 * b) 5 (30 + j) = va_cpy (kA σ 1) (kA σ 2) 0 (b * 5) 5 j
      by_cases c : j < 5 * b
      · rw [fb_put_out (by omega), pk_cpy_out (by omega)]
        exact d6 j c
      · rw [fb_put_in (by omega) (by omega), pk_cpy_in (by omega) (by omega), show 30 + j - (30 + 5 * b) = j - b * 5 by omega, Nat.zero_add]
        exact (hs (j - b * 5) (by omega)).1.symm
    · show gAc (va_cpy (kA σ 1) (kA σ 2) 0 (b * 5) 5 (5 * i)) (va_cpy (kA σ 1) (kA σ 2) 0 (b * 5) 5 (5 * i + 1)) (va_cpy (kA σ 1) (kA σ 2) 0 (b * 5) 5 (5 * i + 2)) (va_cpy (kA σ 1) (kA σ 2) 0 (b * 5) 5 (5 * i + 3)) (va_cpy (kA σ 1) (kA σ 2) 0 (b * 5) 5 (5 * i + 4))
      by_cases c : i < b
      · rw [pk_cpy_out (by omega), pk_cpy_out (by omega), pk_cpy_out (by omega), pk_cpy_out (by omega), pk_cpy_out (by omega)]
        exact d7 i c
      · have : i = b := by omega
        subst this
        rw [pk_cpy_in (by omega) (by omega), pk_cpy_in (by omega) (by omega), pk_cpy_in (by omega) (by omega), pk_cpy_in (by omega) (by omega), pk_cpy_in (by omega) (by omega)]
        rw [show 0 + (5 * i - i * 5) = 0 by omega, show 0 + (5 * i + 1 - i * 5) = 1 by omega, show 0 + (5 * i + 2 - i * 5) = 2 by omega, show 0 + (5 * i + 3 - i * 5) = 3 by omega, show 0 + (5 * i + 4 - i * 5) = 4 by omega]
        exact g.2
  · rw [kb_eq (C.2 g), if_pos (show (0 : Int32) &&& 1 = 0 by decide)]
    exact ⟨_, _, fC.rf, fM.rf, Or.inl ⟨rfl, M.2 g⟩⟩
theorem q_take (hF : 200000 ≤ F) {b : Nat} {l : Int32} {W : Nat} (hl : ltr l W) (hD : rDr b σ τ) (hs : sN W (kA σ 1) (kA τ 8)) : Tk b σ τ (f_X2_takeItem F σ l) (f_X8_isGood F τ l) := by
  rcases hl with ⟨rfl, rfl⟩ | ⟨rfl, rfl⟩ | ⟨rfl, rfl⟩ | ⟨rfl, rfl⟩
  · exact q_take97 hF hD hs
  · exact q_take111 hD hs
  · exact q_take115 hD hs
  · exact q_take116 hF hD hs
theorem ltr_255 {l : Int32} {W : Nat} (hl : ltr l W) : l &&& 255 = l := by
  rcases hl with ⟨rfl, -⟩ | ⟨rfl, -⟩ | ⟨rfl, -⟩ | ⟨rfl, -⟩ <;> decide
theorem p_fault_loop {n : Nat} (hF : 200000 ≤ F) : ∀ (u p c f f' b : Nat) (σ τ : kS), p + u = n → c ≤ p → u < f → u < f' → rTxt n σ τ → rDr b σ τ → kI τ 1 = nI p → ∃ v σ' τ', itr (fun rec8 q => s_X4_readInto_8 F rec8 q.1 q.2.1 q.2.2) f (σ, nI p, nI c) = some (v, σ') ∧ itr (fun rec9 q => s_X8_fault_9 F rec9 q) f' τ = some (v, τ') ∧ fC σ σ' ∧ fM τ τ' ∧ (v = -4 → ∃ b', rDr b' σ' τ') := by
  intro u
  induction u using Nat.strongRecOn with
  | _ u ih =>
    intro p c f f' b σ τ hu hc hf hf' hX hD h1
    have hn := hX.1
    obtain ⟨f, rfl⟩ : ∃ g, f = g + 1 := ⟨f - 1, by omega⟩
    obtain ⟨f', rfl⟩ : ∃ g, f' = g + 1 := ⟨f' - 1, by omega⟩
    show ∃ v σ' τ', s_X4_readInto_8 F _ σ (nI p) (nI c) = some (v, σ') ∧ s_X8_fault_9 F _ τ = some (v, τ') ∧ _
    unfold s_X4_readInto_8 s_X8_fault_9
    have hle := nI_leI (a := n) (b := p) (by omega) (by omega)
    have h4 := nI_leI (a := 400) (b := c) (by omega) (by omega)
    rw [hX.2.1, hX.2.2.1, h1]
    by_cases c1 : n ≤ p
    · rw [if_pos (hle.mpr c1), if_pos (hle.mpr c1), ite_self]
      exact ⟨_, _, _, rfl, rfl, fC.rf, fM.rf, fun _ => ⟨b, hD⟩⟩
    · rw [if_neg (show ¬ (400 : Int32) ≤ nI c from fun z => by have := h4.mp z; omega), if_neg (fun z => c1 (hle.mp z)), if_neg (fun z => c1 (hle.mp z))]
      have eτ : jI τ 1 (nI p) = τ := by rw [← h1, jI_self]
      have I := p_item hF hX p (by omega)
      rw [eτ] at I
      rcases I with ⟨g2, g2', q, j1, j2⟩ | ⟨l, W, g2, g2', e, hl, el, j1, j2, j3, j4, j5⟩
      · rw [kb_eq j1, kb_eq j2, if_pos rfl, if_pos k00]
        exact ⟨_, _, _, rfl, rfl, fC_A 1 (by omega) g2, (fM_8 g2').tr (fM_I q), fun z => absurd z (ne_m4 p (by omega))⟩
      · have e178 : s_X8_isItem_178 F (jI (zA τ 8 g2') 1 (nI (e - 1))) l 1 = kb (f_X8_isGood F (jI (zA τ 8 g2') 1 (nI e)) l) fun v s => if v = 0 then some (0, s) else some (1, s) := by
          unfold s_X8_isItem_178
          rw [if_neg k10, show kI (jI (zA τ 8 g2') 1 (nI (e - 1))) 1 = nI (e - 1) from rfl, jI_jI, nI_1, show e - 1 + 1 = e by omega]
        have hX1 : rTxt n (zA σ 1 g2) (jI (zA τ 8 g2') 1 (nI e)) := hX
        have hb := (p_byteAt (F := F) hX1 p (by omega)).1 (by omega)
        have hb : f_X4_byteAt F (zA σ 1 g2) (nI p) = some (kA σ 0 p &&& 255, zA σ 1 g2) := hb
        rw [el, ltr_255 hl] at hb
        have T := q_take hF (σ := zA σ 1 g2) (τ := jI (zA τ 8 g2') 1 (nI e)) (b := b) hl hD j5
        rw [e178] at j4
        rw [kb_eq j3, if_neg (ne_m4 e (by omega)), kb_eq hb, j4]
        have fc0 : fC σ (zA σ 1 g2) := fC_A 1 (by omega) g2
        have fm0 : fM τ (jI (zA τ 8 g2') 1 (nI e)) := (fM_8 g2').tr (fM_I (nI e))
        obtain ⟨σ', τ', fc, fm, ⟨t1, t2⟩ | ⟨t1, t2, t3, b', hb', hD'⟩⟩ := T
        · rw [kb_eq t1, kb_eq t2, if_pos k00, if_pos k00, kb_eq rfl, if_pos k00]
          exact ⟨_, _, _, rfl, rfl, fc0.tr fc, fm0.tr fm, fun z => absurd z (ne_m4 p (by omega))⟩
        · rw [kb_eq t1, kb_eq t2, if_neg k10, if_neg k10, kb_eq rfl, if_neg k10, nI_1]
          obtain ⟨v, σ2, τ2, k1, k2, k3, k4, k5⟩ := ih (n - e) (by omega) e (c + 1) f f' b' σ' τ' (by omega) (by omega) (by omega) (by omega) (rTxt_fr hX (fc0.tr fc) (fm0.tr fm)) hD' t3
          exact ⟨v, σ2, τ2, k1, k2, (fc0.tr fc).tr k3, (fm0.tr fm).tr k4, k5⟩
theorem p_fault {n : Nat} (hF : 200000 ≤ F) (hX : rTxt n σ τ) : ∃ v σ' τ', f_X4_readInto F σ = some (v, σ') ∧ f_X8_fault F τ = some (v, τ') ∧ fC σ σ' ∧ fM τ τ' ∧ (v = -4 → ∃ b', rDr b' σ' τ') := by
  have hn := hX.1
  unfold f_X4_readInto s_X4_readInto_0 f_X8_fault s_X8_fault_0 f_X2_clear s_X2_clear_0 f_X8_begins s_X8_begins_0
  rw [kb_eq rfl, kb_eq rfl]
  have fc : fC σ (jI (jI (jI (jI (jI (jI (jI σ 1 745) 2 1) 3 1) 4 2) 5 0) 6 0) 7 0) := (((fC_I 1 (by omega) (by omega) _).tr (fC_I 2 (by omega) (by omega) _)).tr ((fC_I 3 (by omega) (by omega) _).tr (fC_I 4 (by omega) (by omega) _))).tr (((fC_I 5 (by omega) (by omega) _).tr (fC_I 6 (by omega) (by omega) _)).tr (fC_I 7 (by omega) (by omega) _))
  have f1 : ∀ (T : kS) (j : Nat) (v : Int32), 6 ≤ j → fM T (jA T 1 j v) := fun T j v hj => fM_1 (τ := T) (upd (kA T 1) j v) (fun q hq => pk_un (by omega))
  have fm : fM τ (jA (jA (jA (jA (jA (jA (jA (jI τ 1 0) 2 1 0) 1 6 745) 1 7 1) 1 8 1) 1 9 2) 1 10 0) 1 11 0) := ((((fM_I 0).tr (fM_2 0)).tr ((f1 _ 6 745 (by omega)).tr (f1 _ 7 1 (by omega)))).tr ((f1 _ 8 1 (by omega)).tr (f1 _ 9 2 (by omega)))).tr ((f1 _ 10 0 (by omega)).tr (f1 _ 11 0 (by omega)))
  have hD : rDr 0 (jI (jI (jI (jI (jI (jI (jI σ 1 745) 2 1) 3 1) 4 2) 5 0) 6 0) 7 0) (jA (jA (jA (jA (jA (jA (jA (jI τ 1 0) 2 1 0) 1 6 745) 1 7 1) 1 8 1) 1 9 2) 1 10 0) 1 11 0) := by
    refine ⟨by omega, rfl, rfl, ⟨rfl, rfl, rfl, rfl, rfl, rfl⟩, ?_, fun j hj => absurd hj (by omega), fun i hi => absurd hi (by omega)⟩
    show (20 ≤ (745 : Int32).toInt ∧ (745 : Int32).toInt ≤ 999) ∧ (1 ≤ (1 : Int32).toInt ∧ (1 : Int32).toInt ≤ 20) ∧ 20 * (1 : Int32).toInt ≤ (745 : Int32).toInt ∧ (2 ≤ (2 : Int32).toInt ∧ (2 : Int32).toInt ≤ 20) ∧ (1 ≤ (1 : Int32).toInt ∧ (1 : Int32).toInt + 1 ≤ (2 : Int32).toInt) ∧ (0 ≤ (0 : Int32).toInt ∧ (0 : Int32).toInt ≤ 999) ∧ (0 ≤ (0 : Int32).toInt ∧ (0 : Int32).toInt ≤ 99)
    decide
  obtain ⟨v, σ2, τ2, k1, k2, k3, k4, k5⟩ := p_fault_loop (F := F) (n := n) hF n 0 0 F F 0 _ _ (by omega) (by omega) (by omega) (by omega) (rTxt_fr hX fc fm) hD rfl
  exact ⟨v, σ2, τ2, k1, k2, fc.tr k3, fm.tr k4, k5⟩
end

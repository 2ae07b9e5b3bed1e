/-! doAct, allow, undo -/
section
variable {F : Nat} {σ τ : kS} {k : Nat}
theorem past_step (hF : 200000 ≤ F) {a h : Nat} (U : rPast a k h σ τ) : ∃ p h' : Nat, f_X5_put F σ = some ((), putS σ p h') ∧ ∀ (τ1 : kS) (d0 d1 d2 : Int32), kI τ1 3 = kI τ 3 → (∀ j, kA τ1 5 j = kA τ 5 j) → ∃ g, f_X8_known F τ1 d0 d1 d2 = some ((), jI (zA τ1 5 g) 3 (nI h')) ∧ ∀ σ2 τ2 : kS, kI σ2 20 = kI σ 20 → kI σ2 21 = nI (p + 1) → kI σ2 22 = nI h' → kI τ2 3 = nI h' → (∀ j, kB σ2 0 j = kB (jB σ 0 p (kG σ 0)) 0 j) → (∀ j, kA σ2 7 j = kA (jA σ 7 p (kI σ 16)) 7 j) → (∀ j, kA σ2 8 j = kA (jA σ 8 p (kI σ 17)) 8 j) → (∀ j, kA σ2 9 j = kA (jA σ 9 p (kI σ 18)) 9 j) → (∀ j, kA σ2 3 j = kA σ 3 j) → (∀ j, kA τ2 5 j = g j) → rgStep a σ (cur σ2) (cur σ) d0 d1 d2 → rgB (k + 1) (cur σ2) → rPast a (k + 1) h' σ2 τ2 := by
  obtain ⟨u1, u2, u3, u4, t, S, v1, v2, v3, v4, v5, v6⟩ := U
  refine ⟨t % 8, (if h < 8 then h + 1 else 8), p_put v1 u2 u1 v2 u3, fun τ1 d0 d1 d2 e3 e5 => ?_⟩
  obtain ⟨g, y1, y2, y3, y4, y5⟩ := p8_known (F := F) (τ := τ1) hF u2 (e3.trans u4) d0 d1 d2
  refine ⟨g, y1, fun σ2 τ2 x20 x21 x22 z3 r0 r7 r8 r9 ac gg st bd => ?_⟩
  refine rPast_new (σ := σ) (τ := τ) u2 v1 v3 v4 v5 v6 (x20.trans u1) x21 x22 z3 (fun j => (r0 j).trans (kB_jB _ 0 _ j _)) (fun j => (r7 j).trans (kA_jA _ 7 _ j _)) (fun j => (r8 j).trans (kA_jA _ 8 _ j _)) (fun j => (r9 j).trans (kA_jA _ 9 _ j _)) ac ((gg _).trans y2) ((gg _).trans y3) ((gg _).trans y4) (fun j hj => ?_) st bd
  rw [gg, y5 j hj, e5]
theorem p_taken (i : Nat) (hi : i < 6) : f_X2_minutesTaken F σ (nI i) = some (lst σ i, σ) := by
  unfold f_X2_minutesTaken s_X2_minutesTaken_0 s_X2_minutesTaken_17 lst
  have n0 := p_numberOf (F := F) (σ := σ) i 0 (nI i) 0 rfl rfl hi (by omega)
  have n2 := p_numberOf (F := F) (σ := σ) i 2 (nI i) 2 rfl rfl hi (by omega)
  rw [Nat.add_zero] at n0
  rw [kb_eq n0, kb_eq n2]
  by_cases c1 : kA σ 3 (5 * i) = 1
  · rw [if_pos c1, if_pos (Or.inl c1)]
  · rw [if_neg c1]
    by_cases c2 : kA σ 3 (5 * i) = 2
    · rw [if_pos c2, if_pos (Or.inr c2)]
    · rw [if_neg c2, if_neg (fun q => q.elim c1 c2)]
theorem p8_lasts {a : Nat} (hA : rAct a σ τ) (i : Nat) (hi : i < a) : f_X8_lasts F τ (nI i) = some (lst σ i, τ) := by
  obtain ⟨⟨ha1, ha2⟩, -, -, hA3, -⟩ := hA
  unfold f_X8_lasts s_X8_lasts_0 s_X8_lasts_21 lst
  have x0 := ix5 i 0 0 rfl
  rw [Nat.add_zero] at x0
  rw [x0, ix5 i 2 2 rfl, if_neg (nI_in (by omega) (by omega)), if_neg (nI_in (by omega) (by omega)), nI_clamp (by omega), nI_clamp (by omega), kn_eq, hA3 _ (by omega), hA3 _ (by omega)]
  by_cases c1 : kA σ 3 (5 * i) = 1
  · rw [if_pos c1, if_pos (Or.inl c1)]
  · rw [if_neg c1]
    by_cases c2 : kA σ 3 (5 * i) = 2
    · rw [if_pos c2, if_pos (Or.inr c2)]
    · rw [if_neg c2, if_neg (fun q => q.elim c1 c2)]
theorem lst_b {a : Nat} (hA : rAct a σ τ) (i : Nat) (hi : i < a) : 1 ≤ (lst σ i).toInt ∧ (lst σ i).toInt ≤ 99 := by
  obtain ⟨-, -, -, -, h⟩ := hA
  obtain ⟨-, h2, -, -⟩ := h i hi
  have o1 : (1 : Int32).toInt = 1 := rfl
  unfold lst
  by_cases c : kA σ 3 (5 * i) = 1 ∨ kA σ 3 (5 * i) = 2
  · rw [if_pos c]; exact h2
  · rw [if_neg c, o1]; omega
theorem p_worth0 (i : Nat) (hi : i < 6) : f_X2_worth F σ (nI i) 0 = some (kA σ 3 (5 * i + 3) - 50, σ) := by
  unfold f_X2_worth s_X2_worth_0 s_X2_worth_11
  rw [if_pos k00, kb_eq (p_numberOf i 3 (nI i) 3 rfl rfl hi (by omega))]
theorem p_worth1 (i : Nat) (hi : i < 6) : f_X2_worth F σ (nI i) 1 = some (kA σ 3 (5 * i + 4) - 50, σ) := by
  unfold f_X2_worth s_X2_worth_0 s_X2_worth_11
  rw [if_neg k10, kb_eq (p_numberOf i 4 (nI i) 4 rfl rfl hi (by omega))]
theorem wsub {c : Int32} (c1 : 0 ≤ c.toInt) (c2 : c.toInt ≤ 99) : (c - 50).toInt = c.toInt - 50 := by
  have z : (50 : Int32).toInt = 50 := rfl
  rw [fb_subI (by omega) (by omega), z]
theorem wadd {u : Int64} {v c : Int32} (e : u.toInt = v.toInt) (b1 : -100000 ≤ v.toInt) (b2 : v.toInt ≤ 100000) (c1 : 0 ≤ c.toInt) (c2 : c.toInt ≤ 99) : (u + (c - 50).toInt64).toInt = (v + (c - 50)).toInt ∧ (v + (c - 50)).toInt = v.toInt + c.toInt - 50 := by
  have hs := wsub c1 c2
  have h1 : (v + (c - 50)).toInt = v.toInt + c.toInt - 50 := by rw [fb_addI (by omega) (by omega)]; omega
  refine ⟨?_, h1⟩
  rw [h1, fb_addL (by rw [k_32_64]; omega) (by rw [k_32_64]; omega), k_32_64]
  omega
theorem wback {u : Int64} {v t c : Int32} (e : u.toInt = v.toInt) (ev : v = t + (c - 50)) (b1 : -100000 ≤ t.toInt) (b2 : t.toInt ≤ 100000) (c1 : 0 ≤ c.toInt) (c2 : c.toInt ≤ 99) : (u - (c - 50).toInt64).toInt = t.toInt := by
  have hs := wsub c1 c2
  have h1 : v.toInt = t.toInt + c.toInt - 50 := by rw [ev, fb_addI (by omega) (by omega)]; omega
  rw [fb_subL (by rw [k_32_64]; omega) (by rw [k_32_64]; omega), k_32_64]
  omega
theorem r_doAct (hF : 200000 ≤ F) (hk : k < 600) (R : Rel k σ τ) (x : Int32) : Ok (k + 1) (f_X7_doAct F σ x) (f_X8_doAct F τ x) := by
  have R0 := R
  obtain ⟨a, w, l, n, r, h, c, hP, hM, hA, hL, hT, hX, hR, hN, hU, hK⟩ := R
  have ha := hA.1
  unfold f_X7_doAct f_X8_doAct s_X7_doAct_0 s_X8_doAct_0
  by_cases c1 : 0 ≤ x.toInt ∧ x.toInt < a
  · rw [kb_eq ((p_isAct (F := F) hA x).1 c1), kb_eq ((p8_isAct (F := F) hA x).1 c1), if_neg k10, if_neg k10]
    obtain ⟨i, hi, rfl⟩ := k_act x c1
    obtain ⟨n1, n2, n3, nb⟩ := hN
    obtain ⟨⟨n4, n5⟩, ⟨n6, n7⟩, ⟨n8, n9⟩⟩ := nb
    rw [n1]
    rcases q_isLawful hF hP hM hA hL i hi (kG σ 0) (by omega) (by omega) with ⟨f1, f2⟩ | ⟨f1, f2⟩
    · obtain ⟨p, h', z1, z2⟩ := past_step hF hU
      obtain ⟨g, y1, y2⟩ := z2 (jB (jB (jB τ 0 0 (kG σ 0 + (lst σ i).toInt64)) 0 2 (kB τ 0 2 + (kA σ 3 (5 * i + 3) - 50).toInt64)) 0 3 (kB τ 0 3 + (kA σ 3 (5 * i + 4) - 50).toInt64)) 1 (nI i) 0 rfl (fun j => rfl)
      rw [kb_eq f1, kb_eq f2, if_neg k10, if_neg k10, kb_eq (p8_lasts hA i hi), kb_eq z1, kb_eq (show f_X2_minutesTaken F (putS σ p h') (nI i) = some (lst σ i, putS σ p h') from p_taken i (by omega)), kb_eq (p_worth0 i (by omega)), kb_eq (p_worth1 i (by omega)), ix5 i 3 3 rfl, ix5 i 4 4 rfl, if_neg (nI_in (by omega) (by omega)), if_neg (nI_in (by omega) (by omega)), nI_clamp (by omega), nI_clamp (by omega), hA.2.2.2.1 _ (by omega), hA.2.2.2.1 _ (by omega), n1, kb_eq y1]
      obtain ⟨-, -, ⟨q1, q2⟩, ⟨q3, q4⟩⟩ := hA.2.2.2.2 i hi
      have ql := lst_b hA i hi
      have w0 := wadd n2 (by omega) (by omega) q1 q2
      have w1 := wadd n3 (by omega) (by omega) q3 q4
      have em : (kG σ 0 + (lst σ i).toInt64).toInt = (kG σ 0).toInt + (lst σ i).toInt := by
        rw [fb_addL (by rw [k_32_64]; omega) (by rw [k_32_64]; omega), k_32_64]
      have eb : bR (k + 1) (kG σ 0 + (lst σ i).toInt64) (kI σ 16 + (kA σ 3 (5 * i + 3) - 50)) (kI σ 17 + (kA σ 3 (5 * i + 4) - 50)) := by
        refine ⟨?_, ?_, ?_⟩
        · rw [em]; omega
        · rw [w0.2]; omega
        · rw [w1.2]; omega
      refine ok_mk rfl ⟨a, w, l, n, r, h', c, hP, hM, hA, hL, hT, hX, hR, ⟨rfl, w0.1, w1.1, eb⟩, ?_, rKept_fr (rKept_up hK (by omega)) rfl rfl rfl (fun p => ⟨rfl, rfl, rfl, rfl, rfl⟩) rfl (fun i hi => ?_) (fun i hi => rfl)⟩
      · refine y2 _ _ rfl rfl rfl rfl (fun j => rfl) (fun j => rfl) (fun j => rfl) (fun j => rfl) (fun j => rfl) (fun j => rfl) ?_ ?_
        · exact Or.inr (Or.inl ⟨rfl, i, hi, rfl, (Int64.add_sub_cancel _ _).symm, rfl, rfl, rfl⟩)
        · exact ⟨eb, w, hL.2.1, hL.1⟩
      · refine (kB_jB _ 0 3 _ _).trans ?_
        rw [if_neg (by omega), kB_jB, if_neg (by omega), kB_jB, if_neg (by omega)]
    · rw [kb_eq f1, kb_eq f2, if_pos k00, if_pos k00]
      exact ok_s R0 _
  · rw [kb_eq ((p_isAct (F := F) hA x).2 c1), kb_eq ((p8_isAct (F := F) hA x).2 c1), if_pos k00, if_pos k00]
    exact ok_s R0 _
theorem w_no : ∀ L, L < 4 → ∀ b, b < 4 → nI L &&& (nI b ^^^ (-1)) = nI (L &&& (b ^^^ 3)) := by decide +kernel
theorem or_lt {w b i : Nat} (hw : w < 4096) (hb : b < 4) (hi : i < 6) : w ||| b * 4 ^ i < 4096 := by
  have h1 : b * 4 ^ i < 2 ^ 12 := by
    have : 4 ^ i ≤ 4 ^ 5 := Nat.pow_le_pow_right (by omega) (by omega)
    have h2 : b * 4 ^ i ≤ 3 * 4 ^ 5 := Nat.mul_le_mul (by omega) this
    omega
  exact Nat.or_lt_two_pow (n := 12) hw h1
theorem r_allow (hF : 200000 ≤ F) (R : Rel k σ τ) (x y z : Int32) : Ok (k + 1) (f_X7_allow F σ x y z) (f_X8_allow F τ x y z) := by
  have R0 := R
  obtain ⟨a, w, l, n, r, h, c, hP, hM, hA, hL, hT, hX, hR, hN, hU, hK⟩ := R
  have ha := hA.1
  unfold f_X7_allow f_X8_allow s_X7_allow_0 s_X8_allow_0 s_X7_allow_88 s_X8_allow_78
  have e2 := p8_inI (F := F) (τ := τ) y 0 1 0 1 rfl rfl
  by_cases c1 : 0 ≤ x.toInt ∧ x.toInt < a
  · rw [kb_eq ((p_isAct (F := F) hA x).1 c1), kb_eq ((p8_isAct (F := F) hA x).1 c1), if_neg k10, if_neg k10]
    obtain ⟨i, hi, rfl⟩ := k_act x c1
    by_cases d : 0 ≤ y.toInt ∧ y.toInt ≤ 1
    · obtain ⟨kg, hkg, rfl⟩ := k_kg y d
      have k8 : ¬ (nI i < 0 ∨ 18 ≤ (nI i).toNatClampNeg) := nI_in (by omega) (by omega)
      have k9 : ¬ (nI i < 0 ∨ 18 ≤ i) := by rw [nI_clamp (by omega)] at k8; exact k8
      obtain ⟨b, hb, hbb⟩ : ∃ b : Nat, (1 : Int32) <<< (nI kg &&& 31) = nI b ∧ b < 4 := by
        rcases (show kg = 0 ∨ kg = 1 by omega) with rfl | rfl
        · exact ⟨1, by decide, by omega⟩
        · exact ⟨2, by decide, by omega⟩
      obtain ⟨p, h', z1, z2⟩ := past_step hF hU
      have eL : kA τ 4 i = nI (dg w i) := hL.2.2 i hi
      obtain ⟨g, y1, y2⟩ := z2 τ 2 (nI i) (nI (dg w i)) rfl (fun j => rfl)
      have hw := hL.2.1
      have fin : ∀ (v : Int32) (w' : Nat) (q : Int32), w' < 4096 → q = nI (dg w' i) → (∀ j, j < a → j ≠ i → dg w' j = dg w j) → Ok (k + 1) (some (v, jI (putS σ p h') 18 (nI w'))) (some (v, jA (jI (zA τ 5 g) 3 (nI h')) 4 i q)) := by
        intro v w' q hw' hq hj
        refine ok_mk rfl ⟨a, w', l, n, r, h', c, hP, hM, hA, ⟨rfl, hw', fun j hja => ?_⟩, hT, hX, hR, rNow_up hN (by omega), ?_, rKept_fr (rKept_up hK (by omega)) rfl rfl rfl (fun p => ⟨rfl, rfl, rfl, rfl, rfl⟩) rfl (fun i hi => rfl) (fun j hj6 => ?_)⟩
        · refine (kA_jA _ 4 i j q).trans ?_
          by_cases e : j = i
          · rw [if_pos e, hq, e]; rfl
          · rw [if_neg e]
            have := hL.2.2 j hja
            refine (show kA (jI (zA τ 5 g) 3 (nI h')) 4 j = kA τ 4 j from rfl).trans (this.trans ?_)
            have h9 := hj j hja e
            unfold dg at h9
            rw [h9]
        · refine y2 _ _ rfl rfl rfl rfl (fun j => rfl) (fun j => rfl) (fun j => rfl) (fun j => rfl) (fun j => rfl) (fun j => rfl) ?_ ?_
          · exact Or.inr (Or.inr ⟨rfl, rfl, rfl, rfl, i, w', w, hi, rfl, hw', hw, rfl, hL.1, rfl, hj⟩)
          · exact ⟨bR_up hN.2.2.2 (by omega), w', hw', rfl⟩
        · refine (kA_jA _ 4 i j q).trans ?_
          rw [if_neg (by omega)]
          rfl
      rw [kb_eq ((p_isKing (F := F) (nI kg)).1 d), kb_eq (e2.1 d), if_neg k10, if_neg k10, hL.1, kb_eq (p_lawOf w i (by omega) hw), kn_eq, if_neg k8, kn_eq, if_neg k8, nI_clamp (by omega), eL, kb_eq z1, kb_eq y1, hb]
      have eL2 : kA (jI (zA τ 5 g) 3 (nI h')) 4 i = nI (dg w i) := eL
      have eW : kI (putS σ p h') 18 = nI w := hL.1
      by_cases gz : z = 0
      · rw [if_pos gz, if_pos gz, if_neg k9, if_neg k9, kb_eq (p_lawBits b i (nI i) (nI b) rfl rfl (by omega) hbb), eW, eL2, wo_I, w_no _ (dg_lt w i) b hbb]
        refine fin _ (wo w b i) _ (wo_lt hw b i) ?_ (fun j hja hj => ?_)
        · rw [wo_dg w hbb (show i < 6 by omega) (show i < 6 by omega), if_pos rfl]
        · rw [wo_dg w hbb (show i < 6 by omega) (show j < 6 by omega), if_neg hj]
      · rw [if_neg gz, if_neg gz, if_neg k9, if_neg k9, kb_eq (p_lawBits b i (nI i) (nI b) rfl rfl (by omega) hbb), eW, eL2, fa_or, fa_or]
        refine fin _ (w ||| b * 4 ^ i) _ (or_lt hw hbb (by omega)) ?_ (fun j hja hj => ?_)
        · rw [dg_or, dg_one b hbb i (by omega) i (by omega), if_pos rfl]
        · rw [dg_or, dg_one b hbb i (by omega) j (by omega), if_neg hj, Nat.or_zero]
    · rw [kb_eq ((p_isKing (F := F) y).2 d), kb_eq (e2.2 d), if_pos k00, if_pos k00]
      exact ok_s R0 _
  · rw [kb_eq ((p_isAct (F := F) hA x).2 c1), kb_eq ((p8_isAct (F := F) hA x).2 c1), if_pos k00, if_pos k00]
    exact ok_s R0 _
end

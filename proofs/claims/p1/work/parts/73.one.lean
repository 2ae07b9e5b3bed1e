/-! one call at the first states -/
section
variable {F : Nat} {σ τ : kS}
def Alike {α : Type} (x y : Option (α × kS)) : Prop := ∃ v σ' τ', x = some (v, σ') ∧ y = some (v, τ')
theorem al_q {α : Type} {x y : Option (α × kS)} {σ τ : kS} (h : ∃ v, x = some (v, σ) ∧ y = some (v, τ)) : Alike x y := by
  obtain ⟨v, h1, h2⟩ := h
  exact ⟨v, σ, τ, h1, h2⟩
theorem e_put (a20 : kI σ 20 = 8) (a21 : kI σ 21 = 0) : ∃ σ', f_X5_put F σ = some ((), σ') ∧ kG σ' 0 = kG σ 0 ∧ kA σ' 3 0 = kA σ 3 0 := by
  unfold f_X5_put s_X5_put_0
  have k8 : ¬ ((0 : Int32) < 0 ∨ 8 ≤ (0 : Int32).toNatClampNeg) := by decide
  rw [a21, a20, if_pos (show (0 : Int32) < 8 by decide)]
  unfold s_X5_put_16
  rw [a21, if_neg k8, if_neg k8, if_neg k8, if_neg k8, if_neg k8]
  exact ⟨_, rfl, rfl, rfl⟩
theorem e_put1 (a23 : kI σ 23 = 2) (a24 : kI σ 24 = 0) (a25 : kI σ 25 = 0) : ∃ σ', f_X5_put_v1 F σ = some ((), σ') ∧ kI σ' 25 = 1 := by
  unfold f_X5_put_v1 s_X5_put_v1_0
  have k8 : ¬ ((0 : Int32) < 0 ∨ 2 ≤ (0 : Int32).toNatClampNeg) := by decide
  rw [a24, a23, if_pos (show (0 : Int32) < 2 by decide)]
  unfold s_X5_put_v1_16
  rw [a24, a23, a25, if_neg k8, if_neg k8, if_neg k8, if_neg k8, if_neg k8]
  exact ⟨_, rfl, rfl⟩
theorem e_known (b3 : kI τ 3 = 0) (x y z : Int32) : ∃ τ', f_X8_known F τ x y z = some ((), τ') ∧ kB τ' 0 0 = kB τ 0 0 ∧ kA τ' 4 0 = kA τ 4 0 := by
  unfold f_X8_known s_X8_known_0
  rw [b3, if_neg (show ¬ (0 : Int32) = 8 by decide)]
  unfold s_X8_known_51
  rw [b3, if_neg (show ¬ ((3 : Int32) * 0 < 0 ∨ 24 ≤ ((3 : Int32) * 0).toNatClampNeg) by decide), if_neg (show ¬ ((3 : Int32) * 0 + 1 < 0 ∨ 24 ≤ ((3 : Int32) * 0 + 1).toNatClampNeg) by decide), if_neg (show ¬ ((3 : Int32) * 0 + 2 < 0 ∨ 24 ≤ ((3 : Int32) * 0 + 2).toNatClampNeg) by decide)]
  exact ⟨_, rfl, rfl, rfl⟩
theorem e_taken (h : kA σ 3 0 = 0) : f_X2_minutesTaken F σ (nI 0) = some (1, σ) := by
  unfold f_X2_minutesTaken s_X2_minutesTaken_0
  rw [kb_eq (p_numberOf 0 0 (nI 0) 0 rfl rfl (by omega) (by omega)), show 5 * 0 + 0 = 0 from rfl, h, if_neg (show ¬ (0 : Int32) = 1 by decide), if_neg (show ¬ (0 : Int32) = 2 by decide)]
theorem e_lasts (h : kA τ 3 0 = 0) : f_X8_lasts F τ (nI 0) = some (1, τ) := by
  unfold f_X8_lasts s_X8_lasts_0
  rw [if_neg (show ¬ ((5 : Int32) * nI 0 + 0 < 0 ∨ 60 ≤ ((5 : Int32) * nI 0 + 0).toNatClampNeg) by decide), kn_eq, show ((5 : Int32) * nI 0 + 0).toNatClampNeg = 0 by decide, h, if_neg (show ¬ (0 : Int32) = 1 by decide), if_neg (show ¬ (0 : Int32) = 2 by decide)]
theorem e_worth0 : f_X2_worth F σ (nI 0) 0 = some (kA σ 3 3 - 50, σ) := by
  unfold f_X2_worth s_X2_worth_0 s_X2_worth_11
  rw [if_pos k00, kb_eq (p_numberOf 0 3 (nI 0) 3 rfl rfl (by omega) (by omega))]
theorem e_worth1 : f_X2_worth F σ (nI 0) 1 = some (kA σ 3 4 - 50, σ) := by
  unfold f_X2_worth s_X2_worth_0 s_X2_worth_11
  rw [if_neg k10, kb_eq (p_numberOf 0 4 (nI 0) 4 rfl rfl (by omega) (by omega))]
theorem k_act1 (x : Int32) (h : 0 ≤ x.toInt ∧ x.toInt < (1 : Nat)) : x = nI 0 := by
  obtain ⟨i, hi, e⟩ := k_act x h
  have : i = 0 := by omega
  rw [e, this]
theorem e_wipe (H : Ini σ τ) : Alike (f_X7_wipe F σ) (f_X8_wipe F τ) := by
  obtain ⟨-, ⟨a0, -⟩, ⟨b0, -⟩, -⟩ := H
  unfold f_X7_wipe f_X8_wipe s_X7_wipe_0 s_X8_wipe_0
  rw [a0, b0]
  exact ⟨_, _, _, rfl, rfl⟩
theorem e_noRow (H : Ini σ τ) : Alike (f_X7_noRow F σ) (f_X8_noRow F τ) := by
  obtain ⟨-, ⟨a0, a15, a16, a17, a19, a20, a21, a22, a23, a24, a25, a26, g0⟩, ⟨b0, b2, b3, b4, b5⟩, -⟩ := H
  unfold f_X7_noRow f_X8_noRow s_X7_noRow_0 s_X8_noRow_0
  rw [a26, b4]
  exact ⟨_, _, _, rfl, rfl⟩
theorem e_noTable (H : Ini σ τ) : Alike (f_X7_noTable F σ) (f_X8_noTable F τ) := by
  obtain ⟨-, ⟨a0, a15, a16, a17, a19, a20, a21, a22, a23, a24, a25, a26, g0⟩, ⟨b0, b2, b3, b4, b5⟩, -⟩ := H
  unfold f_X7_noTable f_X8_noTable s_X7_noTable_0 s_X8_noTable_0
  rw [a19, b5]
  exact ⟨_, _, _, rfl, rfl⟩
theorem e_undo (H : Ini σ τ) : Alike (f_X7_undo F σ) (f_X8_undo F τ) := by
  obtain ⟨-, ⟨a0, a15, a16, a17, a19, a20, a21, a22, a23, a24, a25, a26, g0⟩, ⟨b0, b2, b3, b4, b5⟩, -⟩ := H
  unfold f_X7_undo f_X8_undo s_X7_undo_0 s_X8_undo_0
  rw [if_pos a22, if_pos b3]
  exact ⟨_, _, _, rfl, rfl⟩
theorem e_back (H : Ini σ τ) : Alike (f_X7_back F σ) (f_X8_back F τ) := by
  obtain ⟨-, ⟨a0, a15, a16, a17, a19, a20, a21, a22, a23, a24, a25, a26, g0⟩, ⟨b0, b2, b3, b4, b5⟩, -⟩ := H
  unfold f_X7_back f_X8_back s_X7_back_0 s_X8_back_0
  rw [if_pos a25, if_pos b2]
  exact ⟨_, _, _, rfl, rfl⟩
theorem e_count (H : Ini σ τ) (x : Int32) : Alike (f_X7_count F σ x) (f_X8_count F τ x) := by
  obtain ⟨⟨h, hm, hA, hL, hT⟩, ⟨a0, a15, a16, a17, a19, a20, a21, a22, a23, a24, a25, a26, g0⟩, ⟨b0, b2, b3, b4, b5⟩, ⟨d0, d1, d2, d3⟩, -⟩ := H
  unfold f_X7_count f_X8_count s_X7_count_0 s_X8_count_0
  rw [hA.2.1, hA.2.2.1, a0, b0, a15, d1, a26, b4, a19, b5, a22, b3, a16, d2, a17, d3, a25, b2]
  refine ⟨if x = 0 then nI 1 else if x = 1 then 0 else if x = 2 then 0 else if x = 3 then 0 else if x = 4 then 0 else if x = 5 then 0 else if x = 6 then 1000000 else if x = 7 then 1000000 else if x = 8 then 0 else -1, σ, τ, ?_, ?_⟩
  · by_cases c0 : x = 0
    · rw [if_pos c0, if_pos c0]
    by_cases c1 : x = 1
    · rw [if_neg c0, if_neg c0, if_pos c1, if_pos c1]
    by_cases c2 : x = 2
    · rw [if_neg c0, if_neg c0, if_neg c1, if_neg c1, if_pos c2, if_pos c2]
    by_cases c3 : x = 3
    · rw [if_neg c0, if_neg c0, if_neg c1, if_neg c1, if_neg c2, if_neg c2, if_pos c3, if_pos c3]
    by_cases c4 : x = 4
    · rw [if_neg c0, if_neg c0, if_neg c1, if_neg c1, if_neg c2, if_neg c2, if_neg c3, if_neg c3, if_pos c4, if_pos c4]
    by_cases c5 : x = 5
    · rw [if_neg c0, if_neg c0, if_neg c1, if_neg c1, if_neg c2, if_neg c2, if_neg c3, if_neg c3, if_neg c4, if_neg c4, if_pos c5, if_pos c5]
    rw [if_neg c0, if_neg c0, if_neg c1, if_neg c1, if_neg c2, if_neg c2, if_neg c3, if_neg c3, if_neg c4, if_neg c4, if_neg c5, if_neg c5]
    by_cases c6 : x = 6
    · rw [if_pos c6, if_pos c6]; rfl
    by_cases c7 : x = 7
    · rw [if_neg c6, if_neg c6, if_pos c7, if_pos c7]; rfl
    by_cases c8 : x = 8
    · rw [if_neg c6, if_neg c6, if_neg c7, if_neg c7, if_pos c8, if_pos c8]
    rw [if_neg c6, if_neg c6, if_neg c7, if_neg c7, if_neg c8, if_neg c8]
  · by_cases c0 : x = 0
    · rw [if_pos c0, if_pos c0]
    by_cases c1 : x = 1
    · rw [if_neg c0, if_neg c0, if_pos c1, if_pos c1]
    by_cases c2 : x = 2
    · rw [if_neg c0, if_neg c0, if_neg c1, if_neg c1, if_pos c2, if_pos c2]; rfl
    by_cases c3 : x = 3
    · rw [if_neg c0, if_neg c0, if_neg c1, if_neg c1, if_neg c2, if_neg c2, if_pos c3, if_pos c3]
    by_cases c4 : x = 4
    · rw [if_neg c0, if_neg c0, if_neg c1, if_neg c1, if_neg c2, if_neg c2, if_neg c3, if_neg c3, if_pos c4, if_pos c4]
    by_cases c5 : x = 5
    · rw [if_neg c0, if_neg c0, if_neg c1, if_neg c1, if_neg c2, if_neg c2, if_neg c3, if_neg c3, if_neg c4, if_neg c4, if_pos c5, if_pos c5]
    rw [if_neg c0, if_neg c0, if_neg c1, if_neg c1, if_neg c2, if_neg c2, if_neg c3, if_neg c3, if_neg c4, if_neg c4, if_neg c5, if_neg c5]
    by_cases c6 : x = 6
    · rw [if_pos c6, if_pos c6]; rfl
    by_cases c7 : x = 7
    · rw [if_neg c6, if_neg c6, if_pos c7, if_pos c7]; rfl
    by_cases c8 : x = 8
    · rw [if_neg c6, if_neg c6, if_neg c7, if_neg c7, if_pos c8, if_pos c8]
    rw [if_neg c6, if_neg c6, if_neg c7, if_neg c7, if_neg c8, if_neg c8]
theorem e_bargain (H : Ini σ τ) (x y : Int32) (m : Int64) : Alike (f_X7_bargain F σ x y m) (f_X8_bargain F τ x y m) := by
  obtain ⟨⟨h, hm, hA, hL, hT⟩, -⟩ := H
  unfold f_X7_bargain f_X8_bargain s_X7_bargain_0 s_X8_bargain_0 s_X7_bargain_28 s_X8_bargain_28
  by_cases c : 0 ≤ x.toInt ∧ x.toInt < (1 : Nat)
  · rw [kb_eq ((p_isAct (F := F) hA x).1 c), kb_eq ((p8_isAct (F := F) hA x).1 c), if_neg k10, if_neg k10]
    by_cases d : 0 ≤ y.toInt ∧ y.toInt < (1 : Nat)
    · have e : x = y := (k_act1 x c).trans (k_act1 y d).symm
      rw [kb_eq ((p_isAct (F := F) hA y).1 d), kb_eq ((p8_isAct (F := F) hA y).1 d), if_neg k10, if_neg k10, if_pos e, if_pos e]
      exact ⟨_, _, _, rfl, rfl⟩
    · rw [kb_eq ((p_isAct (F := F) hA y).2 d), kb_eq ((p8_isAct (F := F) hA y).2 d), if_pos k00, if_pos k00]
      exact ⟨_, _, _, rfl, rfl⟩
  · rw [kb_eq ((p_isAct (F := F) hA x).2 c), kb_eq ((p8_isAct (F := F) hA x).2 c), if_pos k00, if_pos k00]
    exact ⟨_, _, _, rfl, rfl⟩
theorem e_tell (H : Ini σ τ) (x : Int32) : Alike (f_X7_tell F σ x) (f_X8_tell F τ x) := by
  obtain ⟨⟨h, hm, hA, hL, hT⟩, ⟨a0, a15, a16, a17, a19, a20, a21, a22, a23, a24, a25, a26, g0⟩, ⟨b0, b2, b3, b4, b5⟩, -⟩ := H
  unfold f_X7_tell f_X8_tell s_X7_tell_0 s_X8_tell_0
  by_cases c : 0 ≤ x.toInt ∧ x.toInt < (1 : Nat)
  · rw [kb_eq ((p_isAct (F := F) hA x).1 c), kb_eq ((p8_isAct (F := F) hA x).1 c), if_neg k10, if_neg k10]
    have k8 : ¬ ((0 : Int32) < 0 ∨ 8 ≤ (0 : Int32).toNatClampNeg) := by decide
    rw [a26, b4, if_neg (show ¬ (0 : Int32) < 0 by decide), if_pos (show (0 : Int32) < 8 by decide), if_neg k8, if_neg (show ¬ (0 : Int32) = 8 by decide), if_neg k8]
    exact ⟨_, _, _, rfl, rfl⟩
  · rw [kb_eq ((p_isAct (F := F) hA x).2 c), kb_eq ((p8_isAct (F := F) hA x).2 c), if_pos k00, if_pos k00]
    exact ⟨_, _, _, rfl, rfl⟩
theorem e_year (H : Ini σ τ) (x : Int32) : Alike (f_X7_year F σ x) (f_X8_year F τ x) := by
  obtain ⟨⟨h, hm, hA, hL, hT⟩, ⟨a0, a15, a16, a17, a19, a20, a21, a22, a23, a24, a25, a26, g0⟩, ⟨b0, b2, b3, b4, b5⟩, ⟨d0, d1, d2, d3⟩, -⟩ := H
  unfold f_X7_year f_X8_year s_X7_year_0 s_X8_year_0
  have e1 := p8_inI (F := F) (τ := τ) x 0 99 0 99 rfl rfl
  have b0 := fa_lt x 0
  have b1 := fa_le x 99
  have z0 : (0 : Int32).toInt = 0 := rfl
  have z1 : (99 : Int32).toInt = 99 := rfl
  rw [z0] at b0
  rw [z1] at b1
  by_cases c : x.toInt < 0
  · rw [if_pos (b0.mpr c), kb_eq (e1.2 (by omega)), if_pos k00]
    exact ⟨_, _, _, rfl, rfl⟩
  · by_cases d : x.toInt ≤ 99
    · rw [if_neg (fun q => c (b0.mp q)), if_pos (b1.mpr d), kb_eq (e1.1 (by omega)), if_neg k10, kn_eq, a15, d1]
      exact ⟨_, _, _, rfl, rfl⟩
    · rw [if_neg (fun q => c (b0.mp q)), if_neg (fun q => d (b1.mp q)), kb_eq (e1.2 (by omega)), if_pos k00]
      exact ⟨_, _, _, rfl, rfl⟩
theorem e_pass (H : Ini σ τ) (x : Int32) : Alike (f_X7_pass F σ x) (f_X8_pass F τ x) := by
  obtain ⟨⟨h, hm, hA, hL, hT⟩, ⟨a0, a15, a16, a17, a19, a20, a21, a22, a23, a24, a25, a26, g0⟩, ⟨b0, b2, b3, b4, b5⟩, ⟨d0, d1, d2, d3⟩, -⟩ := H
  unfold f_X7_pass f_X8_pass s_X7_pass_0 s_X8_pass_0 s_X7_pass_12
  have e1 := p8_inI (F := F) (τ := τ) x 1 9999 1 9999 rfl rfl
  have b0 := fa_lt x 1
  have b1 := fa_le x 9999
  have z0 : (1 : Int32).toInt = 1 := rfl
  have z1 : (9999 : Int32).toInt = 9999 := rfl
  rw [z0] at b0
  rw [z1] at b1
  by_cases c : x.toInt < 1
  · rw [if_pos (b0.mpr c), kb_eq (e1.2 (by omega)), if_pos k00]
    exact ⟨_, _, _, rfl, rfl⟩
  · by_cases d : x.toInt ≤ 9999
    · obtain ⟨σ', f1, f2, -⟩ := e_put (F := F) a20 a21
      rw [if_neg (fun q => c (b0.mp q)), if_pos (b1.mpr d), kb_eq (e1.1 (by omega)), if_neg k10, kb_eq f1]
      obtain ⟨τ', u1, u2, -⟩ := e_known (F := F) (τ := jB τ 0 0 (kB τ 0 0 + x.toInt64)) b3 0 x 0
      rw [kb_eq u1, f2, g0, u2, show kB (jB τ 0 0 (kB τ 0 0 + x.toInt64)) 0 0 = kB τ 0 0 + x.toInt64 from rfl, d0]
      exact ⟨_, _, _, rfl, rfl⟩
    · rw [if_neg (fun q => c (b0.mp q)), if_neg (fun q => d (b1.mp q)), kb_eq (e1.2 (by omega)), if_pos k00]
      exact ⟨_, _, _, rfl, rfl⟩
theorem e_line (H : Ini σ τ) (x y : Int32) : Alike (f_X7_line F σ x y) (f_X8_line F τ x y) := by
  obtain ⟨⟨h, hm, hA, hL, hT⟩, ⟨a0, a15, a16, a17, a19, a20, a21, a22, a23, a24, a25, a26, g0⟩, ⟨b0, b2, b3, b4, b5⟩, ⟨d0, d1, d2, d3⟩, -⟩ := H
  unfold f_X7_line f_X8_line s_X7_line_0 s_X8_line_0
  have e1 := p8_inI (F := F) (τ := τ) x 0 1000000 0 1000000 rfl rfl
  have e2 := p8_inI (F := F) (τ := τ) y 0 2 0 2 rfl rfl
  have b0 := fa_lt x 0
  have b1 := fa_lt 1000000 x
  have b6 := fa_lt y 0
  have b7 := fa_lt 2 y
  have z0 : (0 : Int32).toInt = 0 := rfl
  have z1 : (1000000 : Int32).toInt = 1000000 := rfl
  have z2 : (2 : Int32).toInt = 2 := rfl
  rw [z0] at b0
  rw [z1] at b1
  rw [z0] at b6
  rw [z2] at b7
  by_cases c : x.toInt < 0
  · rw [if_pos (b0.mpr c), kb_eq (e1.2 (by omega)), if_pos k00]
    exact ⟨_, _, _, rfl, rfl⟩
  · by_cases d : 1000000 < x.toInt
    · rw [if_neg (fun q => c (b0.mp q)), if_pos (b1.mpr d), kb_eq (e1.2 (by omega)), if_pos k00]
      exact ⟨_, _, _, rfl, rfl⟩
    · rw [if_neg (fun q => c (b0.mp q)), if_neg (fun q => d (b1.mp q)), kb_eq (e1.1 (by omega)), if_neg k10]
      by_cases g : 0 ≤ y.toInt ∧ y.toInt ≤ 2
      · have f1 : f_X7_isRuler F σ y = some (1, σ) := by
          unfold f_X7_isRuler s_X7_isRuler_0
          rw [if_neg (fun q => by have := b6.mp q; omega), if_neg (fun q => by have := b7.mp q; omega)]
        have k8 : ¬ ((0 : Int32) < 0 ∨ 10 ≤ (0 : Int32).toNatClampNeg) := by decide
        rw [kb_eq f1, if_neg k10, kb_eq (e2.1 g), if_neg k10]
        unfold f_X6_addLine s_X6_addLine_0
        rw [a19, b5, if_neg (show ¬ (0 : Int32) < 0 by decide), if_pos (show (0 : Int32) < 10 by decide), if_neg k8, if_neg k8, if_neg (show ¬ (0 : Int32) = 10 by decide), if_neg (show ¬ ((2 : Int32) * 0 < 0 ∨ 20 ≤ ((2 : Int32) * 0).toNatClampNeg) by decide), if_neg (show ¬ ((2 : Int32) * 0 + 1 < 0 ∨ 20 ≤ ((2 : Int32) * 0 + 1).toNatClampNeg) by decide)]
        exact ⟨_, _, _, rfl, rfl⟩
      · have f1 : f_X7_isRuler F σ y = some (0, σ) := by
          unfold f_X7_isRuler s_X7_isRuler_0
          by_cases g2 : y.toInt < 0
          · rw [if_pos (b6.mpr g2)]
          · rw [if_neg (fun q => g2 (b6.mp q)), if_pos (b7.mpr (by omega))]
        rw [kb_eq f1, if_pos k00, kb_eq (e2.2 g), if_pos k00]
        exact ⟨_, _, _, rfl, rfl⟩
end

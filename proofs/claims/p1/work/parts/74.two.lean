/-! one call at the first states, the rest -/
section
variable {F : Nat} {σ τ : kS}
theorem al_e {α : Type} (a b : α) (s t : kS) (e : a = b) : Alike (some (a, s)) (some (b, t)) := ⟨a, s, t, rfl, by rw [e]⟩
theorem k_dn (i : Nat) : nI (i + 1) - 1 = nI i := by
  have e : nI (i + 1) = nI i + 1 := (nI_add i 1).symm
  rw [e, Int32.add_sub_cancel]
theorem k_mn (x : Int32) : x + (-1) = x - 1 := (Int32.sub_eq_add_neg x 1).symm
theorem k_up (n i : Nat) : n + 1 + i = n + (i + 1) := by omega
theorem e_app (x : Int64) : ∀ (i f n : Nat) (σ : kS), i < f → n + i ≤ 400 → kI σ 0 = nI n → ∃ σ', itr (fun rec21 q => s_X4_append_21 F rec21 q.1 q.2.1 q.2.2) f (σ, x, nI i - 1) = some (1, σ') ∧ kI σ' 0 = nI (n + i) := by
  intro i
  induction i with
  | zero =>
    intro f n σ hf hn h0
    obtain ⟨g, rfl⟩ : ∃ g, f = g + 1 := ⟨f - 1, by omega⟩
    show ∃ σ', s_X4_append_21 F _ σ x (nI 0 - 1) = some (1, σ') ∧ _
    unfold s_X4_append_21
    rw [if_pos (show nI 0 - 1 < 0 by decide)]
    exact ⟨_, rfl, h0⟩
  | succ i ih =>
    intro f n σ hf hn h0
    obtain ⟨g, rfl⟩ : ∃ g, f = g + 1 := ⟨f - 1, by omega⟩
    show ∃ σ', s_X4_append_21 F _ σ x (nI (i + 1) - 1) = some (1, σ') ∧ _
    unfold s_X4_append_21
    rw [k_dn, if_neg (nI_pos (by omega)), h0, if_neg (nI_in (by omega) (by omega)), k_mn, nI_1, ← k_up n i]
    exact ih g (n + 1) _ (by omega) (by omega) (kI_jI _ 0 _)
theorem e_app8 (x : Int64) : ∀ (i f n : Nat) (τ : kS), i < f → n + i ≤ 400 → kI τ 0 = nI n → ∃ τ', itr (fun rec34 q => s_X8_write_34 F rec34 q.1 q.2.1 q.2.2) f (τ, x, nI i - 1) = some (nI (n + i), τ') := by
  intro i
  induction i with
  | zero =>
    intro f n τ hf hn h0
    obtain ⟨g, rfl⟩ : ∃ g, f = g + 1 := ⟨f - 1, by omega⟩
    show ∃ τ', s_X8_write_34 F _ τ x (nI 0 - 1) = some (_, τ')
    unfold s_X8_write_34
    rw [if_pos (show nI 0 - 1 < 0 by decide), h0]
    exact ⟨_, rfl⟩
  | succ i ih =>
    intro f n τ hf hn h0
    obtain ⟨g, rfl⟩ : ∃ g, f = g + 1 := ⟨f - 1, by omega⟩
    show ∃ τ', s_X8_write_34 F _ τ x (nI (i + 1) - 1) = some (_, τ')
    unfold s_X8_write_34
    rw [k_dn, if_neg (nI_pos (by omega)), h0, if_neg (nI_in (by omega) (by omega)), k_mn, nI_1, ← k_up n i]
    exact ih g (n + 1) _ (by omega) (by omega) (kI_jI _ 0 _)
theorem e_write (hF : 200000 ≤ F) (H : Ini σ τ) (x : Int32) (y : Int64) : Alike (f_X7_write F σ x y) (f_X8_write F τ x y) := by
  obtain ⟨-, ⟨a0, -⟩, ⟨b0, -⟩, -⟩ := H
  unfold f_X7_write f_X8_write s_X7_write_0 s_X8_write_0
  have e1 := p8_inI (F := F) (τ := τ) x 1 8 1 8 rfl rfl
  have b1 := fa_lt x 1
  have b2 := fa_le x 8
  have z0 : (1 : Int32).toInt = 1 := rfl
  have z1 : (8 : Int32).toInt = 8 := rfl
  rw [z0] at b1
  rw [z1] at b2
  by_cases c : x.toInt < 1
  · rw [if_pos (b1.mpr c), kb_eq (e1.2 (by omega)), if_pos k00]
    exact ⟨_, _, _, rfl, rfl⟩
  · by_cases d : x.toInt ≤ 8
    · rw [if_neg (fun q => c (b1.mp q)), if_pos (b2.mpr d), kb_eq (e1.1 (by omega)), if_neg k10]
      obtain ⟨i, hi, rfl⟩ : ∃ i : Nat, i ≤ 8 ∧ x = nI i := ⟨x.toInt.toNat, by omega, k_i x (by omega)⟩
      have ez : (0 : Int32) + nI i = nI (0 + i) := nI_add 0 i
      have el : nI (0 + i) ≤ (400 : Int32) := (nI_leI (a := 0 + i) (b := 400) (by omega) (by omega)).mpr (by omega)
      obtain ⟨σ', f1, f2⟩ := e_app (F := F) y i F 0 σ (by omega) (by omega) a0
      obtain ⟨τ', u1⟩ := e_app8 (F := F) y i F 0 τ (by omega) (by omega) b0
      have f3 : f_X4_append F σ (nI i) y = some (1, σ') := by
        unfold f_X4_append s_X4_append_0
        rw [a0, ez, if_pos el]
        exact f1
      rw [kb_eq f3, if_neg k10, f2, b0, ez, if_pos el]
      exact ⟨_, _, _, rfl, u1⟩
    · rw [if_neg (fun q => c (b1.mp q)), if_neg (fun q => d (b2.mp q)), kb_eq (e1.2 (by omega)), if_pos k00]
      exact ⟨_, _, _, rfl, rfl⟩
theorem e_read (hF : 1 ≤ F) (a0 : kI σ 0 = 0) : ∃ σ', f_X4_readInto F σ = some (-4, σ') ∧ kI σ' 7 = 0 := by
  unfold f_X4_readInto s_X4_readInto_0
  have f1 : ∃ σ', f_X2_clear F σ = some ((), σ') ∧ kI σ' 0 = kI σ 0 ∧ kI σ' 7 = 0 := ⟨_, rfl, rfl, rfl⟩
  obtain ⟨σ', f1, f2, f3⟩ := f1
  rw [kb_eq f1]
  obtain ⟨g, rfl⟩ : ∃ g, F = g + 1 := ⟨F - 1, by omega⟩
  show ∃ σ'', s_X4_readInto_8 _ _ σ' 0 0 = some (-4, σ'') ∧ _
  unfold s_X4_readInto_8
  rw [if_neg (show ¬ (400 : Int32) ≤ 0 by decide), f2, a0, if_pos (show (0 : Int32) ≤ 0 by decide)]
  exact ⟨_, rfl, f3⟩
theorem e_read8 (hF : 1 ≤ F) (b0 : kI τ 0 = 0) : ∃ τ', f_X8_fault F τ = some (-4, τ') ∧ kA τ' 2 1 = 0 := by
  unfold f_X8_fault s_X8_fault_0
  have f1 : ∃ τ', f_X8_begins F (jI τ 1 0) = some ((), τ') ∧ kI τ' 0 = kI τ 0 ∧ kI τ' 1 = 0 ∧ kA τ' 2 1 = 0 := ⟨_, rfl, rfl, rfl, rfl⟩
  obtain ⟨τ', f1, f2, f3, f4⟩ := f1
  rw [kb_eq f1]
  obtain ⟨g, rfl⟩ : ∃ g, F = g + 1 := ⟨F - 1, by omega⟩
  show ∃ τ'', s_X8_fault_9 _ _ τ' = some (-4, τ'') ∧ _
  unfold s_X8_fault_9
  rw [f2, f3, b0, if_pos (show (0 : Int32) ≤ 0 by decide)]
  exact ⟨_, rfl, f4⟩
theorem e_fault (hF : 200000 ≤ F) (H : Ini σ τ) : Alike (f_X7_fault F σ) (f_X8_fault F τ) := by
  obtain ⟨-, ⟨a0, -⟩, ⟨b0, -⟩, -⟩ := H
  obtain ⟨σ', f1, -⟩ := e_read (F := F) (by omega) a0
  obtain ⟨τ', u1, -⟩ := e_read8 (F := F) (by omega) b0
  unfold f_X7_fault s_X7_fault_0
  rw [kb_eq f1]
  exact ⟨_, _, _, rfl, u1⟩
theorem e_lay (hF : 200000 ≤ F) (H : Ini σ τ) : Alike (f_X7_lay F σ) (f_X8_lay F τ) := by
  obtain ⟨-, ⟨a0, -⟩, ⟨b0, -⟩, -⟩ := H
  obtain ⟨σ', f1, f2⟩ := e_read (F := F) (by omega) a0
  obtain ⟨τ', u1, u2⟩ := e_read8 (F := F) (by omega) b0
  unfold f_X7_lay s_X7_lay_0 f_X8_lay s_X8_lay_0
  have km : (-4 : Int32) = -4 := rfl
  rw [kb_eq f1, kb_eq u1, if_pos km, if_pos km, if_pos f2, if_pos u2]
  exact ⟨_, _, _, rfl, rfl⟩
theorem e_act (H : Ini σ τ) (x y : Int32) : Alike (f_X7_act F σ x y) (f_X8_act F τ x y) := by
  obtain ⟨⟨h, hm, hA, hL, hT⟩, -⟩ := H
  unfold f_X7_act f_X8_act s_X7_act_0 s_X8_act_0 s_X8_act_20
  have e2 := p8_inI (F := F) (τ := τ) y 0 4 0 4 rfl rfl
  have b6 := fa_lt y 0
  have b7 := fa_lt y 5
  have z0 : (0 : Int32).toInt = 0 := rfl
  have z2 : (5 : Int32).toInt = 5 := rfl
  rw [z0] at b6
  rw [z2] at b7
  by_cases c : 0 ≤ x.toInt ∧ x.toInt < (1 : Nat)
  · rw [kb_eq ((p_isAct (F := F) hA x).1 c), kb_eq ((p8_isAct (F := F) hA x).1 c), if_neg k10, if_neg k10]
    have hx := k_act1 x c
    subst hx
    by_cases d : y.toInt < 0
    · rw [if_pos (b6.mpr d), kb_eq (e2.2 (by omega)), if_pos k00]
      exact ⟨_, _, _, rfl, rfl⟩
    · by_cases g : y.toInt < 5
      · rw [if_neg (fun q => d (b6.mp q)), if_pos (b7.mpr g), kb_eq (e2.1 (by omega)), if_neg k10]
        by_cases k : y = 1
        · rw [if_pos k, if_pos k, hL.1, kb_eq (p_lawOf 1 0 (by omega) (by omega)), if_neg (nI_in (by omega) (by omega)), nI_clamp (by omega), hL.2.2 0 (by omega)]
          exact ⟨_, _, _, rfl, rfl⟩
        · obtain ⟨j, hj, rfl⟩ : ∃ j : Nat, j < 5 ∧ y = nI j := ⟨y.toInt.toNat, by omega, k_i y (by omega)⟩
          rw [if_neg k, if_neg k, kb_eq (p_numberOf 0 j (nI 0) (nI j) rfl rfl (by omega) hj), ix5 0 j (nI j) rfl, if_neg (nI_in (by omega) (by omega)), nI_clamp (by omega), hA.2.2.2.1 (5 * 0 + j) (by omega)]
          exact ⟨_, _, _, rfl, rfl⟩
      · rw [if_neg (fun q => d (b6.mp q)), if_neg (fun q => g (b7.mp q)), kb_eq (e2.2 (by omega)), if_pos k00]
        exact ⟨_, _, _, rfl, rfl⟩
  · rw [kb_eq ((p_isAct (F := F) hA x).2 c), kb_eq ((p8_isAct (F := F) hA x).2 c), if_pos k00, if_pos k00]
    exact ⟨_, _, _, rfl, rfl⟩
theorem e_soon (hF : 200000 ≤ F) (H : Ini σ τ) (m : Int64) (x : Int32) : Alike (f_X7_soon F σ m x) (f_X8_soon F τ m x) := by
  obtain ⟨⟨h, hm, hA, hL, hT⟩, ⟨a0, a15, a16, a17, a19, a20, a21, a22, a23, a24, a25, a26, g0⟩, ⟨b0, b2, b3, b4, b5⟩, -⟩ := H
  unfold f_X7_soon f_X8_soon s_X7_soon_0 s_X8_soon_0 s_X7_soon_20 s_X8_soon_25
  by_cases d : bM m
  · rw [kb_eq ((p_isMinute m).1 d), kb_eq ((p8_isMinute m).1 d), if_neg k10, if_neg k10, a26, b4]
    have e2 := p8_inI (F := F) (τ := τ) x (-1) ((0 : Int32) - 1).toInt64 (-1) (-1) (by decide) (by decide)
    have b6 := fa_lt x (-1)
    have b7 := fa_lt x 0
    have z0 : (0 : Int32).toInt = 0 := rfl
    have z2 : (-1 : Int32).toInt = -1 := by decide
    rw [z2] at b6
    rw [z0] at b7
    by_cases g : x.toInt < -1
    · rw [if_pos (b6.mpr g), kb_eq (e2.2 (by omega)), if_pos k00]
      exact ⟨_, _, _, rfl, rfl⟩
    · by_cases k : x.toInt < 0
      · rw [if_neg (fun q => g (b6.mp q)), if_pos (b7.mpr k), kb_eq (e2.1 (by omega)), if_neg k10]
        obtain ⟨f, rfl⟩ : ∃ f, F = f + 1 := ⟨F - 1, by omega⟩
        show Alike (s_X7_soon_30 _ _ σ x m 0) (s_X8_soon_35 _ _ τ x m 0)
        unfold s_X7_soon_30 s_X8_soon_35
        have n0 : ¬ (0 : Int32) ≤ x := fun q => by have := (fa_le 0 x).mp q; rw [z0] at this; omega
        rw [a26, b4, if_pos (show (0 : Int32) ≤ 0 by decide), if_pos (show (0 : Int32) ≤ 0 by decide), if_neg n0]
        exact ⟨_, _, _, rfl, rfl⟩
      · rw [if_neg (fun q => g (b6.mp q)), if_neg (fun q => k (b7.mp q)), kb_eq (e2.2 (by omega)), if_pos k00]
        exact ⟨_, _, _, rfl, rfl⟩
  · rw [kb_eq ((p_isMinute m).2 d), kb_eq ((p8_isMinute m).2 d), if_pos k00, if_pos k00]
    exact ⟨_, _, _, rfl, rfl⟩
theorem e_doAct (hF : 200000 ≤ F) (H : Ini σ τ) (x : Int32) : Alike (f_X7_doAct F σ x) (f_X8_doAct F τ x) := by
  obtain ⟨⟨h, hm, hA, hL, hT⟩, ⟨a0, a15, a16, a17, a19, a20, a21, a22, a23, a24, a25, a26, g0⟩, ⟨b0, b2, b3, b4, b5⟩, ⟨d0, d1, d2, d3⟩, c0, c1⟩ := H
  unfold f_X7_doAct f_X8_doAct s_X7_doAct_0 s_X8_doAct_0
  by_cases c : 0 ≤ x.toInt ∧ x.toInt < (1 : Nat)
  · rw [kb_eq ((p_isAct (F := F) hA x).1 c), kb_eq ((p8_isAct (F := F) hA x).1 c), if_neg k10, if_neg k10]
    have hx := k_act1 x c
    subst hx
    rw [g0, d0]
    have z0 : (0 : Int64).toInt = 0 := rfl
    rcases q_isLawful hF h hm hA hL 0 (by omega) 0 (by omega) (by omega) with ⟨f1, f2⟩ | ⟨f1, f2⟩
    · rw [kb_eq f1, kb_eq f2, if_neg k10, if_neg k10, kb_eq (e_lasts c1)]
      obtain ⟨σ', p1, p2, p3⟩ := e_put (F := F) a20 a21
      rw [kb_eq p1, kb_eq (e_taken (p3.trans c0)), kb_eq e_worth0, kb_eq e_worth1]
      rw [if_neg (show ¬ ((5 : Int32) * nI 0 + 3 < 0 ∨ 60 ≤ ((5 : Int32) * nI 0 + 3).toNatClampNeg) by decide), if_neg (show ¬ ((5 : Int32) * nI 0 + 4 < 0 ∨ 60 ≤ ((5 : Int32) * nI 0 + 4).toNatClampNeg) by decide)]
      obtain ⟨τ', u1, u2, -⟩ := e_known (F := F) (τ := jB (jB (jB τ 0 0 (kB τ 0 0 + (1 : Int32).toInt64)) 0 2 (kB τ 0 2 + (kA τ 3 ((5 : Int32) * nI 0 + 3).toNatClampNeg - 50).toInt64)) 0 3 (kB τ 0 3 + (kA τ 3 ((5 : Int32) * nI 0 + 4).toNatClampNeg - 50).toInt64)) b3 1 (nI 0) 0
      rw [kb_eq u1, u2]
      have ee : kG σ' 0 + (1 : Int32).toInt64 = kB τ 0 0 + (1 : Int32).toInt64 := by rw [p2, g0, d0]
      exact al_e _ _ _ _ ee
    · rw [kb_eq f1, kb_eq f2, if_pos k00, if_pos k00]
      exact ⟨_, _, _, rfl, rfl⟩
  · rw [kb_eq ((p_isAct (F := F) hA x).2 c), kb_eq ((p8_isAct (F := F) hA x).2 c), if_pos k00, if_pos k00]
    exact ⟨_, _, _, rfl, rfl⟩
theorem e_allow (H : Ini σ τ) (x y z : Int32) : Alike (f_X7_allow F σ x y z) (f_X8_allow F τ x y z) := by
  obtain ⟨⟨h, hm, hA, hL, hT⟩, ⟨a0, a15, a16, a17, a19, a20, a21, a22, a23, a24, a25, a26, g0⟩, ⟨b0, b2, b3, b4, b5⟩, ⟨d0, d1, d2, d3⟩, c0, c1⟩ := H
  unfold f_X7_allow f_X8_allow s_X7_allow_0 s_X8_allow_0
  have e2 := p8_inI (F := F) (τ := τ) y 0 1 0 1 rfl rfl
  by_cases c : 0 ≤ x.toInt ∧ x.toInt < (1 : Nat)
  · rw [kb_eq ((p_isAct (F := F) hA x).1 c), kb_eq ((p8_isAct (F := F) hA x).1 c), if_neg k10, if_neg k10]
    have hx := k_act1 x c
    subst hx
    by_cases d : 0 ≤ y.toInt ∧ y.toInt ≤ 1
    · have k8 : ¬ (nI 0 < 0 ∨ 18 ≤ (nI 0).toNatClampNeg) := by decide
      rw [kb_eq ((p_isKing (F := F) y).1 d), kb_eq (e2.1 d), if_neg k10, if_neg k10, hL.1, kb_eq (p_lawOf 1 0 (by omega) (by omega)), kn_eq, if_neg k8, kn_eq, if_neg k8, nI_clamp (by omega), hL.2.2 0 (by omega)]
      obtain ⟨σ', p1, -⟩ := e_put (F := F) a20 a21
      obtain ⟨τ', u1, -⟩ := e_known (F := F) b3 2 (nI 0) (nI (1 / 4 ^ 0 % 4))
      rw [kb_eq p1, kb_eq u1]
      by_cases g : z = 0
      · rw [if_pos g, if_pos g, if_neg (show ¬ (nI 0 < 0 ∨ 18 ≤ 0) by decide)]
        unfold s_X8_allow_78
        rw [if_neg k8]
        exact ⟨_, _, _, rfl, rfl⟩
      · rw [if_neg g, if_neg g, if_neg (show ¬ (nI 0 < 0 ∨ 18 ≤ 0) by decide)]
        unfold s_X8_allow_78
        rw [if_neg k8]
        exact ⟨_, _, _, rfl, rfl⟩
    · rw [kb_eq ((p_isKing (F := F) y).2 d), kb_eq (e2.2 d), if_pos k00, if_pos k00]
      exact ⟨_, _, _, rfl, rfl⟩
  · rw [kb_eq ((p_isAct (F := F) hA x).2 c), kb_eq ((p8_isAct (F := F) hA x).2 c), if_pos k00, if_pos k00]
    exact ⟨_, _, _, rfl, rfl⟩
theorem e_cp2 : ∀ (f n : Nat) (τ : kS), n ≤ 4 → 4 - n < f → ∃ τ', itr (fun rec38 q => s_X8_copies_38 F rec38 q.1 q.2.1 q.2.2.1 q.2.2.2) f (τ, 0, 1, nI n) = some ((), τ') ∧ kI τ' 2 = kI τ 2 := by
  intro f
  induction f with
  | zero => intro n τ _ h; omega
  | succ f ih =>
    intro n τ hn hf
    show ∃ τ', s_X8_copies_38 F _ τ 0 1 (nI n) = some ((), τ') ∧ _
    unfold s_X8_copies_38
    have hle : (4 : Int32) ≤ nI n ↔ 4 ≤ n := nI_leI (a := 4) (by omega) (by omega)
    have e0 : (4 : Int32) * 0 + nI n = nI (0 + n) := by rw [show (4 : Int32) * 0 = nI 0 by decide, nI_add]
    have e1 : (4 : Int32) * 1 + nI n = nI (4 + n) := by rw [show (4 : Int32) * 1 = nI 4 by decide, nI_add]
    by_cases c : 4 ≤ n
    · rw [if_pos (hle.mpr c)]
      exact ⟨_, rfl, rfl⟩
    · rw [if_neg (fun q => c (hle.mp q)), e0, e1, if_neg (nI_in (by omega) (by omega)), if_neg (nI_in (by omega) (by omega)), nI_1]
      exact ih (n + 1) _ (by omega) (by omega)
theorem e_cp1 (hF : 200000 ≤ F) : ∀ (f n : Nat) (τ : kS), n ≤ 6 → 6 - n < f → ∃ τ', itr (fun rec2 q => s_X8_copies_2 F rec2 q.1 q.2.1 q.2.2.1 q.2.2.2) f (τ, 0, 1, nI n) = some ((), τ') ∧ kI τ' 2 = kI τ 2 := by
  intro f
  induction f with
  | zero => intro n τ _ h; omega
  | succ f ih =>
    intro n τ hn hf
    show ∃ τ', s_X8_copies_2 F _ τ 0 1 (nI n) = some ((), τ') ∧ _
    unfold s_X8_copies_2
    have hle : (6 : Int32) ≤ nI n ↔ 6 ≤ n := nI_leI (a := 6) (by omega) (by omega)
    have e0 : (6 : Int32) * 0 + nI n = nI (0 + n) := by rw [show (6 : Int32) * 0 = nI 0 by decide, nI_add]
    have e1 : (6 : Int32) * 1 + nI n = nI (6 + n) := by rw [show (6 : Int32) * 1 = nI 6 by decide, nI_add]
    by_cases c : 6 ≤ n
    · rw [if_pos (hle.mpr c)]
      exact e_cp2 F 0 τ (by omega) (by omega)
    · rw [if_neg (fun q => c (hle.mp q)), e0, e1, if_neg (nI_in (by omega) (by omega)), if_neg (nI_in (by omega) (by omega)), nI_1]
      exact ih (n + 1) _ (by omega) (by omega)
theorem e_keep (hF : 200000 ≤ F) (H : Ini σ τ) : Alike (f_X7_keep F σ) (f_X8_keep F τ) := by
  obtain ⟨-, ⟨a0, a15, a16, a17, a19, a20, a21, a22, a23, a24, a25, a26, g0⟩, ⟨b0, b2, b3, b4, b5⟩, -⟩ := H
  unfold f_X7_keep f_X8_keep s_X7_keep_0 s_X8_keep_0
  obtain ⟨σ', p1, p2⟩ := e_put1 (F := F) a23 a24 a25
  obtain ⟨τ', u1, u2⟩ := e_cp1 (F := F) hF F 0 (jI τ 2 1) (by omega) (by omega)
  have u3 : f_X8_copies F (jI τ 2 1) 0 1 = some ((), τ') := u1
  rw [a25, if_pos (show (0 : Int32) < 2 by decide), kb_eq p1, b2, if_neg (show ¬ (0 : Int32) = 2 by decide), show (0 : Int32) + 1 = 1 by decide, kb_eq u3, p2, u2, kI_jI]
  exact ⟨_, _, _, rfl, rfl⟩
end

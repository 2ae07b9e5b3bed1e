/-! the relation of both states after k calls -/
section
variable {F : Nat} {σ τ : kS} {k : Nat}
theorem k_lt (x y : Int32) (c : Int) (h : y.toInt = c) : x < y ↔ x.toInt < c := by rw [fa_lt, h]
theorem k_gt (x y : Int32) (c : Int) (h : y.toInt = c) : y < x ↔ c < x.toInt := by rw [fa_lt, h]
theorem k_le (x y : Int32) (c : Int) (h : y.toInt = c) : x ≤ y ↔ x.toInt ≤ c := by rw [fa_le, h]
theorem k_ge (x y : Int32) (c : Int) (h : y.toInt = c) : y ≤ x ↔ c ≤ x.toInt := by rw [fa_le, h]
theorem k_nar (x : Int64) (y : Int32) (h : x.toInt = y.toInt) : x.toInt32 = y := by
  have hr := fb_rng y
  rw [fa_eq, Kit.i32_of_i64 (by omega) (by omega), h]
theorem kA_jA (σ : kS) (k i j : Nat) (v : Int32) : kA (jA σ k i v) k j = if j = i then v else kA σ k j := by
  show va_up σ.2.2.1 k (upd (σ.2.2.1 k) i v) k j = _
  rw [va_up_at]; rfl
theorem kB_jB (σ : kS) (k i j : Nat) (v : Int64) : kB (jB σ k i v) k j = if j = i then v else kB σ k j := by
  show va_up σ.2.2.2 k (vp_updL (σ.2.2.2 k) i v) k j = _
  rw [va_up_at]; rfl
/-- the text -/
def rTxt (n : Nat) (σ τ : kS) : Prop := n ≤ 400 ∧ kI σ 0 = nI n ∧ kI τ 0 = nI n ∧ ∀ i, i < n → kA τ 0 i = kA σ 0 i ∧ -128 ≤ (kA σ 0 i).toInt ∧ (kA σ 0 i).toInt < 128
/-- the told row -/
def rRow (a r : Nat) (σ τ : kS) : Prop := r ≤ 8 ∧ kI σ 26 = nI r ∧ kI τ 4 = nI r ∧ ∀ i, i < r → kA τ 6 i = kA σ 14 i ∧ ∃ q, q < a ∧ kA σ 14 i = nI q
def bR (k : Nat) (m : Int64) (u v : Int32) : Prop := (0 ≤ m.toInt ∧ m.toInt ≤ 10000 * (k : Int)) ∧ (-(50 * (k : Int)) ≤ u.toInt ∧ u.toInt ≤ 50 * (k : Int)) ∧ (-(50 * (k : Int)) ≤ v.toInt ∧ v.toInt ≤ 50 * (k : Int))
theorem bR_up {k2 : Nat} {m : Int64} {u v : Int32} (h : bR k m u v) (hk : k ≤ k2) : bR k2 m u v := by
  obtain ⟨⟨a1, a2⟩, ⟨b1, b2⟩, c1, c2⟩ := h
  exact ⟨⟨a1, by omega⟩, ⟨by omega, by omega⟩, by omega, by omega⟩
/-- the minute and the worths -/
def rNow (k : Nat) (σ τ : kS) : Prop := kB τ 0 0 = kG σ 0 ∧ (kB τ 0 2).toInt = (kI σ 16).toInt ∧ (kB τ 0 3).toInt = (kI σ 17).toInt ∧ bR k (kG σ 0) (kI σ 16) (kI σ 17)
abbrev kRg : Type := Int64 × Int32 × Int32 × Int32
def cur (σ : kS) : kRg := (kG σ 0, kI σ 16, kI σ 17, kI σ 18)
def rgB (k : Nat) (s : kRg) : Prop := bR k s.1 s.2.1 s.2.2.1 ∧ ∃ w : Nat, w < 4096 ∧ s.2.2.2 = nI w
/-- how long an act takes -/
def lst (σ : kS) (i : Nat) : Int32 := if kA σ 3 (5 * i) = 1 ∨ kA σ 3 (5 * i) = 2 then kA σ 3 (5 * i + 2) else 1
/-- s undone by what is known (d0, d1, d2) gives t -/
def rgStep (a : Nat) (σ : kS) (s t : kRg) (d0 d1 d2 : Int32) : Prop :=
  (d0 = 0 ∧ t.1 = s.1 - d1.toInt64 ∧ t.2.1 = s.2.1 ∧ t.2.2.1 = s.2.2.1 ∧ t.2.2.2 = s.2.2.2) ∨
  (d0 = 1 ∧ ∃ i, i < a ∧ d1 = nI i ∧ t.1 = s.1 - (lst σ i).toInt64 ∧ s.2.1 = t.2.1 + (kA σ 3 (5 * i + 3) - 50) ∧ s.2.2.1 = t.2.2.1 + (kA σ 3 (5 * i + 4) - 50) ∧ t.2.2.2 = s.2.2.2) ∨
  (d0 = 2 ∧ t.1 = s.1 ∧ t.2.1 = s.2.1 ∧ t.2.2.1 = s.2.2.1 ∧ ∃ i v w, i < a ∧ d1 = nI i ∧ v < 4096 ∧ w < 4096 ∧ s.2.2.2 = nI v ∧ t.2.2.2 = nI w ∧ d2 = nI (dg w i) ∧ ∀ j, j < a → j ≠ i → dg v j = dg w j)
/-- what can be undone: the class's ring of states, the reference's row of what was done -/
def rPast (a k h : Nat) (σ τ : kS) : Prop := kI σ 20 = 8 ∧ h ≤ 8 ∧ kI σ 22 = nI h ∧ kI τ 3 = nI h ∧ ∃ (t : Nat) (S : Nat → kRg), t ≤ 8 ∧ kI σ 21 = nI t ∧ S 0 = cur σ ∧ (∀ j, j < h → (kB σ 0 ((t + 7 - j) % 8), kA σ 7 ((t + 7 - j) % 8), kA σ 8 ((t + 7 - j) % 8), kA σ 9 ((t + 7 - j) % 8)) = S (j + 1)) ∧ (∀ j, j < h → rgStep a σ (S j) (S (j + 1)) (kA τ 5 (3 * (h - 1 - j))) (kA τ 5 (3 * (h - 1 - j) + 1)) (kA τ 5 (3 * (h - 1 - j) + 2))) ∧ ∀ j, j ≤ h → rgB k (S j)
def kpE (a k : Nat) (σ τ : kS) (p i : Nat) : Prop := kB τ 0 (4 * i) = kB σ 1 p ∧ (kB τ 0 (4 * i + 1)).toInt = (kA σ 10 p).toInt ∧ (0 ≤ (kA σ 10 p).toInt ∧ (kA σ 10 p).toInt ≤ 99) ∧ (kB τ 0 (4 * i + 2)).toInt = (kA σ 11 p).toInt ∧ (kB τ 0 (4 * i + 3)).toInt = (kA σ 12 p).toInt ∧ bR k (kB σ 1 p) (kA σ 11 p) (kA σ 12 p) ∧ ∃ w, w < 4096 ∧ kA σ 13 p = nI w ∧ ∀ q, q < a → kA τ 4 (6 * i + q) = nI (dg w q)
def rKept (a k c : Nat) (σ τ : kS) : Prop := kI σ 23 = 2 ∧ c ≤ 2 ∧ kI σ 25 = nI c ∧ kI τ 2 = nI c ∧ ∃ t : Nat, t ≤ 2 ∧ kI σ 24 = nI t ∧ ∀ j, j < c → kpE a k σ τ ((t + 1 - j) % 2) (c - j)
def Rel (k : Nat) (σ τ : kS) : Prop := ∃ a w l n r h c : Nat, cPl σ ∧ mPl σ τ ∧ rAct a σ τ ∧ rLaw a w σ τ ∧ rTab l σ τ ∧ rTxt n σ τ ∧ rRow a r σ τ ∧ rNow k σ τ ∧ rPast a k h σ τ ∧ rKept a k c σ τ
def Ok {α : Type} (k : Nat) (x y : Option (α × kS)) : Prop := ∃ v σ' τ', x = some (v, σ') ∧ y = some (v, τ') ∧ Rel k σ' τ'
theorem rNow_up {k2 : Nat} (h : rNow k σ τ) (hk : k ≤ k2) : rNow k2 σ τ := ⟨h.1, h.2.1, h.2.2.1, bR_up h.2.2.2 hk⟩
theorem rPast_up {a h k2 : Nat} (H : rPast a k h σ τ) (hk : k ≤ k2) : rPast a k2 h σ τ := by
  obtain ⟨h1, h2, h3, h4, t, S, h5, h6, h7, h8, h9, h10⟩ := H
  exact ⟨h1, h2, h3, h4, t, S, h5, h6, h7, h8, h9, fun j hj => ⟨bR_up (h10 j hj).1 hk, (h10 j hj).2⟩⟩
theorem kpE_up {a p i k2 : Nat} (H : kpE a k σ τ p i) (hk : k ≤ k2) : kpE a k2 σ τ p i := by
  obtain ⟨h1, h2, h3, h4, h5, h6, h7⟩ := H
  exact ⟨h1, h2, h3, h4, h5, bR_up h6 hk, h7⟩
theorem rKept_up {a c k2 : Nat} (H : rKept a k c σ τ) (hk : k ≤ k2) : rKept a k2 c σ τ := by
  obtain ⟨h1, h2, h3, h4, t, h5, h6, h7⟩ := H
  exact ⟨h1, h2, h3, h4, t, h5, h6, fun j hj => kpE_up (h7 j hj) hk⟩
theorem Rel.up {k2 : Nat} (R : Rel k σ τ) (hk : k ≤ k2) : Rel k2 σ τ := by
  obtain ⟨a, w, l, n, r, h, c, hP, hM, hA, hL, hT, hX, hR, hN, hU, hK⟩ := R
  exact ⟨a, w, l, n, r, h, c, hP, hM, hA, hL, hT, hX, hR, rNow_up hN hk, rPast_up hU hk, rKept_up hK hk⟩
theorem rKept_fr {a c : Nat} {σ' τ' : kS} (H : rKept a k c σ τ) (e23 : kI σ' 23 = kI σ 23) (e24 : kI σ' 24 = kI σ 24) (e25 : kI σ' 25 = kI σ 25) (f : ∀ p, kB σ' 1 p = kB σ 1 p ∧ kA σ' 10 p = kA σ 10 p ∧ kA σ' 11 p = kA σ 11 p ∧ kA σ' 12 p = kA σ 12 p ∧ kA σ' 13 p = kA σ 13 p) (t2 : kI τ' 2 = kI τ 2) (hB : ∀ i, 4 ≤ i → kB τ' 0 i = kB τ 0 i) (hA : ∀ i, 6 ≤ i → kA τ' 4 i = kA τ 4 i) : rKept a k c σ' τ' := by
  obtain ⟨h1, h2, h3, h4, t, h5, h6, h7⟩ := H
  refine ⟨e23.trans h1, h2, e25.trans h3, t2.trans h4, t, h5, e24.trans h6, fun j hj => ?_⟩
  obtain ⟨g1, g2, g3, g4, g5, g6, w, g7, g8, g9⟩ := h7 j hj
  obtain ⟨f1, f2, f3, f4, f5⟩ := f ((t + 1 - j) % 2)
  unfold kpE
  rw [f1, f2, f3, f4, f5, hB _ (by omega), hB _ (by omega), hB _ (by omega), hB _ (by omega)]
  exact ⟨g1, g2, g3, g4, g5, g6, w, g7, g8, fun q hq => by rw [hA _ (by omega)]; exact g9 q hq⟩
theorem ok_q {α : Type} {x y : Option (α × kS)} (R : Rel k σ τ) (h : ∃ v, x = some (v, σ) ∧ y = some (v, τ)) : Ok (k + 1) x y := by
  obtain ⟨v, h1, h2⟩ := h
  exact ⟨v, σ, τ, h1, h2, R.up (by omega)⟩
theorem ok_s {α : Type} (R : Rel k σ τ) (v : α) : Ok (k + 1) (some (v, σ)) (some (v, τ)) := ⟨v, σ, τ, rfl, rfl, R.up (by omega)⟩
theorem r_wipe (R : Rel k σ τ) : Ok (k + 1) (f_X7_wipe F σ) (f_X8_wipe F τ) := by
  obtain ⟨a, w, l, n, r, h, c, hP, hM, hA, hL, hT, hX, hR, hN, hU, hK⟩ := R.up (show k ≤ k + 1 by omega)
  unfold f_X7_wipe f_X8_wipe s_X7_wipe_0 s_X8_wipe_0
  rw [hX.2.1, hX.2.2.1]
  exact ⟨_, _, _, rfl, rfl, a, w, l, 0, r, h, c, hP, hM, hA, hL, hT, ⟨by omega, rfl, rfl, fun i hi => absurd hi (by omega)⟩, hR, hN, hU, hK⟩
theorem r_noRow (R : Rel k σ τ) : Ok (k + 1) (f_X7_noRow F σ) (f_X8_noRow F τ) := by
  obtain ⟨a, w, l, n, r, h, c, hP, hM, hA, hL, hT, hX, hR, hN, hU, hK⟩ := R.up (show k ≤ k + 1 by omega)
  unfold f_X7_noRow f_X8_noRow s_X7_noRow_0 s_X8_noRow_0
  rw [hR.2.1, hR.2.2.1]
  exact ⟨_, _, _, rfl, rfl, a, w, l, n, 0, h, c, hP, hM, hA, hL, hT, hX, ⟨by omega, rfl, rfl, fun i hi => absurd hi (by omega)⟩, hN, hU, hK⟩
theorem r_noTable (R : Rel k σ τ) : Ok (k + 1) (f_X7_noTable F σ) (f_X8_noTable F τ) := by
  obtain ⟨a, w, l, n, r, h, c, hP, hM, hA, hL, hT, hX, hR, hN, hU, hK⟩ := R.up (show k ≤ k + 1 by omega)
  unfold f_X7_noTable f_X8_noTable s_X7_noTable_0 s_X8_noTable_0
  rw [hT.1, hT.2.1]
  exact ⟨_, _, _, rfl, rfl, a, w, 0, n, r, h, c, hP, hM, hA, hL, ⟨rfl, rfl, by omega, fun i hi => absurd hi (by omega)⟩, hX, hR, hN, hU, hK⟩
theorem r_shift (hF : 200000 ≤ F) (R : Rel k σ τ) (x : Int32) : Ok (k + 1) (f_X7_shift F σ x) (f_X8_shift F τ x) := by
  obtain ⟨a, w, l, n, r, h, c, hP, hM, hA, hL, hT, hX, hR, hN, hU, hK⟩ := R.up (show k ≤ k + 1 by omega)
  obtain ⟨v, τ', h1, h2, h3⟩ := q_shift hF hP hM hT x
  refine ⟨v, σ, τ', h1, h2, ?_⟩
  rcases h3 with rfl | ⟨y, rfl⟩
  · exact ⟨a, w, l, n, r, h, c, hP, hM, hA, hL, hT, hX, hR, hN, hU, hK⟩
  · exact ⟨a, w, l, n, r, h, c, hP, hM, hA, hL, hT, hX, hR, hN, hU, hK⟩
theorem r_year (R : Rel k σ τ) (x : Int32) : Ok (k + 1) (f_X7_year F σ x) (f_X8_year F τ x) := by
  have R0 := R
  obtain ⟨a, w, l, n, r, h, c, hP, hM, hA, hL, hT, hX, hR, hN, hU, hK⟩ := R.up (show k ≤ k + 1 by omega)
  unfold f_X7_year f_X8_year s_X7_year_0 s_X8_year_0
  have e1 := p8_inI (F := F) (τ := τ) x 0 99 0 99 rfl rfl
  have b0 := k_lt x 0 0 rfl
  have b1 := k_le x 99 99 rfl
  by_cases c1 : x.toInt < 0
  · rw [if_pos (b0.mpr c1), kb_eq (e1.2 (by omega)), if_pos k00]
    exact ok_s R0 _
  · by_cases d : x.toInt ≤ 99
    · obtain ⟨m0, m1, m2, m3, m4, m5, m6⟩ := hM
      obtain ⟨p1, p2, p3, p4, p5, p6, p7, -⟩ := hP
      rw [if_neg (fun q => c1 (b0.mp q)), if_pos (b1.mpr d), kb_eq (e1.1 (by omega)), if_neg k10, kn_eq, k_nar _ _ m6]
      refine ⟨_, _, _, rfl, rfl, a, w, l, n, r, h, c, ⟨p1, p2, p3, p4, p5, p6, p7, (show 0 ≤ x.toInt ∧ x.toInt ≤ 99 by omega)⟩, ⟨m0, m1, m2, m3, m4, m5, k_32_64 x⟩, hA, hL, hT, hX, hR, hN, hU, ?_⟩
      exact rKept_fr hK rfl rfl rfl (fun p => ⟨rfl, rfl, rfl, rfl, rfl⟩) rfl (fun i hi => by rw [kB_jB, if_neg (by omega)]) (fun i hi => rfl)
    · rw [if_neg (fun q => c1 (b0.mp q)), if_neg (fun q => d (b1.mp q)), kb_eq (e1.2 (by omega)), if_pos k00]
      exact ok_s R0 _
theorem r_act (R : Rel k σ τ) (x y : Int32) : Ok (k + 1) (f_X7_act F σ x y) (f_X8_act F τ x y) := by
  have R0 := R
  obtain ⟨a, w, l, n, r, h, c, hP, hM, hA, hL, hT, hX, hR, hN, hU, hK⟩ := R
  have ha := hA.1
  unfold f_X7_act f_X8_act s_X7_act_0 s_X8_act_0 s_X8_act_20
  have e2 := p8_inI (F := F) (τ := τ) y 0 4 0 4 rfl rfl
  have b6 := k_lt y 0 0 rfl
  have b7 := k_lt y 5 5 rfl
  by_cases c1 : 0 ≤ x.toInt ∧ x.toInt < a
  · rw [kb_eq ((p_isAct (F := F) hA x).1 c1), kb_eq ((p8_isAct (F := F) hA x).1 c1), if_neg k10, if_neg k10]
    obtain ⟨i, hi, rfl⟩ := k_act x c1
    by_cases d : y.toInt < 0
    · rw [if_pos (b6.mpr d), kb_eq (e2.2 (by omega)), if_pos k00]
      exact ok_s R0 _
    · by_cases g : y.toInt < 5
      · rw [if_neg (fun q => d (b6.mp q)), if_pos (b7.mpr g), kb_eq (e2.1 (by omega)), if_neg k10]
        by_cases k1 : y = 1
        · rw [if_pos k1, if_pos k1, hL.1, kb_eq (p_lawOf w i (by omega) hL.2.1), if_neg (nI_in (by omega) (by omega)), nI_clamp (by omega), hL.2.2 i hi]
          exact ok_s R0 _
        · obtain ⟨j, hj, rfl⟩ : ∃ j : Nat, j < 5 ∧ y = nI j := ⟨y.toInt.toNat, by omega, k_i y (by omega)⟩
          rw [if_neg k1, if_neg k1, kb_eq (p_numberOf i j (nI i) (nI j) rfl rfl (by omega) hj), ix5 i j (nI j) rfl, if_neg (nI_in (by omega) (by omega)), nI_clamp (by omega), hA.2.2.2.1 (5 * i + j) (by omega)]
          exact ok_s R0 _
      · rw [if_neg (fun q => d (b6.mp q)), if_neg (fun q => g (b7.mp q)), kb_eq (e2.2 (by omega)), if_pos k00]
        exact ok_s R0 _
  · rw [kb_eq ((p_isAct (F := F) hA x).2 c1), kb_eq ((p8_isAct (F := F) hA x).2 c1), if_pos k00, if_pos k00]
    exact ok_s R0 _
theorem r_tell (R : Rel k σ τ) (x : Int32) : Ok (k + 1) (f_X7_tell F σ x) (f_X8_tell F τ x) := by
  have R0 := R
  obtain ⟨a, w, l, n, r, h, c, hP, hM, hA, hL, hT, hX, hR, hN, hU, hK⟩ := R.up (show k ≤ k + 1 by omega)
  have ha := hA.1
  unfold f_X7_tell f_X8_tell s_X7_tell_0 s_X8_tell_0
  by_cases c1 : 0 ≤ x.toInt ∧ x.toInt < a
  · rw [kb_eq ((p_isAct (F := F) hA x).1 c1), kb_eq ((p8_isAct (F := F) hA x).1 c1), if_neg k10, if_neg k10]
    obtain ⟨i, hi, rfl⟩ := k_act x c1
    obtain ⟨r1, r2, r3, r4⟩ := hR
    have e8 := nI_ltI (a := r) (b := 8) (by omega) (by omega)
    have q8 := nI_eq (a := r) (b := 8) (by omega) (by omega)
    rw [r2, r3, if_neg (nI_pos (by omega))]
    by_cases d : r < 8
    · rw [if_pos (show nI r < 8 from e8.mpr d), if_neg (show ¬ nI r = 8 from fun q => by have := q8.mp q; omega), if_neg (nI_in (by omega) (by omega)), if_neg (nI_in (by omega) (by omega)), nI_clamp (by omega), nI_1]
      refine ⟨_, _, _, rfl, rfl, a, w, l, n, r + 1, h, c, hP, hM, hA, hL, hT, hX, ⟨by omega, rfl, rfl, fun q hq => ?_⟩, hN, hU, hK⟩
      show kA (jA τ 6 r (nI i)) 6 q = kA (jA σ 14 r (nI i)) 14 q ∧ ∃ z, z < a ∧ kA (jA σ 14 r (nI i)) 14 q = nI z
      rw [kA_jA, kA_jA]
      by_cases e : q = r
      · rw [if_pos e, if_pos e]
        exact ⟨rfl, i, hi, rfl⟩
      · rw [if_neg e, if_neg e]
        exact r4 q (by omega)
    · rw [if_neg (show ¬ nI r < 8 from fun q => d (e8.mp q)), if_pos (show nI r = 8 from q8.mpr (by omega))]
      exact ok_s R0 _
  · rw [kb_eq ((p_isAct (F := F) hA x).2 c1), kb_eq ((p8_isAct (F := F) hA x).2 c1), if_pos k00, if_pos k00]
    exact ok_s R0 _
theorem r_line (R : Rel k σ τ) (x y : Int32) : Ok (k + 1) (f_X7_line F σ x y) (f_X8_line F τ x y) := by
  have R0 := R
  obtain ⟨a, w, l, n, r, h, c, hP, hM, hA, hL, hT, hX, hR, hN, hU, hK⟩ := R.up (show k ≤ k + 1 by omega)
  unfold f_X7_line f_X8_line s_X7_line_0 s_X8_line_0
  have e1 := p8_inI (F := F) (τ := τ) x 0 1000000 0 1000000 rfl rfl
  have e2 := p8_inI (F := F) (τ := τ) y 0 2 0 2 rfl rfl
  have b0 := k_lt x 0 0 rfl
  have b1 := k_gt x 1000000 1000000 rfl
  by_cases c1 : x.toInt < 0
  · rw [if_pos (b0.mpr c1), kb_eq (e1.2 (by omega)), if_pos k00]
    exact ok_s R0 _
  · by_cases d : 1000000 < x.toInt
    · rw [if_neg (fun q => c1 (b0.mp q)), if_pos (b1.mpr d), kb_eq (e1.2 (by omega)), if_pos k00]
      exact ok_s R0 _
    · rw [if_neg (fun q => c1 (b0.mp q)), if_neg (fun q => d (b1.mp q)), kb_eq (e1.1 (by omega)), if_neg k10]
      by_cases g : 0 ≤ y.toInt ∧ y.toInt ≤ 2
      · rw [kb_eq ((p_isRuler (F := F) y).1 g), kb_eq (e2.1 g), if_neg k10, if_neg k10]
        obtain ⟨t1, t2, t3, t4⟩ := hT
        have e8 := nI_ltI (a := l) (b := 10) (by omega) (by omega)
        have q8 := nI_eq (a := l) (b := 10) (by omega) (by omega)
        have x2 : (2 : Int32) * nI l = nI (2 * l) := ix2' l
        unfold f_X6_addLine s_X6_addLine_0
        rw [t1, t2, if_neg (nI_pos (by omega))]
        by_cases u : l < 10
        · rw [if_pos (show nI l < 10 from e8.mpr u), if_neg (nI_in (by omega) (by omega)), if_neg (nI_in (by omega) (by omega)), kb_eq rfl, if_neg k10, if_neg (show ¬ nI l = 10 from fun q => by have := q8.mp q; omega), x2, nI_1, nI_1, if_neg (nI_in (by omega) (by omega)), if_neg (nI_in (by omega) (by omega)), nI_clamp (by omega), nI_clamp (by omega), nI_clamp (by omega)]
          refine ⟨_, _, _, rfl, rfl, a, w, l + 1, n, r, h, c, hP, hM, hA, hL, ⟨rfl, rfl, by omega, fun q hq => ?_⟩, hX, hR, hN, hU, hK⟩
          show kA (jA (jA τ 7 (2 * l) x) 7 (2 * l + 1) y) 7 (2 * q) = kA (jA σ 4 l x) 4 q ∧ kA (jA (jA τ 7 (2 * l) x) 7 (2 * l + 1) y) 7 (2 * q + 1) = kA (jA (jA σ 4 l x) 5 l y) 5 q ∧ 0 ≤ (kA (jA σ 4 l x) 4 q).toInt ∧ (kA (jA σ 4 l x) 4 q).toInt ≤ 1000000
          rw [kA_jA, kA_jA, kA_jA, kA_jA, kA_jA, kA_jA, if_neg (by omega)]
          by_cases e : q = l
          · rw [if_pos (by omega), if_pos e, if_pos (by omega), if_pos e]
            exact ⟨rfl, rfl, by omega, by omega⟩
          · rw [if_neg (by omega), if_neg e, if_neg (by omega), if_neg (by omega), if_neg e]
            exact t4 q (by omega)
        · rw [if_neg (show ¬ nI l < 10 from fun q => u (e8.mp q)), kb_eq rfl, if_pos k00, if_pos (show nI l = 10 from q8.mpr (by omega))]
          exact ok_s R0 _
      · rw [kb_eq ((p_isRuler (F := F) y).2 g), kb_eq (e2.2 g), if_pos k00, if_pos k00]
        exact ok_s R0 _
theorem ite_al {α : Type} {c : Prop} [Decidable c] {x1 x2 y1 y2 : Option (α × kS)} (h1 : ∃ v, x1 = some (v, σ) ∧ y1 = some (v, τ)) (h2 : ∃ v, x2 = some (v, σ) ∧ y2 = some (v, τ)) : ∃ v, (if c then x1 else x2) = some (v, σ) ∧ (if c then y1 else y2) = some (v, τ) := by
  by_cases h : c
  · rw [if_pos h, if_pos h]; exact h1
  · rw [if_neg h, if_neg h]; exact h2
theorem r_count (R : Rel k σ τ) (x : Int32) : Ok (k + 1) (f_X7_count F σ x) (f_X8_count F τ x) := by
  have R0 := R
  obtain ⟨a, w, l, n, r, h, c, hP, hM, hA, hL, hT, hX, hR, hN, hU, hK⟩ := R
  unfold f_X7_count f_X8_count s_X7_count_0 s_X8_count_0
  rw [hA.2.1, hA.2.2.1, hX.2.1, hX.2.2.1, k_nar _ _ hM.2.2.2.2.2.2, hR.2.1, hR.2.2.1, hT.1, hT.2.1, hU.2.2.1, hU.2.2.2.1, k_nar _ _ hN.2.1, k_nar _ _ hN.2.2.1, hK.2.2.1, hK.2.2.2.1]
  refine ok_q R0 ?_
  exact ite_al ⟨_, rfl, rfl⟩ (ite_al ⟨_, rfl, rfl⟩ (ite_al ⟨_, rfl, rfl⟩ (ite_al ⟨_, rfl, rfl⟩ (ite_al ⟨_, rfl, rfl⟩ (ite_al ⟨_, rfl, rfl⟩ (ite_al ⟨_, rfl, rfl⟩ (ite_al ⟨_, rfl, rfl⟩ (ite_al ⟨_, rfl, rfl⟩ ⟨_, rfl, rfl⟩))))))))
end

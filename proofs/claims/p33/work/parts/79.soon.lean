/-! soon: both sides end, and keep the relation (the answers are not compared here) -/
section
variable {F : Nat} {σ τ : kS} {k : Nat}
def Ok2 {α : Type} (k : Nat) (x y : Option (α × kS)) : Prop := ∃ v u σ' τ', x = some (v, σ') ∧ y = some (u, τ') ∧ Rel k σ' τ'
theorem ok_2 {α : Type} {x y : Option (α × kS)} (h : Ok k x y) : Ok2 k x y := by
  obtain ⟨v, s, t, h1, h2, h3⟩ := h
  exact ⟨v, v, s, t, h1, h2, h3⟩
theorem p_soon_loop {a w r : Nat} (hF : 200000 ≤ F) (h : cPl σ) (hA : rAct a σ τ) (hL : rLaw a w σ τ) (hR : rRow a r σ τ) (x3 : Int32) :
    ∀ (f g : Nat) (x : Int64), g ≤ r → r - g < f → 0 ≤ x.toInt → x.toInt ≤ 1000000000000 + 2000 * (g : Int) → ∃ v, itr (fun rec30 q => s_X7_soon_30 F rec30 q.1 q.2.1 q.2.2.1 q.2.2.2) f (σ, x3, x, nI g) = some (v, σ) := by
  obtain ⟨r1, r2, r3, r4⟩ := hR
  have ha := hA.1
  intro f
  induction f with
  | zero => intro g x _ h; omega
  | succ f ih =>
    intro g x hg hf hx1 hx2
    show ∃ v, s_X7_soon_30 F _ σ x3 x (nI g) = some (v, σ)
    unfold s_X7_soon_30
    have hle := nI_leI (a := r) (b := g) (by omega) (by omega)
    rw [r2]
    by_cases c : r ≤ g
    · rw [if_pos (hle.mpr c)]
      exact ⟨_, rfl⟩
    · rw [if_neg (fun q => c (hle.mp q)), if_neg (show ¬ (8 : Int32) ≤ nI g from nI_ge (b := 8) (by omega) (by omega)), if_neg (nI_in (by omega) (by omega)), if_neg (nI_in (by omega) (by omega)), nI_clamp (by omega)]
      have k9 : ¬ (nI g < 0 ∨ 8 ≤ g) := fun z => z.elim (nI_pos (by omega)) (by omega)
      obtain ⟨-, q, hq, eq⟩ := r4 g (by omega)
      rw [eq]
      have ql := lst_b hA q hq
      rcases p_first (F := F) hF h hA hL q q hq hq x hx1 (by omega) with ⟨t, t1, t2, t3, t4⟩ | ⟨t1, t2⟩
      · rw [kb_eq t4]
        by_cases d1 : lg_cmp (x + (nI t).toInt64) (-4) = 0
        · rw [if_pos d1]; exact ⟨_, rfl⟩
        · rw [if_neg d1]
          by_cases d2 : nI g = x3
          · rw [if_pos d2]; exact ⟨_, rfl⟩
          · rw [if_neg d2, if_neg k9, eq, kb_eq (p_taken q (by omega)), kn_eq, nI_1]
            have em := k_addm x t (by omega) (by omega) (by omega)
            have e2 : (x + (nI t).toInt64 + (lst σ q).toInt64).toInt = x.toInt + t + (lst σ q).toInt := by
              rw [fb_addL (by rw [k_32_64]; omega) (by rw [k_32_64]; omega), k_32_64, em]
            exact ih (g + 1) _ (by omega) (by omega) (by omega) (by omega)
      · rw [kb_eq t2, if_pos (show lg_cmp (-4 : Int64) (-4) = 0 by decide)]
        exact ⟨_, rfl⟩
theorem p8_soon_in {a w r : Nat} (hF : 200000 ≤ F) (h : cPl σ) (hm : mPl σ τ) (hA : rAct a σ τ) (hL : rLaw a w σ τ) (hR : rRow a r σ τ) (x3 : Int32) (g : Nat) (hg : g < r) (b : Int) (hb1 : 0 ≤ b) (hb2 : b ≤ 2000000000000) (x7 : Int64) (hx7 : x7.toInt = b + 5000) (B : Nat → Int64) (rc : kS × Int32 × Int64 × Int32 → Option (Int64 × kS))
    (hrc : ∀ (B : Nat → Int64) (x : Int64), b ≤ x.toInt → x.toInt ≤ b + 6000 → ∃ v B', rc (zB τ 1 B, x3, x, nI (g + 1)) = some (v, zB τ 1 B')) :
    ∀ (f s : Nat) (x : Int64), s ≤ 5001 → 5001 - s < f → x.toInt = b + s → ∃ v B', itr (fun rec52 q => s_X8_soon_52 F rc rec52 q.1 q.2.1 q.2.2.1 q.2.2.2.1 q.2.2.2.2) f (zB τ 1 B, x3, x, nI g, x7) = some (v, zB τ 1 B') := by
  obtain ⟨r1, r2, r3, r4⟩ := hR
  obtain ⟨eq1, q, hq, eq⟩ := r4 g hg
  have ql := lst_b hA q hq
  have e6 : kA (zB τ 1 B) 6 g = nI q := eq1.trans eq
  have k8 : ¬ (nI g < 0 ∨ 8 ≤ (nI g).toNatClampNeg) := nI_in (by omega) (by omega)
  have k9 : ¬ (nI g < 0 ∨ 9 ≤ (nI g).toNatClampNeg) := nI_in (by omega) (by omega)
  have en : (nI g).toNatClampNeg = g := nI_clamp (by omega)
  have o1 : (1 : Int64).toInt = 1 := rfl
  have out : ∀ (x : Int64) (s : Nat), s ≤ 5001 → x.toInt = b + s → ∃ v B', s_X8_soon_85 F rc (zB τ 1 B) x3 x (nI g) x7 = some (v, zB τ 1 B') := by
    intro x s hs hx
    unfold s_X8_soon_85
    have hle := lg_le x x7
    rw [hx7] at hle
    by_cases c : x.toInt ≤ b + 5000
    · rw [if_pos (hle.mpr c), if_neg k9, if_neg k8, en, e6, jB_zB]
      rw [kb_eq (p8_lasts (F := F) (τ := zB τ 1 (vp_updL B g x)) hA q hq), nI_1]
      have e2 : (x + (lst σ q).toInt64).toInt = x.toInt + (lst σ q).toInt := by
        rw [fb_addL (by rw [k_32_64]; omega) (by rw [k_32_64]; omega), k_32_64]
      exact hrc _ _ (by omega) (by omega)
    · rw [if_neg (fun z => c (hle.mp z))]
      exact ⟨_, _, rfl⟩
  intro f
  induction f with
  | zero => intro s x _ h; omega
  | succ f ih =>
    intro s x hs hf hx
    show ∃ v B', s_X8_soon_52 F rc _ (zB τ 1 B) x3 x (nI g) x7 = some (v, zB τ 1 B')
    unfold s_X8_soon_52
    have hgt := lg_gt x x7
    rw [hx7] at hgt
    by_cases c : b + 5000 < x.toInt
    · rw [if_pos (hgt.mpr c)]
      exact out x s hs hx
    · rw [if_neg (fun z => c (hgt.mp z)), if_neg k8, en, e6]
      have la := p8_isLawful (F := F) (τ := zB τ 1 B) hF h hm hA hL q hq x (by omega) (by omega)
      by_cases d : lwf σ (kA σ 3 (5 * q)) (kA σ 3 (5 * q + 2)) (w / 4 ^ q % 4) x.toInt
      · rw [kb_eq (la.1 d), if_neg k10]
        exact out x s hs hx
      · rw [kb_eq (la.2 d), if_pos k00]
        have e1 : (x + 1).toInt = b + ((s + 1 : Nat) : Int) := by rw [fb_addL (by omega) (by omega), o1]; omega
        exact ih (s + 1) (x + 1) (by omega) (by omega) e1
theorem p8_soon_loop {a w r : Nat} (hF : 200000 ≤ F) (h : cPl σ) (hm : mPl σ τ) (hA : rAct a σ τ) (hL : rLaw a w σ τ) (hR : rRow a r σ τ) (x3 : Int32) (hx3 : x3.toInt < r) :
    ∀ (f g : Nat) (x : Int64) (B : Nat → Int64), g ≤ r → r - g < f → 0 ≤ x.toInt → x.toInt ≤ 1000000000000 + 6000 * (g : Int) → ∃ v B', itr (fun rec35 q => s_X8_soon_35 F rec35 q.1 q.2.1 q.2.2.1 q.2.2.2) f (zB τ 1 B, x3, x, nI g) = some (v, zB τ 1 B') := by
  have r1 := hR.1
  have r3 := hR.2.2.1
  intro f
  induction f with
  | zero => intro g x B _ h; omega
  | succ f ih =>
    intro g x B hg hf hx1 hx2
    show ∃ v B', s_X8_soon_35 F _ (zB τ 1 B) x3 x (nI g) = some (v, zB τ 1 B')
    unfold s_X8_soon_35
    have hle := nI_leI (a := r) (b := g) (by omega) (by omega)
    rw [show kI (zB τ 1 B) 4 = nI r from r3]
    by_cases c : r ≤ g
    · rw [if_pos (hle.mpr c)]
      have h0 := k_ge x3 0 0 rfl
      by_cases d : 0 ≤ x3.toInt
      · obtain ⟨e, rfl⟩ : ∃ e : Nat, x3 = nI e := ⟨x3.toInt.toNat, k_i x3 (by omega)⟩
        obtain ⟨e', he, ee⟩ := k_act (nI e) ⟨d, hx3⟩
        rw [if_pos (h0.mpr d), ee, if_neg (nI_in (by omega) (by omega))]
        exact ⟨_, _, rfl⟩
      · rw [if_neg (fun z => d (h0.mp z))]
        exact ⟨_, _, rfl⟩
    · rw [if_neg (fun q => c (hle.mp q)), kn_eq]
      have z5 : (5000 : Int64).toInt = 5000 := rfl
      have e5 : (x + 5000).toInt = x.toInt + 5000 := by rw [fb_addL (by omega) (by omega), z5]
      exact p8_soon_in hF h hm hA hL hR x3 g (by omega) x.toInt hx1 (by omega) (x + 5000) e5 B _ (fun B' y hy1 hy2 => ih (g + 1) y B' (by omega) (by omega) (by omega) (by omega)) F 0 x (by omega) (by omega) (by omega)
theorem r_soon (hF : 200000 ≤ F) (R : Rel k σ τ) (m : Int64) (x : Int32) : Ok2 (k + 1) (f_X7_soon F σ m x) (f_X8_soon F τ m x) := by
  have R0 := R
  obtain ⟨a, w, l, n, r, h, c, hP, hM, hA, hL, hT, hX, hR, hN, hU, hK⟩ := R.up (show k ≤ k + 1 by omega)
  unfold f_X7_soon f_X8_soon s_X7_soon_0 s_X8_soon_0 s_X7_soon_20 s_X8_soon_25
  by_cases d : bM m
  · have em : (nI r - 1).toInt64.toInt = (r : Int) - 1 := m1_t (by have := hR.1; omega)
    have e2 := p8_inI (F := F) (τ := τ) x (-1) (nI r - 1).toInt64 (-1) ((r : Int) - 1) (by decide) em
    have b6 := k_lt x (-1) (-1) (by decide)
    have b7 := k_lt x (nI r) r (nI_toInt (by have := hR.1; omega))
    rw [kb_eq ((p_isMinute m).1 d), kb_eq ((p8_isMinute m).1 d), if_neg k10, if_neg k10, hR.2.1, hR.2.2.1]
    by_cases g : x.toInt < -1
    · rw [if_pos (b6.mpr g), kb_eq (e2.2 (by omega)), if_pos k00]
      exact ok_2 (ok_s R0 _)
    · by_cases u : x.toInt < r
      · rw [if_neg (fun q => g (b6.mp q)), if_pos (b7.mpr u), kb_eq (e2.1 (by omega)), if_neg k10]
        obtain ⟨d1, d2⟩ := d
        obtain ⟨v, e1⟩ := p_soon_loop (F := F) hF hP hA hL hR x F 0 m (by omega) (by have := hR.1; omega) d1 (by omega)
        obtain ⟨v2, B, e3⟩ := p8_soon_loop (F := F) hF hP hM hA hL hR x u F 0 m (kB τ 1) (by omega) (by have := hR.1; omega) d1 (by omega)
        rw [zB_self] at e3
        exact ⟨v, v2, σ, zB τ 1 B, e1, e3, a, w, l, n, r, h, c, hP, hM, hA, hL, hT, hX, hR, hN, hU, hK⟩
      · rw [if_neg (fun q => g (b6.mp q)), if_neg (fun q => u (b7.mp q)), kb_eq (e2.2 (by omega)), if_pos k00]
        exact ok_2 (ok_s R0 _)
  · rw [kb_eq ((p_isMinute m).2 d), kb_eq ((p8_isMinute m).2 d), if_pos k00, if_pos k00]
    exact ok_2 (ok_s R0 _)
end

/-! lawful, drawn, wreck -/
section
variable {F : Nat} {σ τ : kS}
theorem q_isLawful {a w : Nat} (hF : 200000 ≤ F) (h : cPl σ) (hm : mPl σ τ) (hA : rAct a σ τ) (hL : rLaw a w σ τ) (i : Nat) (hi : i < a) (m : Int64) (h1 : -10000000 ≤ m.toInt) (h2 : m.toInt ≤ 8000000000000) : (f_X1_isLawful F σ (nI i) m = some (1, σ) ∧ f_X8_isLawful F τ (nI i) m = some (1, τ)) ∨ (f_X1_isLawful F σ (nI i) m = some (0, σ) ∧ f_X8_isLawful F τ (nI i) m = some (0, τ)) := by
  have e1 := p_isLawful (F := F) h hA hL i hi m h1 (by omega)
  have e2 := p8_isLawful hF h hm hA hL i hi m h1 h2
  rcases Classical.em (lwf σ (kA σ 3 (5 * i)) (kA σ 3 (5 * i + 2)) (w / 4 ^ i % 4) m.toInt) with c | c
  · exact Or.inl ⟨e1.1 c, e2.1 c⟩
  · exact Or.inr ⟨e1.2 c, e2.2 c⟩
theorem q_lawful {a w : Nat} (hF : 200000 ≤ F) (h : cPl σ) (hm : mPl σ τ) (hA : rAct a σ τ) (hL : rLaw a w σ τ) (x : Int32) (m : Int64) : ∃ v, f_X7_lawful F σ x m = some (v, σ) ∧ f_X8_lawful F τ x m = some (v, τ) := by
  unfold f_X7_lawful s_X7_lawful_0 f_X8_lawful s_X8_lawful_0 s_X8_lawful_15
  have e1 := p_isAct (F := F) hA x
  have e2 := p8_isAct (F := F) hA x
  by_cases c : 0 ≤ x.toInt ∧ x.toInt < a
  · obtain ⟨i, hi, rfl⟩ := k_act x c
    rw [kb_eq (e1.1 c), kb_eq (e2.1 c), if_neg k10, if_neg k10]
    by_cases d : bM m
    · rw [kb_eq ((p_isMinute m).1 d), kb_eq ((p8_isMinute m).1 d), if_neg k10, if_neg k10]
      rcases q_isLawful hF h hm hA hL i hi m (by have := d.1; omega) (by have := d.2; omega) with ⟨f1, f2⟩ | ⟨f1, f2⟩
      · rw [kb_eq f1, kb_eq f2, if_neg k10, if_neg k10]; exact ⟨_, rfl, rfl⟩
      · rw [kb_eq f1, kb_eq f2, if_pos k00, if_pos k00]; exact ⟨_, rfl, rfl⟩
    · rw [kb_eq ((p_isMinute m).2 d), kb_eq ((p8_isMinute m).2 d), if_pos k00, if_pos k00]
      exact ⟨_, rfl, rfl⟩
  · rw [kb_eq (e1.2 c), kb_eq (e2.2 c), if_pos k00, if_pos k00]
    exact ⟨_, rfl, rfl⟩
theorem q_drawn_loop {a w : Nat} (hF : 200000 ≤ F) (h : cPl σ) (hm : mPl σ τ) (hA : rAct a σ τ) (hL : rLaw a w σ τ) (z n : Nat) (hz : z ≤ 9999) (hn : n ≤ 200) :
    ∀ (f g : Nat) (x : Int32), g ≤ n → n - g < f → ∃ v, itr (fun rec43 q => s_X7_drawn_43 F rec43 q.1 q.2.1 q.2.2.1 q.2.2.2.1 q.2.2.2.2.1 q.2.2.2.2.2) f (σ, nI z, nI n, nI a, x, nI g) = some (v, σ) ∧ itr (fun rec31 q => s_X8_drawn_31 F rec31 q.1 q.2.1 q.2.2.1 q.2.2.2.1 q.2.2.2.2) f (τ, nI z, nI n, x, nI g) = some (v, τ) := by
  have ha := hA.1
  intro f
  induction f with
  | zero => intro g x _ h; omega
  | succ f ih =>
    intro g x hg hf
    show ∃ v, s_X7_drawn_43 F (itr (fun rec43 q => s_X7_drawn_43 F rec43 q.1 q.2.1 q.2.2.1 q.2.2.2.1 q.2.2.2.2.1 q.2.2.2.2.2) f) σ (nI z) (nI n) (nI a) x (nI g) = some (v, σ) ∧ s_X8_drawn_31 F (itr (fun rec31 q => s_X8_drawn_31 F rec31 q.1 q.2.1 q.2.2.1 q.2.2.2.1 q.2.2.2.2) f) τ (nI z) (nI n) x (nI g) = some (v, τ)
    unfold s_X7_drawn_43 s_X8_drawn_31 s_X7_drawn_93 s_X8_drawn_86
    rw [hA.2.2.1]
    have hle := nI_leI (a := n) (b := g) (by omega) (by omega)
    by_cases c : n ≤ g
    · rw [if_pos (hle.mpr c), if_pos (hle.mpr c)]
      exact ⟨_, rfl, rfl⟩
    · have n0 : ¬ nI a = 0 := nI_ne0 (by omega) (by omega)
      rw [if_neg (fun q => c (hle.mp q)), if_neg (fun q => c (hle.mp q)), kn_eq, kn_eq, if_neg n0, if_neg n0, pk_rem (by omega) (by omega) (by omega)]
      have ex : (7919 : Int64) * (nI z).toInt64 + (6151 : Int64) * (nI g).toInt64 + 1 = lN (7919 * z + 6151 * g + 1) := by
        have t1 : (7919 : Int64) = lN 7919 := rfl
        have t2 : (6151 : Int64) = lN 6151 := rfl
        rw [nI_l (by omega), nI_l (by omega), t1, t2, lN_mul, lN_mul, lN_add, lN_1]
      rw [ex, lN_mul]
      have hxx : (7919 * z + 6151 * g + 1) * (7919 * z + 6151 * g + 1) ≤ 81000000 * 81000000 := Nat.mul_le_mul (by omega) (by omega)
      have t3 : (65521 : Int64) = lN 65521 := rfl
      rw [t3, pk_lRem (by omega) (by omega) (by omega)]
      have hmod := Nat.mod_lt ((7919 * z + 6151 * g + 1) * (7919 * z + 6151 * g + 1)) (show 0 < 65521 by omega)
      generalize (7919 * z + 6151 * g + 1) * (7919 * z + 6151 * g + 1) % 65521 = u at hmod ⊢
      have hu : (lN u).toInt = u := lN_toInt (by omega)
      rw [nI_1]
      rcases q_isLawful hF h hm hA hL (g % a) (Nat.mod_lt _ (by omega)) (lN u) (by omega) (by omega) with ⟨f1, f2⟩ | ⟨f1, f2⟩
      · rw [kb_eq f1, kb_eq f2, if_neg k10, if_neg k10]
        exact ih (g + 1) (x + 1) (by omega) (by omega)
      · rw [kb_eq f1, kb_eq f2, if_pos k00, if_pos k00, Int32.add_zero]
        exact ih (g + 1) x (by omega) (by omega)
theorem q_drawn {a w : Nat} (hF : 200000 ≤ F) (h : cPl σ) (hm : mPl σ τ) (hA : rAct a σ τ) (hL : rLaw a w σ τ) (x y : Int32) : ∃ v, f_X7_drawn F σ x y = some (v, σ) ∧ f_X8_drawn F τ x y = some (v, τ) := by
  have ha := hA.1
  unfold f_X7_drawn s_X7_drawn_0 f_X8_drawn s_X8_drawn_0
  have e1 := p8_inI (F := F) (τ := τ) x 0 9999 0 9999 rfl rfl
  have e2 := p8_inI (F := F) (τ := τ) y 1 200 1 200 rfl rfl
  have a0 := fa_lt x 0
  have a1 := fa_lt 9999 x
  have a2 := fa_lt y 1
  have a3 := fa_le y 200
  have z0 : (0 : Int32).toInt = 0 := rfl
  have z1 : (9999 : Int32).toInt = 9999 := rfl
  have z2 : (1 : Int32).toInt = 1 := rfl
  have z3 : (200 : Int32).toInt = 200 := rfl
  rw [z0] at a0
  rw [z1] at a1
  rw [z2] at a2
  rw [z3] at a3
  by_cases c0 : x.toInt < 0
  · rw [if_pos (a0.mpr c0), kb_eq (e1.2 (by omega)), if_pos k00]; exact ⟨_, rfl, rfl⟩
  · rw [if_neg (fun q => c0 (a0.mp q))]
    by_cases c1 : 9999 < x.toInt
    · rw [if_pos (a1.mpr c1), kb_eq (e1.2 (by omega)), if_pos k00]; exact ⟨_, rfl, rfl⟩
    · rw [if_neg (fun q => c1 (a1.mp q)), kb_eq (e1.1 (by omega)), if_neg k10]
      by_cases c2 : y.toInt < 1
      · rw [if_pos (a2.mpr c2), kb_eq (e2.2 (by omega)), if_pos k00]; exact ⟨_, rfl, rfl⟩
      · rw [if_neg (fun q => c2 (a2.mp q))]
        by_cases c3 : y.toInt ≤ 200
        · rw [if_pos (a3.mpr c3), kb_eq (e2.1 (by omega)), if_neg k10, hA.2.1, kn_eq]
          have em : (if (1 : Int32) < nI a then nI a else 1) = nI a := by
            have hl := nI_ltI (a := 1) (b := a) (by omega) (by omega)
            have o1 : (1 : Int32) = nI 1 := rfl
            rw [o1]
            by_cases q : 1 < a
            · rw [if_pos (hl.mpr q)]
            · rw [if_neg (fun z => q (hl.mp z)), show a = 1 by omega]
          rw [em]
          obtain ⟨z, hz, rfl⟩ : ∃ z : Nat, z ≤ 9999 ∧ x = nI z := ⟨x.toInt.toNat, by omega, k_i x (by omega)⟩
          obtain ⟨n, hn, rfl⟩ : ∃ n : Nat, n ≤ 200 ∧ y = nI n := ⟨y.toInt.toNat, by omega, k_i y (by omega)⟩
          exact q_drawn_loop hF h hm hA hL z n hz hn F 0 0 (by omega) (by omega)
        · rw [if_neg (fun q => c3 (a3.mp q)), kb_eq (e2.2 (by omega)), if_pos k00]; exact ⟨_, rfl, rfl⟩
/-! wrecks -/
theorem cC_all (z : Int) : ∀ n, cC σ 0 z n + cC σ 1 z n + cC σ 2 z n = n
  | 0 => rfl
  | n + 1 => by
    have ih := cC_all z n
    rw [cC_1, cC_1, cC_1]
    rcases cR_cases (σ := σ) (z + n) with e | e | e <;> rw [e] <;> simp <;> omega
theorem g_step (x y : Nat) : Nat.gcd x y = Nat.gcd y (x % y) := by
  rw [Nat.gcd_comm x y, Nat.gcd_rec y x, Nat.gcd_comm]
theorem half {y r : Nat} (h0 : 0 < r) (h : r ≤ y) : 2 * (y % r) < y ∨ y % r = 0 := by
  have h1 := Nat.mod_lt y h0
  have h2 := Nat.div_add_mod y r
  have h3 : 1 ≤ y / r := Nat.div_pos h h0
  have h4 : r * 1 ≤ r * (y / r) := Nat.mul_le_mul_left r h3
  omega
theorem gcd_loop : ∀ (s : Nat) (f b x y : Nat), x < 2 ^ 31 → y < 2 ^ 31 → y < 2 ^ s → b + 2 * s ≤ 50 → 2 * s + 1 ≤ f → itr (fun rec7 q => s_X7_greatestDivisor_7 F rec7 q.1 q.2.1 q.2.2.1 q.2.2.2) f (σ, nI x, nI y, nI b) = some (nI (Nat.gcd x y), σ) := by
  have st : ∀ (f b x y : Nat), b ≤ 100 → y < 2 ^ 31 → itr (fun rec7 q => s_X7_greatestDivisor_7 F rec7 q.1 q.2.1 q.2.2.1 q.2.2.2) (f + 1) (σ, nI x, nI y, nI b) = (if nI 50 ≤ nI b then some (nI x, σ) else if nI y ≤ 0 then some (nI x, σ) else if nI y = 0 then none else itr (fun rec7 q => s_X7_greatestDivisor_7 F rec7 q.1 q.2.1 q.2.2.1 q.2.2.2) f (σ, nI y, nI x - nI x / nI y * nI y, nI b + 1)) := fun _ _ _ _ _ _ => rfl
  have fin : ∀ (f b x : Nat), b ≤ 100 → itr (fun rec7 q => s_X7_greatestDivisor_7 F rec7 q.1 q.2.1 q.2.2.1 q.2.2.2) (f + 1) (σ, nI x, nI 0, nI b) = some (nI x, σ) := by
    intro f b x hb
    rw [st f b x 0 hb (by omega)]
    by_cases c : nI 50 ≤ nI b
    · rw [if_pos c]
    · rw [if_neg c, if_pos (show nI 0 ≤ 0 by decide)]
  have go : ∀ (f b x y : Nat), b < 50 → 0 < y → y < 2 ^ 31 → x < 2 ^ 31 → itr (fun rec7 q => s_X7_greatestDivisor_7 F rec7 q.1 q.2.1 q.2.2.1 q.2.2.2) (f + 1) (σ, nI x, nI y, nI b) = itr (fun rec7 q => s_X7_greatestDivisor_7 F rec7 q.1 q.2.1 q.2.2.1 q.2.2.2) f (σ, nI y, nI (x % y), nI (b + 1)) := by
    intro f b x y hb hy hy2 hx
    rw [st f b x y (by omega) hy2, if_neg (nI_ge hb (by omega)), if_neg (nI_nle hy hy2), if_neg (nI_ne0 hy hy2), pk_rem hx hy hy2, nI_1]
  intro s
  induction s with
  | zero =>
    intro f b x y hx hy hs hb hf
    have : y = 0 := by omega
    subst this
    obtain ⟨g, rfl⟩ : ∃ g, f = g + 1 := ⟨f - 1, by omega⟩
    rw [fin g b x (by omega), Nat.gcd_zero_right]
  | succ s ih =>
    intro f b x y hx hy hs hb hf
    obtain ⟨g, rfl⟩ : ∃ g, f = g + 1 + 1 + 1 := ⟨f - 3, by omega⟩
    by_cases c : y = 0
    · subst c
      rw [fin _ b x (by omega), Nat.gcd_zero_right]
    · rw [go _ b x y (by omega) (by omega) hy hx, g_step x y]
      have hr := Nat.mod_lt x (show 0 < y by omega)
      by_cases d : x % y = 0
      · rw [d, fin _ _ y (by omega), Nat.gcd_zero_right]
      · rw [go _ (b + 1) y (x % y) (by omega) (by omega) (by omega) hy, g_step y (x % y)]
        have h2 := half (y := y) (r := x % y) (by omega) (by omega)
        have hr2 := Nat.mod_lt y (show 0 < x % y by omega)
        refine ih (g + 1) (b + 1 + 1) (x % y) (y % (x % y)) (by omega) (by omega) ?_ (by omega) (by omega)
        have hp : 2 ^ (s + 1) = 2 * 2 ^ s := by rw [Nat.pow_succ, Nat.mul_comm]
        have hp0 : 0 < 2 ^ s := Nat.pow_pos (by omega)
        omega
theorem p_gcd (hF : 200000 ≤ F) (x y : Nat) (hx : x ≤ 10000) (hy : y ≤ 10000) : f_X7_greatestDivisor F σ (nI x) (nI y) = some (nI (Nat.gcd x y), σ) :=
  gcd_loop (F := F) (σ := σ) 14 F 0 x y (by omega) (by omega) (Nat.lt_of_le_of_lt hy (by decide)) (by omega) (by omega)
theorem p8_wreck_loop (part his both : Nat) (hp : part < 2) (hh : his ≤ 10000) (hb : both ≤ 10000) : ∀ (f x y : Nat), x ≤ 10000 → y ≤ 10000 → y < f → 0 < x ∨ 0 < y → itr (fun rec84 q => s_X8_wreck_84 F rec84 q.1 q.2.1 q.2.2.1 q.2.2.2.1 q.2.2.2.2.1 q.2.2.2.2.2) f (τ, nI part, nI his, nI both, nI x, nI y) = some (nI ((if part = 0 then his else both) / Nat.gcd x y), τ) := by
  intro f
  induction f with
  | zero => intro x y _ _ h; omega
  | succ f ih =>
    intro x y hx hy hf hxy
    show s_X8_wreck_84 F (itr (fun rec84 q => s_X8_wreck_84 F rec84 q.1 q.2.1 q.2.2.1 q.2.2.2.1 q.2.2.2.2.1 q.2.2.2.2.2) f) τ (nI part) (nI his) (nI both) (nI x) (nI y) = _
    unfold s_X8_wreck_84
    by_cases c : y = 0
    · subst c
      have nx : ¬ nI x = 0 := nI_ne0 (by omega) (by omega)
      rw [if_pos (show nI 0 = 0 from rfl), if_neg nx, if_neg nx, Nat.gcd_zero_right, pk_div (by omega) (by omega) (by omega), pk_div (by omega) (by omega) (by omega)]
      rcases (show part = 0 ∨ part = 1 by omega) with rfl | rfl
      · rw [if_pos (show nI 0 = 0 from rfl), if_pos rfl]
      · rw [if_neg (show ¬ nI 1 = 0 by decide), if_neg (show ¬ (1 : Nat) = 0 by omega)]
    · have ny : ¬ nI y = 0 := nI_ne0 (by omega) (by omega)
      rw [if_neg ny, if_neg ny, kn_eq, pk_rem (by omega) (by omega) (by omega), g_step x y]
      have hr := Nat.mod_lt x (show 0 < y by omega)
      exact ih y (x % y) hy (by omega) (by omega) (Or.inl (by omega))
theorem q_wreck (hF : 200000 ≤ F) (h : cPl σ) (hm : mPl σ τ) (m : Int64) (n kg part : Int32) : ∃ v, f_X7_wreck F σ m n kg part = some (v, σ) ∧ f_X8_wreck F τ m n kg part = some (v, τ) := by
  unfold f_X7_wreck s_X7_wreck_0 f_X8_wreck s_X8_wreck_0
  by_cases c : bM m
  · rw [kb_eq ((p_isMinute m).1 c), kb_eq ((p8_isMinute m).1 c), if_neg k10, if_neg k10]
    have i1 := p8_inI (F := F) (τ := τ) n 1 10000 1 10000 rfl rfl
    have a1 := fa_lt n 1
    have a2 := fa_le n 10000
    have z1 : (1 : Int32).toInt = 1 := rfl
    have z2 : (10000 : Int32).toInt = 10000 := rfl
    rw [z1] at a1
    rw [z2] at a2
    by_cases c1 : n.toInt < 1
    · rw [if_pos (a1.mpr c1), kb_eq (i1.2 (by omega)), if_pos k00]; exact ⟨_, rfl, rfl⟩
    · rw [if_neg (fun q => c1 (a1.mp q))]
      by_cases c2 : n.toInt ≤ 10000
      · rw [if_pos (a2.mpr c2), kb_eq (i1.1 (by omega)), if_neg k10]
        have i2 := p8_inI (F := F) (τ := τ) kg 0 1 0 1 rfl rfl
        have i3 := p_isKing (F := F) (σ := σ) kg
        by_cases c3 : 0 ≤ kg.toInt ∧ kg.toInt ≤ 1
        · rw [kb_eq (i3.1 c3), kb_eq (i2.1 c3), if_neg k10, if_neg k10]
          have i4 := p8_inI (F := F) (τ := τ) part 0 1 0 1 rfl rfl
          have b1 := fa_lt part 0
          have b2 := fa_le part 1
          have z0 : (0 : Int32).toInt = 0 := rfl
          rw [z0] at b1
          rw [z1] at b2
          by_cases c4 : part.toInt < 0
          · rw [if_pos (b1.mpr c4), kb_eq (i4.2 (by omega)), if_pos k00]; exact ⟨_, rfl, rfl⟩
          · rw [if_neg (fun q => c4 (b1.mp q))]
            by_cases c5 : part.toInt ≤ 1
            · rw [if_pos (b2.mpr c5), kb_eq (i4.1 (by omega)), if_neg k10]
              obtain ⟨k, hk, rfl⟩ : ∃ k : Nat, (1 ≤ k ∧ k ≤ 10000) ∧ n = nI k := ⟨n.toInt.toNat, by omega, k_i n (by omega)⟩
              obtain ⟨g, hg, rfl⟩ := k_kg kg c3
              obtain ⟨pp, hp, rfl⟩ := k_kg part (by omega)
              have m1 : -10000000 ≤ m.toInt := by have := c.1; omega
              have m2 : m.toInt ≤ 9000000000000 := by have := c.2; omega
              have all := cC_all (σ := σ) m.toInt k
              rw [kb_eq (p_minutesOf hF h (nI g) m m1 m2 k (by omega)), kb_eq (p_minutesOf hF h 2 m m1 m2 k (by omega)), kb_eq (p8_counted hF h hm (nI g) m m1 m2 k (by omega)), kb_eq (p8_counted hF h hm (1 - nI g) m m1 m2 k (by omega)), nI_add, pk_sub (by omega)]
              have hbo : cC σ (nI g) m.toInt k + cC σ (1 - nI g) m.toInt k = k - cC σ 2 m.toInt k := by
                rcases (show g = 0 ∨ g = 1 by omega) with rfl | rfl
                · have e1 : (1 : Int32) - nI 0 = 1 := by decide
                  have e2 : nI 0 = (0 : Int32) := rfl
                  rw [e1, e2]; omega
                · have e1 : (1 : Int32) - nI 1 = 0 := by decide
                  have e2 : nI 1 = (1 : Int32) := rfl
                  rw [e1, e2]; omega
              rw [hbo]
              have hle : cC σ (nI g) m.toInt k ≤ k - cC σ 2 m.toInt k := by omega
              have hB : k - cC σ 2 m.toInt k ≤ 10000 := by omega
              generalize k - cC σ 2 m.toInt k = B at hle hB ⊢
              generalize cC σ (nI g) m.toInt k = A at hle ⊢
              have hz : (0 < nI B) ↔ 0 < B := nI_ltI (a := 0) (by omega) (by omega)
              have hz2 : (nI B = 0) ↔ B = 0 := nI_eq (b := 0) (by omega) (by omega)
              by_cases q : B = 0
              · rw [if_neg (fun z => by have := hz.mp z; omega), if_pos (hz2.mpr q)]
                exact ⟨_, rfl, rfl⟩
              · rw [if_pos (hz.mpr (by omega)), if_neg (fun z => q (hz2.mp z)), kb_eq (p_gcd hF B A hB (by omega)), kn_eq]
                have hgp : 0 < Nat.gcd B A := Nat.gcd_pos_of_pos_left A (by omega)
                have hgl : Nat.gcd B A ≤ B := Nat.gcd_le_left A (by omega)
                have hmx : (if (1 : Int32) < nI (Nat.gcd B A) then nI (Nat.gcd B A) else 1) = nI (Nat.gcd B A) := by
                  have o1 : (1 : Int32) = nI 1 := rfl
                  have hl := nI_ltI (a := 1) (b := Nat.gcd B A) (by omega) (by omega)
                  rw [o1]
                  by_cases y : 1 < Nat.gcd B A
                  · rw [if_pos (hl.mpr y)]
                  · rw [if_neg (fun z => y (hl.mp z)), show Nat.gcd B A = 1 by omega]
                rw [hmx]
                have ng : ¬ nI (Nat.gcd B A) = 0 := nI_ne0 hgp (by omega)
                have hw := p8_wreck_loop (F := F) (τ := τ) pp A B hp (by omega) hB F A B (by omega) hB (by omega) (Or.inr (by omega))
                rw [Nat.gcd_comm A B] at hw
                refine ⟨_, ?_, hw⟩
                unfold s_X7_wreck_102
                rw [if_neg ng, if_neg ng, pk_div (by omega) hgp (by omega), pk_div (by omega) hgp (by omega)]
                rcases (show pp = 0 ∨ pp = 1 by omega) with rfl | rfl
                · rw [if_pos (show nI 0 = 0 from rfl), if_pos rfl]
                · rw [if_neg (show ¬ nI 1 = 0 by decide), if_neg (show ¬ (1 : Nat) = 0 by omega)]
            · rw [if_neg (fun q => c5 (b2.mp q)), kb_eq (i4.2 (by omega)), if_pos k00]; exact ⟨_, rfl, rfl⟩
        · rw [kb_eq (i3.2 c3), kb_eq (i2.2 c3), if_pos k00, if_pos k00]; exact ⟨_, rfl, rfl⟩
      · rw [if_neg (fun q => c2 (a2.mp q)), kb_eq (i1.2 (by omega)), if_pos k00]; exact ⟨_, rfl, rfl⟩
  · rw [kb_eq ((p_isMinute m).2 c), kb_eq ((p8_isMinute m).2 c), if_pos k00, if_pos k00]
    exact ⟨_, rfl, rfl⟩
end

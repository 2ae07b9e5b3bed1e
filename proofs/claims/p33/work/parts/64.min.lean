/-! rules, minutes, next, wreck -/
theorem k10 : ¬ (1 : Int32) = 0 := by decide
theorem k00 : (0 : Int32) = 0 := rfl
section
variable {F : Nat} {σ τ : kS}
theorem p8_in (a lo hi : Int64) : f_X8_in F τ a lo hi = some ((if lo.toInt ≤ a.toInt ∧ a.toInt ≤ hi.toInt then 1 else 0), τ) := by
  unfold f_X8_in s_X8_in_0
  by_cases c1 : a.toInt < lo.toInt
  · rw [if_pos ((lg_lt _ _).mpr c1), if_neg (by omega)]
  · rw [if_neg (fun q => c1 ((lg_lt _ _).mp q))]
    by_cases c2 : hi.toInt < a.toInt
    · rw [if_pos ((lg_gt _ _).mpr c2), if_neg (by omega)]
    · rw [if_neg (fun q => c2 ((lg_gt _ _).mp q)), if_pos (by omega)]
/-- a number is of 0 to the 12th power of ten -/
def bM (m : Int64) : Prop := 0 ≤ m.toInt ∧ m.toInt ≤ 1000000000000
theorem p_isMinute (m : Int64) : (bM m → f_X7_isMinute F σ m = some (1, σ)) ∧ (¬ bM m → f_X7_isMinute F σ m = some (0, σ)) := by
  unfold f_X7_isMinute s_X7_isMinute_0 bM
  have z0 : (0 : Int64).toInt = 0 := rfl
  have z1 : (1000000000000 : Int64).toInt = 1000000000000 := rfl
  have a1 := lg_lt m 0
  have a2 := lg_gt m 1000000000000
  rw [z0] at a1
  rw [z1] at a2
  constructor
  · intro h
    rw [if_neg (fun q => by have := a1.mp q; omega), if_neg (fun q => by have := a2.mp q; omega)]
  · intro h
    by_cases c : m.toInt < 0
    · rw [if_pos (a1.mpr c)]
    · rw [if_neg (fun q => c (a1.mp q)), if_pos (a2.mpr (by omega))]
theorem p8_isMinute (m : Int64) : (bM m → f_X8_isMinute F τ m = some (1, τ)) ∧ (¬ bM m → f_X8_isMinute F τ m = some (0, τ)) := by
  have z0 : (0 : Int64).toInt = 0 := rfl
  have z1 : (1000000000000 : Int64).toInt = 1000000000000 := rfl
  have e := p8_in (F := F) (τ := τ) m 0 1000000000000
  rw [z0, z1] at e
  unfold bM
  constructor
  · intro h
    rw [if_pos h] at e
    unfold f_X8_isMinute s_X8_isMinute_0
    rw [kb_eq e]
    rfl
  · intro h
    rw [if_neg h] at e
    unfold f_X8_isMinute s_X8_isMinute_0
    rw [kb_eq e]
    rfl
theorem q_rules (h : cPl σ) (hm : mPl σ τ) (m : Int64) : ∃ v, f_X7_rules F σ m = some (v, σ) ∧ f_X8_rules F τ m = some (v, τ) := by
  unfold f_X7_rules s_X7_rules_0 f_X8_rules s_X8_rules_0
  by_cases c : bM m
  · rw [kb_eq ((p_isMinute m).1 c), kb_eq ((p8_isMinute m).1 c), if_neg k10, if_neg k10, kb_eq (p_rulerAt h m (by have := c.1; omega) (by have := c.2; omega)), kb_eq (p8_ruler h hm m (by have := c.1; omega) (by have := c.2; omega))]
    exact ⟨_, rfl, rfl⟩
  · rw [kb_eq ((p_isMinute m).2 c), kb_eq ((p8_isMinute m).2 c), if_pos k00, if_pos k00]
    exact ⟨_, rfl, rfl⟩
theorem p_isRuler (w : Int32) : (0 ≤ w.toInt ∧ w.toInt ≤ 2 → f_X7_isRuler F σ w = some (1, σ)) ∧ (¬ (0 ≤ w.toInt ∧ w.toInt ≤ 2) → f_X7_isRuler F σ w = some (0, σ)) := by
  unfold f_X7_isRuler s_X7_isRuler_0
  have z0 : (0 : Int32).toInt = 0 := rfl
  have z1 : (2 : Int32).toInt = 2 := rfl
  have a1 := fa_lt w 0
  have a2 := fa_lt 2 w
  rw [z0] at a1
  rw [z1] at a2
  constructor
  · intro h
    rw [if_neg (fun q => by have := a1.mp q; omega), if_neg (fun q => by have := a2.mp q; omega)]
  · intro h
    by_cases c : w.toInt < 0
    · rw [if_pos (a1.mpr c)]
    · rw [if_neg (fun q => c (a1.mp q)), if_pos (a2.mpr (by omega))]
/-- the reference's range test of an int -/
theorem p8_inI (x : Int32) (lo hi : Int64) (a b : Int) (h1 : lo.toInt = a) (h2 : hi.toInt = b) : (a ≤ x.toInt ∧ x.toInt ≤ b → f_X8_in F τ x.toInt64 lo hi = some (1, τ)) ∧ (¬ (a ≤ x.toInt ∧ x.toInt ≤ b) → f_X8_in F τ x.toInt64 lo hi = some (0, τ)) := by
  have e := p8_in (F := F) (τ := τ) x.toInt64 lo hi
  rw [k_32_64, h1, h2] at e
  exact ⟨fun h => by rw [if_pos h] at e; exact e, fun h => by rw [if_neg h] at e; exact e⟩
theorem q_minutes (hF : 200000 ≤ F) (h : cPl σ) (hm : mPl σ τ) (m : Int64) (n w : Int32) : ∃ v, f_X7_minutes F σ m n w = some (v, σ) ∧ f_X8_minutes F τ m n w = some (v, τ) := by
  unfold f_X7_minutes s_X7_minutes_0 f_X8_minutes s_X8_minutes_0
  by_cases c : bM m
  · rw [kb_eq ((p_isMinute m).1 c), kb_eq ((p8_isMinute m).1 c), if_neg k10, if_neg k10]
    have i1 := p8_inI (F := F) (τ := τ) n 0 100000 0 100000 rfl rfl
    have z0 : (0 : Int32).toInt = 0 := rfl
    have z1 : (100000 : Int32).toInt = 100000 := rfl
    have a1 := fa_lt n 0
    have a2 := fa_lt 100000 n
    rw [z0] at a1
    rw [z1] at a2
    by_cases c1 : n.toInt < 0
    · rw [if_pos (a1.mpr c1), kb_eq (i1.2 (by omega)), if_pos k00]
      exact ⟨_, rfl, rfl⟩
    · rw [if_neg (fun q => c1 (a1.mp q))]
      by_cases c2 : 100000 < n.toInt
      · rw [if_pos (a2.mpr c2), kb_eq (i1.2 (by omega)), if_pos k00]
        exact ⟨_, rfl, rfl⟩
      · rw [if_neg (fun q => c2 (a2.mp q)), kb_eq (i1.1 (by omega)), if_neg k10]
        have i2 := p8_inI (F := F) (τ := τ) w 0 2 0 2 rfl rfl
        have i3 := p_isRuler (F := F) (σ := σ) w
        by_cases c3 : 0 ≤ w.toInt ∧ w.toInt ≤ 2
        · rw [kb_eq (i3.1 c3), kb_eq (i2.1 c3), if_neg k10, if_neg k10]
          obtain ⟨k, hk⟩ : ∃ k : Nat, n = nI k ∧ k ≤ 100000 := ⟨n.toInt.toNat, k_i n (by omega), by omega⟩
          obtain ⟨rfl, hk⟩ := hk
          rw [kb_eq (p_minutesOf hF h w m (by have := c.1; omega) (by have := c.2; omega) k hk), kb_eq (p8_counted hF h hm w m (by have := c.1; omega) (by have := c.2; omega) k hk)]
          exact ⟨_, rfl, rfl⟩
        · rw [kb_eq (i3.2 c3), kb_eq (i2.2 c3), if_pos k00, if_pos k00]
          exact ⟨_, rfl, rfl⟩
  · rw [kb_eq ((p_isMinute m).2 c), kb_eq ((p8_isMinute m).2 c), if_pos k00, if_pos k00]
    exact ⟨_, rfl, rfl⟩
theorem ff_eq {p : Nat → Bool} {n g : Nat} (hg : g < n) (h0 : ∀ j, j < g → p j = false) (h1 : p g = true) : fa_first p n = g := by
  have a := fa_first_le p n
  have b := fa_first_no p n
  have c := fa_first_yes p n
  rcases Nat.lt_trichotomy (fa_first p n) g with q | q | q
  · have := c (by omega); rw [h0 _ q] at this; cases this
  · exact q
  · have := b g q; rw [h1] at this; cases this
theorem ff_no {p : Nat → Bool} {n : Nat} (h0 : ∀ j, j < n → p j = false) : fa_first p n = n := by
  have a := fa_first_le p n
  have c := fa_first_yes p n
  rcases Nat.lt_or_ge (fa_first p n) n with q | q
  · have := c q; rw [h0 _ q] at this; cases this
  · omega
theorem cR_mod (h : cPl σ) (w : Int32) (z : Int) (N : Nat) (hN : (kI σ 8).toInt = N) (h0 : ∀ j : Nat, j < N → ¬ cR σ (z + j) = w) : ∀ j : Nat, ¬ cR σ (z + j) = w := by
  have hn1 := h.1
  intro j
  induction j using Nat.strongRecOn with
  | _ j ih =>
    by_cases c : j < N
    · exact h0 j c
    · have e : z + (j : Int) = z + ((j - N : Nat) : Int) + (kI σ 8).toInt := by omega
      rw [e, cR_per h]
      exact ih (j - N) (by omega)
/-- the first of the minutes z to z + b that is so -/
def fst (p : Nat → Bool) (b : Nat) (m : Int64) : Int64 := if fa_first p (b + 1) < b + 1 then m + lN (fa_first p (b + 1)) else -4
theorem fst_at {p : Nat → Bool} {b g : Nat} {m : Int64} (hg : g ≤ b) (h0 : ∀ j, j < g → p j = false) (h1 : p g = true) : fst p b m = m + lN g := by
  unfold fst
  rw [ff_eq (by omega) h0 h1, if_pos (by omega)]
theorem fst_no {p : Nat → Bool} {b : Nat} {m : Int64} (h0 : ∀ j, j < b + 1 → p j = false) : fst p b m = -4 := by
  unfold fst
  rw [ff_no h0, if_neg (by omega)]
def pR (σ : kS) (w : Int32) (z : Int) : Nat → Bool := fun k => decide (cR σ (z + k) = w)
theorem p_firstOf_loop (h : cPl σ) (w : Int32) (m : Int64) (h1 : -10000000 ≤ m.toInt) (h2 : m.toInt ≤ 9000000000000) (N : Nat) (hN : kI σ 8 = nI N) (hN2 : 20 ≤ N ∧ N ≤ 999) :
    ∀ (f g : Nat), g ≤ 30000 → 30000 - g < f → (∀ j, j < g → pR σ w m.toInt j = false) → itr (fun rec21 q => s_X1_firstOf_21 F rec21 q.1 q.2.1 q.2.2.1 q.2.2.2.1 q.2.2.2.2) f (σ, w, m, nI N, nI g) = some (fst (pR σ w m.toInt) 2000 m, σ) := by
  have hNi : (kI σ 8).toInt = N := by rw [hN, nI_toInt (by omega)]
  intro f
  induction f with
  | zero => intro g _ h; omega
  | succ f ih =>
    intro g hg hf h0
    show s_X1_firstOf_21 F _ σ w m (nI N) (nI g) = _
    unfold s_X1_firstOf_21
    have hlt := nI_ltI (a := N) (b := g) (by omega) (by omega)
    by_cases c : N < g
    · rw [if_pos (hlt.mpr c)]
      have hno := cR_mod h w m.toInt N hNi (fun j hj => of_decide_eq_false (h0 j (by omega)))
      rw [fst_no (p := pR σ w m.toInt) (fun j _ => decide_eq_false (hno j))]
    · rw [if_neg (fun q => c (hlt.mp q))]
      have em := k_addm m g (by omega) h1 h2
      have el : m + (nI g).toInt64 = m + lN g := by rw [nI_l (by omega)]
      rw [kb_eq (p_rulerAt (F := F) h (m + (nI g).toInt64) (by omega) (by omega)), em]
      by_cases c2 : cR σ (m.toInt + g) = w
      · rw [if_pos c2, fst_at (by omega) h0 (decide_eq_true c2), el]
      · rw [if_neg c2]
        obtain ⟨v, e1, g1⟩ := p_stretchFrom (F := F) h (m + (nI g).toInt64) (by omega) (by omega)
        rw [em] at g1
        have hp := cSt_pos h (m.toInt + g)
        rw [kb_eq e1, kn_eq]
        obtain ⟨t, rfl, htt⟩ : ∃ t : Nat, v = nI t ∧ (t : Int) = cSt σ (m.toInt + g) := ⟨v.toInt.toNat, k_i v (by omega), by omega⟩
        have hmx : (nI g + if (1 : Int32) < nI t then nI t else 1) = nI (g + t) := by
          have hl1 := nI_ltI (a := 1) (b := t) (by omega) (by omega)
          have h1' : (1 : Int32) = nI 1 := rfl
          rw [h1']
          by_cases q : 1 < t
          · rw [if_pos (hl1.mpr q), nI_add]
          · have : t = 1 := by omega
            rw [if_neg (fun z => q (hl1.mp z)), nI_add, this]
        rw [hmx]
        refine ih (g + t) (by omega) (by omega) (fun j hj => ?_)
        by_cases q : j < g
        · exact h0 j q
        · have hs := cSt_same h (m.toInt + g) (j - g) (by omega)
          have e : m.toInt + (j : Int) = m.toInt + g + ((j - g : Nat) : Int) := by omega
          unfold pR
          rw [e, hs]
          exact decide_eq_false c2
theorem p_firstOf (hF : 200000 ≤ F) (h : cPl σ) (w : Int32) (m : Int64) (h1 : -10000000 ≤ m.toInt) (h2 : m.toInt ≤ 9000000000000) : f_X1_firstOf F σ w m = some (fst (pR σ w m.toInt) 2000 m, σ) := by
  have hN1 := h.1
  obtain ⟨N, hN, hN2⟩ : ∃ N : Nat, kI σ 8 = nI N ∧ 20 ≤ N ∧ N ≤ 999 := ⟨(kI σ 8).toInt.toNat, k_i _ (by omega), by omega, by omega⟩
  unfold f_X1_firstOf s_X1_firstOf_0
  have z : (2000 : Int32) = nI 2000 := rfl
  rw [kb_eq (p_round h), hN, kn_eq, z, if_pos ((nI_ltI (by omega) (by omega)).mpr (by omega))]
  exact p_firstOf_loop (F := F) h w m h1 h2 N hN hN2 F 0 (by omega) (by omega) (fun j hj => by omega)
theorem k_addl (m : Int64) (g : Nat) (hg : g ≤ 200000) (h1 : -10000000 ≤ m.toInt) (h2 : m.toInt ≤ 9000000000000) : (m + lN g).toInt = m.toInt + g := by
  have e : (lN g).toInt = g := lN_toInt (by omega)
  rw [fb_addL (by omega) (by omega), e]
theorem p8_next_loop (h : cPl σ) (hm : mPl σ τ) (w : Int32) (m : Int64) (h1 : -10000000 ≤ m.toInt) (h2 : m.toInt ≤ 9000000000000) :
    ∀ (f g : Nat), g ≤ 2001 → 2001 - g < f → (∀ j, j < g → pR σ w m.toInt j = false) → itr (fun rec26 q => s_X8_next_26 F rec26 q.1 q.2.1 q.2.2.1 q.2.2.2) f (τ, m, w, m + lN g) = some (fst (pR σ w m.toInt) 2000 m, τ) := by
  intro f
  induction f with
  | zero => intro g _ h; omega
  | succ f ih =>
    intro g hg hf h0
    show s_X8_next_26 F _ τ m w (m + lN g) = _
    unfold s_X8_next_26
    have em := k_addl m g (by omega) h1 h2
    have e2 : (m + (2000 : Int64)).toInt = m.toInt + 2000 := k_addl m 2000 (by omega) h1 h2
    have hgt := lg_gt (m + lN g) (m + 2000)
    rw [em, e2] at hgt
    by_cases c : 2000 < g
    · rw [if_pos (hgt.mpr (by omega)), fst_no (fun j hj => h0 j (by omega))]
    · rw [if_neg (fun q => c (by have := hgt.mp q; omega)), kb_eq (p8_ruler (F := F) h hm (m + lN g) (by omega) (by omega)), em]
      by_cases c2 : cR σ (m.toInt + g) = w
      · rw [if_pos c2, fst_at (by omega) h0 (decide_eq_true c2)]
      · rw [if_neg c2]
        have e3 : m + lN g + 1 = m + lN (g + 1) := by rw [Int64.add_assoc, lN_1]
        rw [e3]
        refine ih (g + 1) (by omega) (by omega) (fun j hj => ?_)
        by_cases q : j < g
        · exact h0 j q
        · have : j = g := by omega
          subst this
          exact decide_eq_false c2
theorem q_next (hF : 200000 ≤ F) (h : cPl σ) (hm : mPl σ τ) (m : Int64) (w : Int32) : ∃ v, f_X7_next F σ m w = some (v, σ) ∧ f_X8_next F τ m w = some (v, τ) := by
  unfold f_X7_next s_X7_next_0 f_X8_next s_X8_next_0 s_X7_next_14 s_X8_next_19
  by_cases c : bM m
  · rw [kb_eq ((p_isMinute m).1 c), kb_eq ((p8_isMinute m).1 c), if_neg k10, if_neg k10]
    have i2 := p8_inI (F := F) (τ := τ) w 0 2 0 2 rfl rfl
    have i3 := p_isRuler (F := F) (σ := σ) w
    by_cases c3 : 0 ≤ w.toInt ∧ w.toInt ≤ 2
    · rw [kb_eq (i3.1 c3), kb_eq (i2.1 c3), if_neg k10, if_neg k10]
      rw [kb_eq (p_firstOf hF h w m (by have := c.1; omega) (by have := c.2; omega))]
      have e := p8_next_loop (F := F) h hm w m (by have := c.1; omega) (by have := c.2; omega) F 0 (by omega) (by omega) (fun j hj => by omega)
      have z : m + lN 0 = m := by show m + 0 = m; exact Int64.add_zero m
      rw [z] at e
      exact ⟨_, rfl, e⟩
    · rw [kb_eq (i3.2 c3), kb_eq (i2.2 c3), if_pos k00, if_pos k00]
      exact ⟨_, rfl, rfl⟩
  · rw [kb_eq ((p_isMinute m).2 c), kb_eq ((p8_isMinute m).2 c), if_pos k00, if_pos k00]
    exact ⟨_, rfl, rfl⟩
end

/-! counts of minutes -/
section
variable {F : Nat} {σ : kS}
theorem k_i (v : Int32) {n : Nat} (h : v.toInt = n) : v = nI n := by
  have hr := fb_rng v
  rw [fa_eq, nI_toInt (by omega), h]
theorem k_l (v : Int64) {n : Nat} (h : v.toInt = n) : v = lN n := by
  have hr := fb_rngL v
  rw [fa_eq64, pk_lT (by omega), h]
theorem p_stretchFrom (h : cPl σ) (m : Int64) (h1 : -10000000 ≤ m.toInt) (h2 : m.toInt ≤ 10000000000000) : ∃ v : Int32, f_X1_stretchFrom F σ m = some (v, σ) ∧ v.toInt = cSt σ m.toInt := by
  obtain ⟨v, e1, g1⟩ := p_partsBehindBegin (F := F) h m h1 h2
  obtain ⟨p1, f1, j1⟩ := p_partsOfMinute (F := F) h
  obtain ⟨p2, f2, j2⟩ := p_partsOfTide (F := F) h
  obtain ⟨p3, f3, j3⟩ := p_partsOfHigh (F := F) h
  have hx := cX_b h m.toInt
  have hb := cPl_b h
  have hp := cSt_pos h m.toInt
  have er := p_rulerAtParts (F := F) h v (by omega) (by omega)
  rw [g1] at er
  unfold f_X1_stretchFrom s_X1_stretchFrom_0
  rw [kb_eq e1, kb_eq er]
  have fin : ∀ e : Int64, cX σ m.toInt ≤ e.toInt → e.toInt ≤ 19980 → (e.toInt - cX σ m.toInt) / cPt σ = cSt σ m.toInt → ∃ v2 : Int32, s_X1_stretchFrom_55 F σ v e = some (v2, σ) ∧ v2.toInt = cSt σ m.toInt := by
    intro e he he2 hs
    unfold s_X1_stretchFrom_55
    rw [kb_eq f1]
    have n0 : ¬ p1.toInt64 = 0 := fun q => by
      have := k_32_64 p1
      rw [q] at this
      have z0 : (0 : Int64).toInt = 0 := rfl
      omega
    rw [if_neg n0]
    have d1 : (e - v).toInt = e.toInt - cX σ m.toInt := by rw [fb_subL (by omega) (by omega), g1]
    have d2 : ((e - v) / p1.toInt64).toInt = cSt σ m.toInt := by
      rw [Kit.i64_div (by rw [k_32_64]; omega), d1, k_32_64, j1, Int.tdiv_eq_ediv_of_nonneg (by omega), hs]
    generalize (e - v) / p1.toInt64 = w at d2 ⊢
    have o1 : (1 : Int64).toInt = 1 := rfl
    refine ⟨_, rfl, ?_⟩
    rw [if_neg (by rw [fa_lt64]; omega), Kit.i32_of_i64 (by omega) (by omega), d2]
  have hcr : cRp σ (cX σ m.toInt) = cR σ m.toInt := rfl
  rw [hcr]
  by_cases c2 : cR σ m.toInt = 2
  · rw [if_pos c2]
    refine ⟨_, rfl, ?_⟩
    unfold cSt
    rw [if_pos c2]
    rfl
  · rw [if_neg c2]
    by_cases c0 : cR σ m.toInt = 0
    · rw [if_pos c0, kb_eq f3]
      have := (cR_0.mp c0).2
      exact fin _ (by rw [k_32_64, j3]; omega) (by rw [k_32_64, j3]; omega) (by unfold cSt; rw [if_neg c2, if_pos c0, k_32_64, j3])
    · rw [if_neg c0, kb_eq f2]
      exact fin _ (by rw [k_32_64, j2]; omega) (by rw [k_32_64, j2]; omega) (by unfold cSt; rw [if_neg c2, if_neg c0, k_32_64, j2])
/-- of the n minutes from z on, how many are who's -/
def cC (σ : kS) (w : Int32) (z : Int) (n : Nat) : Nat := fb_ct (fun k => decide (cR σ (z + k) = w)) n
theorem cC_le (w : Int32) (z : Int) (n : Nat) : cC σ w z n ≤ n := fb_ct_le _ n
theorem cC_1 (w : Int32) (z : Int) (n : Nat) : cC σ w z (n + 1) = cC σ w z n + if cR σ (z + n) = w then 1 else 0 := by
  unfold cC
  rw [fb_ct_succ]
  by_cases c : cR σ (z + n) = w
  · rw [if_pos c, if_pos (decide_eq_true c)]
  · rw [if_neg c, if_neg (by simp [c])]
theorem cC_add (w : Int32) (z : Int) (a b : Nat) : cC σ w z (a + b) = cC σ w z a + cC σ w (z + a) b := by
  unfold cC
  rw [fb_ct_split]
  congr 1
  apply fb_ct_cong
  intro k _
  have : z + ((a + k : Nat) : Int) = z + a + k := by omega
  rw [this]
theorem cC_same (w : Int32) (z : Int) (b : Nat) (h : ∀ k : Nat, k < b → cR σ (z + k) = cR σ z) : cC σ w z b = if cR σ z = w then b else 0 := by
  unfold cC
  by_cases c : cR σ z = w
  · rw [if_pos c]
    exact fb_ct_all.mpr (fun k hk => decide_eq_true (by rw [h k hk]; exact c))
  · rw [if_neg c]
    exact fb_ct_zero.mpr (fun k hk => decide_eq_false (by rw [h k hk]; exact c))
theorem cC_per (h : cPl σ) (w : Int32) (z : Int) (N : Nat) (hN : (kI σ 8).toInt = N) (n : Nat) : cC σ w (z + N) n = cC σ w z n := by
  unfold cC
  apply fb_ct_cong
  intro k _
  have : z + (N : Int) + k = z + k + (kI σ 8).toInt := by omega
  rw [this, cR_per h]
theorem cC_rounds (h : cPl σ) (w : Int32) (z : Int) (N : Nat) (hN : (kI σ 8).toInt = N) (q r : Nat) : cC σ w z (q * N + r) = q * cC σ w z N + cC σ w z r := by
  induction q with
  | zero => simp
  | succ q ih =>
    rw [show (q + 1) * N + r = N + (q * N + r) by rw [Nat.succ_mul]; omega, cC_add, cC_per h w z N hN, ih, Nat.succ_mul]
    omega
theorem k_addm (m : Int64) (g : Nat) (hg : g ≤ 200000) (h1 : -10000000 ≤ m.toInt) (h2 : m.toInt ≤ 9000000000000) : (m + (nI g).toInt64).toInt = m.toInt + g := by
  have e : (nI g).toInt64.toInt = g := by rw [k_32_64, nI_toInt (by omega)]
  rw [fb_addL (by omega) (by omega), e]
/-- the class's loop over stretches -/
theorem p_within_loop (h : cPl σ) (w : Int32) (m : Int64) (h1 : -10000000 ≤ m.toInt) (h2 : m.toInt ≤ 9000000000000) (n : Nat) (hn : n ≤ 100000) :
    ∀ (f g : Nat), g ≤ n → n - g < f → itr (fun rec9 q => s_X1_minutesWithinRound_9 F rec9 q.1 q.2.1 q.2.2.1 q.2.2.2.1 q.2.2.2.2.1 q.2.2.2.2.2) f (σ, w, m, nI n, nI (cC σ w m.toInt g), nI g) = some (nI (cC σ w m.toInt n), σ) := by
  intro f
  induction f with
  | zero => intro g _ h; omega
  | succ f ih =>
    intro g hg hf
    show s_X1_minutesWithinRound_9 F _ σ w m (nI n) (nI (cC σ w m.toInt g)) (nI g) = _
    unfold s_X1_minutesWithinRound_9
    have hle := nI_leI (a := n) (b := g) (by omega) (by omega)
    by_cases c : n ≤ g
    · have : g = n := by omega
      rw [if_pos (hle.mpr c), this]
    · rw [if_neg (fun q => c (hle.mp q))]
      have em := k_addm m g (by omega) h1 h2
      obtain ⟨v, e1, g1⟩ := p_stretchFrom (F := F) h (m + (nI g).toInt64) (by omega) (by omega)
      have hp := cSt_pos h (m + (nI g).toInt64).toInt
      rw [kb_eq e1, kn_eq]
      have e2 := p_rulerAt (F := F) h (m + (nI g).toInt64) (by omega) (by omega)
      rw [kb_eq e2, em]
      rw [em] at g1 hp
      have hsub : nI n - nI g = nI (n - g) := pk_sub (by omega)
      rw [hsub]
      obtain ⟨t, ht⟩ : ∃ t : Nat, v = nI t ∧ (t : Int) = cSt σ (m.toInt + g) := ⟨v.toInt.toNat, k_i v (by omega), by omega⟩
      obtain ⟨rfl, htt⟩ := ht
      obtain ⟨s, hs1, hs2⟩ : ∃ s : Nat, (if nI (n - g) < nI t then nI (n - g) else nI t) = nI s ∧ (1 ≤ s ∧ g + s ≤ n ∧ s ≤ t) := by
        have hlt := nI_ltI (a := n - g) (b := t) (by omega) (by omega)
        by_cases q : n - g < t
        · exact ⟨n - g, by rw [if_pos (hlt.mpr q)], by omega⟩
        · exact ⟨t, by rw [if_neg (fun z => q (hlt.mp z))], by omega⟩
      rw [hs1]
      have hsame : ∀ k : Nat, k < s → cR σ (m.toInt + g + k) = cR σ (m.toInt + g) := fun k hk => cSt_same h _ k (by omega)
      have hcnt : cC σ w m.toInt (g + s) = cC σ w m.toInt g + if cR σ (m.toInt + g) = w then s else 0 := by
        rw [cC_add, cC_same w _ s hsame]
      have hcl := cC_le (σ := σ) w m.toInt g
      have hmx : (nI g + if (1 : Int32) < nI s then nI s else 1) = nI (g + s) := by
        have hlt := nI_ltI (a := 1) (b := s) (by omega) (by omega)
        have h1' : (1 : Int32) = nI 1 := rfl
        rw [h1']
        by_cases q : 1 < s
        · rw [if_pos (hlt.mpr q), nI_add]
        · have : s = 1 := by omega
          rw [if_neg (fun z => q (hlt.mp z)), nI_add, this]
      have hih := ih (g + s) (by omega) (by omega)
      by_cases c3 : cR σ (m.toInt + g) = w
      · rw [if_pos c3]
        rw [if_pos c3] at hcnt
        unfold s_X1_minutesWithinRound_55
        rw [kn_eq, hmx, nI_add, ← hcnt]
        exact hih
      · rw [if_neg c3]
        rw [if_neg c3] at hcnt
        unfold s_X1_minutesWithinRound_55
        rw [kn_eq, hmx, ← Nat.add_zero (cC σ w m.toInt g), ← hcnt]
        exact hih
theorem p_within (hF : 200000 ≤ F) (h : cPl σ) (w : Int32) (m : Int64) (h1 : -10000000 ≤ m.toInt) (h2 : m.toInt ≤ 9000000000000) (n : Nat) (hn : n ≤ 100000) : f_X1_minutesWithinRound F σ w m (nI n) = some (nI (cC σ w m.toInt n), σ) := by
  have := p_within_loop (F := F) h w m h1 h2 n hn F 0 (by omega) (by omega)
  exact this
theorem p_round (h : cPl σ) : f_X2_minutesOfRound F σ = some (kI σ 8, σ) := by
  show some (_, σ) = _
  rw [if_pos]
  rw [fa_lt]
  have := h.1.1
  show (1 : Int) < _
  omega
theorem p_minutesOf (hF : 200000 ≤ F) (h : cPl σ) (w : Int32) (m : Int64) (h1 : -10000000 ≤ m.toInt) (h2 : m.toInt ≤ 9000000000000) (n : Nat) (hn : n ≤ 100000) : f_X1_minutesOf F σ w m (nI n) = some (nI (cC σ w m.toInt n), σ) := by
  have hN1 := h.1
  obtain ⟨N, hN⟩ : ∃ N : Nat, kI σ 8 = nI N ∧ 20 ≤ N ∧ N ≤ 999 := ⟨(kI σ 8).toInt.toNat, k_i _ (by omega), by omega, by omega⟩
  obtain ⟨hN, hN2, hN3⟩ := hN
  have hNi : (kI σ 8).toInt = N := by rw [hN, nI_toInt (by omega)]
  unfold f_X1_minutesOf s_X1_minutesOf_0
  rw [kb_eq (p_round h), hN]
  have n0 : ¬ nI N = 0 := nI_ne0 (by omega) (by omega)
  rw [if_neg n0, kb_eq (p_within hF h w m h1 h2 N (by omega)), if_neg n0, pk_rem (by omega) (by omega) (by omega), kb_eq (p_within hF h w m h1 h2 (n % N) (by have := Nat.mod_le n N; omega)), pk_div (by omega) (by omega) (by omega), pk_mul, nI_add]
  have := cC_rounds h w m.toInt N hNi (n / N) (n % N)
  rw [Nat.mul_comm (n / N) N, Nat.div_add_mod] at this
  rw [this]
theorem p8_counted_loop {τ : kS} (h : cPl σ) (hm : mPl σ τ) (w : Int32) (m : Int64) (h1 : -10000000 ≤ m.toInt) (h2 : m.toInt ≤ 9000000000000) (n : Nat) (hn : n ≤ 100000) :
    ∀ (f g : Nat), g ≤ n → n - g < f → itr (fun rec6 q => s_X8_counted_6 F rec6 q.1 q.2.1 q.2.2.1 q.2.2.2.1 q.2.2.2.2.1 q.2.2.2.2.2) f (τ, m, nI n, w, nI (cC σ w m.toInt g), nI g) = some (nI (cC σ w m.toInt n), τ) := by
  intro f
  induction f with
  | zero => intro g _ h; omega
  | succ f ih =>
    intro g hg hf
    show s_X8_counted_6 F _ τ m (nI n) w (nI (cC σ w m.toInt g)) (nI g) = _
    unfold s_X8_counted_6
    have hle := nI_leI (a := n) (b := g) (by omega) (by omega)
    by_cases c : n ≤ g
    · have : g = n := by omega
      rw [if_pos (hle.mpr c), this]
    · rw [if_neg (fun q => c (hle.mp q))]
      have em := k_addm m g (by omega) h1 h2
      rw [kb_eq (p8_ruler (F := F) h hm (m + (nI g).toInt64) (by omega) (by omega)), em]
      have hih := ih (g + 1) (by omega) (by omega)
      have hc1 := cC_1 (σ := σ) w m.toInt g
      have o1 : (1 : Int32) = nI 1 := rfl
      have o0 : (0 : Int32) = nI 0 := rfl
      unfold s_X8_counted_33
      by_cases c3 : cR σ (m.toInt + g) = w
      · rw [if_pos c3] at hc1 ⊢
        rw [o1, nI_add, nI_add, ← hc1]
        exact hih
      · rw [if_neg c3] at hc1 ⊢
        rw [o0, nI_add, o1, nI_add, ← hc1]
        exact hih
theorem p8_counted {τ : kS} (hF : 200000 ≤ F) (h : cPl σ) (hm : mPl σ τ) (w : Int32) (m : Int64) (h1 : -10000000 ≤ m.toInt) (h2 : m.toInt ≤ 9000000000000) (n : Nat) (hn : n ≤ 100000) : f_X8_counted F τ m (nI n) w = some (nI (cC σ w m.toInt n), τ) :=
  p8_counted_loop (F := F) h hm w m h1 h2 n hn F 0 (by omega) (by omega)
end

/-! the first lawful minute: bargain, soon -/
section
variable {F : Nat} {σ τ : kS} {k : Nat}
theorem lwf_st (h : cPl σ) {K M : Int32} {L : Nat} {z : Int} {s : Nat} (hs : (s : Int) < cSt σ z) (hl : lwf σ K M L (z + s)) : lwf σ K M L z := by
  have e := cSt_same h z s hs
  unfold lwf at *
  by_cases K3 : K = 3
  · rw [if_pos K3] at hl ⊢
    rw [e] at hl
    exact hl
  · rw [if_neg K3] at hl ⊢
    by_cases K4 : K = 4
    · rw [if_pos K4] at hl ⊢
      rw [e] at hl
      exact hl
    · rw [if_neg K4] at hl ⊢
      by_cases K1 : K = 1
      · rw [if_pos K1] at hl ⊢
        intro q hq
        by_cases c : q < s
        · have e0 := hl 0 (by omega)
          rw [show z + (s : Int) + ((0 : Nat) : Int) = z + s by omega, e] at e0
          rw [cSt_same h z q (by omega)]
          exact e0
        · have := hl (q - s) (by omega)
          rw [show z + (s : Int) + ((q - s : Nat) : Int) = z + q by omega] at this
          exact this
      · rw [if_neg K1] at hl ⊢
        rw [e] at hl
        exact hl
theorem lwf_per (h : cPl σ) {K M : Int32} {L : Nat} {z : Int} (hl : lwf σ K M L (z + (kI σ 8).toInt)) : lwf σ K M L z := by
  have e := cR_per h z
  unfold lwf at *
  rw [e] at hl
  by_cases K3 : K = 3
  · rw [if_pos K3] at hl ⊢
    exact hl
  · rw [if_neg K3] at hl ⊢
    by_cases K4 : K = 4
    · rw [if_pos K4] at hl ⊢
      exact hl
    · rw [if_neg K4] at hl ⊢
      by_cases K1 : K = 1
      · rw [if_pos K1] at hl ⊢
        intro q hq
        have := hl q hq
        rw [show z + (kI σ 8).toInt + (q : Int) = z + q + (kI σ 8).toInt by omega, cR_per h] at this
        exact this
      · rw [if_neg K1] at hl ⊢
        exact hl
/-- act i is lawful at z, laws w -/
def aL (σ : kS) (w i : Nat) (z : Int) : Prop := lwf σ (kA σ 3 (5 * i)) (kA σ 3 (5 * i + 2)) (w / 4 ^ i % 4) z
theorem p_first_loop {a w : Nat} (h : cPl σ) (hA : rAct a σ τ) (hL : rLaw a w σ τ) (i j : Nat) (hi : i < a) (hj : j < a) (m : Int64) (h1 : 0 ≤ m.toInt) (h2 : m.toInt ≤ 2000000000000) (N : Nat) (hN : N ≤ 999) :
    ∀ (f g : Nat), g ≤ N + 20000 → N + 1 - g < f → (∀ t, t < g → ¬ (aL σ w i (m.toInt + t) ∧ aL σ w j (m.toInt + t))) →
    (∃ t : Nat, t ≤ N ∧ (aL σ w i (m.toInt + t) ∧ aL σ w j (m.toInt + t)) ∧ (∀ s : Nat, s < t → ¬ (aL σ w i (m.toInt + s) ∧ aL σ w j (m.toInt + s))) ∧ itr (fun rec21 q => s_X1_firstLawful_21 F rec21 q.1 q.2.1 q.2.2.1 q.2.2.2.1 q.2.2.2.2.1 q.2.2.2.2.2) f (σ, nI i, nI j, m, nI N, nI g) = some (m + (nI t).toInt64, σ)) ∨ ((∀ t : Nat, t ≤ N → ¬ (aL σ w i (m.toInt + t) ∧ aL σ w j (m.toInt + t))) ∧ itr (fun rec21 q => s_X1_firstLawful_21 F rec21 q.1 q.2.1 q.2.2.1 q.2.2.2.1 q.2.2.2.2.1 q.2.2.2.2.2) f (σ, nI i, nI j, m, nI N, nI g) = some (-4, σ)) := by
  intro f
  induction f with
  | zero => intro g _ h; omega
  | succ f ih =>
    intro g hg hf hno
    have e0 : itr (fun rec21 q => s_X1_firstLawful_21 F rec21 q.1 q.2.1 q.2.2.1 q.2.2.2.1 q.2.2.2.2.1 q.2.2.2.2.2) (f + 1) (σ, nI i, nI j, m, nI N, nI g) = s_X1_firstLawful_21 F (itr (fun rec21 q => s_X1_firstLawful_21 F rec21 q.1 q.2.1 q.2.2.1 q.2.2.2.1 q.2.2.2.2.1 q.2.2.2.2.2) f) σ (nI i) (nI j) m (nI N) (nI g) := rfl
    rw [e0]
    unfold s_X1_firstLawful_21
    have hlt := nI_ltI (a := N) (b := g) (by omega) (by omega)
    by_cases c : N < g
    · rw [if_pos (hlt.mpr c)]
      exact Or.inr ⟨fun t ht => hno t (by omega), rfl⟩
    · rw [if_neg (fun q => c (hlt.mp q))]
      have em := k_addm m g (by omega) (by omega) (by omega)
      have la := p_isLawful (F := F) h hA hL i hi (m + (nI g).toInt64) (by omega) (by omega)
      have lb := p_isLawful (F := F) h hA hL j hj (m + (nI g).toInt64) (by omega) (by omega)
      rw [em] at la lb
      -- when it is not so at g, the stretch is passed over
      have go : ¬ (aL σ w i (m.toInt + g) ∧ aL σ w j (m.toInt + g)) → (∃ t : Nat, t ≤ N ∧ (aL σ w i (m.toInt + t) ∧ aL σ w j (m.toInt + t)) ∧ (∀ s : Nat, s < t → ¬ (aL σ w i (m.toInt + s) ∧ aL σ w j (m.toInt + s))) ∧ s_X1_firstLawful_60 F (itr (fun rec21 q => s_X1_firstLawful_21 F rec21 q.1 q.2.1 q.2.2.1 q.2.2.2.1 q.2.2.2.2.1 q.2.2.2.2.2) f) σ (nI i) (nI j) m (nI N) (nI g) = some (m + (nI t).toInt64, σ)) ∨ ((∀ t : Nat, t ≤ N → ¬ (aL σ w i (m.toInt + t) ∧ aL σ w j (m.toInt + t))) ∧ s_X1_firstLawful_60 F (itr (fun rec21 q => s_X1_firstLawful_21 F rec21 q.1 q.2.1 q.2.2.1 q.2.2.2.1 q.2.2.2.2.1 q.2.2.2.2.2) f) σ (nI i) (nI j) m (nI N) (nI g) = some (-4, σ)) := by
        intro hn
        obtain ⟨v, e1, g1⟩ := p_stretchFrom (F := F) h (m + (nI g).toInt64) (by omega) (by omega)
        rw [em] at g1
        have hp := cSt_pos h (m.toInt + g)
        obtain ⟨t, rfl, ht⟩ : ∃ t : Nat, v = nI t ∧ (t : Int) = cSt σ (m.toInt + g) := ⟨v.toInt.toNat, k_i v (by omega), by omega⟩
        unfold s_X1_firstLawful_60
        have hmx : (nI g + if (1 : Int32) < nI t then nI t else 1) = nI (g + t) := by
          have hlt := nI_ltI (a := 1) (b := t) (by omega) (by omega)
          have h1' : (1 : Int32) = nI 1 := rfl
          rw [h1']
          by_cases q : 1 < t
          · rw [if_pos (hlt.mpr q), nI_add]
          · have : t = 1 := by omega
            rw [if_neg (fun z => q (hlt.mp z)), nI_add, this]
        rw [kb_eq e1, kn_eq, hmx]
        refine ih (g + t) (by omega) (by omega) (fun s hs => ?_)
        by_cases d : s < g
        · exact hno s d
        · intro hq
          refine hn ⟨lwf_st h (s := s - g) (by omega) ?_, lwf_st h (s := s - g) (by omega) ?_⟩
          · rw [show m.toInt + (g : Int) + ((s - g : Nat) : Int) = m.toInt + s by omega]
            exact hq.1
          · rw [show m.toInt + (g : Int) + ((s - g : Nat) : Int) = m.toInt + s by omega]
            exact hq.2
      by_cases ca : aL σ w i (m.toInt + g)
      · rw [kb_eq (la.1 ca), if_neg k10]
        by_cases cb : aL σ w j (m.toInt + g)
        · rw [kb_eq (lb.1 cb), if_neg k10]
          exact Or.inl ⟨g, by omega, ⟨ca, cb⟩, hno, rfl⟩
        · rw [kb_eq (lb.2 cb), if_pos k00]
          exact go (fun q => cb q.2)
      · rw [kb_eq (la.2 ca), if_pos k00]
        exact go (fun q => ca q.1)
theorem p_first {a w : Nat} (hF : 200000 ≤ F) (h : cPl σ) (hA : rAct a σ τ) (hL : rLaw a w σ τ) (i j : Nat) (hi : i < a) (hj : j < a) (m : Int64) (h1 : 0 ≤ m.toInt) (h2 : m.toInt ≤ 2000000000000) :
    (∃ t : Nat, t ≤ 999 ∧ (aL σ w i (m.toInt + t) ∧ aL σ w j (m.toInt + t)) ∧ (∀ s : Nat, s < t → ¬ (aL σ w i (m.toInt + s) ∧ aL σ w j (m.toInt + s))) ∧ f_X1_firstLawful F σ (nI i) (nI j) m = some (m + (nI t).toInt64, σ)) ∨ ((∀ t : Nat, ¬ (aL σ w i (m.toInt + t) ∧ aL σ w j (m.toInt + t))) ∧ f_X1_firstLawful F σ (nI i) (nI j) m = some (-4, σ)) := by
  have hN1 := h.1
  obtain ⟨N, hN, hN2, hN3⟩ : ∃ N : Nat, kI σ 8 = nI N ∧ 20 ≤ N ∧ N ≤ 999 := ⟨(kI σ 8).toInt.toNat, k_i _ (by omega), by omega, by omega⟩
  have hNi : (kI σ 8).toInt = N := by rw [hN, nI_toInt (by omega)]
  unfold f_X1_firstLawful s_X1_firstLawful_0
  have hlt := nI_ltI (a := N) (b := 5000) (by omega) (by omega)
  rw [kb_eq (p_round h), hN, if_pos (show nI N < 5000 from hlt.mpr (by omega)), kn_eq]
  rcases p_first_loop (F := F) h hA hL i j hi hj m h1 h2 N hN3 F 0 (by omega) (by omega) (fun t ht => absurd ht (by omega)) with ⟨t, t1, t2, t3, t4⟩ | ⟨t1, t2⟩
  · exact Or.inl ⟨t, by omega, t2, t3, t4⟩
  · refine Or.inr ⟨fun t ht => ?_, t2⟩
    have key : ∀ q r : Nat, (aL σ w i (m.toInt + ((r + q * N : Nat) : Int)) ∧ aL σ w j (m.toInt + ((r + q * N : Nat) : Int))) → (aL σ w i (m.toInt + (r : Int)) ∧ aL σ w j (m.toInt + (r : Int))) := by
      intro q r
      induction q with
      | zero => rw [Nat.zero_mul, Nat.add_zero]; exact fun z => z
      | succ q ih =>
        intro z
        refine ih ?_
        have e : m.toInt + ((r + (q + 1) * N : Nat) : Int) = m.toInt + ((r + q * N : Nat) : Int) + (kI σ 8).toInt := by
          rw [hNi, Nat.succ_mul]; omega
        rw [e] at z
        exact ⟨lwf_per h z.1, lwf_per h z.2⟩
    have hm := Nat.mod_add_div t N
    have hml := Nat.mod_lt t (show 0 < N by omega)
    rw [← hm, Nat.mul_comm] at ht
    exact t1 (t % N) (by omega) (key (t / N) (t % N) ht)
theorem p8_bargain_loop {a w : Nat} (hF : 200000 ≤ F) (h : cPl σ) (hm : mPl σ τ) (hA : rAct a σ τ) (hL : rLaw a w σ τ) (i j : Nat) (hi : i < a) (hj : j < a) (m : Int64) (h1 : 0 ≤ m.toInt) (h2 : m.toInt ≤ 2000000000000) :
    ∀ (f g : Nat) (x : Int64), g ≤ 5001 → 5001 - g < f → x.toInt = m.toInt + g → (∀ t, t < g → ¬ (aL σ w i (m.toInt + t) ∧ aL σ w j (m.toInt + t))) →
    (∃ (t : Nat) (y : Int64), t ≤ 5000 ∧ (aL σ w i (m.toInt + t) ∧ aL σ w j (m.toInt + t)) ∧ (∀ s : Nat, s < t → ¬ (aL σ w i (m.toInt + s) ∧ aL σ w j (m.toInt + s))) ∧ y.toInt = m.toInt + t ∧ itr (fun rec35 q => s_X8_bargain_35 F rec35 q.1 q.2.1 q.2.2.1 q.2.2.2.1 q.2.2.2.2) f (τ, nI i, nI j, m, x) = some (y, τ)) ∨ ((∀ t : Nat, t ≤ 5000 → ¬ (aL σ w i (m.toInt + t) ∧ aL σ w j (m.toInt + t))) ∧ itr (fun rec35 q => s_X8_bargain_35 F rec35 q.1 q.2.1 q.2.2.1 q.2.2.2.1 q.2.2.2.2) f (τ, nI i, nI j, m, x) = some (-4, τ)) := by
  intro f
  induction f with
  | zero => intro g x _ h; omega
  | succ f ih =>
    intro g x hg hf hx hno
    have e0 : itr (fun rec35 q => s_X8_bargain_35 F rec35 q.1 q.2.1 q.2.2.1 q.2.2.2.1 q.2.2.2.2) (f + 1) (τ, nI i, nI j, m, x) = s_X8_bargain_35 F (itr (fun rec35 q => s_X8_bargain_35 F rec35 q.1 q.2.1 q.2.2.1 q.2.2.2.1 q.2.2.2.2) f) τ (nI i) (nI j) m x := rfl
    rw [e0]
    unfold s_X8_bargain_35 s_X8_bargain_69
    have z5 : (5000 : Int64).toInt = 5000 := rfl
    have o1 : (1 : Int64).toInt = 1 := rfl
    have e5 : (m + 5000).toInt = m.toInt + 5000 := by rw [fb_addL (by omega) (by omega), z5]
    have hgt := lg_gt x (m + 5000)
    rw [e5, hx] at hgt
    by_cases c : 5000 < g
    · rw [if_pos (hgt.mpr (by omega))]
      exact Or.inr ⟨fun t ht => hno t (by omega), rfl⟩
    · rw [if_neg (fun q => c (by have := hgt.mp q; omega))]
      have la := p8_isLawful (F := F) hF h hm hA hL i hi x (by omega) (by omega)
      have lb := p8_isLawful (F := F) hF h hm hA hL j hj x (by omega) (by omega)
      rw [hx] at la lb
      have e1 : (x + 1).toInt = m.toInt + ((g + 1 : Nat) : Int) := by rw [fb_addL (by omega) (by omega), o1]; omega
      by_cases ca : aL σ w i (m.toInt + g)
      · rw [kb_eq (la.1 ca), if_neg k10]
        by_cases cb : aL σ w j (m.toInt + g)
        · rw [kb_eq (lb.1 cb), if_neg k10]
          exact Or.inl ⟨g, x, by omega, ⟨ca, cb⟩, hno, hx, rfl⟩
        · rw [kb_eq (lb.2 cb), if_pos k00]
          refine ih (g + 1) (x + 1) (by omega) (by omega) e1 (fun t ht => ?_)
          by_cases d : t < g
          · exact hno t d
          · have : t = g := by omega
            subst this
            exact fun q => cb q.2
      · rw [kb_eq (la.2 ca), if_pos k00]
        refine ih (g + 1) (x + 1) (by omega) (by omega) e1 (fun t ht => ?_)
        by_cases d : t < g
        · exact hno t d
        · have : t = g := by omega
          subst this
          exact fun q => ca q.1
theorem r_bargain (hF : 200000 ≤ F) (R : Rel k σ τ) (x y : Int32) (m : Int64) : Ok (k + 1) (f_X7_bargain F σ x y m) (f_X8_bargain F τ x y m) := by
  have R0 := R
  obtain ⟨a, w, l, n, r, h, c, hP, hM, hA, hL, hT, hX, hR, hN, hU, hK⟩ := R
  unfold f_X7_bargain f_X8_bargain s_X7_bargain_0 s_X8_bargain_0 s_X7_bargain_28 s_X8_bargain_28
  by_cases c1 : 0 ≤ x.toInt ∧ x.toInt < a
  · rw [kb_eq ((p_isAct (F := F) hA x).1 c1), kb_eq ((p8_isAct (F := F) hA x).1 c1), if_neg k10, if_neg k10]
    by_cases d : 0 ≤ y.toInt ∧ y.toInt < a
    · rw [kb_eq ((p_isAct (F := F) hA y).1 d), kb_eq ((p8_isAct (F := F) hA y).1 d), if_neg k10, if_neg k10]
      by_cases e : x = y
      · rw [if_pos e, if_pos e]
        exact ok_s R0 _
      · rw [if_neg e, if_neg e]
        by_cases g : bM m
        · rw [kb_eq ((p_isMinute m).1 g), kb_eq ((p8_isMinute m).1 g), if_neg k10, if_neg k10]
          obtain ⟨i, hi, rfl⟩ := k_act x c1
          obtain ⟨j, hj, rfl⟩ := k_act y d
          obtain ⟨g1, g2⟩ := g
          have hb := p8_bargain_loop (F := F) hF hP hM hA hL i j hi hj m g1 (by omega) F 0 m (by omega) (by omega) (by omega) (fun t ht => absurd ht (by omega))
          rcases p_first (F := F) hF hP hA hL i j hi hj m g1 (by omega) with ⟨t, t1, t2, t3, t4⟩ | ⟨t1, t2⟩
          · rcases hb with ⟨u, z, u1, u2, u3, u4, u5⟩ | ⟨u1, u2⟩
            · have eu : t = u := fb_first_one (p := fun s : Nat => aL σ w i (m.toInt + s) ∧ aL σ w j (m.toInt + s)) t2 t3 u2 u3
              subst eu
              have ez : z = m + (nI t).toInt64 := by
                rw [fa_eq64, u4, k_addm m t (by omega) (by omega) (by omega)]
              have u6 : f_X8_bargain_35 F (τ, nI i, nI j, m, m) = some (z, τ) := u5
              rw [kb_eq t4, u6, ez]
              exact ok_s R0 _
            · exact absurd t2 (u1 t (by omega))
          · rcases hb with ⟨u, z, u1, u2, u3, u4, u5⟩ | ⟨u1, u2⟩
            · exact absurd u2 (t1 u)
            · have u6 : f_X8_bargain_35 F (τ, nI i, nI j, m, m) = some (-4, τ) := u2
              rw [kb_eq t2, u6]
              exact ok_s R0 _
        · rw [kb_eq ((p_isMinute m).2 g), kb_eq ((p8_isMinute m).2 g), if_pos k00, if_pos k00]
          exact ok_s R0 _
    · rw [kb_eq ((p_isAct (F := F) hA y).2 d), kb_eq ((p8_isAct (F := F) hA y).2 d), if_pos k00, if_pos k00]
      exact ok_s R0 _
  · rw [kb_eq ((p_isAct (F := F) hA x).2 c1), kb_eq ((p8_isAct (F := F) hA x).2 c1), if_pos k00, if_pos k00]
    exact ok_s R0 _
end

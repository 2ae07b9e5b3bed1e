/-! gain, forbid, rests -/
section
variable {F : Nat} {σ τ : kS}
theorem p_isKing (x : Int32) : (0 ≤ x.toInt ∧ x.toInt ≤ 1 → f_X7_isKing F σ x = some (1, σ)) ∧ (¬ (0 ≤ x.toInt ∧ x.toInt ≤ 1) → f_X7_isKing F σ x = some (0, σ)) := by
  unfold f_X7_isKing s_X7_isKing_0 s_X7_isKing_9
  have a0 := fa_eq x 0
  have a1 := fa_eq x 1
  have z0 : (0 : Int32).toInt = 0 := rfl
  have z1 : (1 : Int32).toInt = 1 := rfl
  rw [z0] at a0
  rw [z1] at a1
  by_cases c : x.toInt = 0
  · rw [if_pos (a0.mpr c)]
    exact ⟨fun _ => rfl, fun h => absurd (by omega) h⟩
  · rw [if_neg (fun q => c (a0.mp q))]
    by_cases d : x.toInt = 1
    · rw [if_pos (a1.mpr d)]
      exact ⟨fun _ => rfl, fun h => absurd (by omega) h⟩
    · rw [if_neg (fun q => d (a1.mp q))]
      exact ⟨fun h => by omega, fun _ => rfl⟩
theorem p_isAct {a : Nat} (hA : rAct a σ τ) (x : Int32) : (0 ≤ x.toInt ∧ x.toInt < a → f_X7_isAct F σ x = some (1, σ)) ∧ (¬ (0 ≤ x.toInt ∧ x.toInt < a) → f_X7_isAct F σ x = some (0, σ)) := by
  have ha := hA.1
  unfold f_X7_isAct s_X7_isAct_0
  rw [hA.2.1]
  have a0 := fa_lt x 0
  have a1 := fa_le (nI a) x
  have z0 : (0 : Int32).toInt = 0 := rfl
  rw [z0] at a0
  rw [nI_toInt (by omega)] at a1
  by_cases c : x.toInt < 0
  · rw [if_pos (a0.mpr c)]
    exact ⟨fun h => by omega, fun _ => rfl⟩
  · rw [if_neg (fun q => c (a0.mp q))]
    by_cases d : (a : Int) ≤ x.toInt
    · rw [if_pos (a1.mpr d)]
      exact ⟨fun h => by omega, fun _ => rfl⟩
    · rw [if_neg (fun q => d (a1.mp q))]
      exact ⟨fun _ => rfl, fun h => absurd (by omega) h⟩
theorem m1_t {a : Nat} (ha : a ≤ 100) : (nI a - 1).toInt64.toInt = (a : Int) - 1 := by
  rw [k_32_64]
  exact om_t (by omega)
theorem p8_isAct {a : Nat} (hA : rAct a σ τ) (x : Int32) : (0 ≤ x.toInt ∧ x.toInt < a → f_X8_isAct F τ x = some (1, τ)) ∧ (¬ (0 ≤ x.toInt ∧ x.toInt < a) → f_X8_isAct F τ x = some (0, τ)) := by
  have ha := hA.1
  unfold f_X8_isAct s_X8_isAct_0
  rw [hA.2.2.1]
  have e := p8_inI (F := F) (τ := τ) x 0 (nI a - 1).toInt64 0 ((a : Int) - 1) rfl (m1_t (by omega))
  constructor
  · intro h
    rw [kb_eq (e.1 (by omega))]; rfl
  · intro h
    rw [kb_eq (e.2 (by omega))]; rfl
theorem k_act {a : Nat} (x : Int32) (h : 0 ≤ x.toInt ∧ x.toInt < a) : ∃ i : Nat, i < a ∧ x = nI i := ⟨x.toInt.toNat, by omega, k_i x (by omega)⟩
theorem k_om {a : Nat} (ha : a ≤ 6) (x : Int32) (h : -1 ≤ x.toInt ∧ x.toInt < a) : ∃ k : Nat, k ≤ a ∧ x = om k := by
  refine ⟨(x.toInt + 1).toNat, by omega, ?_⟩
  rw [fa_eq, om_t (by omega)]
  omega
theorem k_kg (x : Int32) (h : 0 ≤ x.toInt ∧ x.toInt ≤ 1) : ∃ k : Nat, k < 2 ∧ x = nI k := ⟨x.toInt.toNat, by omega, k_i x (by omega)⟩
theorem gF_0 (σ : kS) (a w kg : Nat) : gF σ a w kg 0 0 = Int32.ofInt (gS σ kg (dg w) a) := by
  unfold gF
  rw [gS_cong σ kg (d := df w 0 0) (e := dg w) (fun i _ => by unfold df; rw [if_neg (show ¬ i + 1 = 0 by omega), if_neg (show ¬ i + 1 = 0 by omega)])]
theorem q_gain {a w : Nat} (hF : 200000 ≤ F) (hA : rAct a σ τ) (hL : rLaw a w σ τ) (x : Int32) : ∃ v, f_X7_gain F σ x = some (v, σ) ∧ f_X8_gain F τ x = some (v, τ) := by
  have ha := hA.1
  unfold f_X7_gain s_X7_gain_0 f_X8_gain s_X8_gain_0
  have e1 := p_isKing (F := F) (σ := σ) x
  have e2 := p8_inI (F := F) (τ := τ) x 0 1 0 1 rfl rfl
  by_cases c : 0 ≤ x.toInt ∧ x.toInt ≤ 1
  · obtain ⟨kg, hk, rfl⟩ := k_kg x c
    have e3 := p8_gains hF hA hL 0 0 kg (by omega) (by omega) (nI kg) rfl hk
    rw [om_0] at e3
    rw [kb_eq (e1.1 c), kb_eq (e2.1 c), if_neg k10, if_neg k10, hL.1, kb_eq (p_gainUnder hF hA w hL.2.1 kg (nI kg) rfl hk), kb_eq e3, gF_0]
    exact ⟨_, rfl, rfl⟩
  · rw [kb_eq (e1.2 c), kb_eq (e2.2 c), if_pos k00, if_pos k00]
    exact ⟨_, rfl, rfl⟩
theorem p_isActOrNone {a : Nat} (hA : rAct a σ τ) (x : Int32) : (-1 ≤ x.toInt ∧ x.toInt < a → f_X7_isActOrNone F σ x = some (1, σ)) ∧ (¬ (-1 ≤ x.toInt ∧ x.toInt < a) → f_X7_isActOrNone F σ x = some (0, σ)) := by
  have e := p_isAct (F := F) hA x
  unfold f_X7_isActOrNone s_X7_isActOrNone_0 s_X7_isActOrNone_13
  have a0 := fa_eq x (-1)
  have z0 : (-1 : Int32).toInt = -1 := rfl
  rw [z0] at a0
  by_cases c : x.toInt = -1
  · rw [if_pos (a0.mpr c)]
    exact ⟨fun _ => rfl, fun h => absurd (by omega) h⟩
  · rw [if_neg (fun q => c (a0.mp q))]
    by_cases d : 0 ≤ x.toInt ∧ x.toInt < a
    · rw [kb_eq (e.1 d), if_neg k10]
      exact ⟨fun _ => rfl, fun h => absurd (by omega) h⟩
    · rw [kb_eq (e.2 d), if_pos k00]
      exact ⟨fun h => by omega, fun _ => rfl⟩
theorem q_forbid {a w : Nat} (hF : 200000 ≤ F) (hA : rAct a σ τ) (hL : rLaw a w σ τ) (x y z : Int32) : ∃ v, f_X7_forbid F σ x y z = some (v, σ) ∧ f_X8_forbid F τ x y z = some (v, τ) := by
  have ha := hA.1
  unfold f_X7_forbid s_X7_forbid_0 f_X8_forbid s_X8_forbid_0
  rw [hA.2.2.1]
  have ex := p_isActOrNone (F := F) hA x
  have ey := p_isActOrNone (F := F) hA y
  have gx := p8_inI (F := F) (τ := τ) x (-1) (nI a - 1).toInt64 (-1) ((a : Int) - 1) rfl (m1_t (by omega))
  have gy := p8_inI (F := F) (τ := τ) y (-1) (nI a - 1).toInt64 (-1) ((a : Int) - 1) rfl (m1_t (by omega))
  by_cases cx : -1 ≤ x.toInt ∧ x.toInt < a
  · rw [kb_eq (ex.1 cx), kb_eq (gx.1 (by omega)), if_neg k10, if_neg k10, hA.2.2.1]
    by_cases cy : -1 ≤ y.toInt ∧ y.toInt < a
    · rw [kb_eq (ey.1 cy), kb_eq (gy.1 (by omega)), if_neg k10, if_neg k10]
      have e1 := p_isKing (F := F) (σ := σ) z
      have e2 := p8_inI (F := F) (τ := τ) z 0 1 0 1 rfl rfl
      by_cases c : 0 ≤ z.toInt ∧ z.toInt ≤ 1
      · obtain ⟨kg, hk, rfl⟩ := k_kg z c
        obtain ⟨bh, hh, rfl⟩ := k_om (by omega) x cx
        obtain ⟨bl, hl, rfl⟩ := k_om (by omega) y cy
        rw [kb_eq (e1.1 c), kb_eq (e2.1 c), if_neg k10, if_neg k10, kb_eq (p_gainIf hF hA hL bh bl kg hh hl (nI kg) rfl hk), kb_eq (p8_gains hF hA hL bh bl kg hh hl (nI kg) rfl hk)]
        exact ⟨_, rfl, rfl⟩
      · rw [kb_eq (e1.2 c), kb_eq (e2.2 c), if_pos k00, if_pos k00]
        exact ⟨_, rfl, rfl⟩
    · rw [kb_eq (ey.2 cy), kb_eq (gy.2 (by omega)), if_pos k00, if_pos k00]
      exact ⟨_, rfl, rfl⟩
  · rw [kb_eq (ex.2 cx), kb_eq (gx.2 (by omega)), if_pos k00, if_pos k00]
    exact ⟨_, rfl, rfl⟩
/-- no other choice of one alone is better -/
def okR (σ : kS) (a w i j c : Nat) : Prop := gF σ a w 0 c j ≤ gF σ a w 0 i j ∧ gF σ a w 1 i c ≤ gF σ a w 1 i j
def isR (σ : kS) (a w i j : Nat) : Prop := ∀ c, c ≤ a → okR σ a w i j c
theorem p_isRest_loop {a w : Nat} (hF : 200000 ≤ F) (hA : rAct a σ τ) (hL : rLaw a w σ τ) (i j : Nat) (hi : i ≤ a) (hj : j ≤ a) :
    ∀ (f c : Nat), c ≤ a + 1 → a + 1 - c < f → ((∀ d, c ≤ d → d ≤ a → okR σ a w i j d) → itr (fun rec20 q => s_X0_isRest_20 F rec20 q.1 q.2.1 q.2.2.1 q.2.2.2.1 q.2.2.2.2.1 q.2.2.2.2.2) f (σ, om i, om j, gF σ a w 0 i j, gF σ a w 1 i j, om c) = some (1, σ)) ∧ ((∃ d, c ≤ d ∧ d ≤ a ∧ ¬ okR σ a w i j d) → itr (fun rec20 q => s_X0_isRest_20 F rec20 q.1 q.2.1 q.2.2.1 q.2.2.2.1 q.2.2.2.2.1 q.2.2.2.2.2) f (σ, om i, om j, gF σ a w 0 i j, gF σ a w 1 i j, om c) = some (0, σ)) := by
  have ha := hA.1
  intro f
  induction f with
  | zero => intro c _ h; omega
  | succ f ih =>
    intro c hc hf
    have e0 : itr (fun rec20 q => s_X0_isRest_20 F rec20 q.1 q.2.1 q.2.2.1 q.2.2.2.1 q.2.2.2.2.1 q.2.2.2.2.2) (f + 1) (σ, om i, om j, gF σ a w 0 i j, gF σ a w 1 i j, om c) = s_X0_isRest_20 F (itr (fun rec20 q => s_X0_isRest_20 F rec20 q.1 q.2.1 q.2.2.1 q.2.2.2.1 q.2.2.2.2.1 q.2.2.2.2.2) f) σ (om i) (om j) (gF σ a w 0 i j) (gF σ a w 1 i j) (om c) := rfl
    rw [e0]
    unfold s_X0_isRest_20
    rw [hA.2.1]
    have hle := om_le (a := a) (k := c) (by omega) (by omega)
    by_cases q : a + 1 ≤ c
    · rw [if_pos (hle.mpr q)]
      exact ⟨fun _ => rfl, fun ⟨d, d1, d2, _⟩ => by omega⟩
    · rw [if_neg (fun z => q (hle.mp z)), kb_eq (p_gainIf hF hA hL c j 0 (by omega) hj 0 rfl (by omega))]
      by_cases r1 : gF σ a w 0 c j ≤ gF σ a w 0 i j
      · rw [if_pos r1, kb_eq (p_gainIf hF hA hL i c 1 hi (by omega) 1 rfl (by omega))]
        by_cases r2 : gF σ a w 1 i c ≤ gF σ a w 1 i j
        · rw [if_pos r2, om_1]
          have hih := ih (c + 1) (by omega) (by omega)
          refine ⟨fun z => hih.1 (fun d d1 d2 => z d (by omega) d2), fun ⟨d, d1, d2, d3⟩ => hih.2 ⟨d, ?_, d2, d3⟩⟩
          rcases Nat.lt_or_ge c d with y | y
          · exact y
          · have : d = c := by omega
            subst this
            exact absurd ⟨r1, r2⟩ d3
        · rw [if_neg r2]
          exact ⟨fun z => absurd (z c (by omega) (by omega)).2 r2, fun _ => rfl⟩
      · rw [if_neg r1]
        exact ⟨fun z => absurd (z c (by omega) (by omega)).1 r1, fun _ => rfl⟩
theorem ex_not {n : Nat} {p : Nat → Prop} (h : ¬ ∀ d, d ≤ n → p d) : ∃ d, d ≤ n ∧ ¬ p d := by
  rcases Classical.em (∃ d, d ≤ n ∧ ¬ p d) with q | q
  · exact q
  · exact absurd (fun d hd => by
      rcases Classical.em (p d) with r | r
      · exact r
      · exact absurd ⟨d, hd, r⟩ q) h
theorem p_isRest {a w : Nat} (hF : 200000 ≤ F) (hA : rAct a σ τ) (hL : rLaw a w σ τ) (i j : Nat) (hi : i ≤ a) (hj : j ≤ a) : (isR σ a w i j → f_X0_isRest F σ (om i) (om j) = some (1, σ)) ∧ (¬ isR σ a w i j → f_X0_isRest F σ (om i) (om j) = some (0, σ)) := by
  have ha := hA.1
  unfold f_X0_isRest s_X0_isRest_0
  rw [kb_eq (p_gainIf hF hA hL i j 0 hi hj 0 rfl (by omega)), kb_eq (p_gainIf hF hA hL i j 1 hi hj 1 rfl (by omega))]
  have e := p_isRest_loop (F := F) hF hA hL i j hi hj F 0 (by omega) (by omega)
  rw [om_0] at e
  refine ⟨fun h => e.1 (fun d _ d2 => h d d2), fun h => e.2 ?_⟩
  obtain ⟨d, d1, d2⟩ := ex_not h
  exact ⟨d, by omega, d1, d2⟩
theorem p8_isRest_loop {a w : Nat} (hF : 200000 ≤ F) (hA : rAct a σ τ) (hL : rLaw a w σ τ) (i j : Nat) (hi : i ≤ a) (hj : j ≤ a) :
    ∀ (f c : Nat) (x : Int32), c ≤ a + 1 → a + 1 - c < f → ((x = 1 ∧ ∀ d, d < c → okR σ a w i j d) ∨ (x = 0 ∧ ∃ d, d < c ∧ ¬ okR σ a w i j d)) → (isR σ a w i j → itr (fun rec5 q => s_X8_isRest_5 F rec5 q.1 q.2.1 q.2.2.1 q.2.2.2.1 q.2.2.2.2) f (τ, om i, om j, x, om c) = some (1, τ)) ∧ (¬ isR σ a w i j → itr (fun rec5 q => s_X8_isRest_5 F rec5 q.1 q.2.1 q.2.2.1 q.2.2.2.1 q.2.2.2.2) f (τ, om i, om j, x, om c) = some (0, τ)) := by
  have ha := hA.1
  intro f
  induction f with
  | zero => intro c x _ h; omega
  | succ f ih =>
    intro c x hc hf hx
    have e0 : itr (fun rec5 q => s_X8_isRest_5 F rec5 q.1 q.2.1 q.2.2.1 q.2.2.2.1 q.2.2.2.2) (f + 1) (τ, om i, om j, x, om c) = s_X8_isRest_5 F (itr (fun rec5 q => s_X8_isRest_5 F rec5 q.1 q.2.1 q.2.2.1 q.2.2.2.1 q.2.2.2.2) f) τ (om i) (om j) x (om c) := rfl
    rw [e0]
    unfold s_X8_isRest_5 s_X8_isRest_60 s_X8_isRest_61
    rw [hA.2.2.1]
    have hle := om_le (a := a) (k := c) (by omega) (by omega)
    have hxx : x &&& 1 = x := by rcases hx with ⟨rfl, -⟩ | ⟨rfl, -⟩ <;> rfl
    by_cases q : a + 1 ≤ c
    · rw [if_pos (hle.mpr q), if_pos hxx]
      rcases hx with ⟨rfl, r⟩ | ⟨rfl, d, d1, d2⟩
      · exact ⟨fun _ => rfl, fun z => absurd (fun d hd => r d (by omega)) z⟩
      · exact ⟨fun z => absurd (z d (by omega)) d2, fun _ => rfl⟩
    · rw [if_neg (fun z => q (hle.mp z))]
      rcases hx with ⟨rfl, r⟩ | ⟨rfl, d, d1, d2⟩
      · rw [if_neg k10, kb_eq (p8_gains hF hA hL c j 0 (by omega) hj 0 rfl (by omega)), kb_eq (p8_gains hF hA hL i j 0 hi hj 0 rfl (by omega))]
        have t1 := fa_lt (gF σ a w 0 i j) (gF σ a w 0 c j)
        have u1 := fa_le (gF σ a w 0 c j) (gF σ a w 0 i j)
        by_cases r1 : gF σ a w 0 c j ≤ gF σ a w 0 i j
        · rw [if_neg (fun z => by have := t1.mp z; have := u1.mp r1; omega), kb_eq (p8_gains hF hA hL i c 1 hi (by omega) 1 rfl (by omega)), kb_eq (p8_gains hF hA hL i j 1 hi hj 1 rfl (by omega))]
          have t2 := fa_lt (gF σ a w 1 i j) (gF σ a w 1 i c)
          have u2 := fa_le (gF σ a w 1 i c) (gF σ a w 1 i j)
          by_cases r2 : gF σ a w 1 i c ≤ gF σ a w 1 i j
          · rw [if_neg (fun z => by have := t2.mp z; have := u2.mp r2; omega), om_1]
            refine ih (c + 1) 1 (by omega) (by omega) (Or.inl ⟨rfl, fun d hd => ?_⟩)
            by_cases y : d < c
            · exact r d y
            · have : d = c := by omega
              subst this
              exact ⟨r1, r2⟩
          · rw [if_pos (t2.mpr (Int.not_le.mp (fun z => r2 (u2.mpr z)))), om_1]
            exact ih (c + 1) 0 (by omega) (by omega) (Or.inr ⟨rfl, c, by omega, fun z => r2 z.2⟩)
        · rw [if_pos (t1.mpr (Int.not_le.mp (fun z => r1 (u1.mpr z)))), om_1]
          exact ih (c + 1) 0 (by omega) (by omega) (Or.inr ⟨rfl, c, by omega, fun z => r1 z.1⟩)
      · rw [if_pos k00, om_1]
        exact ih (c + 1) 0 (by omega) (by omega) (Or.inr ⟨rfl, d, by omega, d2⟩)
theorem p8_isRest {a w : Nat} (hF : 200000 ≤ F) (hA : rAct a σ τ) (hL : rLaw a w σ τ) (i j : Nat) (hi : i ≤ a) (hj : j ≤ a) : (isR σ a w i j → f_X8_isRest F τ (om i) (om j) = some (1, τ)) ∧ (¬ isR σ a w i j → f_X8_isRest F τ (om i) (om j) = some (0, τ)) := by
  have ha := hA.1
  have e := p8_isRest_loop (F := F) hF hA hL i j hi hj F 0 1 (by omega) (by omega) (Or.inl ⟨rfl, fun d hd => by omega⟩)
  rw [om_0] at e
  exact e
/-- counting: both loops step alike -/
theorem q_restCount_in {a w : Nat} (hF : 200000 ≤ F) (hA : rAct a σ τ) (hL : rLaw a w σ τ) (i : Nat) (hi : i ≤ a) (rc : kS × Int32 × Int32 → Option (Int32 × kS)) (rm : kS × Int32 × Int32 × Int32 → Option (Int32 × kS)) (hr : ∀ x : Int32, ∃ v, rc (σ, x, om (i + 1)) = some (v, σ) ∧ rm (τ, 0, x, om (i + 1)) = some (v, τ)) :
    ∀ (f j : Nat) (x : Int32), j ≤ a + 1 → a + 1 - j < f → ∃ v, itr (fun rec17 q => s_X0_restCount_17 F rc rec17 q.1 q.2.1 q.2.2.1 q.2.2.2) f (σ, x, om i, om j) = some (v, σ) ∧ itr (fun rec31 q => s_X8_rests_31 F rm rec31 q.1 q.2.1 q.2.2.1 q.2.2.2.1 q.2.2.2.2) f (τ, 0, x, om i, om j) = some (v, τ) := by
  have ha := hA.1
  intro f
  induction f with
  | zero => intro j x _ h; omega
  | succ f ih =>
    intro j x hj hf
    show ∃ v, s_X0_restCount_17 F rc (itr (fun rec17 q => s_X0_restCount_17 F rc rec17 q.1 q.2.1 q.2.2.1 q.2.2.2) f) σ x (om i) (om j) = some (v, σ) ∧ s_X8_rests_31 F rm (itr (fun rec31 q => s_X8_rests_31 F rm rec31 q.1 q.2.1 q.2.2.1 q.2.2.2.1 q.2.2.2.2) f) τ 0 x (om i) (om j) = some (v, τ)
    unfold s_X0_restCount_17 s_X8_rests_31 s_X0_restCount_40 s_X8_rests_85
    rw [hA.2.1, hA.2.2.1]
    have hle := om_le (a := a) (k := j) (by omega) (by omega)
    by_cases q : a + 1 ≤ j
    · rw [if_pos (hle.mpr q), if_pos (hle.mpr q), om_1]
      exact hr x
    · rw [if_neg (fun z => q (hle.mp z)), if_neg (fun z => q (hle.mp z)), om_1]
      have e1 := p_isRest hF hA hL i j hi (by omega)
      have e2 := p8_isRest hF hA hL i j hi (by omega)
      by_cases c : isR σ a w i j
      · rw [kb_eq (e1.1 c), kb_eq (e2.1 c), if_neg k10, if_neg k10, if_pos (show (0 : Int32) ≤ 0 by decide)]
        exact ih (j + 1) (x + 1) (by omega) (by omega)
      · rw [kb_eq (e1.2 c), kb_eq (e2.2 c), if_pos k00, if_pos k00]
        exact ih (j + 1) x (by omega) (by omega)
theorem q_restCount {a w : Nat} (hF : 200000 ≤ F) (hA : rAct a σ τ) (hL : rLaw a w σ τ) :
    ∀ (f i : Nat) (x : Int32), i ≤ a + 1 → a + 1 - i < f → ∃ v, itr (fun rec4 q => s_X0_restCount_4 F rec4 q.1 q.2.1 q.2.2) f (σ, x, om i) = some (v, σ) ∧ itr (fun rec18 q => s_X8_rests_18 F rec18 q.1 q.2.1 q.2.2.1 q.2.2.2) f (τ, 0, x, om i) = some (v, τ) := by
  have ha := hA.1
  intro f
  induction f with
  | zero => intro i x _ h; omega
  | succ f ih =>
    intro i x hi hf
    show ∃ v, s_X0_restCount_4 F (itr (fun rec4 q => s_X0_restCount_4 F rec4 q.1 q.2.1 q.2.2) f) σ x (om i) = some (v, σ) ∧ s_X8_rests_18 F (itr (fun rec18 q => s_X8_rests_18 F rec18 q.1 q.2.1 q.2.2.1 q.2.2.2) f) τ 0 x (om i) = some (v, τ)
    unfold s_X0_restCount_4 s_X8_rests_18 f_X0_restCount_17 f_X8_rests_31
    rw [hA.2.1, hA.2.2.1]
    have hle := om_le (a := a) (k := i) (by omega) (by omega)
    by_cases q : a + 1 ≤ i
    · rw [if_pos (hle.mpr q), if_pos (hle.mpr q), if_pos rfl]
      exact ⟨_, rfl, rfl⟩
    · rw [if_neg (fun z => q (hle.mp z)), if_neg (fun z => q (hle.mp z))]
      exact q_restCount_in hF hA hL i (by omega) _ _ (fun x => ih (i + 1) x (by omega) (by omega)) F 0 x (by omega) (by omega)
def pz (v : Int32) : Int32 := if 0 ≤ v then v else -4
theorem q_first_in {a w : Nat} (hF : 200000 ≤ F) (hA : rAct a σ τ) (hL : rLaw a w σ τ) (i : Nat) (hi : i ≤ a) (k wh : Int32) (hw : (k = 0 ∧ wh = 1) ∨ (k = 1 ∧ wh = 2)) (rc : kS × Int32 × Int32 → Option (Int32 × kS)) (rm : kS × Int32 × Int32 × Int32 → Option (Int32 × kS)) (hr : ∃ v, rc (σ, k, om (i + 1)) = some (v, σ) ∧ rm (τ, wh, 0, om (i + 1)) = some (pz v, τ)) :
    ∀ (f j : Nat), j ≤ a + 1 → a + 1 - j < f → ∃ v, itr (fun rec15 q => s_X0_actOfFirstRest_15 F rc rec15 q.1 q.2.1 q.2.2.1 q.2.2.2) f (σ, k, om i, om j) = some (v, σ) ∧ itr (fun rec31 q => s_X8_rests_31 F rm rec31 q.1 q.2.1 q.2.2.1 q.2.2.2.1 q.2.2.2.2) f (τ, wh, 0, om i, om j) = some (pz v, τ) := by
  have ha := hA.1
  intro f
  induction f with
  | zero => intro j _ h; omega
  | succ f ih =>
    intro j hj hf
    show ∃ v, s_X0_actOfFirstRest_15 F rc (itr (fun rec15 q => s_X0_actOfFirstRest_15 F rc rec15 q.1 q.2.1 q.2.2.1 q.2.2.2) f) σ k (om i) (om j) = some (v, σ) ∧ s_X8_rests_31 F rm (itr (fun rec31 q => s_X8_rests_31 F rm rec31 q.1 q.2.1 q.2.2.1 q.2.2.2.1 q.2.2.2.2) f) τ wh 0 (om i) (om j) = some (pz v, τ)
    unfold s_X0_actOfFirstRest_15 s_X8_rests_31 s_X8_rests_85 s_X8_rests_70
    rw [hA.2.1, hA.2.2.1]
    have hle := om_le (a := a) (k := j) (by omega) (by omega)
    by_cases q : a + 1 ≤ j
    · rw [if_pos (hle.mpr q), if_pos (hle.mpr q), om_1]
      exact hr
    · rw [if_neg (fun z => q (hle.mp z)), if_neg (fun z => q (hle.mp z)), om_1]
      have e1 := p_isRest hF hA hL i j hi (by omega)
      have e2 := p8_isRest hF hA hL i j hi (by omega)
      have fin : ∀ v : Int32, (if 0 ≤ v then some (v, τ) else some ((-4 : Int32), τ)) = some (pz v, τ) := fun v => by
        unfold pz
        by_cases c : 0 ≤ v
        · rw [if_pos c, if_pos c]
        · rw [if_neg c, if_neg c]
      by_cases c : isR σ a w i j
      · rw [kb_eq (e1.1 c), kb_eq (e2.1 c), if_neg k10, if_neg k10]
        rcases hw with ⟨rfl, rfl⟩ | ⟨rfl, rfl⟩
        · rw [if_pos k00, if_neg (show ¬ (1 : Int32) ≤ 0 by decide), if_pos rfl]
          exact ⟨om i, rfl, fin _⟩
        · rw [if_neg k10, if_neg (show ¬ (2 : Int32) ≤ 0 by decide), if_neg (show ¬ (2 : Int32) = 1 by decide)]
          exact ⟨om j, rfl, fin _⟩
      · rw [kb_eq (e1.2 c), kb_eq (e2.2 c), if_pos k00, if_pos k00]
        exact ih (j + 1) (by omega) (by omega)
theorem q_first {a w : Nat} (hF : 200000 ≤ F) (hA : rAct a σ τ) (hL : rLaw a w σ τ) (k wh : Int32) (hw : (k = 0 ∧ wh = 1) ∨ (k = 1 ∧ wh = 2)) :
    ∀ (f i : Nat), i ≤ a + 1 → a + 1 - i < f → ∃ v, itr (fun rec2 q => s_X0_actOfFirstRest_2 F rec2 q.1 q.2.1 q.2.2) f (σ, k, om i) = some (v, σ) ∧ itr (fun rec18 q => s_X8_rests_18 F rec18 q.1 q.2.1 q.2.2.1 q.2.2.2) f (τ, wh, 0, om i) = some (pz v, τ) := by
  have ha := hA.1
  intro f
  induction f with
  | zero => intro i _ h; omega
  | succ f ih =>
    intro i hi hf
    show ∃ v, s_X0_actOfFirstRest_2 F (itr (fun rec2 q => s_X0_actOfFirstRest_2 F rec2 q.1 q.2.1 q.2.2) f) σ k (om i) = some (v, σ) ∧ s_X8_rests_18 F (itr (fun rec18 q => s_X8_rests_18 F rec18 q.1 q.2.1 q.2.2.1 q.2.2.2) f) τ wh 0 (om i) = some (pz v, τ)
    unfold s_X0_actOfFirstRest_2 s_X8_rests_18 f_X0_actOfFirstRest_15 f_X8_rests_31
    rw [hA.2.1, hA.2.2.1]
    have hle := om_le (a := a) (k := i) (by omega) (by omega)
    by_cases q : a + 1 ≤ i
    · rw [if_pos (hle.mpr q), if_pos (hle.mpr q), if_neg (by rcases hw with ⟨-, rfl⟩ | ⟨-, rfl⟩ <;> decide)]
      exact ⟨-1, rfl, rfl⟩
    · rw [if_neg (fun z => q (hle.mp z)), if_neg (fun z => q (hle.mp z))]
      exact q_first_in hF hA hL i (by omega) k wh hw _ _ (ih (i + 1) (by omega) (by omega)) F 0 (by omega) (by omega)
theorem q_rests {a w : Nat} (hF : 200000 ≤ F) (hA : rAct a σ τ) (hL : rLaw a w σ τ) (x : Int32) : ∃ v, f_X7_rests F σ x = some (v, σ) ∧ f_X8_rests F τ x = some (v, τ) := by
  have ha := hA.1
  unfold f_X7_rests s_X7_rests_0 f_X8_rests s_X8_rests_0
  have e2 := p8_inI (F := F) (τ := τ) x 0 2 0 2 rfl rfl
  have a0 := fa_lt x 0
  have a2 := fa_le x 2
  have z0 : (0 : Int32).toInt = 0 := rfl
  have z2 : (2 : Int32).toInt = 2 := rfl
  rw [z0] at a0
  rw [z2] at a2
  by_cases c : x.toInt < 0
  · rw [if_pos (a0.mpr c), kb_eq (e2.2 (by omega)), if_pos k00]
    exact ⟨_, rfl, rfl⟩
  · rw [if_neg (fun q => c (a0.mp q))]
    by_cases d : x.toInt ≤ 2
    · rw [if_pos (a2.mpr d), kb_eq (e2.1 (by omega)), if_neg k10]
      obtain ⟨k, hk, rfl⟩ : ∃ k : Nat, k ≤ 2 ∧ x = nI k := ⟨x.toInt.toNat, by omega, k_i x (by omega)⟩
      rcases (show k = 0 ∨ k = 1 ∨ k = 2 by omega) with rfl | rfl | rfl
      · obtain ⟨v, v1, v2⟩ := q_restCount (F := F) hF hA hL F 0 0 (by omega) (by omega)
        have f1 : f_X0_restCount F σ = some (v, σ) := v1
        rw [if_pos (show nI 0 = 0 from rfl), kb_eq f1]
        exact ⟨v, rfl, v2⟩
      · obtain ⟨v, v1, v2⟩ := q_first (F := F) hF hA hL 0 1 (Or.inl ⟨rfl, rfl⟩) F 0 (by omega) (by omega)
        have f1 : f_X0_actOfFirstRest F σ 0 = some (v, σ) := v1
        rw [if_neg (show ¬ nI 1 = 0 by decide), if_pos (show nI 1 = 1 from rfl)]
        unfold s_X7_rests_37
        rw [kb_eq f1]
        refine ⟨pz v, ?_, v2⟩
        unfold pz
        by_cases c : 0 ≤ v
        · rw [if_pos c, if_pos c]
        · rw [if_neg c, if_neg c]
      · obtain ⟨v, v1, v2⟩ := q_first (F := F) hF hA hL 1 2 (Or.inr ⟨rfl, rfl⟩) F 0 (by omega) (by omega)
        have f1 : f_X0_actOfFirstRest F σ 1 = some (v, σ) := v1
        rw [if_neg (show ¬ nI 2 = 0 by decide), if_neg (show ¬ nI 2 = 1 by decide)]
        unfold s_X7_rests_37
        rw [kb_eq f1]
        refine ⟨pz v, ?_, v2⟩
        unfold pz
        by_cases c : 0 ≤ v
        · rw [if_pos c, if_pos c]
        · rw [if_neg c, if_neg c]
    · rw [if_neg (fun q => d (a2.mp q)), kb_eq (e2.2 (by omega)), if_pos k00]
      exact ⟨_, rfl, rfl⟩
end

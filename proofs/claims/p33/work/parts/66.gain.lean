/-! gains -/
section
variable {F : Nat} {σ τ : kS}
def dg (w i : Nat) : Nat := w / 4 ^ i % 4
theorem dg_lt (w i : Nat) : dg w i < 4 := Nat.mod_lt _ (by omega)
theorem dg_sh (w i : Nat) : dg w i = (w >>> (2 * i)) % 2 ^ 2 := by
  unfold dg
  rw [Nat.shiftRight_eq_div_pow, Nat.pow_mul]
theorem dg_and (a b i : Nat) : dg (a &&& b) i = dg a i &&& dg b i := by
  rw [dg_sh, dg_sh, dg_sh, Nat.shiftRight_and_distrib, Nat.and_mod_two_pow]
theorem dg_or (a b i : Nat) : dg (a ||| b) i = dg a i ||| dg b i := by
  rw [dg_sh, dg_sh, dg_sh, Nat.shiftRight_or_distrib, Nat.or_mod_two_pow]
theorem dg_xor (a b i : Nat) : dg (a ^^^ b) i = dg a i ^^^ dg b i := by
  rw [dg_sh, dg_sh, dg_sh, Nat.shiftRight_xor_distrib, Nat.xor_mod_two_pow]
theorem dg_one : ∀ k, k < 4 → ∀ i, i < 6 → ∀ j, j < 6 → dg (k * 4 ^ i) j = if j = i then k else 0 := by decide +kernel
theorem dg_all : ∀ j, j < 6 → dg 4294967295 j = 3 := by decide +kernel
theorem p_lawOf2 (w i : Nat) (hi : i < 6) (hw : w < 2 ^ 31) : f_X7_lawOf F σ (nI w) (nI i) = some (nI (dg w i), σ) := by
  unfold f_X7_lawOf s_X7_lawOf_0 dg
  have key : nI w >>> (((2 : Int32) * nI i) &&& 31) = nI (w / 4 ^ i) := by
    rw [show (4 : Nat) ^ i = 2 ^ (2 * i) by rw [Nat.pow_mul]]
    refine pk_shrN hw _ (2 * i) ?_
    rcases (show i = 0 ∨ i = 1 ∨ i = 2 ∨ i = 3 ∨ i = 4 ∨ i = 5 by omega) with rfl | rfl | rfl | rfl | rfl | rfl <;> decide
  rw [key, pk_andN (by have := Nat.div_le_self w (4 ^ i); omega) 2 (by decide)]
theorem p_lawBits (k i : Nat) (x y : Int32) (hx : x = nI i) (hy : y = nI k) (hi : i < 6) (hk : k < 4) : f_X7_lawBits F σ x y = some (nI (k * 4 ^ i), σ) := by
  subst hx
  subst hy
  unfold f_X7_lawBits s_X7_lawBits_0
  rw [show (4 : Nat) ^ i = 2 ^ (2 * i) by rw [Nat.pow_mul]]
  rw [pk_shlN _ (2 * i) (by rcases (show i = 0 ∨ i = 1 ∨ i = 2 ∨ i = 3 ∨ i = 4 ∨ i = 5 by omega) with rfl | rfl | rfl | rfl | rfl | rfl <;> decide) (by
    have : (2 : Nat) ^ (2 * i) ≤ 2 ^ 10 := Nat.pow_le_pow_right (by omega) (by omega)
    have h2 : k * 2 ^ (2 * i) ≤ 3 * 2 ^ 10 := Nat.mul_le_mul (by omega) this
    omega)]
/-- digits without those of k at i -/
def wo (w k i : Nat) : Nat := w &&& (k * 4 ^ i ^^^ 4294967295)
theorem wo_I (w k i : Nat) : nI w &&& (nI (k * 4 ^ i) ^^^ (-1)) = nI (wo w k i) := by
  have h : (-1 : Int32) = nI 4294967295 := by decide
  rw [h, fb_xorI, fa_and]
  rfl
theorem wo_lt {w : Nat} (h : w < 4096) (k i : Nat) : wo w k i < 4096 := Nat.lt_of_le_of_lt Nat.and_le_left h
theorem wo_dg (w : Nat) {k i j : Nat} (hk : k < 4) (hi : i < 6) (hj : j < 6) : dg (wo w k i) j = if j = i then dg w j &&& (k ^^^ 3) else dg w j := by
  unfold wo
  rw [dg_and, dg_xor, dg_one k hk i hi j hj, dg_all j hj]
  by_cases c : j = i
  · rw [if_pos c, if_pos c]
  · rw [if_neg c, if_neg c]
    have := dg_lt w j
    rcases (show dg w j = 0 ∨ dg w j = 1 ∨ dg w j = 2 ∨ dg w j = 3 by omega) with e | e | e | e <;> rw [e] <;> rfl
/-- what an act is worth to a king -/
def wv (σ : kS) (kg i : Nat) : Int := (kA σ 3 (5 * i + 3 + kg)).toInt - 50
def gS (σ : kS) (kg : Nat) (d : Nat → Nat) (n : Nat) : Int := fb_si (fun i => if d i = 0 then 0 else wv σ kg i) n
theorem wv_b {a : Nat} (hA : rAct a σ τ) {kg i : Nat} (hk : kg < 2) (hi : i < a) : -50 ≤ wv σ kg i ∧ wv σ kg i ≤ 49 := by
  obtain ⟨-, -, -, -, h⟩ := hA
  obtain ⟨-, -, ⟨u1, u2⟩, ⟨v1, v2⟩⟩ := h i hi
  unfold wv
  rcases (show kg = 0 ∨ kg = 1 by omega) with rfl | rfl
  · rw [Nat.add_zero]; omega
  · rw [show 5 * i + 3 + 1 = 5 * i + 4 by omega]; omega
theorem gS_b {a : Nat} (hA : rAct a σ τ) {kg : Nat} (hk : kg < 2) (d : Nat → Nat) (n : Nat) (hn : n ≤ a) : -300 ≤ gS σ kg d n ∧ gS σ kg d n ≤ 300 := by
  have ha := hA.1
  have := fb_si_bound (f := fun i => if d i = 0 then 0 else wv σ kg i) (c := 50) (by omega) (n := n) (fun k hk2 => by
    have h := wv_b hA hk (i := k) (by omega)
    by_cases c : d k = 0
    · rw [if_pos c]; omega
    · rw [if_neg c]; omega)
  unfold gS
  omega
theorem p_worth {a : Nat} (hA : rAct a σ τ) (kg i : Nat) (x y : Int32) (hx : x = nI i) (hy : y = nI kg) (hk : kg < 2) (hi : i < a) : f_X2_worth F σ x y = some (Int32.ofInt (wv σ kg i), σ) := by
  have hb := wv_b hA hk hi
  have ha := hA.1
  subst hx
  subst hy
  unfold f_X2_worth s_X2_worth_0 s_X2_worth_11
  have hv : ∀ v : Int32, v = kA σ 3 (5 * i + 3 + kg) → v - 50 = Int32.ofInt (wv σ kg i) := by
    intro v e
    have z : (50 : Int32).toInt = 50 := rfl
    have hr := fb_rng v
    unfold wv at hb ⊢
    rw [← e] at hb ⊢
    rw [fa_eq, fb_ofI (by omega) (by omega), fb_subI (by omega) (by omega), z]
  rcases (show kg = 0 ∨ kg = 1 by omega) with rfl | rfl
  · rw [if_pos (show nI 0 = 0 from rfl), kb_eq (p_numberOf i 3 (nI i) 3 rfl rfl (by omega) (by omega)), hv _ rfl]
  · rw [if_neg (show ¬ nI 1 = 0 by decide), kb_eq (p_numberOf i 4 (nI i) 4 rfl rfl (by omega) (by omega)), hv _ rfl]
theorem p8_worth {a : Nat} (hA : rAct a σ τ) (kg i : Nat) (x y : Int32) (hx : x = nI i) (hy : y = nI kg) (hk : kg < 2) (hi : i < a) : f_X8_worth F τ x y = some (Int32.ofInt (wv σ kg i), τ) := by
  have hb := wv_b hA hk hi
  obtain ⟨⟨ha1, ha2⟩, -, -, hA3, -⟩ := hA
  subst hx
  subst hy
  unfold f_X8_worth s_X8_worth_0
  rw [ix5 i 3 3 rfl, nI_add, if_neg (nI_in (by omega) (by omega)), nI_clamp (by omega), hA3 _ (by omega)]
  have z : (50 : Int32).toInt = 50 := rfl
  unfold wv at hb ⊢
  have e : kA σ 3 (5 * i + 3 + kg) - 50 = Int32.ofInt ((kA σ 3 (5 * i + 3 + kg)).toInt - 50) := by
    rw [fa_eq, fb_ofI (by omega) (by omega), fb_subI (by omega) (by omega), z]
  rw [e]
theorem k_ofadd {x y : Int} (h1 : -100000 ≤ x) (h2 : x ≤ 100000) (h3 : -100000 ≤ y) (h4 : y ≤ 100000) : Int32.ofInt x + Int32.ofInt y = Int32.ofInt (x + y) := by
  rw [fa_eq, fb_addI (by rw [fb_ofI (by omega) (by omega), fb_ofI (by omega) (by omega)]; omega) (by rw [fb_ofI (by omega) (by omega), fb_ofI (by omega) (by omega)]; omega), fb_ofI (by omega) (by omega), fb_ofI (by omega) (by omega), fb_ofI (by omega) (by omega)]
theorem p_gainUnder_loop {a : Nat} (hA : rAct a σ τ) (w : Nat) (hw : w < 4096) (kg : Nat) (hk : kg < 2) : ∀ (f g : Nat), g ≤ a → a - g < f → itr (fun rec5 q => s_X0_gainUnder_5 F rec5 q.1 q.2.1 q.2.2.1 q.2.2.2.1 q.2.2.2.2) f (σ, nI w, nI kg, Int32.ofInt (gS σ kg (dg w) g), nI g) = some (Int32.ofInt (gS σ kg (dg w) a), σ) := by
  have ha := hA.1
  have h14 := hA.2.1
  intro f
  induction f with
  | zero => intro g _ h; omega
  | succ f ih =>
    intro g hg hf
    show s_X0_gainUnder_5 F _ σ (nI w) (nI kg) (Int32.ofInt (gS σ kg (dg w) g)) (nI g) = _
    unfold s_X0_gainUnder_5
    have hle := nI_leI (a := a) (b := g) (by omega) (by omega)
    rw [h14]
    by_cases c : a ≤ g
    · have : g = a := by omega
      rw [if_pos (hle.mpr c), this]
    · rw [if_neg (fun q => c (hle.mp q)), kb_eq (p_lawOf2 w g (by omega) (by omega))]
      unfold s_X0_gainUnder_39
      have hs : gS σ kg (dg w) (g + 1) = gS σ kg (dg w) g + if dg w g = 0 then 0 else wv σ kg g := fb_si_succ _ g
      have e0 : (nI (dg w g) = 0) ↔ dg w g = 0 := nI_eq (b := 0) (by have := dg_lt w g; omega) (by omega)
      have hih := ih (g + 1) (by omega) (by omega)
      by_cases c0 : dg w g = 0
      · rw [if_pos (e0.mpr c0), nI_1]
        rw [if_pos c0, Int.add_zero] at hs
        rw [hs] at hih
        exact hih
      · rw [if_neg (fun q => c0 (e0.mp q)), kb_eq (p_worth hA kg g (nI g) (nI kg) rfl rfl hk (by omega)), nI_1]
        rw [if_neg c0] at hs
        have b1 := gS_b hA hk (dg w) g hg
        have b2 := wv_b hA hk (i := g) (by omega)
        rw [k_ofadd (by omega) (by omega) (by omega) (by omega), ← hs]
        exact hih
theorem p_gainUnder {a : Nat} (hF : 200000 ≤ F) (hA : rAct a σ τ) (w : Nat) (hw : w < 4096) (kg : Nat) (y : Int32) (hy : y = nI kg) (hk : kg < 2) : f_X0_gainUnder F σ (nI w) y = some (Int32.ofInt (gS σ kg (dg w) a), σ) := by
  subst hy
  have ha := hA.1
  exact p_gainUnder_loop (F := F) hA w hw kg hk F 0 (by omega) (by omega)
/-- the digits, if high forbids bh and low bl (by their numbers and one; 0: none) -/
def df (w bh bl : Nat) (i : Nat) : Nat := if i + 1 = bl then (if i + 1 = bh then dg w i &&& 2 else dg w i) &&& 1 else if i + 1 = bh then dg w i &&& 2 else dg w i
def om (k : Nat) : Int32 := nI k - 1
theorem om_t {k : Nat} (h : k ≤ 1000) : (om k).toInt = (k : Int) - 1 := by
  unfold om
  have z : (1 : Int32).toInt = 1 := rfl
  have e := nI_toInt (n := k) (by omega)
  rw [fb_subI (by omega) (by omega), e, z]
theorem om_1 (k : Nat) : om k + 1 = om (k + 1) := by
  unfold om
  rw [← nI_1]
  rw [Int32.sub_add_cancel, Int32.add_sub_cancel]
theorem om_s (k : Nat) : om (k + 1) = nI k := by
  unfold om
  exact nI_pred k
theorem om_0 : om 0 = -1 := rfl
theorem om_le {a k : Nat} (ha : a ≤ 100) (hk : k ≤ 100) : nI a ≤ om k ↔ a + 1 ≤ k := by
  rw [fa_le, om_t (by omega), nI_toInt (by omega)]; omega
theorem om_lt0 {k : Nat} (hk : k ≤ 100) : om k < 0 ↔ k = 0 := by
  have z : (0 : Int32).toInt = 0 := rfl
  rw [fa_lt, om_t (by omega), z]; omega
theorem om_eq {i k : Nat} (hi : i ≤ 100) (hk : k ≤ 100) : nI i = om k ↔ i + 1 = k := by
  rw [fa_eq, om_t (by omega), nI_toInt (by omega)]; omega
theorem gS_cong (σ : kS) (kg : Nat) {d e : Nat → Nat} {n : Nat} (h : ∀ i, i < n → (d i = 0 ↔ e i = 0)) : gS σ kg d n = gS σ kg e n := by
  unfold gS
  apply fb_si_cong
  intro i hi
  by_cases c : d i = 0
  · rw [if_pos c, if_pos ((h i hi).mp c)]
  · rw [if_neg c, if_neg (fun q => c ((h i hi).mpr q))]
/-- the gain of a king, if high forbids bh and low bl -/
def gF (σ : kS) (a w kg bh bl : Nat) : Int32 := Int32.ofInt (gS σ kg (df w bh bl) a)
theorem p_gainIf {a w : Nat} (hF : 200000 ≤ F) (hA : rAct a σ τ) (hL : rLaw a w σ τ) (bh bl kg : Nat) (hh : bh ≤ a) (hl : bl ≤ a) (y : Int32) (hy : y = nI kg) (hk : kg < 2) : f_X0_gainIfForbidden F σ (om bh) (om bl) y = some (gF σ a w kg bh bl, σ) := by
  have ha := hA.1
  obtain ⟨hL1, hL2, -⟩ := hL
  have fin : ∀ w' : Nat, w' < 4096 → (∀ i, i < a → (dg w' i = 0 ↔ df w bh bl i = 0)) → s_X0_gainIfForbidden_41 F σ y (nI w') = some (gF σ a w kg bh bl, σ) := by
    intro w' hw' hd
    unfold s_X0_gainIfForbidden_41 gF
    rw [kb_eq (p_gainUnder hF hA w' hw' kg y hy hk), gS_cong σ kg hd]
  have mid : ∀ w' : Nat, w' < 4096 → (∀ i, i < a → dg w' i = if i + 1 = bh then dg w i &&& 2 else dg w i) → s_X0_gainIfForbidden_25 F σ (om bl) y (nI w') = some (gF σ a w kg bh bl, σ) := by
    intro w' hw' hd
    unfold s_X0_gainIfForbidden_25
    by_cases c : bl = 0
    · rw [if_pos ((om_lt0 (by omega)).mpr c)]
      refine fin w' hw' (fun i hi => ?_)
      unfold df
      rw [hd i hi, if_neg (show ¬ i + 1 = bl by omega)]
    · obtain ⟨b, rfl⟩ : ∃ b, bl = b + 1 := ⟨bl - 1, by omega⟩
      rw [if_neg (fun q => c ((om_lt0 (by omega)).mp q)), om_s, kb_eq (p_lawBits 2 b (nI b) 2 rfl rfl (by omega) (by omega)), kn_eq, wo_I]
      refine fin _ (wo_lt hw' 2 b) (fun i hi => ?_)
      rw [wo_dg w' (by omega) (by omega) (by omega), hd i hi]
      unfold df
      by_cases d : i = b
      · subst d; rw [if_pos rfl, if_pos rfl]; exact Iff.rfl
      · rw [if_neg d, if_neg (show ¬ i + 1 = b + 1 by omega)]
  unfold f_X0_gainIfForbidden s_X0_gainIfForbidden_0
  rw [hL1]
  by_cases c : bh = 0
  · rw [if_pos ((om_lt0 (by omega)).mpr c)]
    exact mid w hL2 (fun i hi => by rw [if_neg (by omega)])
  · obtain ⟨b, rfl⟩ : ∃ b, bh = b + 1 := ⟨bh - 1, by omega⟩
    rw [if_neg (fun q => c ((om_lt0 (by omega)).mp q)), om_s, kb_eq (p_lawBits 1 b (nI b) 1 rfl rfl (by omega) (by omega)), kn_eq, wo_I]
    refine mid _ (wo_lt hL2 1 b) (fun i hi => ?_)
    rw [wo_dg w (by omega) (by omega) (by omega)]
    by_cases d : i = b
    · subst d; rw [if_pos rfl, if_pos rfl]; rfl
    · rw [if_neg d, if_neg (by omega)]
theorem p8_gains_loop {a w : Nat} (hA : rAct a σ τ) (hL : rLaw a w σ τ) (bh bl kg : Nat) (hh : bh ≤ a) (hl : bl ≤ a) (hk : kg < 2) : ∀ (f g : Nat), g ≤ a → a - g < f → itr (fun rec6 q => s_X8_gains_6 F rec6 q.1 q.2.1 q.2.2.1 q.2.2.2.1 q.2.2.2.2.1 q.2.2.2.2.2) f (τ, nI kg, om bh, om bl, Int32.ofInt (gS σ kg (df w bh bl) g), nI g) = some (gF σ a w kg bh bl, τ) := by
  have ha := hA.1
  have h20 := hA.2.2.1
  have hL3 := hL.2.2
  intro f
  induction f with
  | zero => intro g _ h; omega
  | succ f ih =>
    intro g hg hf
    show s_X8_gains_6 F _ τ (nI kg) (om bh) (om bl) (Int32.ofInt (gS σ kg (df w bh bl) g)) (nI g) = _
    unfold s_X8_gains_6
    have hle := nI_leI (a := a) (b := g) (by omega) (by omega)
    rw [h20]
    by_cases c : a ≤ g
    · have : g = a := by omega
      rw [if_pos (hle.mpr c), this]; rfl
    · have hs : gS σ kg (df w bh bl) (g + 1) = gS σ kg (df w bh bl) g + if df w bh bl g = 0 then 0 else wv σ kg g := fb_si_succ _ g
      have hih := ih (g + 1) (by omega) (by omega)
      have hdl := dg_lt w g
      have b1 := gS_b hA hk (df w bh bl) g hg
      have b2 := wv_b hA hk (i := g) (by omega)
      have fin : ∀ d : Nat, d < 4 → d = df w bh bl g → s_X8_gains_58 F (itr (fun rec6 q => s_X8_gains_6 F rec6 q.1 q.2.1 q.2.2.1 q.2.2.2.1 q.2.2.2.2.1 q.2.2.2.2.2) f) τ (nI kg) (om bh) (om bl) (Int32.ofInt (gS σ kg (df w bh bl) g)) (nI g) (nI d) = some (gF σ a w kg bh bl, τ) := by
        intro d hd4 hd
        unfold s_X8_gains_58 s_X8_gains_78
        have e0 : (nI d = 0) ↔ d = 0 := nI_eq (b := 0) (by omega) (by omega)
        rw [← hd] at hs
        by_cases c0 : d = 0
        · rw [if_pos (e0.mpr c0), nI_1]
          rw [if_pos c0] at hs
          have z : (0 : Int32) = Int32.ofInt 0 := rfl
          rw [z, k_ofadd (by omega) (by omega) (by omega) (by omega), ← hs]
          exact hih
        · rw [if_neg (fun q => c0 (e0.mp q)), kb_eq (p8_worth hA kg g (nI g) (nI kg) rfl rfl hk (by omega)), nI_1]
          rw [if_neg c0] at hs
          rw [k_ofadd (by omega) (by omega) (by omega) (by omega), ← hs]
          exact hih
      have n2 : ∀ d : Nat, d < 4 → nI d &&& (2 : Int32) = nI (d &&& 2) ∧ d &&& 2 < 4 := fun d hd => ⟨fa_and d 2, Nat.lt_of_le_of_lt Nat.and_le_left hd⟩
      have n1 : ∀ d : Nat, d < 4 → nI d &&& (1 : Int32) = nI (d &&& 1) ∧ d &&& 1 < 4 := fun d hd => ⟨fa_and d 1, Nat.lt_of_le_of_lt Nat.and_le_left hd⟩
      have eh := om_eq (i := g) (k := bh) (by omega) (by omega)
      have el := om_eq (i := g) (k := bl) (by omega) (by omega)
      rw [if_neg (fun q => c (hle.mp q)), if_neg (nI_in (by omega) (by omega)), nI_clamp (by omega), kn_eq, hL3 g (by omega)]
      show (if nI g = om bh then s_X8_gains_41 F _ τ (nI kg) (om bh) (om bl) _ (nI g) (nI (dg w g) &&& 2) else s_X8_gains_41 F _ τ (nI kg) (om bh) (om bl) _ (nI g) (nI (dg w g))) = _
      unfold s_X8_gains_41
      by_cases ch : g + 1 = bh
      · rw [if_pos (eh.mpr ch), (n2 _ hdl).1]
        by_cases cl : g + 1 = bl
        · rw [if_pos (el.mpr cl), (n1 _ (n2 _ hdl).2).1]
          exact fin _ (n1 _ (n2 _ hdl).2).2 (by unfold df; rw [if_pos cl, if_pos ch])
        · rw [if_neg (fun q => cl (el.mp q))]
          exact fin _ (n2 _ hdl).2 (by unfold df; rw [if_neg cl, if_pos ch])
      · rw [if_neg (fun q => ch (eh.mp q))]
        by_cases cl : g + 1 = bl
        · rw [if_pos (el.mpr cl), (n1 _ hdl).1]
          exact fin _ (n1 _ hdl).2 (by unfold df; rw [if_pos cl, if_neg ch])
        · rw [if_neg (fun q => cl (el.mp q))]
          exact fin _ hdl (by unfold df; rw [if_neg cl, if_neg ch])
theorem p8_gains {a w : Nat} (hF : 200000 ≤ F) (hA : rAct a σ τ) (hL : rLaw a w σ τ) (bh bl kg : Nat) (hh : bh ≤ a) (hl : bl ≤ a) (y : Int32) (hy : y = nI kg) (hk : kg < 2) : f_X8_gains F τ y (om bh) (om bl) = some (gF σ a w kg bh bl, τ) := by
  subst hy
  have ha := hA.1
  exact p8_gains_loop (F := F) hA hL bh bl kg hh hl hk F 0 (by omega) (by omega)
end

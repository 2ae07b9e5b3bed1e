/-! firm sets, treaties -/
section
variable {F : Nat} {σ τ : kS}
def bt (s g : Nat) : Nat := s / 2 ^ g % 2
theorem bt_I {s g : Nat} (hs : s < 64) (hg : g < 6) : (nI s >>> (nI g &&& 31)) &&& 1 = nI (bt s g) := by
  have key : nI s >>> (nI g &&& 31) = nI (s / 2 ^ g) := by
    refine pk_shrN (by omega) _ g ?_
    rcases (show g = 0 ∨ g = 1 ∨ g = 2 ∨ g = 3 ∨ g = 4 ∨ g = 5 by omega) with rfl | rfl | rfl | rfl | rfl | rfl <;> decide
  rw [key, pk_andN (by have := Nat.div_le_self s (2 ^ g); omega) 1 (by decide)]
  rfl
theorem bt_2 (s g : Nat) : bt s g = 0 ∨ bt s g = 1 := by
  have := Nat.mod_lt (s / 2 ^ g) (show 0 < 2 by omega)
  unfold bt
  omega
theorem bt_1 {s g : Nat} (hs : s < 64) (hg : g < 6) : ((nI s >>> (nI g &&& 31)) &&& 1) = 1 ↔ bt s g = 1 := by
  rw [bt_I hs hg]
  exact nI_eq (b := 1) (by have := bt_2 s g; omega) (by omega)
theorem bt_0 {s g : Nat} (hs : s < 64) (hg : g < 6) : ((nI s >>> (nI g &&& 31)) &&& 1) = 0 ↔ bt s g = 0 := by
  rw [bt_I hs hg]
  exact nI_eq (b := 0) (by have := bt_2 s g; omega) (by omega)
def tW (w s : Nat) : Nat → Nat
  | 0 => w
  | g + 1 => if bt s g = 1 then tW w s g ||| 3 * 4 ^ g else tW w s g
theorem tW_succ (w s g : Nat) : tW w s (g + 1) = if bt s g = 1 then tW w s g ||| 3 * 4 ^ g else tW w s g := rfl
theorem tW_lt {w : Nat} (hw : w < 4096) (s : Nat) : ∀ g, g ≤ 6 → tW w s g < 4096
  | 0, _ => hw
  | g + 1, h => by
    have ih := tW_lt hw s g (by omega)
    unfold tW
    by_cases c : bt s g = 1
    · rw [if_pos c]
      have h1 : 3 * 4 ^ g < 2 ^ 12 := by
        rcases (show g = 0 ∨ g = 1 ∨ g = 2 ∨ g = 3 ∨ g = 4 ∨ g = 5 by omega) with rfl | rfl | rfl | rfl | rfl | rfl <;> decide
      exact Nat.or_lt_two_pow (n := 12) ih h1
    · rw [if_neg c]; exact ih
theorem tW_dg (w s : Nat) : ∀ g, g ≤ 6 → ∀ i, i < 6 → dg (tW w s g) i = if i < g ∧ bt s i = 1 then 3 else dg w i
  | 0, _, i, _ => by rw [if_neg (by omega)]; rfl
  | g + 1, h, i, hi => by
    have ih := tW_dg w s g (by omega) i hi
    unfold tW
    by_cases c : bt s g = 1
    · rw [if_pos c, dg_or, ih, dg_one 3 (by omega) g (by omega) i hi]
      by_cases d : i = g
      · subst d
        rw [if_neg (by omega), if_pos rfl, if_pos ⟨by omega, c⟩]
        have := dg_lt w i
        rcases (show dg w i = 0 ∨ dg w i = 1 ∨ dg w i = 2 ∨ dg w i = 3 by omega) with e | e | e | e <;> rw [e] <;> rfl
      · rw [if_neg d, Nat.or_zero]
        by_cases q : i < g ∧ bt s i = 1
        · rw [if_pos q, if_pos ⟨by omega, q.2⟩]
        · rw [if_neg q, if_neg (fun z => q ⟨by omega, z.2⟩)]
    · rw [if_neg c, ih]
      by_cases q : i < g ∧ bt s i = 1
      · rw [if_pos q, if_pos ⟨by omega, q.2⟩]
      · rw [if_neg q, if_neg (fun z => q ⟨by
          rcases Nat.lt_or_ge i g with y | y
          · exact y
          · have : i = g := by omega
            subst this
            exact absurd z.2 c, z.2⟩)]
theorem p_laws_loop {a w : Nat} (hA : rAct a σ τ) (s : Nat) (hs : s < 64) : ∀ (f g : Nat), g ≤ a → a - g < f → itr (fun rec10 q => s_X0_lawsOfTreaty_10 F rec10 q.1 q.2.1 q.2.2.1 q.2.2.2) f (σ, nI s, nI (tW w s g), nI g) = some (nI (tW w s a), σ) := by
  have ha := hA.1
  intro f
  induction f with
  | zero => intro g _ h; omega
  | succ f ih =>
    intro g hg hf
    show s_X0_lawsOfTreaty_10 F _ σ (nI s) (nI (tW w s g)) (nI g) = _
    unfold s_X0_lawsOfTreaty_10 s_X0_lawsOfTreaty_38
    rw [hA.2.1]
    have hle := nI_leI (a := a) (b := g) (by omega) (by omega)
    by_cases c : a ≤ g
    · have : g = a := by omega
      rw [if_pos (hle.mpr c), this]
    · rw [if_neg (fun q => c (hle.mp q))]
      have hih := ih (g + 1) (by omega) (by omega)
      rw [tW_succ w s g] at hih
      have b1 := bt_1 (s := s) (g := g) hs (by omega)
      by_cases d : bt s g = 1
      · rw [if_pos d] at hih
        rw [if_pos (b1.mpr d), kb_eq (p_lawBits 3 g (nI g) 3 rfl rfl (by omega) (by omega)), fa_or, nI_1]
        exact hih
      · rw [if_neg d] at hih
        rw [if_neg (fun q => d (b1.mp q)), nI_1]
        exact hih
theorem p_laws {a w : Nat} (hF : 200000 ≤ F) (hA : rAct a σ τ) (hL : rLaw a w σ τ) (s : Nat) (hs : s < 64) : f_X0_lawsOfTreaty F σ (nI s) = some (nI (tW w s a), σ) := by
  have ha := hA.1
  unfold f_X0_lawsOfTreaty s_X0_lawsOfTreaty_0
  rw [hL.1]
  exact p_laws_loop (F := F) (w := w) hA s hs F 0 (by omega) (by omega)
theorem gS_drop (σ : kS) (kg : Nat) {d e : Nat → Nat} {n g : Nat} (hg : g < n) (h1 : ¬ d g = 0) (h2 : e g = 0) (h3 : ∀ i, i < n → i ≠ g → e i = d i) : gS σ kg e n = gS σ kg d n - wv σ kg g := by
  unfold gS
  have h := fb_si_upd (fun i => if d i = 0 then 0 else wv σ kg i) 0 hg
  rw [if_neg h1] at h
  have h4 : fb_si (fun i => if e i = 0 then 0 else wv σ kg i) n = fb_si (fun k => if k = g then 0 else (fun i => if d i = 0 then 0 else wv σ kg i) k) n := by
    apply fb_si_cong
    intro k hk
    by_cases c : k = g
    · subst c
      rw [if_pos h2, if_pos rfl]
    · rw [if_neg c, h3 k hk c]
  rw [h4, h]
  omega
/-- a set is firm -/
def fm (σ : kS) (a s : Nat) : Prop := ∀ g, g < a → bt s g = 1 → 0 ≤ wv σ 0 g ∧ 0 ≤ wv σ 1 g
theorem p_suits {a w : Nat} (hF : 200000 ≤ F) (hA : rAct a σ τ) (hL : rLaw a w σ τ) (s g : Nat) (hs : s < 64) (hg : g < a) (hb : bt s g = 1) : (wv σ 0 g < 0 ∨ wv σ 1 g < 0 → f_X0_suitsEither F σ (nI (wo (tW w s a) 3 g)) (nI (tW w s a)) = some (1, σ)) ∧ (¬ (wv σ 0 g < 0 ∨ wv σ 1 g < 0) → f_X0_suitsEither F σ (nI (wo (tW w s a) 3 g)) (nI (tW w s a)) = some (0, σ)) := by
  have ha := hA.1
  have hW := tW_lt hL.2.1 s a (by omega)
  have hW2 := wo_lt hW 3 g
  have dr : ∀ kg, kg < 2 → gS σ kg (dg (wo (tW w s a) 3 g)) a = gS σ kg (dg (tW w s a)) a - wv σ kg g := by
    intro kg hk
    refine gS_drop σ kg hg ?_ ?_ ?_
    · rw [tW_dg w s a (by omega) g (by omega), if_pos ⟨hg, hb⟩]; omega
    · rw [wo_dg _ (by omega) (by omega) (by omega), if_pos rfl]
      exact Nat.and_zero _
    · intro i hi hne
      rw [wo_dg _ (by omega) (by omega) (by omega), if_neg hne]
  have cmp : ∀ kg, kg < 2 → (Int32.ofInt (gS σ kg (dg (tW w s a)) a)).toInt = gS σ kg (dg (tW w s a)) a ∧ (Int32.ofInt (gS σ kg (dg (wo (tW w s a) 3 g)) a)).toInt = gS σ kg (dg (tW w s a)) a - wv σ kg g := by
    intro kg hk
    have b1 := gS_b hA hk (dg (tW w s a)) a (Nat.le_refl _)
    have b2 := gS_b hA hk (dg (wo (tW w s a) 3 g)) a (Nat.le_refl _)
    exact ⟨fb_ofI (by omega) (by omega), by rw [fb_ofI (by omega) (by omega), dr kg hk]⟩
  unfold f_X0_suitsEither s_X0_suitsEither_0 s_X0_suitsEither_30
  rw [kb_eq (p_gainUnder hF hA _ hW2 0 0 rfl (by omega)), kb_eq (p_gainUnder hF hA _ hW 0 0 rfl (by omega))]
  have l0 := fa_lt (Int32.ofInt (gS σ 0 (dg (tW w s a)) a)) (Int32.ofInt (gS σ 0 (dg (wo (tW w s a) 3 g)) a))
  rw [(cmp 0 (by omega)).1, (cmp 0 (by omega)).2] at l0
  by_cases c0 : wv σ 0 g < 0
  · rw [if_pos (l0.mpr (by omega))]
    exact ⟨fun _ => rfl, fun h => absurd (Or.inl c0) h⟩
  · rw [if_neg (fun q => c0 (by have := l0.mp q; omega)), kb_eq (p_gainUnder hF hA _ hW2 1 1 rfl (by omega)), kb_eq (p_gainUnder hF hA _ hW 1 1 rfl (by omega))]
    have l1 := fa_le (Int32.ofInt (gS σ 1 (dg (wo (tW w s a) 3 g)) a)) (Int32.ofInt (gS σ 1 (dg (tW w s a)) a))
    rw [(cmp 1 (by omega)).1, (cmp 1 (by omega)).2] at l1
    by_cases c1 : wv σ 1 g < 0
    · rw [if_neg (fun q => by have := l1.mp q; omega)]
      exact ⟨fun _ => rfl, fun h => absurd (Or.inr c1) h⟩
    · rw [if_pos (l1.mpr (by omega))]
      exact ⟨fun h => by omega, fun _ => rfl⟩
theorem p_firm_loop {a w : Nat} (hF : 200000 ≤ F) (hA : rAct a σ τ) (hL : rLaw a w σ τ) (s : Nat) (hs : s < 64) : ∀ (f g : Nat), g ≤ a → a - g < f → ((∀ d, g ≤ d → d < a → bt s d = 1 → 0 ≤ wv σ 0 d ∧ 0 ≤ wv σ 1 d) → itr (fun rec8 q => s_X0_isFirm_8 F rec8 q.1 q.2.1 q.2.2.1 q.2.2.2) f (σ, nI s, nI (tW w s a), nI g) = some (1, σ)) ∧ ((∃ d, g ≤ d ∧ d < a ∧ bt s d = 1 ∧ ¬ (0 ≤ wv σ 0 d ∧ 0 ≤ wv σ 1 d)) → itr (fun rec8 q => s_X0_isFirm_8 F rec8 q.1 q.2.1 q.2.2.1 q.2.2.2) f (σ, nI s, nI (tW w s a), nI g) = some (0, σ)) := by
  have ha := hA.1
  intro f
  induction f with
  | zero => intro g _ h; omega
  | succ f ih =>
    intro g hg hf
    have e0 : itr (fun rec8 q => s_X0_isFirm_8 F rec8 q.1 q.2.1 q.2.2.1 q.2.2.2) (f + 1) (σ, nI s, nI (tW w s a), nI g) = s_X0_isFirm_8 F (itr (fun rec8 q => s_X0_isFirm_8 F rec8 q.1 q.2.1 q.2.2.1 q.2.2.2) f) σ (nI s) (nI (tW w s a)) (nI g) := rfl
    rw [e0]
    unfold s_X0_isFirm_8 s_X0_isFirm_51
    rw [hA.2.1]
    have hle := nI_leI (a := a) (b := g) (by omega) (by omega)
    by_cases c : a ≤ g
    · rw [if_pos (hle.mpr c)]
      exact ⟨fun _ => rfl, fun ⟨d, d1, d2, _⟩ => by omega⟩
    · rw [if_neg (fun q => c (hle.mp q)), kb_eq (p_lawBits 3 g (nI g) 3 rfl rfl (by omega) (by omega)), kn_eq, wo_I]
      have b1 := bt_1 (s := s) (g := g) hs (by omega)
      have hih := ih (g + 1) (by omega) (by omega)
      have up : (¬ bt s g = 1 ∨ (0 ≤ wv σ 0 g ∧ 0 ≤ wv σ 1 g)) → (∃ d, g ≤ d ∧ d < a ∧ bt s d = 1 ∧ ¬ (0 ≤ wv σ 0 d ∧ 0 ≤ wv σ 1 d)) → ∃ d, g + 1 ≤ d ∧ d < a ∧ bt s d = 1 ∧ ¬ (0 ≤ wv σ 0 d ∧ 0 ≤ wv σ 1 d) := by
        intro hn ⟨d, d1, d2, d3, d4⟩
        refine ⟨d, ?_, d2, d3, d4⟩
        rcases Nat.lt_or_ge g d with y | y
        · exact y
        · have : d = g := by omega
          subst this
          rcases hn with hn | hn
          · exact absurd d3 hn
          · exact absurd hn d4
      by_cases d : bt s g = 1
      · rw [if_pos (b1.mpr d)]
        have su := p_suits hF hA hL s g hs (by omega) d
        by_cases q : wv σ 0 g < 0 ∨ wv σ 1 g < 0
        · rw [kb_eq (su.1 q), if_neg k10]
          exact ⟨fun z => absurd (z g (by omega) (by omega) d) (by omega), fun _ => rfl⟩
        · rw [kb_eq (su.2 q), if_pos k00, nI_1]
          exact ⟨fun z => hih.1 (fun d d1 d2 d3 => z d (by omega) d2 d3), fun z => hih.2 (up (Or.inr (by omega)) z)⟩
      · rw [if_neg (fun q => d (b1.mp q)), nI_1]
        exact ⟨fun z => hih.1 (fun d d1 d2 d3 => z d (by omega) d2 d3), fun z => hih.2 (up (Or.inl d) z)⟩
theorem fm_not {a s : Nat} (h : ¬ fm σ a s) : ∃ d, d < a ∧ bt s d = 1 ∧ ¬ (0 ≤ wv σ 0 d ∧ 0 ≤ wv σ 1 d) := by
  rcases Classical.em (∃ d, d < a ∧ bt s d = 1 ∧ ¬ (0 ≤ wv σ 0 d ∧ 0 ≤ wv σ 1 d)) with q | q
  · exact q
  · exact absurd (fun g hg hb => by
      rcases Classical.em (0 ≤ wv σ 0 g ∧ 0 ≤ wv σ 1 g) with r | r
      · exact r
      · exact absurd ⟨g, hg, hb, r⟩ q) h
theorem p_isFirm {a w : Nat} (hF : 200000 ≤ F) (hA : rAct a σ τ) (hL : rLaw a w σ τ) (s : Nat) (hs : s < 64) : (fm σ a s → f_X0_isFirm F σ (nI s) = some (1, σ)) ∧ (¬ fm σ a s → f_X0_isFirm F σ (nI s) = some (0, σ)) := by
  have ha := hA.1
  unfold f_X0_isFirm s_X0_isFirm_0
  rw [kb_eq (p_laws hF hA hL s hs)]
  have e := p_firm_loop (F := F) hF hA hL s hs F 0 (by omega) (by omega)
  refine ⟨fun h => e.1 (fun d _ d2 d3 => h d d2 d3), fun h => e.2 ?_⟩
  obtain ⟨d, d1, d2, d3⟩ := fm_not h
  exact ⟨d, by omega, d1, d2, d3⟩
theorem of_neg {x : Int} (h1 : -100000 ≤ x) (h2 : x ≤ 100000) : Int32.ofInt x < 0 ↔ x < 0 := by
  have z0 : (0 : Int32).toInt = 0 := rfl
  rw [fa_lt, fb_ofI (by omega) (by omega), z0]
theorem p8_firm_loop {a : Nat} (hA : rAct a σ τ) (s : Nat) (hs : s < 64) : ∀ (f g : Nat) (x : Int32), g ≤ a → a - g < f → ((x = 1 ∧ ∀ d, d < g → bt s d = 1 → 0 ≤ wv σ 0 d ∧ 0 ≤ wv σ 1 d) ∨ (x = 0 ∧ ∃ d, d < g ∧ bt s d = 1 ∧ ¬ (0 ≤ wv σ 0 d ∧ 0 ≤ wv σ 1 d))) → (fm σ a s → itr (fun rec4 q => s_X8_isFirm_4 F rec4 q.1 q.2.1 q.2.2.1 q.2.2.2) f (τ, nI s, x, nI g) = some (1, τ)) ∧ (¬ fm σ a s → itr (fun rec4 q => s_X8_isFirm_4 F rec4 q.1 q.2.1 q.2.2.1 q.2.2.2) f (τ, nI s, x, nI g) = some (0, τ)) := by
  have ha := hA.1
  intro f
  induction f with
  | zero => intro g x _ h; omega
  | succ f ih =>
    intro g x hg hf hx
    have e0 : itr (fun rec4 q => s_X8_isFirm_4 F rec4 q.1 q.2.1 q.2.2.1 q.2.2.2) (f + 1) (τ, nI s, x, nI g) = s_X8_isFirm_4 F (itr (fun rec4 q => s_X8_isFirm_4 F rec4 q.1 q.2.1 q.2.2.1 q.2.2.2) f) τ (nI s) x (nI g) := rfl
    rw [e0]
    unfold s_X8_isFirm_4 s_X8_isFirm_48 s_X8_isFirm_44 s_X8_isFirm_49
    rw [hA.2.2.1]
    have hle := nI_leI (a := a) (b := g) (by omega) (by omega)
    have hxx : x &&& 1 = x := by rcases hx with ⟨rfl, -⟩ | ⟨rfl, -⟩ <;> rfl
    by_cases c : a ≤ g
    · rw [if_pos (hle.mpr c), if_pos hxx]
      rcases hx with ⟨rfl, r⟩ | ⟨rfl, d, d1, d2, d3⟩
      · exact ⟨fun _ => rfl, fun z => absurd (fun d hd => r d (by omega)) z⟩
      · exact ⟨fun z => absurd (z d (by omega) d2) d3, fun _ => rfl⟩
    · rw [if_neg (fun q => c (hle.mp q))]
      rcases hx with ⟨rfl, r⟩ | ⟨rfl, d, d1, d2, d3⟩
      · rw [if_neg k10]
        have b0 := bt_0 (s := s) (g := g) hs (by omega)
        have keep : (bt s g = 1 → 0 ≤ wv σ 0 g ∧ 0 ≤ wv σ 1 g) → ∀ d, d < g + 1 → bt s d = 1 → 0 ≤ wv σ 0 d ∧ 0 ≤ wv σ 1 d := by
          intro hn d hd hb
          by_cases y : d < g
          · exact r d y hb
          · have : d = g := by omega
            subst this
            exact hn hb
        by_cases q : bt s g = 0
        · rw [if_pos (b0.mpr q), nI_1]
          exact ih (g + 1) 1 (by omega) (by omega) (Or.inl ⟨rfl, keep (fun z => by omega)⟩)
        · have q1 : bt s g = 1 := by have := bt_2 s g; omega
          have v0 := wv_b hA (kg := 0) (i := g) (by omega) (by omega)
          have v1 := wv_b hA (kg := 1) (i := g) (by omega) (by omega)
          rw [if_neg (fun z => q (b0.mp z)), kb_eq (p8_worth hA 0 g (nI g) 0 rfl rfl (by omega) (by omega)), nI_1]
          have n0 := of_neg (x := wv σ 0 g) (by omega) (by omega)
          by_cases c0 : wv σ 0 g < 0
          · rw [if_pos (n0.mpr c0)]
            exact ih (g + 1) 0 (by omega) (by omega) (Or.inr ⟨rfl, g, by omega, q1, by omega⟩)
          · rw [if_neg (fun z => c0 (n0.mp z)), kb_eq (p8_worth hA 1 g (nI g) 1 rfl rfl (by omega) (by omega))]
            have n1 := of_neg (x := wv σ 1 g) (by omega) (by omega)
            by_cases c1 : wv σ 1 g < 0
            · rw [if_pos (n1.mpr c1)]
              exact ih (g + 1) 0 (by omega) (by omega) (Or.inr ⟨rfl, g, by omega, q1, by omega⟩)
            · rw [if_neg (fun z => c1 (n1.mp z))]
              exact ih (g + 1) 1 (by omega) (by omega) (Or.inl ⟨rfl, keep (fun _ => by omega)⟩)
      · rw [if_pos k00, nI_1]
        exact ih (g + 1) 0 (by omega) (by omega) (Or.inr ⟨rfl, d, by omega, d2, d3⟩)
theorem p8_isFirm {a : Nat} (hF : 200000 ≤ F) (hA : rAct a σ τ) (s : Nat) (hs : s < 64) : (fm σ a s → f_X8_isFirm F τ (nI s) = some (1, τ)) ∧ (¬ fm σ a s → f_X8_isFirm F τ (nI s) = some (0, τ)) := by
  have ha := hA.1
  exact p8_firm_loop (F := F) hA s hs F 0 1 (by omega) (by omega) (Or.inl ⟨rfl, fun d hd => by omega⟩)
/-- gains of both together under a set -/
def gT (σ : kS) (w s n : Nat) : Int := fb_si (fun i => if bt s i = 1 ∨ ¬ dg w i = 0 then wv σ 0 i + wv σ 1 i else 0) n
theorem gT_eq {a w : Nat} (ha : a ≤ 6) (s : Nat) : gT σ w s a = gS σ 0 (dg (tW w s a)) a + gS σ 1 (dg (tW w s a)) a := by
  unfold gT gS
  rw [← fb_si_add]
  apply fb_si_cong
  intro i hi
  rw [tW_dg w s a ha i (by omega)]
  have t3 : ¬ (3 : Nat) = 0 := by omega
  by_cases c : bt s i = 1
  · have c1 : i < a ∧ bt s i = 1 := ⟨hi, c⟩
    have c2 : bt s i = 1 ∨ ¬ dg w i = 0 := Or.inl c
    simp only [if_pos c1, if_pos c2, if_neg t3]
  · have c1 : ¬ (i < a ∧ bt s i = 1) := fun z => c z.2
    simp only [if_neg c1]
    by_cases d : dg w i = 0
    · have c2 : ¬ (bt s i = 1 ∨ ¬ dg w i = 0) := by omega
      simp only [if_neg c2, if_pos d]
      rfl
    · have c2 : bt s i = 1 ∨ ¬ dg w i = 0 := Or.inr d
      simp only [if_pos c2, if_neg d]
theorem gT_b {a : Nat} (hA : rAct a σ τ) (w s n : Nat) (hn : n ≤ a) : -600 ≤ gT σ w s n ∧ gT σ w s n ≤ 600 := by
  have ha := hA.1
  have := fb_si_bound (f := fun i => if bt s i = 1 ∨ ¬ dg w i = 0 then wv σ 0 i + wv σ 1 i else 0) (c := 100) (by omega) (n := n) (fun k hk2 => by
    have h0 := wv_b hA (kg := 0) (i := k) (by omega) (by omega)
    have h1 := wv_b hA (kg := 1) (i := k) (by omega) (by omega)
    by_cases c : bt s k = 1 ∨ ¬ dg w k = 0
    · rw [if_pos c]; omega
    · rw [if_neg c]; omega)
  unfold gT
  omega
theorem p_gainsOf {a w : Nat} (hF : 200000 ≤ F) (hA : rAct a σ τ) (hL : rLaw a w σ τ) (s : Nat) (hs : s < 64) : f_X0_gainsOfTreaty F σ (nI s) = some (Int32.ofInt (gT σ w s a), σ) := by
  have ha := hA.1
  have hW := tW_lt hL.2.1 s a (by omega)
  have b0 := gS_b hA (kg := 0) (by omega) (dg (tW w s a)) a (Nat.le_refl _)
  have b1 := gS_b hA (kg := 1) (by omega) (dg (tW w s a)) a (Nat.le_refl _)
  unfold f_X0_gainsOfTreaty s_X0_gainsOfTreaty_0
  rw [kb_eq (p_laws hF hA hL s hs), kb_eq (p_gainUnder hF hA _ hW 0 0 rfl (by omega)), kb_eq (p_gainUnder hF hA _ hW 1 1 rfl (by omega)), k_ofadd (by omega) (by omega) (by omega) (by omega), gT_eq (by omega)]
theorem p8_tog_loop {a w : Nat} (hA : rAct a σ τ) (hL : rLaw a w σ τ) (s : Nat) (hs : s < 64) : ∀ (f g : Nat), g ≤ a → a - g < f → itr (fun rec4 q => s_X8_together_4 F rec4 q.1 q.2.1 q.2.2.1 q.2.2.2) f (τ, nI s, Int32.ofInt (gT σ w s g), nI g) = some (Int32.ofInt (gT σ w s a), τ) := by
  have ha := hA.1
  intro f
  induction f with
  | zero => intro g _ h; omega
  | succ f ih =>
    intro g hg hf
    show s_X8_together_4 F _ τ (nI s) (Int32.ofInt (gT σ w s g)) (nI g) = _
    unfold s_X8_together_4
    rw [hA.2.2.1]
    have hle := nI_leI (a := a) (b := g) (by omega) (by omega)
    by_cases c : a ≤ g
    · have : g = a := by omega
      rw [if_pos (hle.mpr c), this]
    · rw [if_neg (fun q => c (hle.mp q))]
      have b1 := bt_1 (s := s) (g := g) hs (by omega)
      have hih := ih (g + 1) (by omega) (by omega)
      have hs1 : gT σ w s (g + 1) = gT σ w s g + if bt s g = 1 ∨ ¬ dg w g = 0 then wv σ 0 g + wv σ 1 g else 0 := fb_si_succ _ g
      have bb := gT_b hA w s g hg
      have v0 := wv_b hA (kg := 0) (i := g) (by omega) (by omega)
      have v1 := wv_b hA (kg := 1) (i := g) (by omega) (by omega)
      have yes : (bt s g = 1 ∨ ¬ dg w g = 0) → s_X8_together_33 F (itr (fun rec4 q => s_X8_together_4 F rec4 q.1 q.2.1 q.2.2.1 q.2.2.2) f) τ (nI s) (nI g) (Int32.ofInt (gT σ w s g)) = some (Int32.ofInt (gT σ w s a), τ) := by
        intro hy
        rw [if_pos hy] at hs1
        unfold s_X8_together_33 s_X8_together_50
        rw [kb_eq (p8_worth hA 0 g (nI g) 0 rfl rfl (by omega) (by omega)), kb_eq (p8_worth hA 1 g (nI g) 1 rfl rfl (by omega) (by omega)), k_ofadd (by omega) (by omega) (by omega) (by omega), k_ofadd (by omega) (by omega) (by omega) (by omega), ← hs1, nI_1]
        exact hih
      by_cases d : bt s g = 1
      · rw [if_pos (b1.mpr d)]
        exact yes (Or.inl d)
      · have hl := hL.2.2 g (by omega)
        have e0 : (nI (dg w g) ≤ (0 : Int32)) ↔ dg w g ≤ 0 := nI_leI (b := 0) (by have := dg_lt w g; omega) (by omega)
        rw [if_neg (fun q => d (b1.mp q)), if_neg (nI_in (by omega) (by omega)), nI_clamp (by omega), hl]
        show (if nI (dg w g) ≤ 0 then _ else _) = _
        by_cases q : dg w g = 0
        · rw [if_pos (e0.mpr (by omega))]
          rw [if_neg (by omega)] at hs1
          unfold s_X8_together_50
          have z : (0 : Int32) = Int32.ofInt 0 := rfl
          rw [z, k_ofadd (by omega) (by omega) (by omega) (by omega), ← hs1, nI_1]
          exact hih
        · rw [if_neg (fun z => q (by have := e0.mp z; omega))]
          exact yes (Or.inr q)
theorem p8_together {a w : Nat} (hF : 200000 ≤ F) (hA : rAct a σ τ) (hL : rLaw a w σ τ) (s : Nat) (hs : s < 64) : f_X8_together F τ (nI s) = some (Int32.ofInt (gT σ w s a), τ) := by
  have ha := hA.1
  exact p8_tog_loop (F := F) hA hL s hs F 0 (by omega) (by omega)
theorem k_1sh {a : Nat} (ha : a ≤ 6) : (1 : Int32) <<< (nI a &&& 31) = nI (2 ^ a) := by
  rcases (show a = 0 ∨ a = 1 ∨ a = 2 ∨ a = 3 ∨ a = 4 ∨ a = 5 ∨ a = 6 by omega) with rfl | rfl | rfl | rfl | rfl | rfl | rfl <;> decide
theorem k_2p {a : Nat} (ha : a ≤ 6) : 1 ≤ 2 ^ a ∧ 2 ^ a ≤ 64 := by
  rcases (show a = 0 ∨ a = 1 ∨ a = 2 ∨ a = 3 ∨ a = 4 ∨ a = 5 ∨ a = 6 by omega) with rfl | rfl | rfl | rfl | rfl | rfl | rfl <;> decide
theorem q_firm {a w : Nat} (hF : 200000 ≤ F) (hA : rAct a σ τ) (hL : rLaw a w σ τ) (x : Int32) : ∃ v, f_X7_firm F σ x = some (v, σ) ∧ f_X8_firm F τ x = some (v, τ) := by
  have ha := hA.1
  have h2 := k_2p ha.2
  unfold f_X7_firm s_X7_firm_0 f_X8_firm s_X8_firm_0 f_X8_isSet s_X8_isSet_0
  rw [hA.2.1, hA.2.2.1, k_1sh ha.2]
  have e2 := p8_inI (F := F) (τ := τ) x 0 (nI (2 ^ a) - 1).toInt64 0 (((2 ^ a : Nat) : Int) - 1) rfl (m1_t (by omega))
  have a0 := fa_lt x 0
  have a2 := fa_lt x (nI (2 ^ a))
  have z0 : (0 : Int32).toInt = 0 := rfl
  rw [z0] at a0
  rw [nI_toInt (by omega)] at a2
  by_cases c : x.toInt < 0
  · rw [if_pos (a0.mpr c), kb_eq (e2.2 (by omega))]
    exact ⟨-1, rfl, rfl⟩
  · rw [if_neg (fun q => c (a0.mp q))]
    by_cases d : x.toInt < ((2 ^ a : Nat) : Int)
    · rw [if_pos (a2.mpr d), kb_eq (e2.1 (by omega))]
      obtain ⟨s, hs, rfl⟩ := k_act (a := 2 ^ a) x (by omega)
      have f1 := p_isFirm hF hA hL s (by omega)
      have f2 := p8_isFirm hF hA s (by omega)
      by_cases q : fm σ a s
      · rw [kb_eq (f1.1 q)]
        refine ⟨1, rfl, ?_⟩
        rw [if_pos (show (1 : Int32) &&& 1 = 1 by decide), kb_eq rfl, if_neg k10, kb_eq (f2.1 q)]; rfl
      · rw [kb_eq (f1.2 q)]
        refine ⟨0, rfl, ?_⟩
        rw [if_pos (show (1 : Int32) &&& 1 = 1 by decide), kb_eq rfl, if_neg k10, kb_eq (f2.2 q)]; rfl
    · rw [if_neg (fun q => d (a2.mp q)), kb_eq (e2.2 (by omega))]
      exact ⟨-1, rfl, rfl⟩
theorem q_best {a w : Nat} (hF : 200000 ≤ F) (hA : rAct a σ τ) (hL : rLaw a w σ τ) (x : Int32) (hx : x = 0 ∨ x = 1) :
    ∀ (f g b : Nat), g ≤ 2 ^ a → 2 ^ a - g < f → b < 64 → ∃ b2, b2 < 64 ∧ itr (fun rec10 q => s_X0_bestTreaty_10 F rec10 q.1 q.2.1 q.2.2.1 q.2.2.2) f (σ, nI b, Int32.ofInt (gT σ w b a), nI g) = some (nI b2, σ) ∧ itr (fun rec23 q => s_X8_treaty_23 F rec23 q.1 q.2.1 q.2.2.1 q.2.2.2.1 q.2.2.2.2) f (τ, x, nI b, Int32.ofInt (gT σ w b a), nI g) = some ((if x = 0 then nI b2 else Int32.ofInt (gT σ w b2 a) + 2000), τ) := by
  have ha := hA.1
  have h2 := k_2p ha.2
  intro f
  induction f with
  | zero => intro g b _ h; omega
  | succ f ih =>
    intro g b hg hf hb
    show ∃ b2, b2 < 64 ∧ s_X0_bestTreaty_10 F (itr (fun rec10 q => s_X0_bestTreaty_10 F rec10 q.1 q.2.1 q.2.2.1 q.2.2.2) f) σ (nI b) (Int32.ofInt (gT σ w b a)) (nI g) = some (nI b2, σ) ∧ s_X8_treaty_23 F (itr (fun rec23 q => s_X8_treaty_23 F rec23 q.1 q.2.1 q.2.2.1 q.2.2.2.1 q.2.2.2.2) f) τ x (nI b) (Int32.ofInt (gT σ w b a)) (nI g) = some ((if x = 0 then nI b2 else Int32.ofInt (gT σ w b2 a) + 2000), τ)
    unfold s_X0_bestTreaty_10 s_X8_treaty_23 s_X0_bestTreaty_49 s_X8_treaty_65
    rw [hA.2.1, hA.2.2.1, k_1sh ha.2]
    have hle := nI_leI (a := 2 ^ a) (b := g) (by omega) (by omega)
    by_cases c : 2 ^ a ≤ g
    · rw [if_pos (hle.mpr c), if_pos (hle.mpr c)]
      refine ⟨b, hb, rfl, ?_⟩
      rcases hx with rfl | rfl
      · rw [if_pos k00, if_pos k00]
      · rw [if_neg k10, if_neg k10]
    · rw [if_neg (fun q => c (hle.mp q)), if_neg (fun q => c (hle.mp q)), kb_eq (p_gainsOf hF hA hL g (by omega)), nI_1]
      have f1 := p_isFirm hF hA hL g (by omega)
      have f2 := p8_isFirm hF hA g (by omega)
      have stay := ih (g + 1) b (by omega) (by omega) hb
      have go := ih (g + 1) g (by omega) (by omega) (by omega)
      by_cases r : Int32.ofInt (gT σ w g a) ≤ Int32.ofInt (gT σ w b a)
      · rw [if_pos r]
        by_cases q : fm σ a g
        · rw [kb_eq (f2.1 q), if_neg k10, kb_eq (p8_together hF hA hL g (by omega)), if_pos r]
          exact stay
        · rw [kb_eq (f2.2 q), if_pos k00]
          exact stay
      · rw [if_neg r]
        by_cases q : fm σ a g
        · rw [kb_eq (f1.1 q), kb_eq (f2.1 q), if_neg k10, if_neg k10, kb_eq (p8_together hF hA hL g (by omega)), if_neg r, kb_eq (p8_together hF hA hL g (by omega))]
          exact go
        · rw [kb_eq (f1.2 q), kb_eq (f2.2 q), if_pos k00, if_pos k00]
          exact stay
theorem q_treaty {a w : Nat} (hF : 200000 ≤ F) (hA : rAct a σ τ) (hL : rLaw a w σ τ) (x : Int32) : ∃ v, f_X7_treaty F σ x = some (v, σ) ∧ f_X8_treaty F τ x = some (v, τ) := by
  have ha := hA.1
  have h2 := k_2p ha.2
  unfold f_X7_treaty s_X7_treaty_0 f_X8_treaty s_X8_treaty_0
  have e2 := p8_inI (F := F) (τ := τ) x 0 1 0 1 rfl rfl
  have a0 := fa_lt x 0
  have a2 := fa_le x 1
  have z0 : (0 : Int32).toInt = 0 := rfl
  have z1 : (1 : Int32).toInt = 1 := rfl
  rw [z0] at a0
  rw [z1] at a2
  by_cases c : x.toInt < 0
  · rw [if_pos (a0.mpr c), kb_eq (e2.2 (by omega)), if_pos k00]
    exact ⟨_, rfl, rfl⟩
  · rw [if_neg (fun q => c (a0.mp q))]
    by_cases d : x.toInt ≤ 1
    · rw [if_pos (a2.mpr d), kb_eq (e2.1 (by omega)), if_neg k10]
      have hx : x = 0 ∨ x = 1 := by
        obtain ⟨k, hk, rfl⟩ := k_kg x (by omega)
        rcases (show k = 0 ∨ k = 1 by omega) with rfl | rfl
        · exact Or.inl rfl
        · exact Or.inr rfl
      have t0 := p8_together hF hA hL 0 (by omega)
      have g0 := p_gainsOf hF hA hL 0 (by omega)
      obtain ⟨b2, hb2, v1, v2⟩ := q_best (F := F) hF hA hL x hx F 1 0 (by omega) (by omega) (by omega)
      have f1 : f_X0_bestTreaty F σ = some (nI b2, σ) := by
        unfold f_X0_bestTreaty s_X0_bestTreaty_0
        have g0' : f_X0_gainsOfTreaty F σ 0 = some (Int32.ofInt (gT σ w 0 a), σ) := g0
        rw [kb_eq g0']
        exact v1
      have t0' : f_X8_together F τ 0 = some (Int32.ofInt (gT σ w 0 a), τ) := t0
      rw [kb_eq f1, kb_eq t0']
      refine ⟨_, ?_, v2⟩
      rcases hx with rfl | rfl
      · rw [if_pos k00, if_pos k00]
      · rw [if_neg k10, if_neg k10, kb_eq (p_gainsOf hF hA hL b2 hb2)]
    · rw [if_neg (fun q => d (a2.mp q)), kb_eq (e2.2 (by omega)), if_pos k00]
      exact ⟨_, rfl, rfl⟩
end

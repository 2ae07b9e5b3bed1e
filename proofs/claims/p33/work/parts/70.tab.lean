/-! tables -/
section
variable {F : Nat} {σ τ : kS}
def rTab (l : Nat) (σ τ : kS) : Prop := kI σ 19 = nI l ∧ kI τ 5 = nI l ∧ l ≤ 10 ∧ ∀ i, i < l → kA τ 7 (2 * i) = kA σ 4 i ∧ kA τ 7 (2 * i + 1) = kA σ 5 i ∧ 0 ≤ (kA σ 4 i).toInt ∧ (kA σ 4 i).toInt ≤ 1000000
/-- line i is so, shifted by d -/
def sL (σ : kS) (i : Nat) (d : Int) : Prop := cR σ (if 0 < (kA σ 4 i).toInt + d then (kA σ 4 i).toInt + d else 0) = kA σ 5 i
theorem p_isSo {l : Nat} (h : cPl σ) (hT : rTab l σ τ) (i : Nat) (hi : i < l) (d : Int32) (h1 : -30 ≤ d.toInt) (h2 : d.toInt ≤ 30) : (sL σ i d.toInt → f_X6_isSo F σ (nI i) d = some (1, σ)) ∧ (¬ sL σ i d.toInt → f_X6_isSo F σ (nI i) d = some (0, σ)) := by
  obtain ⟨t1, t2, t3, t4⟩ := hT
  obtain ⟨-, -, m1, m2⟩ := t4 i hi
  unfold f_X6_isSo s_X6_isSo_0 sL
  have hin : ¬ (nI i < 0 ∨ 10 ≤ (nI i).toNatClampNeg) := nI_in (by omega) (by omega)
  have hin2 : ¬ (nI i < 0 ∨ 10 ≤ i) := by rw [nI_clamp (by omega)] at hin; exact hin
  rw [if_neg hin, nI_clamp (by omega)]
  have ea : (kA σ 4 i + d).toInt = (kA σ 4 i).toInt + d.toInt := fb_addI (by omega) (by omega)
  have z0 : (0 : Int32).toInt = 0 := rfl
  have hlt := fa_lt 0 (kA σ 4 i + d)
  rw [z0, ea] at hlt
  have e : ((if (0 : Int32) < kA σ 4 i + d then kA σ 4 i + d else 0).toInt64).toInt = if 0 < (kA σ 4 i).toInt + d.toInt then (kA σ 4 i).toInt + d.toInt else 0 := by
    rw [k_32_64]
    by_cases c : 0 < (kA σ 4 i).toInt + d.toInt
    · rw [if_pos (hlt.mpr c), if_pos c, ea]
    · rw [if_neg (fun q => c (hlt.mp q)), if_neg c, z0]
  have hb : -10000000 ≤ ((if (0 : Int32) < kA σ 4 i + d then kA σ 4 i + d else 0).toInt64).toInt ∧ ((if (0 : Int32) < kA σ 4 i + d then kA σ 4 i + d else 0).toInt64).toInt ≤ 10000000000000 := by
    rw [e]
    by_cases c : 0 < (kA σ 4 i).toInt + d.toInt
    · rw [if_pos c]; omega
    · rw [if_neg c]; omega
  rw [kb_eq (p_rulerAt (F := F) h _ hb.1 hb.2), e, if_neg hin2]
  constructor
  · intro q; rw [if_pos q]
  · intro q; rw [if_neg q]
theorem ix2 (i j : Nat) (y : Int32) (hy : y = nI j) : (2 : Int32) * nI i + y = nI (2 * i + j) := by
  have h2 : (2 : Int32) = nI 2 := rfl
  rw [hy, h2, pk_mul, nI_add]
theorem ix2' (i : Nat) : (2 : Int32) * nI i = nI (2 * i) := by
  have h2 : (2 : Int32) = nI 2 := rfl
  rw [h2, pk_mul]
noncomputable def cS (σ : kS) (d : Int) : Nat → Nat
  | 0 => 0
  | n + 1 => cS σ d n + @ite Nat (sL σ n d) (Classical.propDecidable _) 1 0
theorem cS_1 (d : Int) {n : Nat} (h : sL σ n d) : cS σ d (n + 1) = cS σ d n + 1 := by
  show cS σ d n + _ = _
  rw [if_pos h]
theorem cS_0 (d : Int) {n : Nat} (h : ¬ sL σ n d) : cS σ d (n + 1) = cS σ d n := by
  show cS σ d n + _ = _
  rw [if_neg h]; rfl
theorem cS_le (d : Int) : ∀ n, cS σ d n ≤ n
  | 0 => Nat.le_refl 0
  | n + 1 => by
    have ih := cS_le d n
    rcases Classical.em (sL σ n d) with c | c
    · rw [cS_1 d c]; omega
    · rw [cS_0 d c]; omega
theorem p_linesSo_loop {l : Nat} (h : cPl σ) (hT : rTab l σ τ) (d : Int32) (h1 : -30 ≤ d.toInt) (h2 : d.toInt ≤ 30) : ∀ (f g : Nat), g ≤ l → l - g < f → itr (fun rec4 q => s_X6_linesSo_4 F rec4 q.1 q.2.1 q.2.2.1 q.2.2.2) f (σ, d, nI (cS σ d.toInt g), nI g) = some (nI (cS σ d.toInt l), σ) := by
  have hl := hT.2.2.1
  intro f
  induction f with
  | zero => intro g _ h; omega
  | succ f ih =>
    intro g hg hf
    show s_X6_linesSo_4 F _ σ d (nI (cS σ d.toInt g)) (nI g) = _
    unfold s_X6_linesSo_4 s_X6_linesSo_30
    rw [hT.1]
    have hle := nI_leI (a := l) (b := g) (by omega) (by omega)
    by_cases c : l ≤ g
    · have : g = l := by omega
      rw [if_pos (hle.mpr c), this]
    · have h10 : (10 : Int32) = nI 10 := rfl
      rw [if_neg (fun q => c (hle.mp q)), h10, if_neg (nI_ge (by omega) (by omega)), nI_1]
      have e := p_isSo (F := F) h hT g (by omega) d h1 h2
      have hih := ih (g + 1) (by omega) (by omega)
      rcases Classical.em (sL σ g d.toInt) with q | q
      · rw [kb_eq (e.1 q), if_neg k10, nI_1]
        rw [cS_1 _ q] at hih
        exact hih
      · rw [kb_eq (e.2 q), if_pos k00]
        rw [cS_0 _ q] at hih
        exact hih
theorem p_linesSo {l : Nat} (hF : 200000 ≤ F) (h : cPl σ) (hT : rTab l σ τ) (d : Int32) (h1 : -30 ≤ d.toInt) (h2 : d.toInt ≤ 30) : f_X6_linesSo F σ d = some (nI (cS σ d.toInt l), σ) := by
  have hl := hT.2.2.1
  exact p_linesSo_loop (F := F) h hT d h1 h2 F 0 (by omega) (by omega)
theorem p8_so_loop {l : Nat} (h : cPl σ) (hm : mPl σ τ) (hT : rTab l σ τ) (d : Int32) (h1 : -30 ≤ d.toInt) (h2 : d.toInt ≤ 30) : ∀ (f g : Nat), g ≤ l → l - g < f → itr (fun rec4 q => s_X8_so_4 F rec4 q.1 q.2.1 q.2.2.1 q.2.2.2) f (τ, d, nI (cS σ d.toInt g), nI g) = some (nI (cS σ d.toInt l), τ) := by
  have hl := hT.2.2.1
  intro f
  induction f with
  | zero => intro g _ h; omega
  | succ f ih =>
    intro g hg hf
    show s_X8_so_4 F (itr (fun rec4 q => s_X8_so_4 F rec4 q.1 q.2.1 q.2.2.1 q.2.2.2) f) τ d (nI (cS σ d.toInt g)) (nI g) = _
    unfold s_X8_so_4
    rw [hT.2.1]
    have hle := nI_leI (a := l) (b := g) (by omega) (by omega)
    by_cases c : l ≤ g
    · have : g = l := by omega
      rw [if_pos (hle.mpr c), this]
    · obtain ⟨u1, u2, u3, u4⟩ := hT.2.2.2 g (by omega)
      rw [if_neg (fun q => c (hle.mp q)), ix2', if_neg (nI_in (by omega) (by omega)), nI_clamp (by omega), u1, kn_eq]
      have hih := ih (g + 1) (by omega) (by omega)
      have ea : ((kA σ 4 g + d).toInt64).toInt = (kA σ 4 g).toInt + d.toInt := by rw [k_32_64]; exact fb_addI (by omega) (by omega)
      have z0 : (0 : Int64).toInt = 0 := rfl
      have fin : ∀ y : Int64, y.toInt = (if 0 < (kA σ 4 g).toInt + d.toInt then (kA σ 4 g).toInt + d.toInt else 0) → s_X8_so_40 F (itr (fun rec4 q => s_X8_so_4 F rec4 q.1 q.2.1 q.2.2.1 q.2.2.2) f) τ d (nI g) y (nI (cS σ d.toInt g)) = some (nI (cS σ d.toInt l), τ) := by
        intro y hy
        have hb : -10000000 ≤ y.toInt ∧ y.toInt ≤ 10000000000000 := by
          rw [hy]
          by_cases c : 0 < (kA σ 4 g).toInt + d.toInt
          · rw [if_pos c]; omega
          · rw [if_neg c]; omega
        unfold s_X8_so_40 s_X8_so_61
        rw [kb_eq (p8_ruler (F := F) h hm y hb.1 hb.2), ix2 g 1 1 rfl, if_neg (nI_in (by omega) (by omega)), nI_clamp (by omega), u2, hy]
        rcases Classical.em (sL σ g d.toInt) with q | q
        · have q' : cR σ (if 0 < (kA σ 4 g).toInt + d.toInt then (kA σ 4 g).toInt + d.toInt else 0) = kA σ 5 g := q
          rw [if_pos q', nI_1, nI_1]
          rw [cS_1 _ q] at hih
          exact hih
        · have q' : ¬ cR σ (if 0 < (kA σ 4 g).toInt + d.toInt then (kA σ 4 g).toInt + d.toInt else 0) = kA σ 5 g := q
          rw [if_neg q', Int32.add_zero, nI_1]
          rw [cS_0 _ q] at hih
          exact hih
      by_cases r : 0 ≤ (kA σ 4 g).toInt + d.toInt
      · rw [if_pos ((lg_ge _ _).mpr (by rw [ea, z0]; exact r))]
        refine fin _ ?_
        rw [ea]
        by_cases s : 0 < (kA σ 4 g).toInt + d.toInt
        · rw [if_pos s]
        · rw [if_neg s]; omega
      · rw [if_neg (fun q => r (by have := (lg_ge _ _).mp q; rw [ea, z0] at this; exact this))]
        exact fin 0 (by rw [if_neg (by omega), z0])
theorem p8_so {l : Nat} (hF : 200000 ≤ F) (h : cPl σ) (hm : mPl σ τ) (hT : rTab l σ τ) (d : Int32) (h1 : -30 ≤ d.toInt) (h2 : d.toInt ≤ 30) : f_X8_so F τ d = some (nI (cS σ d.toInt l), τ) := by
  have hl := hT.2.2.1
  exact p8_so_loop (F := F) h hm hT d h1 h2 F 0 (by omega) (by omega)
theorem q_forged_loop {l : Nat} (h : cPl σ) (hm : mPl σ τ) (hT : rTab l σ τ) : ∀ (f g : Nat) (x : Int32), g ≤ l → l - g < f → ∃ v, itr (fun rec4 q => s_X6_forgedBits_4 F rec4 q.1 q.2.1 q.2.2) f (σ, x, nI g) = some (v, σ) ∧ itr (fun rec4 q => s_X8_forged_4 F rec4 q.1 q.2.1 q.2.2) f (τ, x, nI g) = some (v, τ) := by
  have hl := hT.2.2.1
  intro f
  induction f with
  | zero => intro g x _ h; omega
  | succ f ih =>
    intro g x hg hf
    show ∃ v, s_X6_forgedBits_4 F (itr (fun rec4 q => s_X6_forgedBits_4 F rec4 q.1 q.2.1 q.2.2) f) σ x (nI g) = some (v, σ) ∧ s_X8_forged_4 F (itr (fun rec4 q => s_X8_forged_4 F rec4 q.1 q.2.1 q.2.2) f) τ x (nI g) = some (v, τ)
    unfold s_X6_forgedBits_4 s_X6_forgedBits_33 s_X8_forged_4 s_X8_forged_46
    rw [hT.1, hT.2.1]
    have hle := nI_leI (a := l) (b := g) (by omega) (by omega)
    by_cases c : l ≤ g
    · rw [if_pos (hle.mpr c), if_pos (hle.mpr c)]
      exact ⟨_, rfl, rfl⟩
    · obtain ⟨u1, u2, u3, u4⟩ := hT.2.2.2 g (by omega)
      have h10 : (10 : Int32) = nI 10 := rfl
      have z0 : (0 : Int32).toInt = 0 := rfl
      have e := p_isSo (F := F) h hT g (by omega) 0 (by omega) (by omega)
      rw [if_neg (fun q => c (hle.mp q)), h10, if_neg (nI_ge (by omega) (by omega)), if_neg (fun q => c (hle.mp q)), ix2', if_neg (nI_in (by omega) (by omega)), nI_clamp (by omega), u1]
      have ex : (kA σ 4 g).toInt64.toInt = (kA σ 4 g).toInt := k_32_64 _
      have e0 : (2 : Int32) * nI g + 1 = nI (2 * g + 1) := ix2 g 1 1 rfl
      rw [kb_eq (p8_ruler (F := F) h hm (kA σ 4 g).toInt64 (by omega) (by omega)), ex]
      have e1 : nI (2 * g) + 1 = nI (2 * g + 1) := nI_1 _
      rw [e1, if_neg (nI_in (by omega) (by omega)), nI_clamp (by omega), u2, nI_1]
      have key : sL σ g (0 : Int32).toInt ↔ cR σ (kA σ 4 g).toInt = kA σ 5 g := by
        unfold sL
        rw [z0, Int.add_zero]
        by_cases s : 0 < (kA σ 4 g).toInt
        · rw [if_pos s]
        · rw [if_neg s, show (kA σ 4 g).toInt = 0 by omega]
      by_cases q : cR σ (kA σ 4 g).toInt = kA σ 5 g
      · rw [kb_eq (e.1 (key.mpr q)), if_neg k10, if_pos q, Int32.or_zero]
        exact ih (g + 1) x (by omega) (by omega)
      · rw [kb_eq (e.2 (fun z => q (key.mp z))), if_pos k00, if_neg q, kn_eq]
        exact ih (g + 1) _ (by omega) (by omega)
theorem q_forged {l : Nat} (hF : 200000 ≤ F) (h : cPl σ) (hm : mPl σ τ) (hT : rTab l σ τ) : ∃ v, f_X7_forged F σ = some (v, σ) ∧ f_X8_forged F τ = some (v, τ) := by
  have hl := hT.2.2.1
  obtain ⟨v, v1, v2⟩ := q_forged_loop (F := F) h hm hT F 0 0 (by omega) (by omega)
  unfold f_X7_forged s_X7_forged_0
  have f1 : f_X6_forgedBits F σ = some (v, σ) := v1
  rw [kb_eq f1]
  exact ⟨v, rfl, v2⟩
end

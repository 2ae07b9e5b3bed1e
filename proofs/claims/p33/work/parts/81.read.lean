/-! the readers: numbers and items -/
section
variable {F : Nat} {σ τ : kS} {k : Nat}
def fig (x : Int32) : Prop := 48 ≤ x.toInt ∧ x.toInt ≤ 57
theorem msk (x : Int32) (h1 : -128 ≤ x.toInt) (h2 : x.toInt < 128) : (0 ≤ x.toInt → (x &&& 255) = x) ∧ (x.toInt < 0 → 128 ≤ (x &&& 255).toInt) := by
  have e := pk_and x (m := 255) 8 (by decide)
  have c : x.toInt = if 2 * x.toBitVec.toNat < 2 ^ 32 then (x.toBitVec.toNat : Int) else (x.toBitVec.toNat : Int) - ((2 ^ 32 : Nat) : Int) := BitVec.toInt_eq_toNat_cond x.toBitVec
  have hl := x.toBitVec.isLt
  have hm : x.toBitVec.toNat % 2 ^ 8 < 2 ^ 31 := by omega
  have e2 : (x &&& 255).toInt = ((x.toBitVec.toNat % 2 ^ 8 : Nat) : Int) := by rw [e, nI_toInt hm]
  by_cases d : 2 * x.toBitVec.toNat < 2 ^ 32
  · rw [if_pos d] at c
    refine ⟨fun _ => ?_, fun _ => ?_⟩
    · rw [fa_eq, e2, c]
      omega
    · omega
  · rw [if_neg d] at c
    refine ⟨fun _ => ?_, fun _ => ?_⟩
    · omega
    · rw [e2]
      omega
/-- a sign of 0 to 127 -/
theorem msk_eq (x : Int32) (h1 : -128 ≤ x.toInt) (h2 : x.toInt < 128) (c : Int32) (hc : 0 ≤ c.toInt) (hc2 : c.toInt < 128) : (x &&& 255) = c ↔ x = c := by
  obtain ⟨a, b⟩ := msk x h1 h2
  by_cases d : 0 ≤ x.toInt
  · rw [a d]
  · constructor
    · intro e
      have := b (by omega)
      rw [e] at this
      omega
    · intro e
      rw [e] at d
      exact absurd hc d
theorem p_byteAt {n : Nat} (hX : rTxt n σ τ) (i : Nat) (hi : i ≤ 1000) : (i < n → f_X4_byteAt F σ (nI i) = some (kA σ 0 i &&& 255, σ)) ∧ (n ≤ i → f_X4_byteAt F σ (nI i) = some (-1, σ)) := by
  obtain ⟨x1, x2, x3, x4⟩ := hX
  unfold f_X4_byteAt s_X4_byteAt_0
  have hle := nI_leI (a := n) (b := i) (by omega) (by omega)
  have h4 := nI_leI (a := 400) (b := i) (by omega) (by omega)
  rw [if_neg (nI_pos (by omega)), x2]
  constructor
  · intro c
    rw [if_neg (fun q => by have := hle.mp q; omega), if_neg (show ¬ (400 : Int32) ≤ nI i from fun q => by have := h4.mp q; omega), if_neg (nI_in (by omega) (by omega)), nI_clamp (by omega)]
  · intro c
    rw [if_pos (hle.mpr c)]
theorem p_isFigure (v : Int32) : (fig v → f_X4_isFigure F σ v = some (1, σ)) ∧ (¬ fig v → f_X4_isFigure F σ v = some (0, σ)) := by
  unfold f_X4_isFigure s_X4_isFigure_0 fig
  have a1 := k_lt v 48 48 rfl
  have a2 := k_gt v 57 57 rfl
  constructor
  · intro c
    rw [if_neg (fun q => by have := a1.mp q; omega), if_neg (fun q => by have := a2.mp q; omega)]
  · intro c
    by_cases d : v.toInt < 48
    · rw [if_pos (a1.mpr d)]
    · rw [if_neg (fun q => d (a1.mp q)), if_pos (a2.mpr (by omega))]
/-- the value of m figures from p on -/
def vI (b : Nat → Int32) (p : Nat) : Nat → Int32
  | 0 => 0
  | m + 1 => vI b p m * 10 + b (p + m) - 48
theorem v_step (v x : Int32) (P : Int) (h1 : 0 ≤ v.toInt) (h2 : v.toInt < P) (hP : P ≤ 100) (hx : fig x) : 0 ≤ (v * 10 + x - 48).toInt ∧ (v * 10 + x - 48).toInt < 10 * P := by
  have z1 : (10 : Int32).toInt = 10 := rfl
  have z2 : (48 : Int32).toInt = 48 := rfl
  obtain ⟨x1, x2⟩ := hx
  have e1 : (v * 10).toInt = v.toInt * 10 := by rw [fb_mulI (by rw [z1]; omega) (by rw [z1]; omega), z1]
  have e2 : (v * 10 + x).toInt = v.toInt * 10 + x.toInt := by rw [fb_addI (by omega) (by omega), e1]
  have e3 : (v * 10 + x - 48).toInt = v.toInt * 10 + x.toInt - 48 := by rw [fb_subI (by omega) (by omega), e2, z2]
  rw [e3]
  omega
theorem vI_b (b : Nat → Int32) (p m : Nat) (hm : m ≤ 3) (h : ∀ i, i < m → fig (b (p + i))) : 0 ≤ (vI b p m).toInt ∧ (vI b p m).toInt ≤ 999 := by
  have z0 : (vI b p 0).toInt = 0 := rfl
  rcases (show m = 0 ∨ 1 ≤ m by omega) with rfl | h1
  · omega
  · have s1 := v_step (vI b p 0) (b (p + 0)) 1 (by omega) (by omega) (by omega) (h 0 (by omega))
    rcases (show m = 1 ∨ 2 ≤ m by omega) with rfl | h2
    · show 0 ≤ (vI b p 0 * 10 + b (p + 0) - 48).toInt ∧ (vI b p 0 * 10 + b (p + 0) - 48).toInt ≤ 999
      omega
    · have s2 := v_step (vI b p 1) (b (p + 1)) 10 s1.1 s1.2 (by omega) (h 1 (by omega))
      rcases (show m = 2 ∨ 3 ≤ m by omega) with rfl | h3
      · show 0 ≤ (vI b p 1 * 10 + b (p + 1) - 48).toInt ∧ (vI b p 1 * 10 + b (p + 1) - 48).toInt ≤ 999
        omega
      · have s3 := v_step (vI b p 2) (b (p + 2)) 100 s2.1 s2.2 (by omega) (h 2 (by omega))
        have : m = 3 := by omega
        subst this
        show 0 ≤ (vI b p 2 * 10 + b (p + 2) - 48).toInt ∧ (vI b p 2 * 10 + b (p + 2) - 48).toInt ≤ 999
        omega
theorem run_ex (b : Nat → Int32) (n : Nat) : ∀ (u p : Nat), p + u = n → ∃ d, p + d ≤ n ∧ (∀ i, i < d → fig (b (p + i))) ∧ (p + d = n ∨ ¬ fig (b (p + d))) := by
  intro u
  induction u with
  | zero => intro p hp; exact ⟨0, by omega, fun i hi => absurd hi (by omega), Or.inl (by omega)⟩
  | succ u ih =>
    intro p hp
    rcases Classical.em (fig (b p)) with c | c
    · obtain ⟨d, h1, h2, h3⟩ := ih (p + 1) (by omega)
      refine ⟨d + 1, by omega, fun i hi => ?_, ?_⟩
      · rcases (show i = 0 ∨ 1 ≤ i by omega) with rfl | q
        · exact c
        · have := h2 (i - 1) (by omega)
          rw [show p + 1 + (i - 1) = p + i by omega] at this
          exact this
      · rw [show p + 1 + d = p + (d + 1) by omega] at h3
        exact h3
    · exact ⟨0, by omega, fun i hi => absurd hi (by omega), Or.inr c⟩
/-- d is the number of figures from p on -/
def Run (b : Nat → Int32) (n p d : Nat) : Prop := p + d ≤ n ∧ (∀ i, i < d → fig (b (p + i))) ∧ (p + d = n ∨ ¬ fig (b (p + d)))
theorem fig_m1 : ¬ fig (-1) := by
  intro h
  have : (-1 : Int32).toInt = -1 := by decide
  unfold fig at h
  omega
theorem p_number_loop {n : Nat} (hX : rTxt n σ τ) (p i d e : Nat) (hr : Run (kA σ 0) n p d) (hi : i < 5) (he : e = if d < 3 then d else 3) :
    ∀ (f m : Nat), m ≤ e → e - m < f → itr (fun rec5 q => s_X4_readNumber_5 F rec5 q.1 q.2.1 q.2.2.1 q.2.2.2.1 q.2.2.2.2) f (σ, nI p, nI i, vI (kA σ 0) p m, nI m) = if e = 0 then some (-4, σ) else some (nI (p + e), jA σ 1 i (vI (kA σ 0) p e)) := by
  obtain ⟨r1, r2, r3⟩ := hr
  have x1 := hX.1
  have hed : e ≤ d ∧ e ≤ 3 ∧ (e = d ∨ e = 3) := by
    rw [he]
    by_cases c : d < 3
    · rw [if_pos c]; omega
    · rw [if_neg c]; omega
  have fin : s_X4_readNumber_48 F σ (nI p) (nI i) (vI (kA σ 0) p e) (nI e) = if e = 0 then some (-4, σ) else some (nI (p + e), jA σ 1 i (vI (kA σ 0) p e)) := by
    unfold s_X4_readNumber_48
    have q0 := nI_eq (a := e) (b := 0) (by omega) (by omega)
    have q5 := nI_ltI (a := i) (b := 5) (by omega) (by omega)
    by_cases c : e = 0
    · rw [if_pos (show nI e = 0 from q0.mpr c), if_pos c]
    · rw [if_neg (show ¬ nI e = 0 from fun z => c (q0.mp z)), if_neg c, if_neg (nI_pos (by omega)), if_pos (show nI i < 5 from q5.mpr hi), if_neg (nI_in (by omega) (by omega)), nI_clamp (by omega), nI_add]
  intro f
  induction f with
  | zero => intro m _ h; omega
  | succ f ih =>
    intro m hm hf
    show s_X4_readNumber_5 F _ σ (nI p) (nI i) (vI (kA σ 0) p m) (nI m) = _
    unfold s_X4_readNumber_5
    have h3 := nI_leI (a := 3) (b := m) (by omega) (by omega)
    by_cases c : 3 ≤ m
    · have : m = e := by omega
      subst this
      rw [if_pos (show (3 : Int32) ≤ nI m from h3.mpr c)]
      exact fin
    · rw [if_neg (show ¬ (3 : Int32) ≤ nI m from fun z => c (h3.mp z)), nI_add]
      have hb := p_byteAt (F := F) hX (p + m) (by omega)
      by_cases c2 : m < d
      · have hf2 := r2 m c2
        obtain ⟨-, y1, y2⟩ := hX.2.2.2 (p + m) (by omega)
        have em := (msk (kA σ 0 (p + m)) y1 y2).1 (by have := hf2.1; omega)
        rw [kb_eq (hb.1 (by omega)), em, kb_eq ((p_isFigure (F := F) _).1 hf2), if_neg k10, kb_eq (hb.1 (by omega)), em, kn_eq, nI_1]
        exact ih (m + 1) (by omega) (by omega)
      · have : m = e := by omega
        have hmd : m = d := by omega
        subst this
        by_cases c3 : p + m < n
        · have nf : ¬ fig (kA σ 0 (p + m)) := by
            rcases r3 with q | q
            · omega
            · rw [← hmd] at q; exact q
          obtain ⟨-, y1, y2⟩ := hX.2.2.2 (p + m) (by omega)
          have nf2 : ¬ fig (kA σ 0 (p + m) &&& 255) := by
            obtain ⟨z1, z2⟩ := msk (kA σ 0 (p + m)) y1 y2
            rcases Int.lt_or_le (kA σ 0 (p + m)).toInt 0 with q | q
            · have := z2 q
              unfold fig
              omega
            · rw [z1 q]; exact nf
          rw [kb_eq (hb.1 (by omega)), kb_eq ((p_isFigure (F := F) _).2 nf2), if_pos k00]
          exact fin
        · rw [kb_eq (hb.2 (by omega)), kb_eq ((p_isFigure (F := F) _).2 fig_m1), if_pos k00]
          exact fin
theorem p_readNumber {n : Nat} (hF : 200000 ≤ F) (hX : rTxt n σ τ) (p i d e : Nat) (hr : Run (kA σ 0) n p d) (hi : i < 5) (he : e = if d < 3 then d else 3) : f_X4_readNumber F σ (nI p) (nI i) = if e = 0 then some (-4, σ) else some (nI (p + e), jA σ 1 i (vI (kA σ 0) p e)) :=
  p_number_loop (F := F) hX p i d e hr hi he F 0 (by omega) (by
    have : e ≤ 3 := by
      rw [he]
      by_cases c : d < 3
      · rw [if_pos c]; omega
      · rw [if_neg c]; omega
    omega)
theorem p8_number_loop {n : Nat} (hX : rTxt n σ τ) (p d : Nat) (hr : Run (kA σ 0) n p d) :
    ∀ (f m : Nat), m ≤ d → d - m < f → itr (fun rec4 q => s_X8_number_4 F rec4 q.1 q.2.1 q.2.2) f (jI τ 1 (nI (p + m)), vI (kA σ 0) p (if m < 3 then m else 3), nI m) = if 1 ≤ d ∧ d ≤ 3 then some (vI (kA σ 0) p d, jI τ 1 (nI (p + d))) else some (-1, jI τ 1 (nI (p + d))) := by
  obtain ⟨r1, r2, r3⟩ := hr
  obtain ⟨x1, x2, x3, x4⟩ := hX
  have fin : s_X8_number_80 F (jI τ 1 (nI (p + d))) (vI (kA σ 0) p (if d < 3 then d else 3)) (nI d) = if 1 ≤ d ∧ d ≤ 3 then some (vI (kA σ 0) p d, jI τ 1 (nI (p + d))) else some (-1, jI τ 1 (nI (p + d))) := by
    unfold s_X8_number_80
    have e1 := p8_inI (F := F) (τ := jI τ 1 (nI (p + d))) (nI d) 1 3 1 3 rfl rfl
    rw [nI_toInt (by omega)] at e1
    by_cases c : 1 ≤ d ∧ d ≤ 3
    · rw [kb_eq (e1.1 (by omega)), if_neg k10, if_pos c, show (if d < 3 then d else 3) = d by
        by_cases q : d < 3
        · rw [if_pos q]
        · rw [if_neg q]; omega]
    · rw [kb_eq (e1.2 (by omega)), if_pos k00, if_neg c]
  intro f
  induction f with
  | zero => intro m _ h; omega
  | succ f ih =>
    intro m hm hf
    show s_X8_number_4 F _ (jI τ 1 (nI (p + m))) (vI (kA σ 0) p (if m < 3 then m else 3)) (nI m) = _
    unfold s_X8_number_4
    rw [show kI (jI τ 1 (nI (p + m))) 0 = nI n from x3, show kI (jI τ 1 (nI (p + m))) 1 = nI (p + m) from rfl]
    have hle := nI_leI (a := n) (b := p + m) (by omega) (by omega)
    by_cases c : n ≤ p + m
    · have : m = d := by omega
      subst this
      rw [if_pos (hle.mpr c)]
      exact fin
    · rw [if_neg (fun q => c (hle.mp q)), if_neg (nI_in (by omega) (by omega)), nI_clamp (by omega)]
      obtain ⟨y0, y1, y2⟩ := x4 (p + m) (by omega)
      have ek : kA (jI τ 1 (nI (p + m))) 0 (p + m) = kA σ 0 (p + m) := y0
      have e1 := p8_inI (F := F) (τ := jI τ 1 (nI (p + m))) (kA σ 0 (p + m)) 48 57 48 57 rfl rfl
      rw [ek]
      by_cases c2 : m < d
      · have hf2 := r2 m c2
        rw [kb_eq (e1.1 hf2), if_neg k10]
        have h3 := nI_leI (a := 3) (b := m) (by omega) (by omega)
        have hs : jI (jI τ 1 (nI (p + m))) 1 (nI (p + m) + 1) = jI τ 1 (nI (p + (m + 1))) := by rw [jI_jI, nI_1]; rfl
        have hih := ih (m + 1) (by omega) (by omega)
        unfold s_X8_number_63
        by_cases c3 : 3 ≤ m
        · rw [if_pos (show (3 : Int32) ≤ nI m from h3.mpr c3), show kI (jI τ 1 (nI (p + m))) 1 = nI (p + m) from rfl, hs, nI_1, if_neg (show ¬ m < 3 by omega)]
          rw [if_neg (show ¬ m + 1 < 3 by omega)] at hih
          exact hih
        · rw [if_neg (show ¬ (3 : Int32) ≤ nI m from fun z => c3 (h3.mp z)), show kI (jI τ 1 (nI (p + m))) 1 = nI (p + m) from rfl, if_neg (nI_in (by omega) (by omega)), nI_clamp (by omega), ek, hs, nI_1, if_pos (show m < 3 by omega), Int32.mul_comm]
          have : (if m + 1 < 3 then m + 1 else 3) = m + 1 := by
            by_cases q : m + 1 < 3
            · rw [if_pos q]
            · rw [if_neg q]; omega
          rw [this] at hih
          exact hih
      · have : m = d := by omega
        subst this
        have nf : ¬ fig (kA σ 0 (p + m)) := by
          rcases r3 with q | q
          · omega
          · exact q
        rw [kb_eq (e1.2 nf), if_pos k00]
        exact fin
theorem p8_number {n : Nat} (hF : 200000 ≤ F) (hX : rTxt n σ τ) (p d : Nat) (hr : Run (kA σ 0) n p d) : f_X8_number F (jI τ 1 (nI p)) = if 1 ≤ d ∧ d ≤ 3 then some (vI (kA σ 0) p d, jI τ 1 (nI (p + d))) else some (-1, jI τ 1 (nI (p + d))) := by
  have := p8_number_loop (F := F) hX p d hr F 0 (by omega) (by have := hX.1; have := hr.1; omega)
  exact this
end

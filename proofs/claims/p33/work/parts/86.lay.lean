/-! fault and lay keep the relation -/
section
variable {F : Nat} {σ τ : kS} {k : Nat}
theorem Rel.fr {σ' τ' : kS} (R : Rel k σ τ) (hC : fC σ σ') (hM' : fM τ τ') : Rel k σ' τ' := by
  obtain ⟨a, w, l, n, r, h, c, hP, hM, hA, hL, hT, hX, hR, hN, hU, hK⟩ := R
  have ha := hA.1
  obtain ⟨i1, i2, i3, i4⟩ := hC
  obtain ⟨m1, m2, m3, m4, m5, m6⟩ := hM'
  have hX' : rTxt n σ' τ' := rTxt_fr hX ⟨i1, i2, i3, i4⟩ ⟨m1, m2, m3, m4, m5, m6⟩
  have g0 : kG σ' 0 = kG σ 0 := congrFun i2 0
  have sb : ∀ p j, kB σ' p j = kB σ p j := fun p j => congrFun (congrFun i4 p) j
  have tb : ∀ p j, kB τ' p j = kB τ p j := fun p j => congrFun (congrFun m6 p) j
  have sa : ∀ p j, 3 ≤ p → kA σ' p j = kA σ p j := fun p j hp => congrFun (i3 p (by omega) (by omega)) j
  have ta : ∀ p j, 4 ≤ p → p ≠ 8 → kA τ' p j = kA τ p j := fun p j h1 h2 => congrFun (m5 p (by omega) (by omega) (by omega) h2) j
  refine ⟨a, w, l, n, r, h, c, ?_, ?_, ?_, ?_, ?_, hX', ?_, ?_, ?_, ?_⟩
  · unfold cPl
    rw [i1 8 (by omega), i1 9 (by omega), i1 10 (by omega), i1 11 (by omega), i1 12 (by omega), i1 13 (by omega), i1 15 (by omega)]
    exact hP
  · unfold mPl
    rw [i1 8 (by omega), i1 9 (by omega), i1 10 (by omega), i1 11 (by omega), i1 12 (by omega), i1 13 (by omega), i1 15 (by omega), m2 0 (by omega), m2 1 (by omega), m2 2 (by omega), m2 3 (by omega), m2 4 (by omega), m2 5 (by omega), tb]
    exact hM
  · obtain ⟨a1, a2, a3, a4, a5⟩ := hA
    refine ⟨a1, (i1 14 (by omega)).trans a2, m3.trans a3, fun j hj => ?_, fun i hi => ?_⟩
    · rw [m4 j (by omega), sa 3 j (by omega)]
      exact a4 j hj
    · rw [sa 3 _ (by omega), sa 3 _ (by omega), sa 3 _ (by omega), sa 3 _ (by omega)]
      exact a5 i hi
  · obtain ⟨l1, l2, l3⟩ := hL
    refine ⟨(i1 18 (by omega)).trans l1, l2, fun i hi => ?_⟩
    rw [ta 4 i (by omega) (by omega)]
    exact l3 i hi
  · obtain ⟨t1, t2, t3, t4⟩ := hT
    refine ⟨(i1 19 (by omega)).trans t1, (m1 5 (by omega)).trans t2, t3, fun i hi => ?_⟩
    rw [ta 7 _ (by omega) (by omega), ta 7 _ (by omega) (by omega), sa 4 _ (by omega), sa 5 _ (by omega)]
    exact t4 i hi
  · obtain ⟨r1, r2, r3, r4⟩ := hR
    refine ⟨r1, (i1 26 (by omega)).trans r2, (m1 4 (by omega)).trans r3, fun i hi => ?_⟩
    rw [ta 6 _ (by omega) (by omega), sa 14 _ (by omega)]
    exact r4 i hi
  · unfold rNow
    rw [tb, tb, tb, g0, i1 16 (by omega), i1 17 (by omega)]
    exact hN
  · obtain ⟨u1, u2, u3, u4, t, S, v1, v2, v3, v4, v5, v6⟩ := hU
    refine ⟨(i1 20 (by omega)).trans u1, u2, (i1 22 (by omega)).trans u3, (m1 3 (by omega)).trans u4, t, S, v1, (i1 21 (by omega)).trans v2, ?_, fun j hj => ?_, fun j hj => ?_, v6⟩
    · unfold cur
      rw [g0, i1 16 (by omega), i1 17 (by omega), i1 18 (by omega)]
      exact v3
    · rw [sb, sa 7 _ (by omega), sa 8 _ (by omega), sa 9 _ (by omega)]
      exact v4 j hj
    · rw [ta 5 _ (by omega) (by omega), ta 5 _ (by omega) (by omega), ta 5 _ (by omega) (by omega)]
      exact rgStep_fr (fun q => sa 3 q (by omega)) (v5 j hj)
  · exact rKept_fr hK (i1 23 (by omega)) (i1 24 (by omega)) (i1 25 (by omega)) (fun p => ⟨sb 1 p, sa 10 p (by omega), sa 11 p (by omega), sa 12 p (by omega), sa 13 p (by omega)⟩) (m1 2 (by omega)) (fun i _ => tb 0 i) (fun i _ => ta 4 i (by omega) (by omega))
theorem r_fault (hF : 200000 ≤ F) (R : Rel k σ τ) : Ok (k + 1) (f_X7_fault F σ) (f_X8_fault F τ) := by
  have R0 := R
  obtain ⟨a, w, l, n, r, h, c, hP, hM, hA, hL, hT, hX, hR, hN, hU, hK⟩ := R
  obtain ⟨v, σ', τ', k1, k2, k3, k4, -⟩ := p_fault (F := F) hF hX
  unfold f_X7_fault s_X7_fault_0
  rw [kb_eq k1, k2]
  exact ok_mk rfl ((R0.fr k3 k4).up (by omega))
def wS (L : Nat → Nat) : Nat → Nat
  | 0 => 0
  | i + 1 => wS L i ||| L i * 4 ^ i
theorem wS_lt (L : Nat → Nat) : ∀ i, i ≤ 6 → (∀ j, j < i → L j < 4) → wS L i < 4096
  | 0, _, _ => by show 0 < 4096; omega
  | i + 1, hi, h => or_lt (wS_lt L i (by omega) (fun j hj => h j (by omega))) (h i (by omega)) (by omega)
theorem wS_dg (L : Nat → Nat) : ∀ i, i ≤ 6 → (∀ j, j < i → L j < 4) → ∀ j, j < 6 → dg (wS L i) j = if j < i then L j else 0
  | 0, _, _, j, hj => by
    rw [if_neg (by omega)]
    show 0 / 4 ^ j % 4 = 0
    rw [Nat.zero_div]
  | i + 1, hi, h, j, hj => by
    show dg (wS L i ||| L i * 4 ^ i) j = _
    rw [dg_or, wS_dg L i (by omega) (fun q hq => h q (by omega)) j hj, dg_one (L i) (h i (by omega)) i (by omega) j hj]
    by_cases c : j = i
    · subst c
      rw [if_neg (by omega), if_pos rfl, if_pos (by omega), Nat.zero_or]
    · rw [if_neg c, Nat.or_zero]
      by_cases d : j < i
      · rw [if_pos d, if_pos (by omega)]
      · rw [if_neg d, if_neg (by omega)]
theorem p_told_w {b : Nat} (hb : b ≤ 6) (h14 : kI σ 14 = nI b) (L : Nat → Nat) (hL : ∀ i, i < b → L i < 4 ∧ kA σ 3 (5 * i + 1) = nI (L i)) : ∀ (f g : Nat), g ≤ b → b - g < f → itr (fun rec4 q => s_X2_toldLaws_4 F rec4 q.1 q.2.1 q.2.2) f (σ, nI (wS L g), nI g) = some (nI (wS L b), σ) := by
  intro f
  induction f with
  | zero => intro g _ h; omega
  | succ f ih =>
    intro g hg hf
    show s_X2_toldLaws_4 F _ σ (nI (wS L g)) (nI g) = _
    unfold s_X2_toldLaws_4
    rw [h14]
    have hle := nI_leI (a := b) (b := g) (by omega) (by omega)
    by_cases c : b ≤ g
    · have : g = b := by omega
      subst this
      rw [if_pos (hle.mpr c)]
    · obtain ⟨l1, l2⟩ := hL g (by omega)
      have n1 := p_numberOf (F := F) (σ := σ) g 1 (nI g) 1 rfl rfl (by omega) (by omega)
      rw [l2] at n1
      rw [if_neg (fun z => c (hle.mp z)), kb_eq n1, kb_eq (p_lawBits (L g) g (nI g) (nI (L g)) rfl rfl (by omega) l1), fa_or, nI_1]
      exact ih (g + 1) (by omega) (by omega)
theorem r_lay (hF : 200000 ≤ F) (R : Rel k σ τ) : Ok (k + 1) (f_X7_lay F σ) (f_X8_lay F τ) := by
  have R0 := R
  obtain ⟨a0, w0, l0, n, r0, h0, c0, -, -, -, -, -, hX, -, -, -, -⟩ := R
  obtain ⟨v, s, t, k1, k2, k3, k4, k5⟩ := p_fault (F := F) hF hX
  have R1 := (R0.fr k3 k4).up (show k ≤ k + 1 by omega)
  unfold f_X7_lay f_X8_lay s_X7_lay_0 s_X8_lay_0
  rw [kb_eq k1, kb_eq k2]
  by_cases cv : v = -4
  · obtain ⟨b, hb, d2, d3, ⟨t1, t2, t3, t4, t5, t6⟩, ⟨o1, o2, o3, o4, o5, o6, o7⟩, d6, d7⟩ := k5 cv
    have q0 := nI_eq (a := b) (b := 0) (by omega) (by omega)
    rw [if_pos cv, if_pos cv, d2, d3]
    by_cases cb : b = 0
    · rw [if_pos (show nI b = 0 from q0.mpr cb), if_pos (show nI b = 0 from q0.mpr cb)]
      exact ok_mk rfl R1
    · rw [if_neg (show ¬ nI b = 0 from fun z => cb (q0.mp z)), if_neg (show ¬ nI b = 0 from fun z => cb (q0.mp z)), kb_eq (p8_takes (F := F) (by omega) t)]
      have ec : f_X2_copyFrom F s = some ((), jC (jI (jI (jI (jI (jI (jI (jI s 8 (kI s 1)) 9 (kI s 2)) 10 (kI s 3)) 11 (kI s 4)) 12 (kI s 5)) 13 (kI s 6)) 14 (kI s 7)) 2 3 0 0 30) := by
        unfold f_X2_copyFrom s_X2_copyFrom_0
        rw [if_neg (by decide)]
      have e3 : ∀ j, j < 30 → kA (jC (jI (jI (jI (jI (jI (jI (jI s 8 (kI s 1)) 9 (kI s 2)) 10 (kI s 3)) 11 (kI s 4)) 12 (kI s 5)) 13 (kI s 6)) 14 (kI s 7)) 2 3 0 0 30) 3 j = kA s 2 j := by
        intro j hj
        show va_cpy (kA s 2) (kA s 3) 0 0 30 j = kA s 2 j
        rw [pk_cpy_in (by omega) (by omega), show 0 + (j - 0) = j by omega]
      have hLL : ∀ i, i < b → (kA s 2 (5 * i + 1)).toInt.toNat < 4 ∧ kA s 2 (5 * i + 1) = nI ((kA s 2 (5 * i + 1)).toInt.toNat) := by
        intro i hi
        obtain ⟨-, ⟨q1, q2⟩, -⟩ := d7 i hi
        exact ⟨by omega, k_i _ (by omega)⟩
      have wl := wS_lt (fun i => (kA s 2 (5 * i + 1)).toInt.toNat) b hb (fun j hj => (hLL j hj).1)
      have wd := wS_dg (fun i => (kA s 2 (5 * i + 1)).toInt.toNat) b hb (fun j hj => (hLL j hj).1)
      have tw := p_told_w (F := F) (σ := jC (jI (jI (jI (jI (jI (jI (jI s 8 (kI s 1)) 9 (kI s 2)) 10 (kI s 3)) 11 (kI s 4)) 12 (kI s 5)) 13 (kI s 6)) 14 (kI s 7)) 2 3 0 0 30) hb d2 (fun i => (kA s 2 (5 * i + 1)).toInt.toNat) (fun i hi => ⟨(hLL i hi).1, (e3 _ (by omega)).trans (hLL i hi).2⟩) F 0 (by omega) (by omega)
      have tw2 : f_X2_toldLaws F (jC (jI (jI (jI (jI (jI (jI (jI s 8 (kI s 1)) 9 (kI s 2)) 10 (kI s 3)) 11 (kI s 4)) 12 (kI s 5)) 13 (kI s 6)) 14 (kI s 7)) 2 3 0 0 30) = some (nI (wS (fun i => (kA s 2 (5 * i + 1)).toInt.toNat) b), _) := tw
      rw [kb_eq ec, kb_eq tw2]
      unfold f_X3_startOver s_X3_startOver_0 f_X5_clear s_X5_clear_0 f_X5_clear_v1 s_X5_clear_v1_0
      rw [kb_eq rfl, kb_eq rfl, kb_eq rfl]
      obtain ⟨a, w, l, n2, r, h, c, hP, hM, hA, hL, hT, hX2, hR, hN, hU, hK⟩ := R1
      obtain ⟨u1, u2, u3, u4, tt, S, v1, v2, -⟩ := hU
      obtain ⟨x1, x2, x3, x4, tk, x5, x6, -⟩ := hK
      generalize wS (fun i => (kA s 2 (5 * i + 1)).toInt.toNat) b = W at *
      have bR0 : bR (k + 1) 0 0 0 := by
        have y0 : (0 : Int64).toInt = 0 := rfl
        have y1 : (0 : Int32).toInt = 0 := rfl
        unfold bR
        rw [y0, y1]
        omega
      have y2 : (0 : Int64).toInt = (0 : Int32).toInt := rfl
      refine ok_mk (d3.trans d2.symm) ⟨b, W, 0, n2, 0, 0, 0, ⟨o1, o2, o3, o4, o5, o6, o7, (show 0 ≤ (0 : Int32).toInt ∧ (0 : Int32).toInt ≤ 99 by decide)⟩, ⟨t1, t2, t3, t4, t5, t6, y2⟩, ⟨⟨by omega, hb⟩, d2, d3, fun j hj => ?_, fun i hi => ?_⟩, ⟨rfl, wl, fun i hi => ?_⟩, ⟨rfl, rfl, by omega, fun i hi => absurd hi (by omega)⟩, hX2, ⟨by omega, rfl, rfl, fun i hi => absurd hi (by omega)⟩, ⟨rfl, y2, y2, bR0⟩, ⟨u1, by omega, rfl, rfl, tt, fun _ => (0, 0, 0, nI W), v1, v2, rfl, fun j hj => absurd hj (by omega), fun j hj => absurd hj (by omega), fun j hj => ⟨bR0, W, wl, rfl⟩⟩, ⟨x1, by omega, rfl, rfl, tk, x5, x6, fun j hj => absurd hj (by omega)⟩⟩
      · refine Eq.trans ?_ (e3 j (by omega)).symm
        show fa_fill (fun j => kA t 3 (30 + j)) (kA t 3) 30 j = kA s 2 j
        rw [fa_fill_in (by omega)]
        exact d6 j hj
      · obtain ⟨g1, g2, g3, g4, g5⟩ := d7 i hi
        have z0 := e3 (5 * i) (by omega)
        have z2 := e3 (5 * i + 2) (by omega)
        have z3 := e3 (5 * i + 3) (by omega)
        have z4 := e3 (5 * i + 4) (by omega)
        rw [← z0] at g1
        rw [← z2] at g3
        rw [← z3] at g4
        rw [← z4] at g5
        exact ⟨g1, g3, g4, g5⟩
      · show fa_fill (fun j => fa_fill (fun j => kA t 3 (30 + j)) (kA t 3) 30 (5 * j + 1)) (kA t 4) 6 i = nI (dg W i)
        rw [fa_fill_in (by omega), fa_fill_in (by omega), wd i (by omega), if_pos hi, d6 (5 * i + 1) (by omega)]
        exact (hLL i hi).2
  · rw [if_neg cv, if_neg cv]
    exact ok_mk rfl R1
end

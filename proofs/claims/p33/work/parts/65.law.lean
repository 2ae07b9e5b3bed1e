/-! acts, their laws, what is lawful -/
section
variable {F : Nat} {σ τ : kS}
def rAct (a : Nat) (σ τ : kS) : Prop := (1 ≤ a ∧ a ≤ 6) ∧ kI σ 14 = nI a ∧ kA τ 2 0 = nI a ∧ (∀ j, j < 5 * a → kA τ 3 j = kA σ 3 j) ∧ ∀ i, i < a → (0 ≤ (kA σ 3 (5 * i)).toInt ∧ (kA σ 3 (5 * i)).toInt ≤ 4) ∧ (1 ≤ (kA σ 3 (5 * i + 2)).toInt ∧ (kA σ 3 (5 * i + 2)).toInt ≤ 99) ∧ (0 ≤ (kA σ 3 (5 * i + 3)).toInt ∧ (kA σ 3 (5 * i + 3)).toInt ≤ 99) ∧ (0 ≤ (kA σ 3 (5 * i + 4)).toInt ∧ (kA σ 3 (5 * i + 4)).toInt ≤ 99)
def rLaw (a w : Nat) (σ τ : kS) : Prop := kI σ 18 = nI w ∧ w < 4096 ∧ ∀ i, i < a → kA τ 4 i = nI (w / 4 ^ i % 4)
theorem p_numberOf (i j : Nat) (x y : Int32) (hx : x = nI i) (hy : y = nI j) (hi : i < 6) (hj : j < 5) : f_X2_numberOf F σ x y = some (kA σ 3 (5 * i + j), σ) := by
  subst hx
  subst hy
  unfold f_X2_numberOf s_X2_numberOf_0
  have e : nI i * 5 + nI j = nI (5 * i + j) := by
    have h5 : (5 : Int32) = nI 5 := rfl
    rw [h5, pk_mul, nI_add, Nat.mul_comm]
  rw [kn_eq, e]
  have h30 : (30 : Int32) = nI 30 := rfl
  rw [h30, if_neg (nI_pos (by omega)), if_neg (nI_ge (by omega) (by omega)), if_neg (nI_in (by omega) (by omega)), nI_clamp (by omega)]
theorem ix5 (i j : Nat) (y : Int32) (hy : y = nI j) : (5 : Int32) * nI i + y = nI (5 * i + j) := by
  have h5 : (5 : Int32) = nI 5 := rfl
  rw [hy, h5, pk_mul, nI_add]
theorem p_lawOf (w i : Nat) (hi : i < 6) (hw : w < 4096) : f_X7_lawOf F σ (nI w) (nI i) = some (nI (w / 4 ^ i % 4), σ) := by
  unfold f_X7_lawOf s_X7_lawOf_0
  have key : nI w >>> (((2 : Int32) * nI i) &&& 31) = nI (w / 4 ^ i) := by
    rw [show (4 : Nat) ^ i = 2 ^ (2 * i) by rw [Nat.pow_mul]]
    refine pk_shrN (by omega) _ (2 * i) ?_
    rcases (show i = 0 ∨ i = 1 ∨ i = 2 ∨ i = 3 ∨ i = 4 ∨ i = 5 by omega) with rfl | rfl | rfl | rfl | rfl | rfl <;> decide
  rw [key, pk_andN (by have := Nat.div_le_self w (4 ^ i); omega) 2 (by decide)]
/-- a king who rules, and for whom it is lawful -/
def bK (L : Nat) (r : Int32) : Prop := (r = 0 ∧ L % 2 = 1) ∨ (r = 1 ∧ L / 2 % 2 = 1)
theorem bK_bit {L : Nat} (hL : L < 4) {r : Int32} (hr : r = 0 ∨ r = 1) : ((nI L >>> (r &&& 31)) &&& 1) = 1 ↔ bK L r := by
  unfold bK
  rcases (show L = 0 ∨ L = 1 ∨ L = 2 ∨ L = 3 by omega) with rfl | rfl | rfl | rfl <;> rcases hr with rfl | rfl <;> decide
/-- an act of a kind, lasting M, lawful for L, at minute z -/
def lwf (σ : kS) (K M : Int32) (L : Nat) (z : Int) : Prop := if K = 3 then L = 3 ∧ ¬ cR σ z = 2 else if K = 4 then ¬ L = 0 ∧ cR σ z = 2 else if K = 1 then ∀ k : Nat, (k : Int) < M.toInt → bK L (cR σ (z + k)) else bK L (cR σ z)
theorem bK_2 {L : Nat} : ¬ bK L 2 := by
  unfold bK
  intro h
  rcases h with h | h <;> exact absurd h.1 (by decide)
theorem lwf_1 (h : cPl σ) {M : Int32} (hM : 1 ≤ M.toInt) {L : Nat} {z : Int} : (∀ k : Nat, (k : Int) < M.toInt → bK L (cR σ (z + k))) ↔ (bK L (cR σ z) ∧ M.toInt ≤ cSt σ z) := by
  have hp := cSt_pos h z
  constructor
  · intro q
    have q0 := q 0 (by omega)
    have e0 : z + ((0 : Nat) : Int) = z := by omega
    rw [e0] at q0
    refine ⟨q0, ?_⟩
    rcases Int.lt_or_le (cSt σ z) M.toInt with r | r
    · have hn2 : ¬ cR σ z = 2 := fun e => by rw [e] at q0; exact bK_2 q0
      have hend := cSt_end h z hn2
      obtain ⟨k, hk⟩ : ∃ k : Nat, cSt σ z = (k : Int) := ⟨(cSt σ z).toNat, by omega⟩
      rw [hk] at hend r
      have := q k r
      rw [hend] at this
      exact absurd this bK_2
    · exact r
  · intro ⟨q0, qs⟩ k hk
    rw [cSt_same h z k (by omega)]
    exact q0
theorem p_isLawful {a w : Nat} (h : cPl σ) (hA : rAct a σ τ) (hL : rLaw a w σ τ) (i : Nat) (hi : i < a) (m : Int64) (h1 : -10000000 ≤ m.toInt) (h2 : m.toInt ≤ 9000000000000) : (lwf σ (kA σ 3 (5 * i)) (kA σ 3 (5 * i + 2)) (w / 4 ^ i % 4) m.toInt → f_X1_isLawful F σ (nI i) m = some (1, σ)) ∧ (¬ lwf σ (kA σ 3 (5 * i)) (kA σ 3 (5 * i + 2)) (w / 4 ^ i % 4) m.toInt → f_X1_isLawful F σ (nI i) m = some (0, σ)) := by
  obtain ⟨⟨ha1, ha2⟩, hA1, hA2, hA3, hA4⟩ := hA
  obtain ⟨hL1, hL2, hL3⟩ := hL
  obtain ⟨⟨k1, k2⟩, ⟨m1, m2⟩, -, -⟩ := hA4 i hi
  have hLt : w / 4 ^ i % 4 < 4 := Nat.mod_lt _ (by omega)
  generalize hLe : w / 4 ^ i % 4 = L at hLt ⊢
  have n0 := p_numberOf (F := F) (σ := σ) i 0 (nI i) 0 rfl rfl (by omega) (by omega)
  have n2 := p_numberOf (F := F) (σ := σ) i 2 (nI i) 2 rfl rfl (by omega) (by omega)
  rw [Nat.add_zero] at n0
  generalize kA σ 3 (5 * i) = K at *
  generalize kA σ 3 (5 * i + 2) = M at *
  have hr := cR_cases (σ := σ) m.toInt
  obtain ⟨sv, se, sg⟩ := p_stretchFrom (F := F) h m h1 (by omega)
  have hl := p_lawOf (F := F) (σ := σ) w i (by omega) hL2
  rw [hLe] at hl
  have eL3 : (nI L = (3 : Int32)) ↔ L = 3 := nI_eq (b := 3) (by omega) (by omega)
  have eL0 : (nI L = (0 : Int32)) ↔ L = 0 := nI_eq (b := 0) (by omega) (by omega)
  -- the end of both roads, with the bit y of 'a king rules for whom it is lawful'
  have fin : ∀ y : Int32, (y = 1 ∧ bK L (cR σ m.toInt)) ∨ (y = 0 ∧ ¬ bK L (cR σ m.toInt)) → (lwf σ K M L m.toInt → s_X1_isLawful_42 F σ (nI i) m (nI L) (cR σ m.toInt) y = some (1, σ)) ∧ (¬ lwf σ K M L m.toInt → s_X1_isLawful_42 F σ (nI i) m (nI L) (cR σ m.toInt) y = some (0, σ)) := by
    intro y hy
    have hyy : y &&& 1 = y := by rcases hy with ⟨rfl, -⟩ | ⟨rfl, -⟩ <;> rfl
    unfold s_X1_isLawful_42 lwf
    rw [kb_eq n0]
    by_cases K0 : K = 0
    · subst K0
      rw [if_pos rfl, if_pos hyy, if_neg (by decide), if_neg (by decide), if_neg (by decide)]
      rcases hy with ⟨rfl, q⟩ | ⟨rfl, q⟩
      · exact ⟨fun _ => rfl, fun z => absurd q z⟩
      · exact ⟨fun z => absurd z q, fun _ => rfl⟩
    · rw [if_neg K0]
      by_cases K1 : K = 1
      · subst K1
        rw [if_pos rfl, if_neg (by decide), if_neg (by decide), if_pos rfl, lwf_1 h m1]
        rcases hy with ⟨rfl, q⟩ | ⟨rfl, q⟩
        · rw [if_neg k10, kb_eq se, kb_eq n2]
          have hlt := fa_lt sv M
          rw [sg] at hlt
          by_cases c : cSt σ m.toInt < M.toInt
          · rw [if_pos (hlt.mpr c)]
            exact ⟨fun z => by omega, fun _ => rfl⟩
          · rw [if_neg (fun z => c (hlt.mp z))]
            exact ⟨fun _ => rfl, fun z => absurd ⟨q, by omega⟩ z⟩
        · rw [if_pos k00]
          exact ⟨fun z => absurd z.1 q, fun _ => rfl⟩
      · rw [if_neg K1, if_neg K1]
        by_cases K2 : K = 2
        · subst K2
          rw [if_pos rfl, if_pos hyy, if_neg (by decide), if_neg (by decide)]
          rcases hy with ⟨rfl, q⟩ | ⟨rfl, q⟩
          · exact ⟨fun _ => rfl, fun z => absurd q z⟩
          · exact ⟨fun z => absurd z q, fun _ => rfl⟩
        · rw [if_neg K2]
          by_cases K3 : K = 3
          · subst K3
            rw [if_pos rfl, if_pos rfl]
            by_cases c : L = 3
            · rw [if_pos (eL3.mpr c)]
              by_cases d : cR σ m.toInt = 2
              · rw [if_pos d]
                exact ⟨fun z => absurd d z.2, fun _ => rfl⟩
              · rw [if_neg d]
                exact ⟨fun _ => rfl, fun z => absurd ⟨c, d⟩ z⟩
            · rw [if_neg (fun z => c (eL3.mp z))]
              exact ⟨fun z => absurd z.1 c, fun _ => rfl⟩
          · have K4 : K = 4 := by
              have e0 : ¬ K.toInt = 0 := fun q => K0 ((fa_eq K 0).mpr q)
              have e1 : ¬ K.toInt = 1 := fun q => K1 ((fa_eq K 1).mpr q)
              have e2 : ¬ K.toInt = 2 := fun q => K2 ((fa_eq K 2).mpr q)
              have e3 : ¬ K.toInt = 3 := fun q => K3 ((fa_eq K 3).mpr q)
              refine (fa_eq K 4).mpr ?_
              show K.toInt = 4
              omega
            subst K4
            rw [if_neg K3, if_neg K3, if_pos rfl]
            by_cases c : L = 0
            · rw [if_pos (eL0.mpr c)]
              exact ⟨fun z => absurd c z.1, fun _ => rfl⟩
            · rw [if_neg (fun z => c (eL0.mp z))]
              by_cases d : cR σ m.toInt = 2
              · rw [if_pos d]
                exact ⟨fun _ => rfl, fun z => absurd ⟨c, d⟩ z⟩
              · rw [if_neg d]
                exact ⟨fun z => absurd z.2 d, fun _ => rfl⟩
  unfold f_X1_isLawful s_X1_isLawful_0 s_X1_isLawful_41
  rw [hL1, kb_eq hl, kb_eq (p_rulerAt (F := F) h m h1 (by omega))]
  by_cases c2 : cR σ m.toInt = 2
  · rw [if_pos c2]
    exact fin 0 (Or.inr ⟨rfl, by rw [c2]; exact bK_2⟩)
  · rw [if_neg c2]
    have hb := bK_bit hLt (r := cR σ m.toInt) (by rcases hr with q | q | q <;> first | exact Or.inl q | exact Or.inr q | exact absurd q c2)
    by_cases c3 : bK L (cR σ m.toInt)
    · rw [if_pos (hb.mpr c3)]
      exact fin 1 (Or.inl ⟨rfl, c3⟩)
    · rw [if_neg (fun z => c3 (hb.mp z))]
      exact fin 0 (Or.inr ⟨rfl, c3⟩)
theorem p8_isKings {a w : Nat} (h : cPl σ) (hm : mPl σ τ) (ha : a ≤ 6) (hL : rLaw a w σ τ) (i : Nat) (hi : i < a) (m : Int64) (h1 : -10000000 ≤ m.toInt) (h2 : m.toInt ≤ 9000000000000) : (bK (w / 4 ^ i % 4) (cR σ m.toInt) → f_X8_isKings F τ (nI i) m = some (1, τ)) ∧ (¬ bK (w / 4 ^ i % 4) (cR σ m.toInt) → f_X8_isKings F τ (nI i) m = some (0, τ)) := by
  obtain ⟨hL1, hL2, hL3⟩ := hL
  have hLt : w / 4 ^ i % 4 < 4 := Nat.mod_lt _ (by omega)
  have hr := cR_cases (σ := σ) m.toInt
  unfold f_X8_isKings s_X8_isKings_0
  rw [kb_eq (p8_ruler (F := F) h hm m h1 (by omega))]
  by_cases c2 : cR σ m.toInt = 2
  · rw [c2, if_pos (by decide)]
    exact ⟨fun z => absurd z bK_2, fun _ => rfl⟩
  · have hr2 : cR σ m.toInt = 0 ∨ cR σ m.toInt = 1 := by rcases hr with q | q | q <;> first | exact Or.inl q | exact Or.inr q | exact absurd q c2
    have hb := bK_bit hLt hr2
    rw [if_neg (by rcases hr2 with q | q <;> rw [q] <;> decide), if_neg (nI_in (by omega) (by omega)), nI_clamp (by omega), hL3 i hi]
    by_cases c3 : bK (w / 4 ^ i % 4) (cR σ m.toInt)
    · rw [if_pos (hb.mpr c3)]
      exact ⟨fun _ => rfl, fun z => absurd c3 z⟩
    · rw [if_neg (fun z => c3 (hb.mp z))]
      exact ⟨fun z => absurd z c3, fun _ => rfl⟩
theorem p8_lawful_loop {a w : Nat} (h : cPl σ) (hm : mPl σ τ) (ha : a ≤ 6) (hL : rLaw a w σ τ) (i : Nat) (hi : i < a) (m : Int64) (h1 : -10000000 ≤ m.toInt) (h2 : m.toInt ≤ 8000000000000) (K : Int32) (n : Nat) (hn : n ≤ 99)
    (hK : ∀ (rec79 : kS × Int32 × Int64 × Int32 × Int32 × Int32 → Option (Int32 × kS)) (x5 x6 : Int32), s_X8_isLawful_79 F rec79 τ (nI i) m K x5 x6 = s_X8_isLawful_101 F rec79 τ (nI i) m K x5 x6 (nI n) x6) :
    ∀ (f g : Nat) (x : Int32), g ≤ n → n - g < f → ((x = 1 ∧ ∀ k : Nat, k < g → bK (w / 4 ^ i % 4) (cR σ (m.toInt + k))) ∨ (x = 0 ∧ ∃ k : Nat, k < g ∧ ¬ bK (w / 4 ^ i % 4) (cR σ (m.toInt + k)))) →
    ((∀ k : Nat, k < n → bK (w / 4 ^ i % 4) (cR σ (m.toInt + k))) → itr (fun rec79 q => s_X8_isLawful_79 F rec79 q.1 q.2.1 q.2.2.1 q.2.2.2.1 q.2.2.2.2.1 q.2.2.2.2.2) f (τ, nI i, m, K, x, nI g) = some (1, τ)) ∧ ((∃ k : Nat, k < n ∧ ¬ bK (w / 4 ^ i % 4) (cR σ (m.toInt + k))) → itr (fun rec79 q => s_X8_isLawful_79 F rec79 q.1 q.2.1 q.2.2.1 q.2.2.2.1 q.2.2.2.2.1 q.2.2.2.2.2) f (τ, nI i, m, K, x, nI g) = some (0, τ)) := by
  intro f
  induction f with
  | zero => intro g x _ h; omega
  | succ f ih =>
    intro g x hg hf hx
    have e0 : itr (fun rec79 q => s_X8_isLawful_79 F rec79 q.1 q.2.1 q.2.2.1 q.2.2.2.1 q.2.2.2.2.1 q.2.2.2.2.2) (f + 1) (τ, nI i, m, K, x, nI g) = s_X8_isLawful_79 F (itr (fun rec79 q => s_X8_isLawful_79 F rec79 q.1 q.2.1 q.2.2.1 q.2.2.2.1 q.2.2.2.2.1 q.2.2.2.2.2) f) τ (nI i) m K x (nI g) := rfl
    rw [e0, hK]
    unfold s_X8_isLawful_101
    have hle := nI_leI (a := n) (b := g) (by omega) (by omega)
    have hxx : x &&& 1 = x := by rcases hx with ⟨rfl, -⟩ | ⟨rfl, -⟩ <;> rfl
    by_cases c : n ≤ g
    · have : g = n := by omega
      subst this
      rw [if_pos (hle.mpr c), if_pos hxx]
      rcases hx with ⟨rfl, q⟩ | ⟨rfl, q⟩
      · exact ⟨fun _ => rfl, fun ⟨k, k1, k2⟩ => absurd (q k k1) k2⟩
      · obtain ⟨k, k1, k2⟩ := q
        exact ⟨fun z => absurd (z k k1) k2, fun _ => rfl⟩
    · rw [if_neg (fun q => c (hle.mp q))]
      rcases hx with ⟨rfl, q⟩ | ⟨rfl, q⟩
      · rw [if_neg k10]
        have em := k_addm m g (by omega) h1 (by omega)
        have hk := p8_isKings (F := F) h hm ha hL i hi (m + (nI g).toInt64) (by omega) (by omega)
        rw [em] at hk
        by_cases d : bK (w / 4 ^ i % 4) (cR σ (m.toInt + g))
        · rw [kb_eq (hk.1 d), nI_1]
          exact ih (g + 1) 1 (by omega) (by omega) (Or.inl ⟨rfl, fun k hk2 => by
            by_cases e : k < g
            · exact q k e
            · have : k = g := by omega
              subst this; exact d⟩)
        · rw [kb_eq (hk.2 d), nI_1]
          exact ih (g + 1) 0 (by omega) (by omega) (Or.inr ⟨rfl, g, by omega, d⟩)
      · rw [if_pos k00, if_pos hxx]
        obtain ⟨k, k1, k2⟩ := q
        exact ⟨fun z => absurd (z k (by omega)) k2, fun _ => rfl⟩
theorem p8_isLawful {a w : Nat} (hF : 200000 ≤ F) (h : cPl σ) (hm : mPl σ τ) (hA : rAct a σ τ) (hL : rLaw a w σ τ) (i : Nat) (hi : i < a) (m : Int64) (h1 : -10000000 ≤ m.toInt) (h2 : m.toInt ≤ 8000000000000) : (lwf σ (kA σ 3 (5 * i)) (kA σ 3 (5 * i + 2)) (w / 4 ^ i % 4) m.toInt → f_X8_isLawful F τ (nI i) m = some (1, τ)) ∧ (¬ lwf σ (kA σ 3 (5 * i)) (kA σ 3 (5 * i + 2)) (w / 4 ^ i % 4) m.toInt → f_X8_isLawful F τ (nI i) m = some (0, τ)) := by
  have hLc := hL
  obtain ⟨⟨ha1, ha2⟩, hA1, hA2, hA3, hA4⟩ := hA
  obtain ⟨hL1, hL2, hL3⟩ := hL
  obtain ⟨⟨k1, k2⟩, ⟨m1, m2⟩, -, -⟩ := hA4 i hi
  have hLt : w / 4 ^ i % 4 < 4 := Nat.mod_lt _ (by omega)
  have hr := cR_cases (σ := σ) m.toInt
  have x0 := ix5 i 0 0 rfl
  have x2 := ix5 i 2 2 rfl
  rw [Nat.add_zero] at x0
  have t0 := hA3 (5 * i) (by omega)
  have t2 := hA3 (5 * i + 2) (by omega)
  have t4 := hL3 i hi
  have eL3 : (nI (w / 4 ^ i % 4) = (3 : Int32)) ↔ w / 4 ^ i % 4 = 3 := nI_eq (b := 3) (by omega) (by omega)
  have eL0 : (nI (w / 4 ^ i % 4) ≤ (0 : Int32)) ↔ w / 4 ^ i % 4 ≤ 0 := nI_leI (b := 0) (by omega) (by omega)
  unfold f_X8_isLawful s_X8_isLawful_0
  rw [x0, if_neg (nI_in (by omega) (by omega)), nI_clamp (by omega), kn_eq, t0, if_neg (nI_in (N := 18) (by omega) (by omega)), nI_clamp (by omega), t4]
  unfold lwf
  by_cases K3 : kA σ 3 (5 * i) = 3
  · rw [if_pos K3, if_pos K3]
    by_cases c : w / 4 ^ i % 4 = 3
    · rw [if_pos (eL3.mpr c), kb_eq (p8_ruler (F := F) h hm m h1 (by omega))]
      by_cases d : cR σ m.toInt = 2
      · rw [d, if_pos (by decide)]
        exact ⟨fun z => absurd rfl z.2, fun _ => rfl⟩
      · rw [if_neg (by rcases hr with q | q | q <;> first | (rw [q]; decide) | exact absurd q d)]
        exact ⟨fun _ => rfl, fun z => absurd ⟨c, d⟩ z⟩
    · rw [if_neg (fun z => c (eL3.mp z))]
      exact ⟨fun z => absurd z.1 c, fun _ => rfl⟩
  · rw [if_neg K3, if_neg K3]
    by_cases K4 : kA σ 3 (5 * i) = 4
    · have hin18 : ¬ (nI i < 0 ∨ 18 ≤ i) := fun q => by
        rcases q with q | q
        · exact nI_pos (by omega) q
        · omega
      rw [if_pos K4, if_pos K4, if_neg hin18]
      by_cases c : w / 4 ^ i % 4 = 0
      · rw [if_pos (eL0.mpr (by omega))]
        exact ⟨fun z => absurd c z.1, fun _ => rfl⟩
      · rw [if_neg (fun z => c (by have := eL0.mp z; omega)), kb_eq (p8_ruler (F := F) h hm m h1 (by omega))]
        by_cases d : cR σ m.toInt = 2
        · rw [if_pos d]
          exact ⟨fun _ => rfl, fun z => absurd ⟨c, d⟩ z⟩
        · rw [if_neg d]
          exact ⟨fun z => absurd z.2 d, fun _ => rfl⟩
    · rw [if_neg K4, if_neg K4]
      by_cases K1 : kA σ 3 (5 * i) = 1
      · rw [if_pos K1, K1]
        obtain ⟨n, hn, hnn⟩ : ∃ n : Nat, kA σ 3 (5 * i + 2) = nI n ∧ n ≤ 99 := ⟨(kA σ 3 (5 * i + 2)).toInt.toNat, k_i _ (by omega), by omega⟩
        have hni : (kA σ 3 (5 * i + 2)).toInt = n := by rw [hn, nI_toInt (by omega)]
        have e := p8_lawful_loop (F := F) h hm ha2 hLc i hi m h1 h2 1 n hnn (fun rec79 x5 x6 => by
          unfold s_X8_isLawful_79
          rw [if_pos rfl, x2, if_neg (nI_in (by omega) (by omega)), nI_clamp (by omega), t2, hn]) F 0 1 (by omega) (by omega) (Or.inl ⟨rfl, fun k hk => by omega⟩)
        rw [hni]
        constructor
        · intro z
          exact e.1 (fun k hk => z k (by omega))
        · intro z
          refine e.2 ?_
          rcases Classical.em (∃ k : Nat, k < n ∧ ¬ bK (w / 4 ^ i % 4) (cR σ (m.toInt + k))) with q | q
          · exact q
          · exact absurd (fun k hk => by
              rcases Classical.em (bK (w / 4 ^ i % 4) (cR σ (m.toInt + (k : Nat)))) with r | r
              · exact r
              · exact absurd ⟨k, by omega, r⟩ q) z
      · rw [if_neg K1]
        have e := p8_lawful_loop (F := F) h hm ha2 hLc i hi m h1 h2 (kA σ 3 (5 * i)) 1 (by omega) (fun rec79 x5 x6 => by
          unfold s_X8_isLawful_79
          rw [if_neg K1]; rfl) F 0 1 (by omega) (by omega) (Or.inl ⟨rfl, fun k hk => by omega⟩)
        have e0 : m.toInt + ((0 : Nat) : Int) = m.toInt := by omega
        constructor
        · intro z
          exact e.1 (fun k hk => by have : k = 0 := by omega
                                    subst this; rw [e0]; exact z)
        · intro z
          exact e.2 ⟨0, by omega, by rw [e0]; exact z⟩
end

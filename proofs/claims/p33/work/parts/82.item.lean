/-! the readers: an item -/
section
variable {F : Nat} {σ τ : kS} {k : Nat}
theorem s8_fail (f : Nat) (st : kS) (x1 x2 x4 : Int32) : itr (fun rec38 q => s_X8_isItem_38 F rec38 q.1 q.2.1 q.2.2.1 q.2.2.2.1 q.2.2.2.2) (f + 1) (st, x1, x2, 0, x4) = some (0, jI st 1 (kI st 1 + 1)) := by
  show s_X8_isItem_38 F _ st x1 x2 0 x4 = _
  unfold s_X8_isItem_38 s_X8_isItem_144 s_X8_isItem_177 s_X8_isItem_178
  by_cases c : x2 ≤ x4
  · rw [if_pos c, if_pos k00, if_pos k00]
  · rw [if_neg c, if_pos k00, if_pos k00, if_pos k00]
theorem n59 : (59 : Int32).toInt = 59 := rfl
theorem ne_m4 (p : Nat) (h : p ≤ 1000) : ¬ nI p = -4 := by
  intro q
  have := congrArg Int32.toInt q
  rw [nI_toInt (by omega), show (-4 : Int32).toInt = -4 by decide] at this
  omega
/-- the same numbers read so far -/
def sN (i : Nat) (g g' : Nat → Int32) : Prop := ∀ j, j < i → g j = g' j ∧ 0 ≤ (g j).toInt ∧ (g j).toInt ≤ 999
theorem sN_up {i : Nat} {g g' : Nat → Int32} (h : sN i g g') (v : Int32) (h1 : 0 ≤ v.toInt) (h2 : v.toInt ≤ 999) : sN (i + 1) (upd g i v) (upd g' i v) := by
  intro j hj
  by_cases c : j = i
  · subst c
    rw [pk_us, pk_us]
    exact ⟨rfl, h1, h2⟩
  · rw [pk_un c, pk_un c]
    exact h j (by omega)
def CI (F f : Nat) : kS × Int32 × Int32 × Int32 → Option (Int32 × kS) := itr (fun rec23 q => s_X4_readItem_23 F rec23 q.1 q.2.1 q.2.2.1 q.2.2.2) f
def RI (F f : Nat) : kS × Int32 × Int32 × Int32 × Int32 → Option (Int32 × kS) := itr (fun rec38 q => s_X8_isItem_38 F rec38 q.1 q.2.1 q.2.2.1 q.2.2.2.1 q.2.2.2.2) f
/-- the reference before it reads the i-th number at p -/
def RN (F f : Nat) (x1 : Int32) (W i : Nat) (st : kS) : Option (Int32 × kS) := kb (f_X8_number F st) fun v s => s_X8_isItem_121 F (RI F f) s x1 (nI W) (nI i) v (nI i)
def Jt (F n : Nat) (σ τ : kS) (W : Nat) (x1 : Int32) (i f f' p : Nat) (g g' : Nat → Int32) : Prop :=
  (∃ g2 g2' q, CI F f (zA σ 1 g, nI W, nI p, nI i) = some (-4, zA σ 1 g2) ∧ RN F f' x1 W i (jI (zA τ 8 g') 1 (nI p)) = some (0, jI (zA τ 8 g2') 1 q)) ∨
  (∃ g2 g2' e, p < e ∧ e ≤ n ∧ CI F f (zA σ 1 g, nI W, nI p, nI i) = some (nI e, zA σ 1 g2) ∧ RN F f' x1 W i (jI (zA τ 8 g') 1 (nI p)) = s_X8_isItem_178 F (jI (zA τ 8 g2') 1 (nI (e - 1))) x1 1 ∧ sN W g2 g2')
theorem st_8 (τ : kS) (G : Nat → Int32) (q v : Int32) (i : Nat) : jA (jI (zA τ 8 G) 1 q) 8 i v = jI (zA τ 8 (upd G i v)) 1 q := by
  show jI (jA (zA τ 8 G) 8 i v) 1 q = _
  rw [jA_zA]
theorem st_8a (τ : kS) (G : Nat → Int32) (q v : Int32) (i : Nat) : kA (jI (zA τ 8 (upd G i v)) 1 q) 8 i = v := by
  show kA (zA τ 8 (upd G i v)) 8 i = v
  rw [kA_zA, pk_us]
theorem RI_fail (f : Nat) (st : kS) (x1 x2 x4 : Int32) : RI F (f + 1) (st, x1, x2, 0, x4) = some (0, jI st 1 (kI st 1 + 1)) := s8_fail f st x1 x2 x4
theorem R_121_neg (f : Nat) (x1 : Int32) (W i : Nat) (hi : i < 5) (G : Nat → Int32) (q v : Int32) (hv : v < 0) : s_X8_isItem_121 F (RI F (f + 1)) (jI (zA τ 8 G) 1 q) x1 (nI W) (nI i) v (nI i) = some (0, jI (zA τ 8 (upd G i v)) 1 (q + 1)) := by
  unfold s_X8_isItem_121 s_X8_isItem_137
  rw [if_neg (nI_in (by omega) (by omega)), if_neg (nI_in (by omega) (by omega)), nI_clamp (by omega), st_8, st_8a, if_pos hv, RI_fail]
  rw [show kI (jI (zA τ 8 (upd G i v)) 1 q) 1 = q from rfl, jI_jI]
theorem R_121_pos (f : Nat) (x1 : Int32) (W i : Nat) (hi : i < 5) (G : Nat → Int32) (q v : Int32) (hv : ¬ v < 0) : s_X8_isItem_121 F (RI F (f + 1)) (jI (zA τ 8 G) 1 q) x1 (nI W) (nI i) v (nI i) = s_X8_isItem_38 F (RI F f) (jI (zA τ 8 (upd G i v)) 1 q) x1 (nI W) 1 (nI (i + 1)) := by
  unfold s_X8_isItem_121 s_X8_isItem_137
  rw [if_neg (nI_in (by omega) (by omega)), if_neg (nI_in (by omega) (by omega)), nI_clamp (by omega), st_8, st_8a, if_neg hv, nI_1]
  rfl
theorem C_52 {n : Nat} (hX : rTxt n σ τ) (rc : kS × Int32 × Int32 × Int32 → Option (Int32 × kS)) (x2 x4 : Int32) (q : Nat) (hq : q ≤ n) (c : Int32) (hc : 0 ≤ c.toInt) (hc2 : c.toInt < 128) : (q < n ∧ kA σ 0 q = c → s_X4_readItem_52 F rc σ x2 (nI q) x4 c = rc (σ, x2, nI (q + 1), x4 + 1)) ∧ (¬ (q < n ∧ kA σ 0 q = c) → s_X4_readItem_52 F rc σ x2 (nI q) x4 c = some (-4, σ)) := by
  have x1 := hX.1
  have hb := p_byteAt (F := F) hX q (by omega)
  unfold s_X4_readItem_52
  rw [if_neg (ne_m4 q (by omega))]
  constructor
  · intro ⟨h1, h2⟩
    obtain ⟨-, y1, y2⟩ := hX.2.2.2 q h1
    rw [kb_eq (hb.1 h1), if_pos ((msk_eq _ y1 y2 c hc hc2).mpr h2), nI_1]
  · intro h
    by_cases h1 : q < n
    · obtain ⟨-, y1, y2⟩ := hX.2.2.2 q h1
      rw [kb_eq (hb.1 h1), if_neg (fun z => h ⟨h1, (msk_eq _ y1 y2 c hc hc2).mp z⟩)]
    · rw [kb_eq (hb.2 (by omega)), if_neg]
      intro z
      rw [← z, show (-1 : Int32).toInt = -1 by decide] at hc
      omega
theorem p_item_step {n : Nat} (hF : 200000 ≤ F) (hX : rTxt n σ τ) (W : Nat) (hW : W ≤ 5) (x1 : Int32) (i f h p : Nat) (g g' : Nat → Int32) (hi : i < W) (hp : p ≤ n) (hs : sN i g g')
    (nxt : i + 1 < W → ∀ (p : Nat) (g g' : Nat → Int32), p ≤ n → sN (i + 1) g g' → Jt F n σ τ W x1 (i + 1) (f + 1) (h + 1) p g g') : Jt F n σ τ W x1 i (f + 2) (h + 2) p g g' := by
  have hn := hX.1
  obtain ⟨d, hr⟩ := run_ex (kA σ 0) n (n - p) p (by omega)
  have hr : Run (kA σ 0) n p d := hr
  obtain ⟨r1, r2, r3⟩ := id hr
  have hXs : ∀ G G', rTxt n (zA σ 1 G) (zA τ 8 G') := fun _ _ => hX
  have eC : CI F (f + 2) (zA σ 1 g, nI W, nI p, nI i) = s_X4_readItem_23 F (CI F (f + 1)) (zA σ 1 g) (nI W) (nI p) (nI i) := rfl
  have hwi := nI_leI (a := W) (b := i) (by omega) (by omega)
  have hw1 := nI_leI (a := W) (b := i + 1) (by omega) (by omega)
  have c59 : (59 : Int32).toInt = 59 := rfl
  have c44 : (44 : Int32).toInt = 44 := rfl
  have cn := p_readNumber (F := F) hF (hXs g g') p i d (if d < 3 then d else 3) hr (by omega) rfl
  have mn := p8_number (F := F) hF (hXs g g') p d hr
  have mn : f_X8_number F (jI (zA τ 8 g') 1 (nI p)) = if 1 ≤ d ∧ d ≤ 3 then some (vI (kA σ 0) p d, jI (zA τ 8 g') 1 (nI (p + d))) else some (-1, jI (zA τ 8 g') 1 (nI (p + d))) := mn
  unfold Jt
  rw [eC]
  unfold s_X4_readItem_23 RN
  rw [if_neg (fun z => by have := hwi.mp z; omega), nI_1]
  by_cases d0 : d = 0
  · rw [if_pos (show d < 3 by omega), if_pos d0] at cn
    rw [if_neg (by omega)] at mn
    refine Or.inl ⟨g, upd g' i (-1), nI (p + d) + 1, ?_, ?_⟩
    · rw [kb_eq cn]
      unfold s_X4_readItem_52
      rw [if_pos rfl, if_pos rfl, ite_self]
    · rw [kb_eq mn]
      exact R_121_neg (h + 1) x1 W i (by omega) g' _ _ (by decide)
  · by_cases d3 : d ≤ 3
    · have e3 : (if d < 3 then d else 3) = d := by
        by_cases q : d < 3
        · rw [if_pos q]
        · rw [if_neg q]; omega
      rw [e3, if_neg d0] at cn
      have cn : f_X4_readNumber F (zA σ 1 g) (nI p) (nI i) = some (nI (p + d), jA (zA σ 1 g) 1 i (vI (kA σ 0) p d)) := cn
      rw [jA_zA] at cn
      rw [if_pos (by omega)] at mn
      have vb := vI_b (kA σ 0) p d d3 r2
      have hs2 := sN_up hs (vI (kA σ 0) p d) vb.1 vb.2
      have nv : ¬ vI (kA σ 0) p d < 0 := fun z => by
        have := (k_lt _ 0 0 rfl).mp z
        omega
      rw [kb_eq cn, kb_eq mn, R_121_pos (h + 1) x1 W i (by omega) g' _ _ nv]
      generalize vI (kA σ 0) p d = v at *
      have hle := nI_leI (a := n) (b := p + d) (by omega) (by omega)
      unfold s_X8_isItem_38
      by_cases hw : W ≤ i + 1
      · have C := C_52 (F := F) (hXs (upd g i v) g') (CI F (f + 1)) (nI W) (nI i) (p + d) r1 59 (by omega) (by omega)
        rw [if_pos (hw1.mpr hw), if_pos (hw1.mpr hw)]
        unfold s_X8_isItem_144 s_X8_isItem_177
        rw [if_neg k10, show kI (jI (zA τ 8 (upd g' i v)) 1 (nI (p + d))) 0 = nI n from hX.2.2.1, show kI (jI (zA τ 8 (upd g' i v)) 1 (nI (p + d))) 1 = nI (p + d) from rfl]
        have fail : s_X8_isItem_178 F (jI (zA τ 8 (upd g' i v)) 1 (nI (p + d))) x1 0 = some (0, jI (zA τ 8 (upd g' i v)) 1 (nI (p + d) + 1)) := by
          unfold s_X8_isItem_178
          rw [if_pos k00, show kI (jI (zA τ 8 (upd g' i v)) 1 (nI (p + d))) 1 = nI (p + d) from rfl, jI_jI]
        by_cases c1 : n ≤ p + d
        · refine Or.inl ⟨upd g i v, upd g' i v, nI (p + d) + 1, C.2 (fun z => by omega), ?_⟩
          rw [if_pos (hle.mpr c1)]
          exact fail
        · obtain ⟨y0, y1, y2⟩ := hX.2.2.2 (p + d) (by omega)
          have ey : kA (jI (zA τ 8 (upd g' i v)) 1 (nI (p + d))) 0 (p + d) = kA σ 0 (p + d) := y0
          rw [if_neg (fun z => c1 (hle.mp z)), if_neg (nI_in (by omega) (by omega)), nI_clamp (by omega), ey]
          by_cases c2 : kA σ 0 (p + d) = 59
          · refine Or.inr ⟨upd g i v, upd g' i v, p + d + 1, by omega, by omega, ?_, ?_, ?_⟩
            · refine (C.1 ⟨by omega, c2⟩).trans ?_
              show s_X4_readItem_23 F _ (zA σ 1 (upd g i v)) (nI W) (nI (p + d + 1)) (nI i + 1) = _
              unfold s_X4_readItem_23
              rw [nI_1, if_pos (hw1.mpr hw)]
            · rw [if_pos c2]
              rfl
            · rw [show W = i + 1 by omega]
              exact hs2
          · refine Or.inl ⟨upd g i v, upd g' i v, nI (p + d) + 1, C.2 (fun z => c2 z.2), ?_⟩
            rw [if_neg c2]
            exact fail
      · have C := C_52 (F := F) (hXs (upd g i v) g') (CI F (f + 1)) (nI W) (nI i) (p + d) r1 44 (by omega) (by omega)
        have n1 : ¬ nI (i + 1) = 0 := nI_ne0 (by omega) (by omega)
        rw [if_neg (fun z => hw (hw1.mp z)), if_neg (fun z => hw (hw1.mp z)), if_neg k10, if_neg n1]
        unfold s_X8_isItem_78 s_X8_isItem_82 s_X8_isItem_83
        rw [if_neg n1, if_neg n1, show kI (jI (zA τ 8 (upd g' i v)) 1 (nI (p + d))) 0 = nI n from hX.2.2.1, show kI (jI (zA τ 8 (upd g' i v)) 1 (nI (p + d))) 1 = nI (p + d) from rfl]
        unfold s_X8_isItem_99
        rw [if_pos k00, if_neg k10, jI_jI, nI_1, R_121_neg h x1 W (i + 1) (by omega) (upd g' i v) _ _ (by decide)]
        by_cases c1 : n ≤ p + d
        · refine Or.inl ⟨upd g i v, upd (upd g' i v) (i + 1) (-1), nI (p + d + 1) + 1, C.2 (fun z => by omega), ?_⟩
          rw [if_pos (hle.mpr c1)]
        · obtain ⟨y0, y1, y2⟩ := hX.2.2.2 (p + d) (by omega)
          have ey : kA (jI (zA τ 8 (upd g' i v)) 1 (nI (p + d))) 0 (p + d) = kA σ 0 (p + d) := y0
          rw [if_neg (fun z => c1 (hle.mp z)), if_neg (nI_in (by omega) (by omega)), nI_clamp (by omega), ey]
          by_cases c2 : kA σ 0 (p + d) = 44
          · have J := nxt (by omega) (p + d + 1) (upd g i v) (upd g' i v) (by omega) hs2
            rw [if_pos c2, C.1 ⟨by omega, c2⟩, nI_1]
            rcases J with ⟨g2, g2', q, j1, j2⟩ | ⟨g2, g2', e, j1, j2, j3, j4, j5⟩
            · exact Or.inl ⟨g2, g2', q, j1, j2⟩
            · exact Or.inr ⟨g2, g2', e, by omega, j2, j3, j4, j5⟩
          · refine Or.inl ⟨upd g i v, upd (upd g' i v) (i + 1) (-1), nI (p + d + 1) + 1, C.2 (fun z => c2 z.2), ?_⟩
            rw [if_neg c2]
    · have e3 : (if d < 3 then d else 3) = 3 := if_neg (by omega)
      rw [e3, if_neg (by omega)] at cn
      have cn : f_X4_readNumber F (zA σ 1 g) (nI p) (nI i) = some (nI (p + 3), jA (zA σ 1 g) 1 i (vI (kA σ 0) p 3)) := cn
      rw [jA_zA] at cn
      rw [if_neg (by omega)] at mn
      have f3 := r2 3 (by omega)
      refine Or.inl ⟨upd g i (vI (kA σ 0) p 3), upd g' i (-1), nI (p + d) + 1, ?_, ?_⟩
      · rw [kb_eq cn]
        have C1 := C_52 (F := F) (hXs (upd g i (vI (kA σ 0) p 3)) g') (CI F (f + 1)) (nI W) (nI i) (p + 3) (by omega) 59 (by omega) (by omega)
        have C2 := C_52 (F := F) (hXs (upd g i (vI (kA σ 0) p 3)) g') (CI F (f + 1)) (nI W) (nI i) (p + 3) (by omega) 44 (by omega) (by omega)
        rw [C1.2 (fun z => by
          have z2 : kA σ 0 (p + 3) = 59 := z.2
          unfold fig at f3
          rw [z2] at f3
          omega), C2.2 (fun z => by
          have z2 : kA σ 0 (p + 3) = 44 := z.2
          unfold fig at f3
          rw [z2] at f3
          omega), ite_self]
      · rw [kb_eq mn]
        exact R_121_neg (h + 1) x1 W i (by omega) g' _ _ (by decide)
theorem p_item_loop {n : Nat} (hF : 200000 ≤ F) (hX : rTxt n σ τ) (W : Nat) (hW : W ≤ 5) (x1 : Int32) :
    ∀ (u i p f h : Nat) (g g' : Nat → Int32), i + (u + 1) = W → u < f → u < h → p ≤ n → sN i g g' → Jt F n σ τ W x1 i (f + 1) (h + 1) p g g' := by
  intro u
  induction u with
  | zero =>
    intro i p f h g g' hi hf hh hp hs
    obtain ⟨f0, rfl⟩ : ∃ f0, f = f0 + 1 := ⟨f - 1, by omega⟩
    obtain ⟨h0, rfl⟩ : ∃ h0, h = h0 + 1 := ⟨h - 1, by omega⟩
    exact p_item_step hF hX W hW x1 i f0 h0 p g g' (by omega) hp hs (fun z => absurd z (by omega))
  | succ u ih =>
    intro i p f h g g' hi hf hh hp hs
    obtain ⟨f0, rfl⟩ : ∃ f0, f = f0 + 1 := ⟨f - 1, by omega⟩
    obtain ⟨h0, rfl⟩ : ∃ h0, h = h0 + 1 := ⟨h - 1, by omega⟩
    exact p_item_step hF hX W hW x1 i f0 h0 p g g' (by omega) hp hs (fun z p2 g2 g2' q1 q2 => ih (i + 1) p2 f0 h0 g2 g2' (by omega) (by omega) (by omega) q1 q2)
end

/-! the readers: a whole item; what it tells -/
section
variable {F : Nat} {σ τ : kS} {k : Nat}
theorem p_item_tail {n : Nat} (hF : 200000 ≤ F) (hX : rTxt n σ τ) (W : Nat) (h1 : 1 ≤ W) (hW : W ≤ 5) (y : Int32) (p : Nat) (hp : p < n) :
    (∃ g2 g2' q, f_X4_readItem_23 F (σ, nI W, nI (p + 1), 0) = some (-4, zA σ 1 g2) ∧ f_X8_isItem_38 F (jI τ 1 (nI (p + 1)), y, nI W, 1, 0) = some (0, jI (zA τ 8 g2') 1 q)) ∨
    (∃ g2 g2' e, p < e ∧ e ≤ n ∧ f_X4_readItem_23 F (σ, nI W, nI (p + 1), 0) = some (nI e, zA σ 1 g2) ∧ f_X8_isItem_38 F (jI τ 1 (nI (p + 1)), y, nI W, 1, 0) = s_X8_isItem_178 F (jI (zA τ 8 g2') 1 (nI (e - 1))) y 1 ∧ sN W g2 g2') := by
  obtain ⟨f, rfl⟩ : ∃ f, F = f + 2 := ⟨F - 2, by omega⟩
  have J := p_item_loop hF hX W hW y (W - 1) 0 (p + 1) (f + 1) f (kA σ 1) (kA τ 8) (by omega) (by omega) (by omega) (by omega) (fun j hj => absurd hj (by omega))
  have hw := nI_leI (a := W) (b := 0) (by omega) (by omega)
  have eR : f_X8_isItem_38 (f + 2) (jI τ 1 (nI (p + 1)), y, nI W, 1, 0) = RN (f + 2) (f + 1) y W 0 (jI τ 1 (nI (p + 1))) := by
    show s_X8_isItem_38 (f + 2) (RI (f + 2) (f + 1)) (jI τ 1 (nI (p + 1))) y (nI W) 1 0 = _
    unfold s_X8_isItem_38 s_X8_isItem_78 s_X8_isItem_83 s_X8_isItem_99
    rw [if_neg (show ¬ nI W ≤ 0 from fun z => by have := hw.mp z; omega), if_neg k10, if_pos k00, if_pos k00, if_neg k10, show kI (jI τ 1 (nI (p + 1))) 1 = nI (p + 1) from rfl, jI_jI, Int32.add_zero]
    rfl
  unfold Jt at J
  rw [zA_self, zA_self] at J
  rw [eR]
  rcases J with ⟨g2, g2', q, j1, j2⟩ | ⟨g2, g2', e, j1, j2, j3, j4, j5⟩
  · exact Or.inl ⟨g2, g2', q, j1, j2⟩
  · exact Or.inr ⟨g2, g2', e, by omega, j2, j3, j4, j5⟩
def ltr (l : Int32) (W : Nat) : Prop := (l = 97 ∧ W = 5) ∨ (l = 111 ∧ W = 1) ∨ (l = 115 ∧ W = 1) ∨ (l = 116 ∧ W = 4)
theorem p_item {n : Nat} (hF : 200000 ≤ F) (hX : rTxt n σ τ) (p : Nat) (hp : p < n) :
    (∃ g2 g2' q, f_X4_readItem F σ (nI p) = some (-4, zA σ 1 g2) ∧ f_X8_isItem F (jI τ 1 (nI p)) = some (0, jI (zA τ 8 g2') 1 q)) ∨
    (∃ l W g2 g2' e, ltr l W ∧ kA σ 0 p = l ∧ p < e ∧ e ≤ n ∧ f_X4_readItem F σ (nI p) = some (nI e, zA σ 1 g2) ∧ f_X8_isItem F (jI τ 1 (nI p)) = s_X8_isItem_178 F (jI (zA τ 8 g2') 1 (nI (e - 1))) l 1 ∧ sN W g2 g2') := by
  have hn := hX.1
  obtain ⟨y0, y1, y2⟩ := hX.2.2.2 p hp
  have m97 := msk_eq (kA σ 0 p) y1 y2 97 (by decide) (by decide)
  have m111 := msk_eq (kA σ 0 p) y1 y2 111 (by decide) (by decide)
  have m115 := msk_eq (kA σ 0 p) y1 y2 115 (by decide) (by decide)
  have m116 := msk_eq (kA σ 0 p) y1 y2 116 (by decide) (by decide)
  have fin : ∀ W : Nat, 1 ≤ W → W ≤ 5 → f_X2_numbersBehind F σ (kA σ 0 p &&& 255) = some (nI W, σ) → f_X8_parts F (jI τ 1 (nI (p + 1))) (kA σ 0 p) = some (nI W, jI τ 1 (nI (p + 1))) → ltr (kA σ 0 p) W → (∃ g2 g2' q, f_X4_readItem F σ (nI p) = some (-4, zA σ 1 g2) ∧ f_X8_isItem F (jI τ 1 (nI p)) = some (0, jI (zA τ 8 g2') 1 q)) ∨
    (∃ l W g2 g2' e, ltr l W ∧ kA σ 0 p = l ∧ p < e ∧ e ≤ n ∧ f_X4_readItem F σ (nI p) = some (nI e, zA σ 1 g2) ∧ f_X8_isItem F (jI τ 1 (nI p)) = s_X8_isItem_178 F (jI (zA τ 8 g2') 1 (nI (e - 1))) l 1 ∧ sN W g2 g2') := by
    intro W h1 hW e1 e2 hl
    have hw := nI_leI (a := W) (b := 0) (by omega) (by omega)
    have c1 : f_X4_readItem F σ (nI p) = f_X4_readItem_23 F (σ, nI W, nI (p + 1), 0) := by
      unfold f_X4_readItem s_X4_readItem_0
      rw [kb_eq ((p_byteAt (F := F) hX p (by omega)).1 hp), kb_eq e1, if_neg (nI_ne0 (by omega) (by omega)), nI_1]
    have c2 : f_X8_isItem F (jI τ 1 (nI p)) = f_X8_isItem_38 F (jI τ 1 (nI (p + 1)), kA σ 0 p, nI W, 1, 0) := by
      unfold f_X8_isItem s_X8_isItem_0 s_X8_isItem_34
      rw [show kI (jI τ 1 (nI p)) 1 = nI p from rfl, if_neg (nI_in (by omega) (by omega)), nI_clamp (by omega), show kA (jI τ 1 (nI p)) 0 p = kA σ 0 p from y0, kn_eq, jI_jI, nI_1, kb_eq e2, if_neg (show ¬ nI W ≤ 0 from fun z => by have := hw.mp z; omega)]
    rw [c1, c2]
    rcases p_item_tail hF hX W h1 hW (kA σ 0 p) p hp with ⟨g2, g2', q, j1, j2⟩ | ⟨g2, g2', e, j1, j2, j3, j4, j5⟩
    · exact Or.inl ⟨g2, g2', q, j1, j2⟩
    · exact Or.inr ⟨kA σ 0 p, W, g2, g2', e, hl, rfl, j1, j2, j3, j4, j5⟩
  unfold f_X2_numbersBehind s_X2_numbersBehind_0 f_X8_parts s_X8_parts_0 s_X8_parts_32 at fin
  by_cases c1 : kA σ 0 p = 97
  · exact fin 5 (by omega) (by omega) (by rw [if_pos (m97.mpr c1)]; rfl) (by rw [if_pos c1]; rfl) (Or.inl ⟨c1, rfl⟩)
  · have d1 : ¬ kA σ 0 p &&& 255 = 97 := fun z => c1 (m97.mp z)
    by_cases c2 : kA σ 0 p = 111
    · exact fin 1 (by omega) (by omega) (by rw [if_neg d1, if_pos (m111.mpr c2)]; rfl) (by rw [if_neg c1, if_neg (show ¬ kA σ 0 p = 116 by rw [c2]; decide), if_pos c2]; rfl) (Or.inr (Or.inl ⟨c2, rfl⟩))
    · have d2 : ¬ kA σ 0 p &&& 255 = 111 := fun z => c2 (m111.mp z)
      by_cases c3 : kA σ 0 p = 115
      · exact fin 1 (by omega) (by omega) (by rw [if_neg d1, if_neg d2, if_pos (m115.mpr c3)]; rfl) (by rw [if_neg c1, if_neg (show ¬ kA σ 0 p = 116 by rw [c3]; decide), if_neg c2, if_pos c3]; rfl) (Or.inr (Or.inr (Or.inl ⟨c3, rfl⟩)))
      · have d3 : ¬ kA σ 0 p &&& 255 = 115 := fun z => c3 (m115.mp z)
        by_cases c4 : kA σ 0 p = 116
        · exact fin 4 (by omega) (by omega) (by rw [if_neg d1, if_neg d2, if_neg d3, if_pos (m116.mpr c4)]; rfl) (by rw [if_neg c1, if_pos c4]; rfl) (Or.inr (Or.inr (Or.inr ⟨c4, rfl⟩)))
        · have d4 : ¬ kA σ 0 p &&& 255 = 116 := fun z => c4 (m116.mp z)
          refine Or.inl ⟨kA σ 1, kA τ 8, nI (p + 1) + 1, ?_, ?_⟩
          · unfold f_X4_readItem s_X4_readItem_0 f_X2_numbersBehind s_X2_numbersBehind_0
            rw [kb_eq ((p_byteAt (F := F) hX p (by omega)).1 hp), if_neg d1, if_neg d2, if_neg d3, if_neg d4, kb_eq rfl, if_pos k00, zA_self]
          · unfold f_X8_isItem s_X8_isItem_0 s_X8_isItem_34 f_X8_parts s_X8_parts_0
            rw [show kI (jI τ 1 (nI p)) 1 = nI p from rfl, if_neg (nI_in (by omega) (by omega)), nI_clamp (by omega), show kA (jI τ 1 (nI p)) 0 p = kA σ 0 p from y0, kn_eq, jI_jI, nI_1, if_neg c1, if_neg c4, if_neg c2, if_neg c3, kb_eq rfl, if_pos (show (0 : Int32) ≤ 0 by decide)]
            obtain ⟨f, rfl⟩ : ∃ f, F = f + 1 := ⟨F - 1, by omega⟩
            rw [zA_self]
            have := RI_fail (F := f + 1) f (jI τ 1 (nI (p + 1))) (kA σ 0 p) 0 0
            rw [show kI (jI τ 1 (nI (p + 1))) 1 = nI (p + 1) from rfl, jI_jI] at this
            exact this
/-! what changes while reading -/
def fC (σ σ' : kS) : Prop := (∀ j, j = 0 ∨ 8 ≤ j → kI σ' j = kI σ j) ∧ σ'.2.1 = σ.2.1 ∧ (∀ k, k ≠ 1 → k ≠ 2 → σ'.2.2.1 k = σ.2.2.1 k) ∧ σ'.2.2.2 = σ.2.2.2
def fM (τ τ' : kS) : Prop := (∀ j, j ≠ 1 → kI τ' j = kI τ j) ∧ (∀ j, j < 6 → kA τ' 1 j = kA τ 1 j) ∧ kA τ' 2 0 = kA τ 2 0 ∧ (∀ j, j < 30 → kA τ' 3 j = kA τ 3 j) ∧ (∀ k, k ≠ 1 → k ≠ 2 → k ≠ 3 → k ≠ 8 → τ'.2.2.1 k = τ.2.2.1 k) ∧ τ'.2.2.2 = τ.2.2.2
theorem fC.rf : fC σ σ := ⟨fun _ _ => rfl, rfl, fun _ _ _ => rfl, rfl⟩
theorem fM.rf : fM τ τ := ⟨fun _ _ => rfl, fun _ _ => rfl, rfl, fun _ _ => rfl, fun _ _ _ _ _ => rfl, rfl⟩
theorem fC.tr {a b c : kS} (h : fC a b) (g : fC b c) : fC a c := ⟨fun j hj => (g.1 j hj).trans (h.1 j hj), g.2.1.trans h.2.1, fun k h1 h2 => (g.2.2.1 k h1 h2).trans (h.2.2.1 k h1 h2), g.2.2.2.trans h.2.2.2⟩
theorem fM.tr {a b c : kS} (h : fM a b) (g : fM b c) : fM a c := ⟨fun j hj => (g.1 j hj).trans (h.1 j hj), fun j hj => (g.2.1 j hj).trans (h.2.1 j hj), g.2.2.1.trans h.2.2.1, fun j hj => (g.2.2.2.1 j hj).trans (h.2.2.2.1 j hj), fun k h1 h2 h3 h4 => (g.2.2.2.2.1 k h1 h2 h3 h4).trans (h.2.2.2.2.1 k h1 h2 h3 h4), g.2.2.2.2.2.trans h.2.2.2.2.2⟩
theorem up_ne {α : Type} (f : Nat → α) {k j : Nat} (v : α) (h : j ≠ k) : va_up f k v j = f j := if_neg h
theorem fC_I (j : Nat) (h1 : 1 ≤ j) (h2 : j ≤ 7) (v : Int32) : fC σ (jI σ j v) := ⟨fun q hq => up_ne _ _ (by omega), rfl, fun _ _ _ => rfl, rfl⟩
theorem fC_A (r : Nat) (hr : r = 1 ∨ r = 2) (g : Nat → Int32) : fC σ (zA σ r g) := ⟨fun _ _ => rfl, rfl, fun q h1 h2 => up_ne _ _ (by omega), rfl⟩
theorem fM_I (v : Int32) : fM τ (jI τ 1 v) := ⟨fun q hq => up_ne _ _ hq, fun _ _ => rfl, rfl, fun _ _ => rfl, fun _ _ _ _ _ => rfl, rfl⟩
theorem fM_8 (g : Nat → Int32) : fM τ (zA τ 8 g) := ⟨fun _ _ => rfl, fun _ _ => rfl, rfl, fun _ _ => rfl, fun q h1 h2 h3 h4 => up_ne _ _ h4, rfl⟩
theorem fM_1 (g : Nat → Int32) (h : ∀ j, j < 6 → g j = kA τ 1 j) : fM τ (zA τ 1 g) := ⟨fun _ _ => rfl, fun j hj => h j hj, rfl, fun _ _ => rfl, fun q h1 h2 h3 h4 => up_ne _ _ h1, rfl⟩
theorem fM_3 (g : Nat → Int32) (h : ∀ j, j < 30 → g j = kA τ 3 j) : fM τ (zA τ 3 g) := ⟨fun _ _ => rfl, fun _ _ => rfl, rfl, fun j hj => h j hj, fun q h1 h2 h3 h4 => up_ne _ _ h3, rfl⟩
theorem fM_2 (v : Int32) : fM τ (jA τ 2 1 v) := ⟨fun _ _ => rfl, fun _ _ => rfl, rfl, fun _ _ => rfl, fun q h1 h2 h3 h4 => up_ne _ _ h2, rfl⟩
theorem rTxt_fr {n : Nat} {σ' τ' : kS} (h : rTxt n σ τ) (hC : fC σ σ') (hM : fM τ τ') : rTxt n σ' τ' := by
  obtain ⟨x1, x2, x3, x4⟩ := h
  refine ⟨x1, (hC.1 0 (by omega)).trans x2, (hM.1 0 (by omega)).trans x3, fun i hi => ?_⟩
  have e1 : kA σ' 0 i = kA σ 0 i := congrFun (hC.2.2.1 0 (by omega) (by omega)) i
  have e2 : kA τ' 0 i = kA τ 0 i := congrFun (hM.2.2.2.2.1 0 (by omega) (by omega) (by omega) (by omega)) i
  rw [e1, e2]
  exact x4 i hi
end

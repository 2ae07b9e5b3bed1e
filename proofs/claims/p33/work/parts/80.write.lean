/-! write -/
section
variable {F : Nat} {σ τ : kS} {k : Nat}
theorem w_byte (x : Int64) (c : UInt64) (d : Int64) (s : Nat) (hs : s ≤ 56) (hc : (c.toBitVec % 64).toNat = s) (hd : (d.toBitVec.smod 64).toNat = s) : ((x.toUInt64 >>> c).toInt64).toInt32.toInt8 = (x >>> d).toInt32.toInt8 := by
  apply Int8.toBitVec_inj.mp
  show ((x.toBitVec >>> (c.toBitVec % 64).toNat).signExtend 32).signExtend 8 = ((x.toBitVec.sshiftRight (d.toBitVec.smod 64).toNat).signExtend 32).signExtend 8
  rw [hc, hd, BitVec.signExtend_eq_setWidth_of_le _ (show 8 ≤ 32 by omega), BitVec.signExtend_eq_setWidth_of_le _ (show 8 ≤ 32 by omega), BitVec.signExtend_eq_setWidth_of_le _ (show 32 ≤ 64 by omega), BitVec.signExtend_eq_setWidth_of_le _ (show 32 ≤ 64 by omega)]
  apply BitVec.eq_of_getLsbD_eq
  intro i hi
  rw [BitVec.getLsbD_setWidth, BitVec.getLsbD_setWidth, BitVec.getLsbD_setWidth, BitVec.getLsbD_setWidth, BitVec.getLsbD_ushiftRight, BitVec.getLsbD_sshiftRight, if_pos (by omega), decide_eq_false (show ¬ 64 ≤ i by omega)]
  rfl
theorem w_same (x : Int64) (i : Nat) (hi : i < 8) : (((x.toUInt64 >>> (((8 : Int32) * nI i).toInt64.toUInt64 &&& Int64.toUInt64 63)).toInt64).toInt32.toInt8) = (x >>> (((8 : Int32) * nI i).toInt64 &&& 63)).toInt32.toInt8 := by
  rcases (show i = 0 ∨ i = 1 ∨ i = 2 ∨ i = 3 ∨ i = 4 ∨ i = 5 ∨ i = 6 ∨ i = 7 by omega) with rfl | rfl | rfl | rfl | rfl | rfl | rfl | rfl
  · exact w_byte x _ _ 0 (by omega) (by decide) (by decide)
  · exact w_byte x _ _ 8 (by omega) (by decide) (by decide)
  · exact w_byte x _ _ 16 (by omega) (by decide) (by decide)
  · exact w_byte x _ _ 24 (by omega) (by decide) (by decide)
  · exact w_byte x _ _ 32 (by omega) (by decide) (by decide)
  · exact w_byte x _ _ 40 (by omega) (by decide) (by decide)
  · exact w_byte x _ _ 48 (by omega) (by decide) (by decide)
  · exact w_byte x _ _ 56 (by omega) (by decide) (by decide)
theorem jI_self (σ : kS) (k : Nat) : jI σ k (kI σ k) = σ := by
  show (va_up σ.1 k (σ.1 k), σ.2) = σ
  rw [up_id]
theorem k_dn (i : Nat) : nI (i + 1) - 1 = nI i := by
  have e : nI (i + 1) = nI i + 1 := (nI_add i 1).symm
  rw [e, Int32.add_sub_cancel]
theorem k_mn (x : Int32) : x + (-1) = x - 1 := (Int32.sub_eq_add_neg x 1).symm
theorem p_write_loop (x : Int64) : ∀ (i f f' n : Nat) (A B : Nat → Int32), i < f → i < f' → i ≤ 8 → n + i ≤ 400 → (∀ j, j < n → B j = A j ∧ -128 ≤ (A j).toInt ∧ (A j).toInt < 128) → ∃ A' B', itr (fun rec21 q => s_X4_append_21 F rec21 q.1 q.2.1 q.2.2) f (jI (zA σ 0 A) 0 (nI n), x, nI i - 1) = some (1, jI (zA σ 0 A') 0 (nI (n + i))) ∧ itr (fun rec34 q => s_X8_write_34 F rec34 q.1 q.2.1 q.2.2) f' (jI (zA τ 0 B) 0 (nI n), x, nI i - 1) = some (nI (n + i), jI (zA τ 0 B') 0 (nI (n + i))) ∧ ∀ j, j < n + i → B' j = A' j ∧ -128 ≤ (A' j).toInt ∧ (A' j).toInt < 128 := by
  intro i
  induction i with
  | zero =>
    intro f f' n A B hf hf' _ hn h
    obtain ⟨g, rfl⟩ : ∃ g, f = g + 1 := ⟨f - 1, by omega⟩
    obtain ⟨g', rfl⟩ : ∃ g, f' = g + 1 := ⟨f' - 1, by omega⟩
    refine ⟨A, B, ?_, ?_, h⟩
    · show s_X4_append_21 F _ _ x (nI 0 - 1) = _
      unfold s_X4_append_21
      rw [if_pos (show nI 0 - 1 < 0 by decide)]
      rfl
    · show s_X8_write_34 F _ _ x (nI 0 - 1) = _
      unfold s_X8_write_34
      rw [if_pos (show nI 0 - 1 < 0 by decide)]
      rfl
  | succ i ih =>
    intro f f' n A B hf hf' h8 hn h
    obtain ⟨g, rfl⟩ : ∃ g, f = g + 1 := ⟨f - 1, by omega⟩
    obtain ⟨g', rfl⟩ : ∃ g, f' = g + 1 := ⟨f' - 1, by omega⟩
    have e := w_same x i (by omega)
    generalize hv : ((x >>> (((8 : Int32) * nI i).toInt64 &&& 63)).toInt32.toInt8).toInt32.toInt8.toInt32 = v
    have hb := fb_byte_rng ((x >>> (((8 : Int32) * nI i).toInt64 &&& 63)).toInt32.toInt8).toInt32
    rw [hv] at hb
    have hstep : ∀ (C : kS) (D : Nat → Int32), jI (jA (jI (zA C 0 D) 0 (nI n)) 0 n v) 0 (nI (n + 1)) = jI (zA C 0 (upd D n v)) 0 (nI (n + 1)) := by
      intro C D
      show jI (jI (jA (zA C 0 D) 0 n v) 0 (nI n)) 0 (nI (n + 1)) = _
      rw [jI_jI, jA_zA]
    obtain ⟨A', B', h1, h2, h3⟩ := ih g g' (n + 1) (upd A n v) (upd B n v) (by omega) (by omega) (by omega) (by omega) (fun j hj => by
      by_cases c : j = n
      · subst c
        rw [pk_us, pk_us]
        exact ⟨rfl, hb.1, hb.2⟩
      · rw [pk_un c, pk_un c]
        exact h j (by omega))
    rw [show n + 1 + i = n + (i + 1) by omega] at h1 h2 h3
    refine ⟨A', B', ?_, ?_, h3⟩
    · show s_X4_append_21 F _ (jI (zA σ 0 A) 0 (nI n)) x (nI (i + 1) - 1) = _
      unfold s_X4_append_21
      rw [k_dn, if_neg (nI_pos (by omega)), show kI (jI (zA σ 0 A) 0 (nI n)) 0 = nI n from rfl, if_neg (nI_in (by omega) (by omega)), k_mn, nI_1, nI_clamp (by omega), e, hv, hstep]
      exact h1
    · show s_X8_write_34 F _ (jI (zA τ 0 B) 0 (nI n)) x (nI (i + 1) - 1) = _
      unfold s_X8_write_34
      rw [k_dn, if_neg (nI_pos (by omega)), show kI (jI (zA τ 0 B) 0 (nI n)) 0 = nI n from rfl, if_neg (nI_in (by omega) (by omega)), k_mn, nI_1, nI_clamp (by omega), hv, hstep]
      exact h2
theorem r_write (hF : 200000 ≤ F) (R : Rel k σ τ) (x : Int32) (y : Int64) : Ok (k + 1) (f_X7_write F σ x y) (f_X8_write F τ x y) := by
  have R0 := R
  obtain ⟨a, w, l, n, r, h, c, hP, hM, hA, hL, hT, hX, hR, hN, hU, hK⟩ := R.up (show k ≤ k + 1 by omega)
  obtain ⟨x1, x2, x3, x4⟩ := hX
  unfold f_X7_write f_X8_write s_X7_write_0 s_X8_write_0
  have e1 := p8_inI (F := F) (τ := τ) x 1 8 1 8 rfl rfl
  have b1 := k_lt x 1 1 rfl
  have b2 := k_le x 8 8 rfl
  by_cases c1 : x.toInt < 1
  · rw [if_pos (b1.mpr c1), kb_eq (e1.2 (by omega)), if_pos k00]
    exact ok_s R0 _
  · by_cases d : x.toInt ≤ 8
    · rw [if_neg (fun q => c1 (b1.mp q)), if_pos (b2.mpr d), kb_eq (e1.1 (by omega)), if_neg k10]
      obtain ⟨i, hi, rfl⟩ : ∃ i : Nat, i ≤ 8 ∧ x = nI i := ⟨x.toInt.toNat, by omega, k_i x (by omega)⟩
      unfold f_X4_append s_X4_append_0
      have hle := nI_leI (a := n + i) (b := 400) (by omega) (by omega)
      rw [x2, x3, nI_add]
      by_cases g : n + i ≤ 400
      · obtain ⟨A, B, h1, h2, h3⟩ := p_write_loop (F := F) (σ := σ) (τ := τ) y i F F n (kA σ 0) (kA τ 0) (by omega) (by omega) hi g x4
        rw [zA_self, ← x2, jI_self] at h1
        rw [zA_self, ← x3, jI_self] at h2
        have h1' : f_X4_append_21 F (σ, y, nI i - 1) = _ := h1
        have h2' : f_X8_write_34 F (τ, y, nI i - 1) = _ := h2
        rw [if_pos (show nI (n + i) ≤ 400 from hle.mpr g), if_pos (show nI (n + i) ≤ 400 from hle.mpr g), kb_eq h1', h2', if_neg k10]
        exact ok_mk rfl ⟨a, w, l, n + i, r, h, c, hP, hM, hA, hL, hT, ⟨g, rfl, rfl, h3⟩, hR, hN, hU, hK⟩
      · rw [if_neg (show ¬ nI (n + i) ≤ 400 from fun q => g (hle.mp q)), if_neg (show ¬ nI (n + i) ≤ 400 from fun q => g (hle.mp q)), kb_eq rfl, if_pos k00]
        exact ok_s R0 _
    · rw [if_neg (fun q => c1 (b1.mp q)), if_neg (fun q => d (b2.mp q)), kb_eq (e1.2 (by omega)), if_pos k00]
      exact ok_s R0 _
end

/-! the law over every run of calls -/
section
variable {F : Nat} {σ τ : kS} {k : Nat}
def lw_fuel : Nat := 200000
theorem lg_self (v : Int64) : lg_cmp v v = 0 := by
  unfold lg_cmp
  rw [if_neg (fun q => by have := (fa_lt64 v v).mp q; omega), if_pos rfl]
theorem lb {L i : Nat} (j : Nat) (y : Int32) (hy : y = nI j) (hi : i + j < L) (hL : L ≤ 3072) : ¬ (nI i + y < 0 ∨ L ≤ (nI i + y).toNatClampNeg) := by
  subst hy
  rw [nI_add]
  exact nI_in hi (by omega)
theorem Rel.ini (H : Ini σ τ) : Rel 0 σ τ := by
  obtain ⟨⟨h, hm, hA, hL, hT⟩, ⟨a0, a15, a16, a17, a19, a20, a21, a22, a23, a24, a25, a26, g0⟩, ⟨b0, b2, b3, b4, b5⟩, ⟨e0, e1, e2, e3⟩, -⟩ := H
  have y0 : (0 : Int64).toInt = 0 := rfl
  have y1 : (0 : Int32).toInt = 0 := rfl
  have hb : bR 0 (kG σ 0) (kI σ 16) (kI σ 17) := by
    unfold bR
    rw [g0, a16, a17, y0, y1]
    omega
  refine ⟨1, 1, 0, 0, 0, 0, 0, h, hm, hA, hL, hT, ⟨by omega, a0, b0, fun i hi => absurd hi (by omega)⟩, ⟨by omega, a26, b4, fun i hi => absurd hi (by omega)⟩, ⟨e0.trans g0.symm, ?_, ?_, hb⟩, ⟨a20, by omega, a22, b3, 0, fun _ => cur σ, by omega, a21, rfl, fun j hj => absurd hj (by omega), fun j hj => absurd hj (by omega), fun j hj => ⟨hb, 1, by omega, hL.1⟩⟩, ⟨a23, by omega, a25, b2, 0, by omega, a24, fun j hj => absurd hj (by omega)⟩⟩
  · rw [e2, a16]; rfl
  · rw [e3, a17]; rfl
theorem l_176 (hF : 200000 ≤ F) (hk : k < 600) (R : Rel k σ τ) (xs : Nat → Int32) (L i : Nat) (hL : L ≤ 3072) (hi : i + 6 ≤ L) (rc : kS × kS × Int32 → Option Unit) (hr : ∀ σ τ, Rel (k + 1) σ τ → rc (σ, τ, nI i + 6) = some ()) : s_L_176 F L xs rc σ τ (nI i) = some () := by
  have lb_1 := lb (L := L) (i := i) 1 1 rfl (by omega) hL
  have lb_2 := lb (L := L) (i := i) 2 2 rfl (by omega) hL
  have lb_3 := lb (L := L) (i := i) 3 3 rfl (by omega) hL
  unfold s_L_176 s_L_1258
  obtain ⟨v, σ', τ', h1, h2, h3⟩ := r_write hF R (xs ((nI i) + (1 : Int32)).toNatClampNeg) (((xs ((nI i) + (2 : Int32)).toNatClampNeg).toInt64 <<< ((32 : Int32).toInt64 &&& 63)) ||| ((xs ((nI i) + (3 : Int32)).toNatClampNeg).toInt64 &&& (4294967295 : Int64)))
  rw [if_neg lb_1, if_neg lb_2, if_neg lb_3, kb_eq h1, if_neg lb_1, if_neg lb_2, if_neg lb_3, kb_eq h2]
  exact hr σ' τ' h3
theorem l_239 (hF : 200000 ≤ F) (hk : k < 600) (R : Rel k σ τ) (xs : Nat → Int32) (L i : Nat) (hL : L ≤ 3072) (hi : i + 6 ≤ L) (rc : kS × kS × Int32 → Option Unit) (hr : ∀ σ τ, Rel (k + 1) σ τ → rc (σ, τ, nI i + 6) = some ()) : s_L_239 F L xs rc σ τ (nI i) = some () := by
  unfold s_L_239 s_L_1258
  obtain ⟨v, σ', τ', h1, h2, h3⟩ := r_wipe (F := F) R 
  rw [kb_eq h1, kb_eq h2]
  exact hr σ' τ' h3
theorem l_252 (hF : 200000 ≤ F) (hk : k < 600) (R : Rel k σ τ) (xs : Nat → Int32) (L i : Nat) (hL : L ≤ 3072) (hi : i + 6 ≤ L) (rc : kS × kS × Int32 → Option Unit) (hr : ∀ σ τ, Rel (k + 1) σ τ → rc (σ, τ, nI i + 6) = some ()) : s_L_252 F L xs rc σ τ (nI i) = some () := by
  unfold s_L_252 s_L_1258
  obtain ⟨v, σ', τ', h1, h2, h3⟩ := r_fault hF R 
  rw [kb_eq h1, kb_eq h2]
  exact hr σ' τ' h3
theorem l_265 (hF : 200000 ≤ F) (hk : k < 600) (R : Rel k σ τ) (xs : Nat → Int32) (L i : Nat) (hL : L ≤ 3072) (hi : i + 6 ≤ L) (rc : kS × kS × Int32 → Option Unit) (hr : ∀ σ τ, Rel (k + 1) σ τ → rc (σ, τ, nI i + 6) = some ()) : s_L_265 F L xs rc σ τ (nI i) = some () := by
  unfold s_L_265 s_L_1258
  obtain ⟨v, σ', τ', h1, h2, h3⟩ := r_lay hF R 
  rw [kb_eq h1, kb_eq h2]
  exact hr σ' τ' h3
theorem l_278 (hF : 200000 ≤ F) (hk : k < 600) (R : Rel k σ τ) (xs : Nat → Int32) (L i : Nat) (hL : L ≤ 3072) (hi : i + 6 ≤ L) (rc : kS × kS × Int32 → Option Unit) (hr : ∀ σ τ, Rel (k + 1) σ τ → rc (σ, τ, nI i + 6) = some ()) : s_L_278 F L xs rc σ τ (nI i) = some () := by
  have lb_1 := lb (L := L) (i := i) 1 1 rfl (by omega) hL
  have lb_2 := lb (L := L) (i := i) 2 2 rfl (by omega) hL
  unfold s_L_278 s_L_1258
  obtain ⟨v, σ', τ', h1, h2, h3⟩ := r_act (F := F) R (xs ((nI i) + (1 : Int32)).toNatClampNeg) (xs ((nI i) + (2 : Int32)).toNatClampNeg)
  rw [if_neg lb_1, if_neg lb_2, kb_eq h1, if_neg lb_1, if_neg lb_2, kb_eq h2]
  exact hr σ' τ' h3
theorem l_311 (hF : 200000 ≤ F) (hk : k < 600) (R : Rel k σ τ) (xs : Nat → Int32) (L i : Nat) (hL : L ≤ 3072) (hi : i + 6 ≤ L) (rc : kS × kS × Int32 → Option Unit) (hr : ∀ σ τ, Rel (k + 1) σ τ → rc (σ, τ, nI i + 6) = some ()) : s_L_311 F L xs rc σ τ (nI i) = some () := by
  have lb_1 := lb (L := L) (i := i) 1 1 rfl (by omega) hL
  unfold s_L_311 s_L_1258
  obtain ⟨v, σ', τ', h1, h2, h3⟩ := r_year (F := F) R (xs ((nI i) + (1 : Int32)).toNatClampNeg)
  rw [if_neg lb_1, kb_eq h1, if_neg lb_1, kb_eq h2]
  exact hr σ' τ' h3
theorem l_334 (hF : 200000 ≤ F) (hk : k < 600) (R : Rel k σ τ) (xs : Nat → Int32) (L i : Nat) (hL : L ≤ 3072) (hi : i + 6 ≤ L) (rc : kS × kS × Int32 → Option Unit) (hr : ∀ σ τ, Rel (k + 1) σ τ → rc (σ, τ, nI i + 6) = some ()) : s_L_334 F L xs rc σ τ (nI i) = some () := by
  have lb_1 := lb (L := L) (i := i) 1 1 rfl (by omega) hL
  have lb_2 := lb (L := L) (i := i) 2 2 rfl (by omega) hL
  unfold s_L_334 s_L_1258
  obtain ⟨a, w, l, n, r, h, c, hP, hM, hA, hW, hT, -⟩ := id R
  obtain ⟨v, σ', τ', h1, h2, h3⟩ := ok_q R (q_rules (F := F) hP hM (((xs ((nI i) + (1 : Int32)).toNatClampNeg).toInt64 <<< ((32 : Int32).toInt64 &&& 63)) ||| ((xs ((nI i) + (2 : Int32)).toNatClampNeg).toInt64 &&& (4294967295 : Int64))))
  rw [if_neg lb_1, if_neg lb_2, kb_eq h1, if_neg lb_1, if_neg lb_2, kb_eq h2]
  exact hr σ' τ' h3
theorem l_387 (hF : 200000 ≤ F) (hk : k < 600) (R : Rel k σ τ) (xs : Nat → Int32) (L i : Nat) (hL : L ≤ 3072) (hi : i + 6 ≤ L) (rc : kS × kS × Int32 → Option Unit) (hr : ∀ σ τ, Rel (k + 1) σ τ → rc (σ, τ, nI i + 6) = some ()) : s_L_387 F L xs rc σ τ (nI i) = some () := by
  have lb_1 := lb (L := L) (i := i) 1 1 rfl (by omega) hL
  have lb_2 := lb (L := L) (i := i) 2 2 rfl (by omega) hL
  have lb_3 := lb (L := L) (i := i) 3 3 rfl (by omega) hL
  have lb_4 := lb (L := L) (i := i) 4 4 rfl (by omega) hL
  unfold s_L_387 s_L_1258
  obtain ⟨a, w, l, n, r, h, c, hP, hM, hA, hW, hT, -⟩ := id R
  obtain ⟨v, σ', τ', h1, h2, h3⟩ := ok_q R (q_minutes hF hP hM (((xs ((nI i) + (1 : Int32)).toNatClampNeg).toInt64 <<< ((32 : Int32).toInt64 &&& 63)) ||| ((xs ((nI i) + (2 : Int32)).toNatClampNeg).toInt64 &&& (4294967295 : Int64))) (xs ((nI i) + (3 : Int32)).toNatClampNeg) (xs ((nI i) + (4 : Int32)).toNatClampNeg))
  rw [if_neg lb_1, if_neg lb_2, if_neg lb_3, if_neg lb_4, kb_eq h1, if_neg lb_1, if_neg lb_2, if_neg lb_3, if_neg lb_4, kb_eq h2]
  exact hr σ' τ' h3
theorem l_460 (hF : 200000 ≤ F) (hk : k < 600) (R : Rel k σ τ) (xs : Nat → Int32) (L i : Nat) (hL : L ≤ 3072) (hi : i + 6 ≤ L) (rc : kS × kS × Int32 → Option Unit) (hr : ∀ σ τ, Rel (k + 1) σ τ → rc (σ, τ, nI i + 6) = some ()) : s_L_460 F L xs rc σ τ (nI i) = some () := by
  have lb_1 := lb (L := L) (i := i) 1 1 rfl (by omega) hL
  have lb_2 := lb (L := L) (i := i) 2 2 rfl (by omega) hL
  have lb_3 := lb (L := L) (i := i) 3 3 rfl (by omega) hL
  unfold s_L_460 s_L_1258
  obtain ⟨a, w, l, n, r, h, c, hP, hM, hA, hW, hT, -⟩ := id R
  obtain ⟨v, σ', τ', h1, h2, h3⟩ := ok_q R (q_next hF hP hM (((xs ((nI i) + (1 : Int32)).toNatClampNeg).toInt64 <<< ((32 : Int32).toInt64 &&& 63)) ||| ((xs ((nI i) + (2 : Int32)).toNatClampNeg).toInt64 &&& (4294967295 : Int64))) (xs ((nI i) + (3 : Int32)).toNatClampNeg))
  rw [if_neg lb_1, if_neg lb_2, if_neg lb_3, kb_eq h1, if_neg lb_1, if_neg lb_2, if_neg lb_3, kb_eq h2]
  exact hr σ' τ' h3
theorem l_523 (hF : 200000 ≤ F) (hk : k < 600) (R : Rel k σ τ) (xs : Nat → Int32) (L i : Nat) (hL : L ≤ 3072) (hi : i + 6 ≤ L) (rc : kS × kS × Int32 → Option Unit) (hr : ∀ σ τ, Rel (k + 1) σ τ → rc (σ, τ, nI i + 6) = some ()) : s_L_523 F L xs rc σ τ (nI i) = some () := by
  have lb_1 := lb (L := L) (i := i) 1 1 rfl (by omega) hL
  have lb_2 := lb (L := L) (i := i) 2 2 rfl (by omega) hL
  have lb_3 := lb (L := L) (i := i) 3 3 rfl (by omega) hL
  unfold s_L_523 s_L_1258
  obtain ⟨a, w, l, n, r, h, c, hP, hM, hA, hW, hT, -⟩ := id R
  obtain ⟨v, σ', τ', h1, h2, h3⟩ := ok_q R (q_lawful hF hP hM hA hW (xs ((nI i) + (1 : Int32)).toNatClampNeg) (((xs ((nI i) + (2 : Int32)).toNatClampNeg).toInt64 <<< ((32 : Int32).toInt64 &&& 63)) ||| ((xs ((nI i) + (3 : Int32)).toNatClampNeg).toInt64 &&& (4294967295 : Int64))))
  rw [if_neg lb_1, if_neg lb_2, if_neg lb_3, kb_eq h1, if_neg lb_1, if_neg lb_2, if_neg lb_3, kb_eq h2]
  exact hr σ' τ' h3
theorem l_586 (hF : 200000 ≤ F) (hk : k < 600) (R : Rel k σ τ) (xs : Nat → Int32) (L i : Nat) (hL : L ≤ 3072) (hi : i + 6 ≤ L) (rc : kS × kS × Int32 → Option Unit) (hr : ∀ σ τ, Rel (k + 1) σ τ → rc (σ, τ, nI i + 6) = some ()) : s_L_586 F L xs rc σ τ (nI i) = some () := by
  have lb_1 := lb (L := L) (i := i) 1 1 rfl (by omega) hL
  unfold s_L_586 s_L_1258
  obtain ⟨v, σ', τ', h1, h2, h3⟩ := r_tell (F := F) R (xs ((nI i) + (1 : Int32)).toNatClampNeg)
  rw [if_neg lb_1, kb_eq h1, if_neg lb_1, kb_eq h2]
  exact hr σ' τ' h3
theorem l_609 (hF : 200000 ≤ F) (hk : k < 600) (R : Rel k σ τ) (xs : Nat → Int32) (L i : Nat) (hL : L ≤ 3072) (hi : i + 6 ≤ L) (rc : kS × kS × Int32 → Option Unit) (hr : ∀ σ τ, Rel (k + 1) σ τ → rc (σ, τ, nI i + 6) = some ()) : s_L_609 F L xs rc σ τ (nI i) = some () := by
  unfold s_L_609 s_L_1258
  obtain ⟨v, σ', τ', h1, h2, h3⟩ := r_noRow (F := F) R 
  rw [kb_eq h1, kb_eq h2]
  exact hr σ' τ' h3
theorem l_622 (hF : 200000 ≤ F) (hk : k < 600) (R : Rel k σ τ) (xs : Nat → Int32) (L i : Nat) (hL : L ≤ 3072) (hi : i + 6 ≤ L) (rc : kS × kS × Int32 → Option Unit) (hr : ∀ σ τ, Rel (k + 1) σ τ → rc (σ, τ, nI i + 6) = some ()) : s_L_622 F L xs rc σ τ (nI i) = some () := by
  have lb_1 := lb (L := L) (i := i) 1 1 rfl (by omega) hL
  have lb_2 := lb (L := L) (i := i) 2 2 rfl (by omega) hL
  have lb_3 := lb (L := L) (i := i) 3 3 rfl (by omega) hL
  unfold s_L_622 s_L_1258
  obtain ⟨v, u, σ', τ', h1, h2, h3⟩ := r_soon hF R (((xs ((nI i) + (1 : Int32)).toNatClampNeg).toInt64 <<< ((32 : Int32).toInt64 &&& 63)) ||| ((xs ((nI i) + (2 : Int32)).toNatClampNeg).toInt64 &&& (4294967295 : Int64))) (xs ((nI i) + (3 : Int32)).toNatClampNeg)
  rw [if_neg lb_1, if_neg lb_2, if_neg lb_3, kb_eq h1, if_neg lb_1, if_neg lb_2, if_neg lb_3, kb_eq h2]
  exact hr σ' τ' h3
theorem l_685 (hF : 200000 ≤ F) (hk : k < 600) (R : Rel k σ τ) (xs : Nat → Int32) (L i : Nat) (hL : L ≤ 3072) (hi : i + 6 ≤ L) (rc : kS × kS × Int32 → Option Unit) (hr : ∀ σ τ, Rel (k + 1) σ τ → rc (σ, τ, nI i + 6) = some ()) : s_L_685 F L xs rc σ τ (nI i) = some () := by
  have lb_1 := lb (L := L) (i := i) 1 1 rfl (by omega) hL
  unfold s_L_685 s_L_1258
  obtain ⟨v, σ', τ', h1, h2, h3⟩ := r_pass hF hk R (xs ((nI i) + (1 : Int32)).toNatClampNeg)
  rw [if_neg lb_1, kb_eq h1, if_neg lb_1, kb_eq h2]
  exact hr σ' τ' h3
theorem l_708 (hF : 200000 ≤ F) (hk : k < 600) (R : Rel k σ τ) (xs : Nat → Int32) (L i : Nat) (hL : L ≤ 3072) (hi : i + 6 ≤ L) (rc : kS × kS × Int32 → Option Unit) (hr : ∀ σ τ, Rel (k + 1) σ τ → rc (σ, τ, nI i + 6) = some ()) : s_L_708 F L xs rc σ τ (nI i) = some () := by
  have lb_1 := lb (L := L) (i := i) 1 1 rfl (by omega) hL
  unfold s_L_708 s_L_1258
  obtain ⟨v, σ', τ', h1, h2, h3⟩ := r_doAct hF hk R (xs ((nI i) + (1 : Int32)).toNatClampNeg)
  rw [if_neg lb_1, kb_eq h1, if_neg lb_1, kb_eq h2]
  exact hr σ' τ' h3
theorem l_731 (hF : 200000 ≤ F) (hk : k < 600) (R : Rel k σ τ) (xs : Nat → Int32) (L i : Nat) (hL : L ≤ 3072) (hi : i + 6 ≤ L) (rc : kS × kS × Int32 → Option Unit) (hr : ∀ σ τ, Rel (k + 1) σ τ → rc (σ, τ, nI i + 6) = some ()) : s_L_731 F L xs rc σ τ (nI i) = some () := by
  have lb_1 := lb (L := L) (i := i) 1 1 rfl (by omega) hL
  have lb_2 := lb (L := L) (i := i) 2 2 rfl (by omega) hL
  have lb_3 := lb (L := L) (i := i) 3 3 rfl (by omega) hL
  unfold s_L_731 s_L_1258
  by_cases cz : xs (nI i + (3 : Int32)).toNatClampNeg = 0
  · obtain ⟨v, σ', τ', h1, h2, h3⟩ := r_allow hF R (xs ((nI i) + (1 : Int32)).toNatClampNeg) (xs ((nI i) + (2 : Int32)).toNatClampNeg) (0 : Int32)
    rw [if_neg lb_1, if_neg lb_2, if_neg lb_3, if_pos cz, kb_eq h1, if_neg lb_1, if_neg lb_2, if_neg lb_3, if_pos cz, kb_eq h2]
    exact hr σ' τ' h3
  · obtain ⟨v, σ', τ', h1, h2, h3⟩ := r_allow hF R (xs ((nI i) + (1 : Int32)).toNatClampNeg) (xs ((nI i) + (2 : Int32)).toNatClampNeg) (1 : Int32)
    rw [if_neg lb_1, if_neg lb_2, if_neg lb_3, if_neg cz, kb_eq h1, if_neg lb_1, if_neg lb_2, if_neg lb_3, if_neg cz, kb_eq h2]
    exact hr σ' τ' h3
theorem l_790 (hF : 200000 ≤ F) (hk : k < 600) (R : Rel k σ τ) (xs : Nat → Int32) (L i : Nat) (hL : L ≤ 3072) (hi : i + 6 ≤ L) (rc : kS × kS × Int32 → Option Unit) (hr : ∀ σ τ, Rel (k + 1) σ τ → rc (σ, τ, nI i + 6) = some ()) : s_L_790 F L xs rc σ τ (nI i) = some () := by
  unfold s_L_790 s_L_1258
  obtain ⟨v, σ', τ', h1, h2, h3⟩ := r_undo (F := F) hk R 
  rw [kb_eq h1, kb_eq h2]
  exact hr σ' τ' h3
theorem l_803 (hF : 200000 ≤ F) (hk : k < 600) (R : Rel k σ τ) (xs : Nat → Int32) (L i : Nat) (hL : L ≤ 3072) (hi : i + 6 ≤ L) (rc : kS × kS × Int32 → Option Unit) (hr : ∀ σ τ, Rel (k + 1) σ τ → rc (σ, τ, nI i + 6) = some ()) : s_L_803 F L xs rc σ τ (nI i) = some () := by
  have lb_1 := lb (L := L) (i := i) 1 1 rfl (by omega) hL
  unfold s_L_803 s_L_1258
  obtain ⟨a, w, l, n, r, h, c, hP, hM, hA, hW, hT, -⟩ := id R
  obtain ⟨v, σ', τ', h1, h2, h3⟩ := ok_q R (q_gain hF hA hW (xs ((nI i) + (1 : Int32)).toNatClampNeg))
  rw [if_neg lb_1, kb_eq h1, if_neg lb_1, kb_eq h2]
  exact hr σ' τ' h3
theorem l_826 (hF : 200000 ≤ F) (hk : k < 600) (R : Rel k σ τ) (xs : Nat → Int32) (L i : Nat) (hL : L ≤ 3072) (hi : i + 6 ≤ L) (rc : kS × kS × Int32 → Option Unit) (hr : ∀ σ τ, Rel (k + 1) σ τ → rc (σ, τ, nI i + 6) = some ()) : s_L_826 F L xs rc σ τ (nI i) = some () := by
  have lb_1 := lb (L := L) (i := i) 1 1 rfl (by omega) hL
  have lb_2 := lb (L := L) (i := i) 2 2 rfl (by omega) hL
  have lb_3 := lb (L := L) (i := i) 3 3 rfl (by omega) hL
  unfold s_L_826 s_L_1258
  obtain ⟨a, w, l, n, r, h, c, hP, hM, hA, hW, hT, -⟩ := id R
  obtain ⟨v, σ', τ', h1, h2, h3⟩ := ok_q R (q_forbid hF hA hW (xs ((nI i) + (1 : Int32)).toNatClampNeg) (xs ((nI i) + (2 : Int32)).toNatClampNeg) (xs ((nI i) + (3 : Int32)).toNatClampNeg))
  rw [if_neg lb_1, if_neg lb_2, if_neg lb_3, kb_eq h1, if_neg lb_1, if_neg lb_2, if_neg lb_3, kb_eq h2]
  exact hr σ' τ' h3
theorem l_869 (hF : 200000 ≤ F) (hk : k < 600) (R : Rel k σ τ) (xs : Nat → Int32) (L i : Nat) (hL : L ≤ 3072) (hi : i + 6 ≤ L) (rc : kS × kS × Int32 → Option Unit) (hr : ∀ σ τ, Rel (k + 1) σ τ → rc (σ, τ, nI i + 6) = some ()) : s_L_869 F L xs rc σ τ (nI i) = some () := by
  have lb_1 := lb (L := L) (i := i) 1 1 rfl (by omega) hL
  unfold s_L_869 s_L_1258
  obtain ⟨a, w, l, n, r, h, c, hP, hM, hA, hW, hT, -⟩ := id R
  obtain ⟨v, σ', τ', h1, h2, h3⟩ := ok_q R (q_rests hF hA hW (xs ((nI i) + (1 : Int32)).toNatClampNeg))
  rw [if_neg lb_1, kb_eq h1, if_neg lb_1, kb_eq h2]
  exact hr σ' τ' h3
theorem l_892 (hF : 200000 ≤ F) (hk : k < 600) (R : Rel k σ τ) (xs : Nat → Int32) (L i : Nat) (hL : L ≤ 3072) (hi : i + 6 ≤ L) (rc : kS × kS × Int32 → Option Unit) (hr : ∀ σ τ, Rel (k + 1) σ τ → rc (σ, τ, nI i + 6) = some ()) : s_L_892 F L xs rc σ τ (nI i) = some () := by
  have lb_1 := lb (L := L) (i := i) 1 1 rfl (by omega) hL
  unfold s_L_892 s_L_1258
  obtain ⟨a, w, l, n, r, h, c, hP, hM, hA, hW, hT, -⟩ := id R
  obtain ⟨v, σ', τ', h1, h2, h3⟩ := ok_q R (q_firm hF hA hW (xs ((nI i) + (1 : Int32)).toNatClampNeg))
  rw [if_neg lb_1, kb_eq h1, if_neg lb_1, kb_eq h2]
  exact hr σ' τ' h3
theorem l_915 (hF : 200000 ≤ F) (hk : k < 600) (R : Rel k σ τ) (xs : Nat → Int32) (L i : Nat) (hL : L ≤ 3072) (hi : i + 6 ≤ L) (rc : kS × kS × Int32 → Option Unit) (hr : ∀ σ τ, Rel (k + 1) σ τ → rc (σ, τ, nI i + 6) = some ()) : s_L_915 F L xs rc σ τ (nI i) = some () := by
  have lb_1 := lb (L := L) (i := i) 1 1 rfl (by omega) hL
  unfold s_L_915 s_L_1258
  obtain ⟨a, w, l, n, r, h, c, hP, hM, hA, hW, hT, -⟩ := id R
  obtain ⟨v, σ', τ', h1, h2, h3⟩ := ok_q R (q_treaty hF hA hW (xs ((nI i) + (1 : Int32)).toNatClampNeg))
  rw [if_neg lb_1, kb_eq h1, if_neg lb_1, kb_eq h2]
  exact hr σ' τ' h3
theorem l_938 (hF : 200000 ≤ F) (hk : k < 600) (R : Rel k σ τ) (xs : Nat → Int32) (L i : Nat) (hL : L ≤ 3072) (hi : i + 6 ≤ L) (rc : kS × kS × Int32 → Option Unit) (hr : ∀ σ τ, Rel (k + 1) σ τ → rc (σ, τ, nI i + 6) = some ()) : s_L_938 F L xs rc σ τ (nI i) = some () := by
  have lb_1 := lb (L := L) (i := i) 1 1 rfl (by omega) hL
  have lb_2 := lb (L := L) (i := i) 2 2 rfl (by omega) hL
  have lb_3 := lb (L := L) (i := i) 3 3 rfl (by omega) hL
  have lb_4 := lb (L := L) (i := i) 4 4 rfl (by omega) hL
  unfold s_L_938 s_L_1258
  obtain ⟨v, σ', τ', h1, h2, h3⟩ := r_bargain hF R (xs ((nI i) + (1 : Int32)).toNatClampNeg) (xs ((nI i) + (2 : Int32)).toNatClampNeg) (((xs ((nI i) + (3 : Int32)).toNatClampNeg).toInt64 <<< ((32 : Int32).toInt64 &&& 63)) ||| ((xs ((nI i) + (4 : Int32)).toNatClampNeg).toInt64 &&& (4294967295 : Int64)))
  rw [if_neg lb_1, if_neg lb_2, if_neg lb_3, if_neg lb_4, kb_eq h1, if_neg lb_1, if_neg lb_2, if_neg lb_3, if_neg lb_4, kb_eq h2]
  exact hr σ' τ' h3
theorem l_1011 (hF : 200000 ≤ F) (hk : k < 600) (R : Rel k σ τ) (xs : Nat → Int32) (L i : Nat) (hL : L ≤ 3072) (hi : i + 6 ≤ L) (rc : kS × kS × Int32 → Option Unit) (hr : ∀ σ τ, Rel (k + 1) σ τ → rc (σ, τ, nI i + 6) = some ()) : s_L_1011 F L xs rc σ τ (nI i) = some () := by
  have lb_1 := lb (L := L) (i := i) 1 1 rfl (by omega) hL
  have lb_2 := lb (L := L) (i := i) 2 2 rfl (by omega) hL
  unfold s_L_1011 s_L_1258
  obtain ⟨v, σ', τ', h1, h2, h3⟩ := r_line (F := F) R (xs ((nI i) + (1 : Int32)).toNatClampNeg) (xs ((nI i) + (2 : Int32)).toNatClampNeg)
  rw [if_neg lb_1, if_neg lb_2, kb_eq h1, if_neg lb_1, if_neg lb_2, kb_eq h2]
  exact hr σ' τ' h3
theorem l_1044 (hF : 200000 ≤ F) (hk : k < 600) (R : Rel k σ τ) (xs : Nat → Int32) (L i : Nat) (hL : L ≤ 3072) (hi : i + 6 ≤ L) (rc : kS × kS × Int32 → Option Unit) (hr : ∀ σ τ, Rel (k + 1) σ τ → rc (σ, τ, nI i + 6) = some ()) : s_L_1044 F L xs rc σ τ (nI i) = some () := by
  unfold s_L_1044 s_L_1258
  obtain ⟨v, σ', τ', h1, h2, h3⟩ := r_noTable (F := F) R 
  rw [kb_eq h1, kb_eq h2]
  exact hr σ' τ' h3
theorem l_1057 (hF : 200000 ≤ F) (hk : k < 600) (R : Rel k σ τ) (xs : Nat → Int32) (L i : Nat) (hL : L ≤ 3072) (hi : i + 6 ≤ L) (rc : kS × kS × Int32 → Option Unit) (hr : ∀ σ τ, Rel (k + 1) σ τ → rc (σ, τ, nI i + 6) = some ()) : s_L_1057 F L xs rc σ τ (nI i) = some () := by
  unfold s_L_1057 s_L_1258
  obtain ⟨a, w, l, n, r, h, c, hP, hM, hA, hW, hT, -⟩ := id R
  obtain ⟨v, σ', τ', h1, h2, h3⟩ := ok_q R (q_forged hF hP hM hT )
  rw [kb_eq h1, kb_eq h2]
  exact hr σ' τ' h3
theorem l_1070 (hF : 200000 ≤ F) (hk : k < 600) (R : Rel k σ τ) (xs : Nat → Int32) (L i : Nat) (hL : L ≤ 3072) (hi : i + 6 ≤ L) (rc : kS × kS × Int32 → Option Unit) (hr : ∀ σ τ, Rel (k + 1) σ τ → rc (σ, τ, nI i + 6) = some ()) : s_L_1070 F L xs rc σ τ (nI i) = some () := by
  have lb_1 := lb (L := L) (i := i) 1 1 rfl (by omega) hL
  unfold s_L_1070 s_L_1258
  obtain ⟨v, σ', τ', h1, h2, h3⟩ := r_shift hF R (xs ((nI i) + (1 : Int32)).toNatClampNeg)
  rw [if_neg lb_1, kb_eq h1, if_neg lb_1, kb_eq h2]
  exact hr σ' τ' h3
theorem l_1093 (hF : 200000 ≤ F) (hk : k < 600) (R : Rel k σ τ) (xs : Nat → Int32) (L i : Nat) (hL : L ≤ 3072) (hi : i + 6 ≤ L) (rc : kS × kS × Int32 → Option Unit) (hr : ∀ σ τ, Rel (k + 1) σ τ → rc (σ, τ, nI i + 6) = some ()) : s_L_1093 F L xs rc σ τ (nI i) = some () := by
  have lb_1 := lb (L := L) (i := i) 1 1 rfl (by omega) hL
  have lb_2 := lb (L := L) (i := i) 2 2 rfl (by omega) hL
  have lb_3 := lb (L := L) (i := i) 3 3 rfl (by omega) hL
  have lb_4 := lb (L := L) (i := i) 4 4 rfl (by omega) hL
  have lb_5 := lb (L := L) (i := i) 5 5 rfl (by omega) hL
  unfold s_L_1093 s_L_1258
  obtain ⟨a, w, l, n, r, h, c, hP, hM, hA, hW, hT, -⟩ := id R
  obtain ⟨v, σ', τ', h1, h2, h3⟩ := ok_q R (q_wreck hF hP hM (((xs ((nI i) + (1 : Int32)).toNatClampNeg).toInt64 <<< ((32 : Int32).toInt64 &&& 63)) ||| ((xs ((nI i) + (2 : Int32)).toNatClampNeg).toInt64 &&& (4294967295 : Int64))) (xs ((nI i) + (3 : Int32)).toNatClampNeg) (xs ((nI i) + (4 : Int32)).toNatClampNeg) (xs ((nI i) + (5 : Int32)).toNatClampNeg))
  rw [if_neg lb_1, if_neg lb_2, if_neg lb_3, if_neg lb_4, if_neg lb_5, kb_eq h1, if_neg lb_1, if_neg lb_2, if_neg lb_3, if_neg lb_4, if_neg lb_5, kb_eq h2]
  exact hr σ' τ' h3
theorem l_1176 (hF : 200000 ≤ F) (hk : k < 600) (R : Rel k σ τ) (xs : Nat → Int32) (L i : Nat) (hL : L ≤ 3072) (hi : i + 6 ≤ L) (rc : kS × kS × Int32 → Option Unit) (hr : ∀ σ τ, Rel (k + 1) σ τ → rc (σ, τ, nI i + 6) = some ()) : s_L_1176 F L xs rc σ τ (nI i) = some () := by
  have lb_1 := lb (L := L) (i := i) 1 1 rfl (by omega) hL
  have lb_2 := lb (L := L) (i := i) 2 2 rfl (by omega) hL
  unfold s_L_1176 s_L_1258
  obtain ⟨a, w, l, n, r, h, c, hP, hM, hA, hW, hT, -⟩ := id R
  obtain ⟨v, σ', τ', h1, h2, h3⟩ := ok_q R (q_drawn hF hP hM hA hW (xs ((nI i) + (1 : Int32)).toNatClampNeg) (xs ((nI i) + (2 : Int32)).toNatClampNeg))
  rw [if_neg lb_1, if_neg lb_2, kb_eq h1, if_neg lb_1, if_neg lb_2, kb_eq h2]
  exact hr σ' τ' h3
theorem l_1209 (hF : 200000 ≤ F) (hk : k < 600) (R : Rel k σ τ) (xs : Nat → Int32) (L i : Nat) (hL : L ≤ 3072) (hi : i + 6 ≤ L) (rc : kS × kS × Int32 → Option Unit) (hr : ∀ σ τ, Rel (k + 1) σ τ → rc (σ, τ, nI i + 6) = some ()) : s_L_1209 F L xs rc σ τ (nI i) = some () := by
  unfold s_L_1209 s_L_1258
  obtain ⟨v, σ', τ', h1, h2, h3⟩ := r_keep hF R 
  rw [kb_eq h1, kb_eq h2]
  exact hr σ' τ' h3
theorem l_1222 (hF : 200000 ≤ F) (hk : k < 600) (R : Rel k σ τ) (xs : Nat → Int32) (L i : Nat) (hL : L ≤ 3072) (hi : i + 6 ≤ L) (rc : kS × kS × Int32 → Option Unit) (hr : ∀ σ τ, Rel (k + 1) σ τ → rc (σ, τ, nI i + 6) = some ()) : s_L_1222 F L xs rc σ τ (nI i) = some () := by
  unfold s_L_1222 s_L_1258
  obtain ⟨v, σ', τ', h1, h2, h3⟩ := r_back hF R 
  rw [kb_eq h1, kb_eq h2]
  exact hr σ' τ' h3
theorem l_1235 (hF : 200000 ≤ F) (hk : k < 600) (R : Rel k σ τ) (xs : Nat → Int32) (L i : Nat) (hL : L ≤ 3072) (hi : i + 6 ≤ L) (rc : kS × kS × Int32 → Option Unit) (hr : ∀ σ τ, Rel (k + 1) σ τ → rc (σ, τ, nI i + 6) = some ()) : s_L_1235 F L xs rc σ τ (nI i) = some () := by
  have lb_1 := lb (L := L) (i := i) 1 1 rfl (by omega) hL
  unfold s_L_1235 s_L_1258
  obtain ⟨v, σ', τ', h1, h2, h3⟩ := r_count (F := F) R (xs ((nI i) + (1 : Int32)).toNatClampNeg)
  rw [if_neg lb_1, kb_eq h1, if_neg lb_1, kb_eq h2, if_pos rfl]
  exact hr σ' τ' h3
theorem l_18 (hF : 200000 ≤ F) (hk : k < 600) (R : Rel k σ τ) (xs : Nat → Int32) (L i : Nat) (hL : L ≤ 3072) (hi : i + 6 ≤ L) (rc : kS × kS × Int32 → Option Unit) (hr : ∀ σ τ, Rel (k + 1) σ τ → rc (σ, τ, nI i + 6) = some ()) : s_L_18 F L xs rc σ τ (nI i) = some () := by
  unfold s_L_18
  have h6 : ¬ (Int32.ofNat L - (6 : Int32)) < nI i := fun z => by
    have q := (fa_lt _ _).mp z
    have e : (Int32.ofNat L - (6 : Int32)).toInt = (L : Int) - (6 : Nat) := pk_sub_toInt (a := L) (b := 6) (by omega) (by decide)
    rw [e, nI_toInt (by omega)] at q
    omega
  rw [if_neg h6, if_neg (nI_in (by omega) (by omega))]
  by_cases c0 : (xs (nI i).toNatClampNeg) &&& (31 : Int32) = (0 : Int32)
  · rw [if_pos c0]
    exact l_176 hF hk R xs L i hL hi rc hr
  rw [if_neg c0]
  by_cases c1 : (xs (nI i).toNatClampNeg) &&& (31 : Int32) = (1 : Int32)
  · rw [if_pos c1]
    exact l_239 hF hk R xs L i hL hi rc hr
  rw [if_neg c1]
  by_cases c2 : (xs (nI i).toNatClampNeg) &&& (31 : Int32) = (2 : Int32)
  · rw [if_pos c2]
    exact l_252 hF hk R xs L i hL hi rc hr
  rw [if_neg c2]
  by_cases c3 : (xs (nI i).toNatClampNeg) &&& (31 : Int32) = (3 : Int32)
  · rw [if_pos c3]
    exact l_265 hF hk R xs L i hL hi rc hr
  rw [if_neg c3]
  by_cases c4 : (xs (nI i).toNatClampNeg) &&& (31 : Int32) = (4 : Int32)
  · rw [if_pos c4]
    exact l_278 hF hk R xs L i hL hi rc hr
  rw [if_neg c4]
  by_cases c5 : (xs (nI i).toNatClampNeg) &&& (31 : Int32) = (5 : Int32)
  · rw [if_pos c5]
    exact l_311 hF hk R xs L i hL hi rc hr
  rw [if_neg c5]
  by_cases c6 : (xs (nI i).toNatClampNeg) &&& (31 : Int32) = (6 : Int32)
  · rw [if_pos c6]
    exact l_334 hF hk R xs L i hL hi rc hr
  rw [if_neg c6]
  by_cases c7 : (xs (nI i).toNatClampNeg) &&& (31 : Int32) = (7 : Int32)
  · rw [if_pos c7]
    exact l_387 hF hk R xs L i hL hi rc hr
  rw [if_neg c7]
  by_cases c8 : (xs (nI i).toNatClampNeg) &&& (31 : Int32) = (8 : Int32)
  · rw [if_pos c8]
    exact l_460 hF hk R xs L i hL hi rc hr
  rw [if_neg c8]
  by_cases c9 : (xs (nI i).toNatClampNeg) &&& (31 : Int32) = (9 : Int32)
  · rw [if_pos c9]
    exact l_523 hF hk R xs L i hL hi rc hr
  rw [if_neg c9]
  by_cases c10 : (xs (nI i).toNatClampNeg) &&& (31 : Int32) = (10 : Int32)
  · rw [if_pos c10]
    exact l_586 hF hk R xs L i hL hi rc hr
  rw [if_neg c10]
  by_cases c11 : (xs (nI i).toNatClampNeg) &&& (31 : Int32) = (11 : Int32)
  · rw [if_pos c11]
    exact l_609 hF hk R xs L i hL hi rc hr
  rw [if_neg c11]
  by_cases c12 : (xs (nI i).toNatClampNeg) &&& (31 : Int32) = (12 : Int32)
  · rw [if_pos c12]
    exact l_622 hF hk R xs L i hL hi rc hr
  rw [if_neg c12]
  by_cases c13 : (xs (nI i).toNatClampNeg) &&& (31 : Int32) = (13 : Int32)
  · rw [if_pos c13]
    exact l_685 hF hk R xs L i hL hi rc hr
  rw [if_neg c13]
  by_cases c14 : (xs (nI i).toNatClampNeg) &&& (31 : Int32) = (14 : Int32)
  · rw [if_pos c14]
    exact l_708 hF hk R xs L i hL hi rc hr
  rw [if_neg c14]
  by_cases c15 : (xs (nI i).toNatClampNeg) &&& (31 : Int32) = (15 : Int32)
  · rw [if_pos c15]
    exact l_731 hF hk R xs L i hL hi rc hr
  rw [if_neg c15]
  by_cases c16 : (xs (nI i).toNatClampNeg) &&& (31 : Int32) = (16 : Int32)
  · rw [if_pos c16]
    exact l_790 hF hk R xs L i hL hi rc hr
  rw [if_neg c16]
  by_cases c17 : (xs (nI i).toNatClampNeg) &&& (31 : Int32) = (17 : Int32)
  · rw [if_pos c17]
    exact l_803 hF hk R xs L i hL hi rc hr
  rw [if_neg c17]
  by_cases c18 : (xs (nI i).toNatClampNeg) &&& (31 : Int32) = (18 : Int32)
  · rw [if_pos c18]
    exact l_826 hF hk R xs L i hL hi rc hr
  rw [if_neg c18]
  by_cases c19 : (xs (nI i).toNatClampNeg) &&& (31 : Int32) = (19 : Int32)
  · rw [if_pos c19]
    exact l_869 hF hk R xs L i hL hi rc hr
  rw [if_neg c19]
  by_cases c20 : (xs (nI i).toNatClampNeg) &&& (31 : Int32) = (20 : Int32)
  · rw [if_pos c20]
    exact l_892 hF hk R xs L i hL hi rc hr
  rw [if_neg c20]
  by_cases c21 : (xs (nI i).toNatClampNeg) &&& (31 : Int32) = (21 : Int32)
  · rw [if_pos c21]
    exact l_915 hF hk R xs L i hL hi rc hr
  rw [if_neg c21]
  by_cases c22 : (xs (nI i).toNatClampNeg) &&& (31 : Int32) = (22 : Int32)
  · rw [if_pos c22]
    exact l_938 hF hk R xs L i hL hi rc hr
  rw [if_neg c22]
  by_cases c23 : (xs (nI i).toNatClampNeg) &&& (31 : Int32) = (23 : Int32)
  · rw [if_pos c23]
    exact l_1011 hF hk R xs L i hL hi rc hr
  rw [if_neg c23]
  by_cases c24 : (xs (nI i).toNatClampNeg) &&& (31 : Int32) = (24 : Int32)
  · rw [if_pos c24]
    exact l_1044 hF hk R xs L i hL hi rc hr
  rw [if_neg c24]
  by_cases c25 : (xs (nI i).toNatClampNeg) &&& (31 : Int32) = (25 : Int32)
  · rw [if_pos c25]
    exact l_1057 hF hk R xs L i hL hi rc hr
  rw [if_neg c25]
  by_cases c26 : (xs (nI i).toNatClampNeg) &&& (31 : Int32) = (26 : Int32)
  · rw [if_pos c26]
    exact l_1070 hF hk R xs L i hL hi rc hr
  rw [if_neg c26]
  by_cases c27 : (xs (nI i).toNatClampNeg) &&& (31 : Int32) = (27 : Int32)
  · rw [if_pos c27]
    exact l_1093 hF hk R xs L i hL hi rc hr
  rw [if_neg c27]
  by_cases c28 : (xs (nI i).toNatClampNeg) &&& (31 : Int32) = (28 : Int32)
  · rw [if_pos c28]
    exact l_1176 hF hk R xs L i hL hi rc hr
  rw [if_neg c28]
  by_cases c29 : (xs (nI i).toNatClampNeg) &&& (31 : Int32) = (29 : Int32)
  · rw [if_pos c29]
    exact l_1209 hF hk R xs L i hL hi rc hr
  rw [if_neg c29]
  by_cases c30 : (xs (nI i).toNatClampNeg) &&& (31 : Int32) = (30 : Int32)
  · rw [if_pos c30]
    exact l_1222 hF hk R xs L i hL hi rc hr
  rw [if_neg c30]
  by_cases c31 : (xs (nI i).toNatClampNeg) &&& (31 : Int32) = (31 : Int32)
  · rw [if_pos c31]
    exact l_1235 hF hk R xs L i hL hi rc hr
  rw [if_neg c31]
  exact hr σ τ (R.up (by omega))
theorem l_out (L i : Nat) (hL : L ≤ 3072) (hi : i ≤ L) (h6 : L < i + 6) (xs : Nat → Int32) (rc : kS × kS × Int32 → Option Unit) (σ τ : kS) : s_L_18 F L xs rc σ τ (nI i) = some () := by
  unfold s_L_18
  have h6 : (Int32.ofNat L - (6 : Int32)) < nI i := by
    refine (fa_lt _ _).mpr ?_
    have e : (Int32.ofNat L - (6 : Int32)).toInt = (L : Int) - (6 : Nat) := pk_sub_toInt (a := L) (b := 6) (by omega) (by decide)
    rw [e, nI_toInt (by omega)]
    omega
  rw [if_pos h6]
theorem l_run (hF : 200000 ≤ F) (L : Nat) (hL : L ≤ 3072) (xs : Nat → Int32) : ∀ (f k : Nat) (σ τ : kS), Rel k σ τ → 6 * k ≤ L → L < 6 * k + 6 * f → itr (fun rec18 q => s_L_18 F L xs rec18 q.1 q.2.1 q.2.2) f (σ, τ, nI (6 * k)) = some () := by
  intro f
  induction f with
  | zero => intro k σ τ _ h1 h2; omega
  | succ f ih =>
    intro k σ τ R h1 h2
    show s_L_18 F L xs (itr (fun rec18 q => s_L_18 F L xs rec18 q.1 q.2.1 q.2.2) f) σ τ (nI (6 * k)) = some ()
    by_cases c : L < 6 * k + 6
    · exact l_out L (6 * k) hL h1 c xs _ σ τ
    · refine l_18 hF (by omega) R xs L (6 * k) hL (by omega) _ (fun s t R2 => ?_)
      have e : nI (6 * k) + 6 = nI (6 * (k + 1)) := nI_add (6 * k) 6
      rw [e]
      exact ih (k + 1) s t R2 (by omega) (by omega)
end
theorem law_pure {L : Nat} {xs : Nat → Int32} (hL : L ≤ 3072) : f_L lw_fuel L xs (σc, σm, 0) = some () := l_run (F := 200000) (Nat.le_refl 200000) L hL xs 200000 0 σc σm (Rel.ini ini) (by omega) (by omega)

/-! the law at one call: what is written -/
section
variable {F : Nat} {σ τ : kS}
def lw_fuel : Nat := 200000
theorem lg_self (v : Int64) : lg_cmp v v = 0 := by
  unfold lg_cmp
  rw [if_neg (fun q => by have := (fa_lt64 v v).mp q; omega), if_pos rfl]
theorem e_shift (hF : 200000 ≤ F) (H : Ini σ τ) (x : Int32) : Alike (f_X7_shift F σ x) (f_X8_shift F τ x) := by
  obtain ⟨⟨h, hm, hA, hL, hT⟩, -⟩ := H
  obtain ⟨v, τ', h1, h2, -⟩ := q_shift hF h hm hT x
  exact ⟨v, σ, τ', h1, h2⟩
theorem lb_1 : ¬ ((0 : Int32) + (1 : Int32) < 0 ∨ 6 ≤ ((0 : Int32) + (1 : Int32)).toNatClampNeg) := by decide
theorem lb_2 : ¬ ((0 : Int32) + (2 : Int32) < 0 ∨ 6 ≤ ((0 : Int32) + (2 : Int32)).toNatClampNeg) := by decide
theorem lb_3 : ¬ ((0 : Int32) + (3 : Int32) < 0 ∨ 6 ≤ ((0 : Int32) + (3 : Int32)).toNatClampNeg) := by decide
theorem lb_4 : ¬ ((0 : Int32) + (4 : Int32) < 0 ∨ 6 ≤ ((0 : Int32) + (4 : Int32)).toNatClampNeg) := by decide
theorem lb_5 : ¬ ((0 : Int32) + (5 : Int32) < 0 ∨ 6 ≤ ((0 : Int32) + (5 : Int32)).toNatClampNeg) := by decide
theorem l_176 (hF : 200000 ≤ F) (H : Ini σ τ) (xs : Nat → Int32) (rc : kS × kS × Int32 → Option Unit) (hr : ∀ σ τ, rc (σ, τ, (0 : Int32) + 6) = some ()) : s_L_176 F 6 xs rc σ τ 0 = some () := by
  obtain ⟨⟨h, hm, hA, hL, hT⟩, -⟩ := id H
  unfold s_L_176 s_L_1263
  obtain ⟨v, σ', τ', h1, h2⟩ := e_write hF H (xs ((0 : Int32) + (1 : Int32)).toNatClampNeg) (((xs ((0 : Int32) + (2 : Int32)).toNatClampNeg).toInt64 <<< ((32 : Int32).toInt64 &&& 63)) ||| ((xs ((0 : Int32) + (3 : Int32)).toNatClampNeg).toInt64 &&& (4294967295 : Int64)))
  rw [if_neg lb_1, if_neg lb_2, if_neg lb_3, kb_eq h1, if_neg lb_1, if_neg lb_2, if_neg lb_3, kb_eq h2, if_pos rfl]
  exact hr σ' τ'
theorem l_239 (hF : 200000 ≤ F) (H : Ini σ τ) (xs : Nat → Int32) (rc : kS × kS × Int32 → Option Unit) (hr : ∀ σ τ, rc (σ, τ, (0 : Int32) + 6) = some ()) : s_L_239 F 6 xs rc σ τ 0 = some () := by
  obtain ⟨⟨h, hm, hA, hL, hT⟩, -⟩ := id H
  unfold s_L_239 s_L_1263
  obtain ⟨v, σ', τ', h1, h2⟩ := e_wipe (F := F) H 
  rw [kb_eq h1, kb_eq h2, if_pos rfl]
  exact hr σ' τ'
theorem l_252 (hF : 200000 ≤ F) (H : Ini σ τ) (xs : Nat → Int32) (rc : kS × kS × Int32 → Option Unit) (hr : ∀ σ τ, rc (σ, τ, (0 : Int32) + 6) = some ()) : s_L_252 F 6 xs rc σ τ 0 = some () := by
  obtain ⟨⟨h, hm, hA, hL, hT⟩, -⟩ := id H
  unfold s_L_252 s_L_1263
  obtain ⟨v, σ', τ', h1, h2⟩ := e_fault hF H 
  rw [kb_eq h1, kb_eq h2, if_pos rfl]
  exact hr σ' τ'
theorem l_265 (hF : 200000 ≤ F) (H : Ini σ τ) (xs : Nat → Int32) (rc : kS × kS × Int32 → Option Unit) (hr : ∀ σ τ, rc (σ, τ, (0 : Int32) + 6) = some ()) : s_L_265 F 6 xs rc σ τ 0 = some () := by
  obtain ⟨⟨h, hm, hA, hL, hT⟩, -⟩ := id H
  unfold s_L_265 s_L_1263
  obtain ⟨v, σ', τ', h1, h2⟩ := e_lay hF H 
  rw [kb_eq h1, kb_eq h2, if_pos rfl]
  exact hr σ' τ'
theorem l_278 (hF : 200000 ≤ F) (H : Ini σ τ) (xs : Nat → Int32) (rc : kS × kS × Int32 → Option Unit) (hr : ∀ σ τ, rc (σ, τ, (0 : Int32) + 6) = some ()) : s_L_278 F 6 xs rc σ τ 0 = some () := by
  obtain ⟨⟨h, hm, hA, hL, hT⟩, -⟩ := id H
  unfold s_L_278 s_L_1263
  obtain ⟨v, σ', τ', h1, h2⟩ := e_act (F := F) H (xs ((0 : Int32) + (1 : Int32)).toNatClampNeg) (xs ((0 : Int32) + (2 : Int32)).toNatClampNeg)
  rw [if_neg lb_1, if_neg lb_2, kb_eq h1, if_neg lb_1, if_neg lb_2, kb_eq h2, if_pos rfl]
  exact hr σ' τ'
theorem l_311 (hF : 200000 ≤ F) (H : Ini σ τ) (xs : Nat → Int32) (rc : kS × kS × Int32 → Option Unit) (hr : ∀ σ τ, rc (σ, τ, (0 : Int32) + 6) = some ()) : s_L_311 F 6 xs rc σ τ 0 = some () := by
  obtain ⟨⟨h, hm, hA, hL, hT⟩, -⟩ := id H
  unfold s_L_311 s_L_1263
  obtain ⟨v, σ', τ', h1, h2⟩ := e_year (F := F) H (xs ((0 : Int32) + (1 : Int32)).toNatClampNeg)
  rw [if_neg lb_1, kb_eq h1, if_neg lb_1, kb_eq h2, if_pos rfl]
  exact hr σ' τ'
theorem l_334 (hF : 200000 ≤ F) (H : Ini σ τ) (xs : Nat → Int32) (rc : kS × kS × Int32 → Option Unit) (hr : ∀ σ τ, rc (σ, τ, (0 : Int32) + 6) = some ()) : s_L_334 F 6 xs rc σ τ 0 = some () := by
  obtain ⟨⟨h, hm, hA, hL, hT⟩, -⟩ := id H
  unfold s_L_334 s_L_1263
  obtain ⟨v, σ', τ', h1, h2⟩ := al_q (q_rules (F := F) h hm (((xs ((0 : Int32) + (1 : Int32)).toNatClampNeg).toInt64 <<< ((32 : Int32).toInt64 &&& 63)) ||| ((xs ((0 : Int32) + (2 : Int32)).toNatClampNeg).toInt64 &&& (4294967295 : Int64))))
  rw [if_neg lb_1, if_neg lb_2, kb_eq h1, if_neg lb_1, if_neg lb_2, kb_eq h2, if_pos rfl]
  exact hr σ' τ'
theorem l_387 (hF : 200000 ≤ F) (H : Ini σ τ) (xs : Nat → Int32) (rc : kS × kS × Int32 → Option Unit) (hr : ∀ σ τ, rc (σ, τ, (0 : Int32) + 6) = some ()) : s_L_387 F 6 xs rc σ τ 0 = some () := by
  obtain ⟨⟨h, hm, hA, hL, hT⟩, -⟩ := id H
  unfold s_L_387 s_L_1263
  obtain ⟨v, σ', τ', h1, h2⟩ := al_q (q_minutes hF h hm (((xs ((0 : Int32) + (1 : Int32)).toNatClampNeg).toInt64 <<< ((32 : Int32).toInt64 &&& 63)) ||| ((xs ((0 : Int32) + (2 : Int32)).toNatClampNeg).toInt64 &&& (4294967295 : Int64))) (xs ((0 : Int32) + (3 : Int32)).toNatClampNeg) (xs ((0 : Int32) + (4 : Int32)).toNatClampNeg))
  rw [if_neg lb_1, if_neg lb_2, if_neg lb_3, if_neg lb_4, kb_eq h1, if_neg lb_1, if_neg lb_2, if_neg lb_3, if_neg lb_4, kb_eq h2, if_pos rfl]
  exact hr σ' τ'
theorem l_460 (hF : 200000 ≤ F) (H : Ini σ τ) (xs : Nat → Int32) (rc : kS × kS × Int32 → Option Unit) (hr : ∀ σ τ, rc (σ, τ, (0 : Int32) + 6) = some ()) : s_L_460 F 6 xs rc σ τ 0 = some () := by
  obtain ⟨⟨h, hm, hA, hL, hT⟩, -⟩ := id H
  unfold s_L_460 s_L_1263
  obtain ⟨v, σ', τ', h1, h2⟩ := al_q (q_next hF h hm (((xs ((0 : Int32) + (1 : Int32)).toNatClampNeg).toInt64 <<< ((32 : Int32).toInt64 &&& 63)) ||| ((xs ((0 : Int32) + (2 : Int32)).toNatClampNeg).toInt64 &&& (4294967295 : Int64))) (xs ((0 : Int32) + (3 : Int32)).toNatClampNeg))
  rw [if_neg lb_1, if_neg lb_2, if_neg lb_3, kb_eq h1, if_neg lb_1, if_neg lb_2, if_neg lb_3, kb_eq h2, if_pos (lg_self v)]
  exact hr σ' τ'
theorem l_524 (hF : 200000 ≤ F) (H : Ini σ τ) (xs : Nat → Int32) (rc : kS × kS × Int32 → Option Unit) (hr : ∀ σ τ, rc (σ, τ, (0 : Int32) + 6) = some ()) : s_L_524 F 6 xs rc σ τ 0 = some () := by
  obtain ⟨⟨h, hm, hA, hL, hT⟩, -⟩ := id H
  unfold s_L_524 s_L_1263
  obtain ⟨v, σ', τ', h1, h2⟩ := al_q (q_lawful hF h hm hA hL (xs ((0 : Int32) + (1 : Int32)).toNatClampNeg) (((xs ((0 : Int32) + (2 : Int32)).toNatClampNeg).toInt64 <<< ((32 : Int32).toInt64 &&& 63)) ||| ((xs ((0 : Int32) + (3 : Int32)).toNatClampNeg).toInt64 &&& (4294967295 : Int64))))
  rw [if_neg lb_1, if_neg lb_2, if_neg lb_3, kb_eq h1, if_neg lb_1, if_neg lb_2, if_neg lb_3, kb_eq h2, if_pos rfl]
  exact hr σ' τ'
theorem l_587 (hF : 200000 ≤ F) (H : Ini σ τ) (xs : Nat → Int32) (rc : kS × kS × Int32 → Option Unit) (hr : ∀ σ τ, rc (σ, τ, (0 : Int32) + 6) = some ()) : s_L_587 F 6 xs rc σ τ 0 = some () := by
  obtain ⟨⟨h, hm, hA, hL, hT⟩, -⟩ := id H
  unfold s_L_587 s_L_1263
  obtain ⟨v, σ', τ', h1, h2⟩ := e_tell (F := F) H (xs ((0 : Int32) + (1 : Int32)).toNatClampNeg)
  rw [if_neg lb_1, kb_eq h1, if_neg lb_1, kb_eq h2, if_pos rfl]
  exact hr σ' τ'
theorem l_610 (hF : 200000 ≤ F) (H : Ini σ τ) (xs : Nat → Int32) (rc : kS × kS × Int32 → Option Unit) (hr : ∀ σ τ, rc (σ, τ, (0 : Int32) + 6) = some ()) : s_L_610 F 6 xs rc σ τ 0 = some () := by
  obtain ⟨⟨h, hm, hA, hL, hT⟩, -⟩ := id H
  unfold s_L_610 s_L_1263
  obtain ⟨v, σ', τ', h1, h2⟩ := e_noRow (F := F) H 
  rw [kb_eq h1, kb_eq h2, if_pos rfl]
  exact hr σ' τ'
theorem l_623 (hF : 200000 ≤ F) (H : Ini σ τ) (xs : Nat → Int32) (rc : kS × kS × Int32 → Option Unit) (hr : ∀ σ τ, rc (σ, τ, (0 : Int32) + 6) = some ()) : s_L_623 F 6 xs rc σ τ 0 = some () := by
  obtain ⟨⟨h, hm, hA, hL, hT⟩, -⟩ := id H
  unfold s_L_623 s_L_1263
  obtain ⟨v, σ', τ', h1, h2⟩ := e_soon hF H (((xs ((0 : Int32) + (1 : Int32)).toNatClampNeg).toInt64 <<< ((32 : Int32).toInt64 &&& 63)) ||| ((xs ((0 : Int32) + (2 : Int32)).toNatClampNeg).toInt64 &&& (4294967295 : Int64))) (xs ((0 : Int32) + (3 : Int32)).toNatClampNeg)
  rw [if_neg lb_1, if_neg lb_2, if_neg lb_3, kb_eq h1, if_neg lb_1, if_neg lb_2, if_neg lb_3, kb_eq h2, if_pos (lg_self v)]
  exact hr σ' τ'
theorem l_687 (hF : 200000 ≤ F) (H : Ini σ τ) (xs : Nat → Int32) (rc : kS × kS × Int32 → Option Unit) (hr : ∀ σ τ, rc (σ, τ, (0 : Int32) + 6) = some ()) : s_L_687 F 6 xs rc σ τ 0 = some () := by
  obtain ⟨⟨h, hm, hA, hL, hT⟩, -⟩ := id H
  unfold s_L_687 s_L_1263
  obtain ⟨v, σ', τ', h1, h2⟩ := e_pass (F := F) H (xs ((0 : Int32) + (1 : Int32)).toNatClampNeg)
  rw [if_neg lb_1, kb_eq h1, if_neg lb_1, kb_eq h2, if_pos (lg_self v)]
  exact hr σ' τ'
theorem l_711 (hF : 200000 ≤ F) (H : Ini σ τ) (xs : Nat → Int32) (rc : kS × kS × Int32 → Option Unit) (hr : ∀ σ τ, rc (σ, τ, (0 : Int32) + 6) = some ()) : s_L_711 F 6 xs rc σ τ 0 = some () := by
  obtain ⟨⟨h, hm, hA, hL, hT⟩, -⟩ := id H
  unfold s_L_711 s_L_1263
  obtain ⟨v, σ', τ', h1, h2⟩ := e_doAct hF H (xs ((0 : Int32) + (1 : Int32)).toNatClampNeg)
  rw [if_neg lb_1, kb_eq h1, if_neg lb_1, kb_eq h2, if_pos (lg_self v)]
  exact hr σ' τ'
theorem l_735 (hF : 200000 ≤ F) (H : Ini σ τ) (xs : Nat → Int32) (rc : kS × kS × Int32 → Option Unit) (hr : ∀ σ τ, rc (σ, τ, (0 : Int32) + 6) = some ()) : s_L_735 F 6 xs rc σ τ 0 = some () := by
  obtain ⟨⟨h, hm, hA, hL, hT⟩, -⟩ := id H
  unfold s_L_735 s_L_1263
  by_cases cz : xs ((0 : Int32) + (3 : Int32)).toNatClampNeg = 0
  · obtain ⟨v, σ', τ', h1, h2⟩ := e_allow (F := F) H (xs ((0 : Int32) + (1 : Int32)).toNatClampNeg) (xs ((0 : Int32) + (2 : Int32)).toNatClampNeg) (0 : Int32)
    rw [if_neg lb_1, if_neg lb_2, if_neg lb_3, if_pos cz, kb_eq h1, if_neg lb_1, if_neg lb_2, if_neg lb_3, if_pos cz, kb_eq h2, if_pos rfl]
    exact hr σ' τ'
  · obtain ⟨v, σ', τ', h1, h2⟩ := e_allow (F := F) H (xs ((0 : Int32) + (1 : Int32)).toNatClampNeg) (xs ((0 : Int32) + (2 : Int32)).toNatClampNeg) (1 : Int32)
    rw [if_neg lb_1, if_neg lb_2, if_neg lb_3, if_neg cz, kb_eq h1, if_neg lb_1, if_neg lb_2, if_neg lb_3, if_neg cz, kb_eq h2, if_pos rfl]
    exact hr σ' τ'
theorem l_794 (hF : 200000 ≤ F) (H : Ini σ τ) (xs : Nat → Int32) (rc : kS × kS × Int32 → Option Unit) (hr : ∀ σ τ, rc (σ, τ, (0 : Int32) + 6) = some ()) : s_L_794 F 6 xs rc σ τ 0 = some () := by
  obtain ⟨⟨h, hm, hA, hL, hT⟩, -⟩ := id H
  unfold s_L_794 s_L_1263
  obtain ⟨v, σ', τ', h1, h2⟩ := e_undo (F := F) H 
  rw [kb_eq h1, kb_eq h2, if_pos rfl]
  exact hr σ' τ'
theorem l_807 (hF : 200000 ≤ F) (H : Ini σ τ) (xs : Nat → Int32) (rc : kS × kS × Int32 → Option Unit) (hr : ∀ σ τ, rc (σ, τ, (0 : Int32) + 6) = some ()) : s_L_807 F 6 xs rc σ τ 0 = some () := by
  obtain ⟨⟨h, hm, hA, hL, hT⟩, -⟩ := id H
  unfold s_L_807 s_L_1263
  obtain ⟨v, σ', τ', h1, h2⟩ := al_q (q_gain hF hA hL (xs ((0 : Int32) + (1 : Int32)).toNatClampNeg))
  rw [if_neg lb_1, kb_eq h1, if_neg lb_1, kb_eq h2, if_pos rfl]
  exact hr σ' τ'
theorem l_830 (hF : 200000 ≤ F) (H : Ini σ τ) (xs : Nat → Int32) (rc : kS × kS × Int32 → Option Unit) (hr : ∀ σ τ, rc (σ, τ, (0 : Int32) + 6) = some ()) : s_L_830 F 6 xs rc σ τ 0 = some () := by
  obtain ⟨⟨h, hm, hA, hL, hT⟩, -⟩ := id H
  unfold s_L_830 s_L_1263
  obtain ⟨v, σ', τ', h1, h2⟩ := al_q (q_forbid hF hA hL (xs ((0 : Int32) + (1 : Int32)).toNatClampNeg) (xs ((0 : Int32) + (2 : Int32)).toNatClampNeg) (xs ((0 : Int32) + (3 : Int32)).toNatClampNeg))
  rw [if_neg lb_1, if_neg lb_2, if_neg lb_3, kb_eq h1, if_neg lb_1, if_neg lb_2, if_neg lb_3, kb_eq h2, if_pos rfl]
  exact hr σ' τ'
theorem l_873 (hF : 200000 ≤ F) (H : Ini σ τ) (xs : Nat → Int32) (rc : kS × kS × Int32 → Option Unit) (hr : ∀ σ τ, rc (σ, τ, (0 : Int32) + 6) = some ()) : s_L_873 F 6 xs rc σ τ 0 = some () := by
  obtain ⟨⟨h, hm, hA, hL, hT⟩, -⟩ := id H
  unfold s_L_873 s_L_1263
  obtain ⟨v, σ', τ', h1, h2⟩ := al_q (q_rests hF hA hL (xs ((0 : Int32) + (1 : Int32)).toNatClampNeg))
  rw [if_neg lb_1, kb_eq h1, if_neg lb_1, kb_eq h2, if_pos rfl]
  exact hr σ' τ'
theorem l_896 (hF : 200000 ≤ F) (H : Ini σ τ) (xs : Nat → Int32) (rc : kS × kS × Int32 → Option Unit) (hr : ∀ σ τ, rc (σ, τ, (0 : Int32) + 6) = some ()) : s_L_896 F 6 xs rc σ τ 0 = some () := by
  obtain ⟨⟨h, hm, hA, hL, hT⟩, -⟩ := id H
  unfold s_L_896 s_L_1263
  obtain ⟨v, σ', τ', h1, h2⟩ := al_q (q_firm hF hA hL (xs ((0 : Int32) + (1 : Int32)).toNatClampNeg))
  rw [if_neg lb_1, kb_eq h1, if_neg lb_1, kb_eq h2, if_pos rfl]
  exact hr σ' τ'
theorem l_919 (hF : 200000 ≤ F) (H : Ini σ τ) (xs : Nat → Int32) (rc : kS × kS × Int32 → Option Unit) (hr : ∀ σ τ, rc (σ, τ, (0 : Int32) + 6) = some ()) : s_L_919 F 6 xs rc σ τ 0 = some () := by
  obtain ⟨⟨h, hm, hA, hL, hT⟩, -⟩ := id H
  unfold s_L_919 s_L_1263
  obtain ⟨v, σ', τ', h1, h2⟩ := al_q (q_treaty hF hA hL (xs ((0 : Int32) + (1 : Int32)).toNatClampNeg))
  rw [if_neg lb_1, kb_eq h1, if_neg lb_1, kb_eq h2, if_pos rfl]
  exact hr σ' τ'
theorem l_942 (hF : 200000 ≤ F) (H : Ini σ τ) (xs : Nat → Int32) (rc : kS × kS × Int32 → Option Unit) (hr : ∀ σ τ, rc (σ, τ, (0 : Int32) + 6) = some ()) : s_L_942 F 6 xs rc σ τ 0 = some () := by
  obtain ⟨⟨h, hm, hA, hL, hT⟩, -⟩ := id H
  unfold s_L_942 s_L_1263
  obtain ⟨v, σ', τ', h1, h2⟩ := e_bargain (F := F) H (xs ((0 : Int32) + (1 : Int32)).toNatClampNeg) (xs ((0 : Int32) + (2 : Int32)).toNatClampNeg) (((xs ((0 : Int32) + (3 : Int32)).toNatClampNeg).toInt64 <<< ((32 : Int32).toInt64 &&& 63)) ||| ((xs ((0 : Int32) + (4 : Int32)).toNatClampNeg).toInt64 &&& (4294967295 : Int64)))
  rw [if_neg lb_1, if_neg lb_2, if_neg lb_3, if_neg lb_4, kb_eq h1, if_neg lb_1, if_neg lb_2, if_neg lb_3, if_neg lb_4, kb_eq h2, if_pos (lg_self v)]
  exact hr σ' τ'
theorem l_1016 (hF : 200000 ≤ F) (H : Ini σ τ) (xs : Nat → Int32) (rc : kS × kS × Int32 → Option Unit) (hr : ∀ σ τ, rc (σ, τ, (0 : Int32) + 6) = some ()) : s_L_1016 F 6 xs rc σ τ 0 = some () := by
  obtain ⟨⟨h, hm, hA, hL, hT⟩, -⟩ := id H
  unfold s_L_1016 s_L_1263
  obtain ⟨v, σ', τ', h1, h2⟩ := e_line (F := F) H (xs ((0 : Int32) + (1 : Int32)).toNatClampNeg) (xs ((0 : Int32) + (2 : Int32)).toNatClampNeg)
  rw [if_neg lb_1, if_neg lb_2, kb_eq h1, if_neg lb_1, if_neg lb_2, kb_eq h2, if_pos rfl]
  exact hr σ' τ'
theorem l_1049 (hF : 200000 ≤ F) (H : Ini σ τ) (xs : Nat → Int32) (rc : kS × kS × Int32 → Option Unit) (hr : ∀ σ τ, rc (σ, τ, (0 : Int32) + 6) = some ()) : s_L_1049 F 6 xs rc σ τ 0 = some () := by
  obtain ⟨⟨h, hm, hA, hL, hT⟩, -⟩ := id H
  unfold s_L_1049 s_L_1263
  obtain ⟨v, σ', τ', h1, h2⟩ := e_noTable (F := F) H 
  rw [kb_eq h1, kb_eq h2, if_pos rfl]
  exact hr σ' τ'
theorem l_1062 (hF : 200000 ≤ F) (H : Ini σ τ) (xs : Nat → Int32) (rc : kS × kS × Int32 → Option Unit) (hr : ∀ σ τ, rc (σ, τ, (0 : Int32) + 6) = some ()) : s_L_1062 F 6 xs rc σ τ 0 = some () := by
  obtain ⟨⟨h, hm, hA, hL, hT⟩, -⟩ := id H
  unfold s_L_1062 s_L_1263
  obtain ⟨v, σ', τ', h1, h2⟩ := al_q (q_forged hF h hm hT )
  rw [kb_eq h1, kb_eq h2, if_pos rfl]
  exact hr σ' τ'
theorem l_1075 (hF : 200000 ≤ F) (H : Ini σ τ) (xs : Nat → Int32) (rc : kS × kS × Int32 → Option Unit) (hr : ∀ σ τ, rc (σ, τ, (0 : Int32) + 6) = some ()) : s_L_1075 F 6 xs rc σ τ 0 = some () := by
  obtain ⟨⟨h, hm, hA, hL, hT⟩, -⟩ := id H
  unfold s_L_1075 s_L_1263
  obtain ⟨v, σ', τ', h1, h2⟩ := e_shift hF H (xs ((0 : Int32) + (1 : Int32)).toNatClampNeg)
  rw [if_neg lb_1, kb_eq h1, if_neg lb_1, kb_eq h2, if_pos rfl]
  exact hr σ' τ'
theorem l_1098 (hF : 200000 ≤ F) (H : Ini σ τ) (xs : Nat → Int32) (rc : kS × kS × Int32 → Option Unit) (hr : ∀ σ τ, rc (σ, τ, (0 : Int32) + 6) = some ()) : s_L_1098 F 6 xs rc σ τ 0 = some () := by
  obtain ⟨⟨h, hm, hA, hL, hT⟩, -⟩ := id H
  unfold s_L_1098 s_L_1263
  obtain ⟨v, σ', τ', h1, h2⟩ := al_q (q_wreck hF h hm (((xs ((0 : Int32) + (1 : Int32)).toNatClampNeg).toInt64 <<< ((32 : Int32).toInt64 &&& 63)) ||| ((xs ((0 : Int32) + (2 : Int32)).toNatClampNeg).toInt64 &&& (4294967295 : Int64))) (xs ((0 : Int32) + (3 : Int32)).toNatClampNeg) (xs ((0 : Int32) + (4 : Int32)).toNatClampNeg) (xs ((0 : Int32) + (5 : Int32)).toNatClampNeg))
  rw [if_neg lb_1, if_neg lb_2, if_neg lb_3, if_neg lb_4, if_neg lb_5, kb_eq h1, if_neg lb_1, if_neg lb_2, if_neg lb_3, if_neg lb_4, if_neg lb_5, kb_eq h2, if_pos rfl]
  exact hr σ' τ'
theorem l_1181 (hF : 200000 ≤ F) (H : Ini σ τ) (xs : Nat → Int32) (rc : kS × kS × Int32 → Option Unit) (hr : ∀ σ τ, rc (σ, τ, (0 : Int32) + 6) = some ()) : s_L_1181 F 6 xs rc σ τ 0 = some () := by
  obtain ⟨⟨h, hm, hA, hL, hT⟩, -⟩ := id H
  unfold s_L_1181 s_L_1263
  obtain ⟨v, σ', τ', h1, h2⟩ := al_q (q_drawn hF h hm hA hL (xs ((0 : Int32) + (1 : Int32)).toNatClampNeg) (xs ((0 : Int32) + (2 : Int32)).toNatClampNeg))
  rw [if_neg lb_1, if_neg lb_2, kb_eq h1, if_neg lb_1, if_neg lb_2, kb_eq h2, if_pos rfl]
  exact hr σ' τ'
theorem l_1214 (hF : 200000 ≤ F) (H : Ini σ τ) (xs : Nat → Int32) (rc : kS × kS × Int32 → Option Unit) (hr : ∀ σ τ, rc (σ, τ, (0 : Int32) + 6) = some ()) : s_L_1214 F 6 xs rc σ τ 0 = some () := by
  obtain ⟨⟨h, hm, hA, hL, hT⟩, -⟩ := id H
  unfold s_L_1214 s_L_1263
  obtain ⟨v, σ', τ', h1, h2⟩ := e_keep hF H 
  rw [kb_eq h1, kb_eq h2, if_pos rfl]
  exact hr σ' τ'
theorem l_1227 (hF : 200000 ≤ F) (H : Ini σ τ) (xs : Nat → Int32) (rc : kS × kS × Int32 → Option Unit) (hr : ∀ σ τ, rc (σ, τ, (0 : Int32) + 6) = some ()) : s_L_1227 F 6 xs rc σ τ 0 = some () := by
  obtain ⟨⟨h, hm, hA, hL, hT⟩, -⟩ := id H
  unfold s_L_1227 s_L_1263
  obtain ⟨v, σ', τ', h1, h2⟩ := e_back (F := F) H 
  rw [kb_eq h1, kb_eq h2, if_pos rfl]
  exact hr σ' τ'
theorem l_1240 (hF : 200000 ≤ F) (H : Ini σ τ) (xs : Nat → Int32) (rc : kS × kS × Int32 → Option Unit) (hr : ∀ σ τ, rc (σ, τ, (0 : Int32) + 6) = some ()) : s_L_1240 F 6 xs rc σ τ 0 = some () := by
  obtain ⟨⟨h, hm, hA, hL, hT⟩, -⟩ := id H
  unfold s_L_1240 s_L_1263
  obtain ⟨v, σ', τ', h1, h2⟩ := e_count (F := F) H (xs ((0 : Int32) + (1 : Int32)).toNatClampNeg)
  rw [if_neg lb_1, kb_eq h1, if_neg lb_1, kb_eq h2, if_pos rfl]
  exact hr σ' τ'
theorem l_18 (hF : 200000 ≤ F) (H : Ini σ τ) (xs : Nat → Int32) (rc : kS × kS × Int32 → Option Unit) (hr : ∀ σ τ, rc (σ, τ, (0 : Int32) + 6) = some ()) : s_L_18 F 6 xs rc σ τ 0 = some () := by
  unfold s_L_18
  rw [if_neg (show ¬ (Int32.ofNat 6 - (6 : Int32)) < 0 by decide), if_neg (show ¬ ((0 : Int32) < 0 ∨ 6 ≤ (0 : Int32).toNatClampNeg) by decide)]
  by_cases c0 : (xs (0 : Int32).toNatClampNeg) &&& (31 : Int32) = (0 : Int32)
  · rw [if_pos c0]
    exact l_176 hF H xs rc hr
  rw [if_neg c0]
  by_cases c1 : (xs (0 : Int32).toNatClampNeg) &&& (31 : Int32) = (1 : Int32)
  · rw [if_pos c1]
    exact l_239 hF H xs rc hr
  rw [if_neg c1]
  by_cases c2 : (xs (0 : Int32).toNatClampNeg) &&& (31 : Int32) = (2 : Int32)
  · rw [if_pos c2]
    exact l_252 hF H xs rc hr
  rw [if_neg c2]
  by_cases c3 : (xs (0 : Int32).toNatClampNeg) &&& (31 : Int32) = (3 : Int32)
  · rw [if_pos c3]
    exact l_265 hF H xs rc hr
  rw [if_neg c3]
  by_cases c4 : (xs (0 : Int32).toNatClampNeg) &&& (31 : Int32) = (4 : Int32)
  · rw [if_pos c4]
    exact l_278 hF H xs rc hr
  rw [if_neg c4]
  by_cases c5 : (xs (0 : Int32).toNatClampNeg) &&& (31 : Int32) = (5 : Int32)
  · rw [if_pos c5]
    exact l_311 hF H xs rc hr
  rw [if_neg c5]
  by_cases c6 : (xs (0 : Int32).toNatClampNeg) &&& (31 : Int32) = (6 : Int32)
  · rw [if_pos c6]
    exact l_334 hF H xs rc hr
  rw [if_neg c6]
  by_cases c7 : (xs (0 : Int32).toNatClampNeg) &&& (31 : Int32) = (7 : Int32)
  · rw [if_pos c7]
    exact l_387 hF H xs rc hr
  rw [if_neg c7]
  by_cases c8 : (xs (0 : Int32).toNatClampNeg) &&& (31 : Int32) = (8 : Int32)
  · rw [if_pos c8]
    exact l_460 hF H xs rc hr
  rw [if_neg c8]
  by_cases c9 : (xs (0 : Int32).toNatClampNeg) &&& (31 : Int32) = (9 : Int32)
  · rw [if_pos c9]
    exact l_524 hF H xs rc hr
  rw [if_neg c9]
  by_cases c10 : (xs (0 : Int32).toNatClampNeg) &&& (31 : Int32) = (10 : Int32)
  · rw [if_pos c10]
    exact l_587 hF H xs rc hr
  rw [if_neg c10]
  by_cases c11 : (xs (0 : Int32).toNatClampNeg) &&& (31 : Int32) = (11 : Int32)
  · rw [if_pos c11]
    exact l_610 hF H xs rc hr
  rw [if_neg c11]
  by_cases c12 : (xs (0 : Int32).toNatClampNeg) &&& (31 : Int32) = (12 : Int32)
  · rw [if_pos c12]
    exact l_623 hF H xs rc hr
  rw [if_neg c12]
  by_cases c13 : (xs (0 : Int32).toNatClampNeg) &&& (31 : Int32) = (13 : Int32)
  · rw [if_pos c13]
    exact l_687 hF H xs rc hr
  rw [if_neg c13]
  by_cases c14 : (xs (0 : Int32).toNatClampNeg) &&& (31 : Int32) = (14 : Int32)
  · rw [if_pos c14]
    exact l_711 hF H xs rc hr
  rw [if_neg c14]
  by_cases c15 : (xs (0 : Int32).toNatClampNeg) &&& (31 : Int32) = (15 : Int32)
  · rw [if_pos c15]
    exact l_735 hF H xs rc hr
  rw [if_neg c15]
  by_cases c16 : (xs (0 : Int32).toNatClampNeg) &&& (31 : Int32) = (16 : Int32)
  · rw [if_pos c16]
    exact l_794 hF H xs rc hr
  rw [if_neg c16]
  by_cases c17 : (xs (0 : Int32).toNatClampNeg) &&& (31 : Int32) = (17 : Int32)
  · rw [if_pos c17]
    exact l_807 hF H xs rc hr
  rw [if_neg c17]
  by_cases c18 : (xs (0 : Int32).toNatClampNeg) &&& (31 : Int32) = (18 : Int32)
  · rw [if_pos c18]
    exact l_830 hF H xs rc hr
  rw [if_neg c18]
  by_cases c19 : (xs (0 : Int32).toNatClampNeg) &&& (31 : Int32) = (19 : Int32)
  · rw [if_pos c19]
    exact l_873 hF H xs rc hr
  rw [if_neg c19]
  by_cases c20 : (xs (0 : Int32).toNatClampNeg) &&& (31 : Int32) = (20 : Int32)
  · rw [if_pos c20]
    exact l_896 hF H xs rc hr
  rw [if_neg c20]
  by_cases c21 : (xs (0 : Int32).toNatClampNeg) &&& (31 : Int32) = (21 : Int32)
  · rw [if_pos c21]
    exact l_919 hF H xs rc hr
  rw [if_neg c21]
  by_cases c22 : (xs (0 : Int32).toNatClampNeg) &&& (31 : Int32) = (22 : Int32)
  · rw [if_pos c22]
    exact l_942 hF H xs rc hr
  rw [if_neg c22]
  by_cases c23 : (xs (0 : Int32).toNatClampNeg) &&& (31 : Int32) = (23 : Int32)
  · rw [if_pos c23]
    exact l_1016 hF H xs rc hr
  rw [if_neg c23]
  by_cases c24 : (xs (0 : Int32).toNatClampNeg) &&& (31 : Int32) = (24 : Int32)
  · rw [if_pos c24]
    exact l_1049 hF H xs rc hr
  rw [if_neg c24]
  by_cases c25 : (xs (0 : Int32).toNatClampNeg) &&& (31 : Int32) = (25 : Int32)
  · rw [if_pos c25]
    exact l_1062 hF H xs rc hr
  rw [if_neg c25]
  by_cases c26 : (xs (0 : Int32).toNatClampNeg) &&& (31 : Int32) = (26 : Int32)
  · rw [if_pos c26]
    exact l_1075 hF H xs rc hr
  rw [if_neg c26]
  by_cases c27 : (xs (0 : Int32).toNatClampNeg) &&& (31 : Int32) = (27 : Int32)
  · rw [if_pos c27]
    exact l_1098 hF H xs rc hr
  rw [if_neg c27]
  by_cases c28 : (xs (0 : Int32).toNatClampNeg) &&& (31 : Int32) = (28 : Int32)
  · rw [if_pos c28]
    exact l_1181 hF H xs rc hr
  rw [if_neg c28]
  by_cases c29 : (xs (0 : Int32).toNatClampNeg) &&& (31 : Int32) = (29 : Int32)
  · rw [if_pos c29]
    exact l_1214 hF H xs rc hr
  rw [if_neg c29]
  by_cases c30 : (xs (0 : Int32).toNatClampNeg) &&& (31 : Int32) = (30 : Int32)
  · rw [if_pos c30]
    exact l_1227 hF H xs rc hr
  rw [if_neg c30]
  by_cases c31 : (xs (0 : Int32).toNatClampNeg) &&& (31 : Int32) = (31 : Int32)
  · rw [if_pos c31]
    exact l_1240 hF H xs rc hr
  rw [if_neg c31]
  exact hr σ τ
theorem l_out (L : Nat) (hL : L ≤ 6) (xs : Nat → Int32) (rc : kS × kS × Int32 → Option Unit) (σ τ : kS) (x : Int32) (hx : (x = 0 ∧ L < 6) ∨ x = 0 + 6) : s_L_18 F L xs rc σ τ x = some () := by
  unfold s_L_18
  have e : ∀ l : Fin 7, (l.val < 6 → Int32.ofNat l.val - (6 : Int32) < 0) ∧ Int32.ofNat l.val - (6 : Int32) < 0 + 6 := by decide
  have q := e ⟨L, by omega⟩
  rcases hx with ⟨rfl, hl⟩ | rfl
  · rw [if_pos (q.1 hl)]
  · rw [if_pos q.2]
theorem l_F (hF : 200000 ≤ F) (H : Ini σ τ) (L : Nat) (hL : L ≤ 6) (xs : Nat → Int32) : f_L F L xs (σ, τ, 0) = some () := by
  unfold f_L
  have e : ∀ g, 2 ≤ g → itr (fun rec18 q => s_L_18 F L xs rec18 q.1 q.2.1 q.2.2) g (σ, τ, 0) = some () := by
    intro g hg
    obtain ⟨k, rfl⟩ : ∃ k, g = k + 1 + 1 := ⟨g - 2, by omega⟩
    show s_L_18 F L xs (itr (fun rec18 q => s_L_18 F L xs rec18 q.1 q.2.1 q.2.2) (k + 1)) σ τ 0 = some ()
    by_cases c : L < 6
    · exact l_out L hL xs _ σ τ 0 (Or.inl ⟨rfl, c⟩)
    · have : L = 6 := by omega
      subst this
      exact l_18 hF H xs _ (fun s t => l_out (F := F) 6 (by omega) xs (itr (fun rec18 q => s_L_18 F 6 xs rec18 q.1 q.2.1 q.2.2) k) s t (0 + 6) (Or.inr rfl))
  exact e F (by omega)
end
theorem law_pure {L : Nat} {xs : Nat → Int32} (hL : L ≤ 6) : f_L lw_fuel L xs (σc, σm, 0) = some () := l_F (Nat.le_refl 200000) ini L hL xs

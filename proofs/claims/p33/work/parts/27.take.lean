/-! whole rows of a state; the reference's takes() and copies(), the class's told laws -/
theorem kb_eq {α β : Type} {x : Option (α × kS)} {v : α} {σ' : kS} (h : x = some (v, σ')) (k : α → kS → Option β) : kb x k = k v σ' := by rw [h]; rfl
theorem kn_eq {α β : Type} (e : α) (k : α → β) : kn e k = k e := rfl
def zA (τ : kS) (k : Nat) (g : Nat → Int32) : kS := (τ.1, τ.2.1, va_up τ.2.2.1 k g, τ.2.2.2)
def zB (τ : kS) (k : Nat) (g : Nat → Int64) : kS := (τ.1, τ.2.1, τ.2.2.1, va_up τ.2.2.2 k g)
theorem up_id {α : Type} (f : Nat → α) (k : Nat) : va_up f k (f k) = f := by
  funext j
  unfold va_up
  by_cases c : j = k
  · rw [if_pos c, c]
  · rw [if_neg c]
theorem zA_self (τ : kS) (k : Nat) : zA τ k (kA τ k) = τ := by
  unfold zA
  show (τ.1, τ.2.1, va_up τ.2.2.1 k (τ.2.2.1 k), τ.2.2.2) = τ
  rw [up_id]
theorem zB_self (τ : kS) (k : Nat) : zB τ k (kB τ k) = τ := by
  unfold zB
  show (τ.1, τ.2.1, τ.2.2.1, va_up τ.2.2.2 k (τ.2.2.2 k)) = τ
  rw [up_id]
theorem va_up_at {α : Type} (f : Nat → α) (k : Nat) (v : α) : va_up f k v k = v := by
  unfold va_up
  rw [if_pos rfl]
theorem jA_zA (τ : kS) (k i : Nat) (g : Nat → Int32) (v : Int32) : jA (zA τ k g) k i v = zA τ k (upd g i v) := by
  unfold jA zA
  show (τ.1, τ.2.1, va_up (va_up τ.2.2.1 k g) k (upd (va_up τ.2.2.1 k g k) i v), τ.2.2.2) = _
  rw [bx_uu, va_up_at]
theorem jB_zB (τ : kS) (k i : Nat) (g : Nat → Int64) (v : Int64) : jB (zB τ k g) k i v = zB τ k (vp_updL g i v) := by
  unfold jB zB
  show (τ.1, τ.2.1, τ.2.2.1, va_up (va_up τ.2.2.2 k g) k (vp_updL (va_up τ.2.2.2 k g k) i v)) = _
  rw [bx_uu, va_up_at]
theorem kA_zA (τ : kS) (k i : Nat) (g : Nat → Int32) : kA (zA τ k g) k i = g i := by
  unfold kA zA
  show va_up τ.2.2.1 k g k i = g i
  rw [va_up_at]
theorem kB_zB (τ : kS) (k i : Nat) (g : Nat → Int64) : kB (zB τ k g) k i = g i := by
  unfold kB zB
  show va_up τ.2.2.2 k g k i = g i
  rw [va_up_at]
theorem fillL (f g : Nat → Int64) (i : Nat) : vp_updL (fa_fill f g i) i (f i) = fa_fill f g (i + 1) := by
  funext j
  unfold vp_updL fa_fill
  by_cases c : j = i
  · subst c; rw [if_pos rfl, if_pos (by omega)]
  · rw [if_neg c]
    by_cases d : j < i
    · rw [if_pos d, if_pos (by omega)]
    · rw [if_neg d, if_neg (by omega)]
section
variable {F : Nat}
def tk1 (τ : kS) : kS := zA τ 1 (fa_fill (fun j => kA τ 1 (6 + j)) (kA τ 1) 6)
def tk2 (τ : kS) : kS := jA τ 2 0 (kA τ 2 1)
def tk3 (τ : kS) : kS := zA τ 3 (fa_fill (fun j => kA τ 3 (30 + j)) (kA τ 3) 30)
def tk4 (τ : kS) : kS := zA τ 4 (fa_fill (fun j => kA τ 3 (5 * j + 1)) (kA τ 4) 6)
def tk5 (τ : kS) : kS := zB τ 0 (fa_fill (fun _ => 0) (kB τ 0) 4)
def tk6 (τ : kS) : kS := jI (jI (jI (jI τ 3 0) 4 0) 5 0) 2 0
/-- the state behind takes() -/
def tk (τ : kS) : kS := tk6 (tk5 (tk4 (tk3 (tk2 (tk1 τ)))))
theorem tk5_loop (τ : kS) : ∀ (f n : Nat), n ≤ 4 → 4 - n < f → itr (fun rec102 q => s_X8_takes_102 F rec102 q.1 q.2) f (zB τ 0 (fa_fill (fun _ => 0) (kB τ 0) n), nI n) = some ((), tk6 (tk5 τ)) := by
  intro f
  induction f with
  | zero => intro n _ h; omega
  | succ f ih =>
    intro n hn hf
    show s_X8_takes_102 F _ (zB τ 0 (fa_fill (fun _ => 0) (kB τ 0) n)) (nI n) = _
    unfold s_X8_takes_102
    have hle : (4 : Int32) ≤ nI n ↔ 4 ≤ n := nI_leI (a := 4) (by omega) (by omega)
    by_cases c : 4 ≤ n
    · have : n = 4 := by omega
      subst this
      rw [if_pos (hle.mpr c)]; rfl
    · rw [if_neg (fun q => c (hle.mp q)), if_neg (nI_in (by omega) (by omega)), nI_clamp (by omega), jB_zB, fillL (fun _ => 0), nI_1]
      exact ih (n + 1) (by omega) (by omega)
theorem ix5t (i j : Nat) (y : Int32) (hy : y = nI j) : (5 : Int32) * nI i + y = nI (5 * i + j) := by
  have h5 : (5 : Int32) = nI 5 := rfl
  rw [hy, h5, pk_mul, nI_add]
theorem tk4_loop (hF : 40 ≤ F) (τ : kS) : ∀ (f n : Nat), n ≤ 6 → 6 - n < f → itr (fun rec72 q => s_X8_takes_72 F rec72 q.1 q.2) f (zA τ 4 (fa_fill (fun j => kA τ 3 (5 * j + 1)) (kA τ 4) n), nI n) = some ((), tk6 (tk5 (tk4 τ))) := by
  intro f
  induction f with
  | zero => intro n _ h; omega
  | succ f ih =>
    intro n hn hf
    show s_X8_takes_72 F _ (zA τ 4 (fa_fill (fun j => kA τ 3 (5 * j + 1)) (kA τ 4) n)) (nI n) = _
    unfold s_X8_takes_72
    have hle : (6 : Int32) ≤ nI n ↔ 6 ≤ n := nI_leI (a := 6) (by omega) (by omega)
    by_cases c : 6 ≤ n
    · have : n = 6 := by omega
      subst this
      rw [if_pos (hle.mpr c)]
      have e := tk5_loop (F := F) (tk4 τ) F 0 (by omega) (by omega)
      rw [fa_fill_0, zB_self] at e
      exact e
    · rw [if_neg (fun q => c (hle.mp q)), ix5t n 1 1 rfl, if_neg (nI_in (by omega) (by omega)), if_neg (nI_in (by omega) (by omega)), nI_clamp (by omega), nI_clamp (by omega), jA_zA]
      have e : kA (zA τ 4 (fa_fill (fun j => kA τ 3 (5 * j + 1)) (kA τ 4) n)) 3 (5 * n + 1) = (fun j => kA τ 3 (5 * j + 1)) n := rfl
      rw [e, fa_fill_succ (fun j => kA τ 3 (5 * j + 1)), nI_1]
      exact ih (n + 1) (by omega) (by omega)
theorem tk3_loop (hF : 40 ≤ F) (τ : kS) : ∀ (f n : Nat), n ≤ 30 → 30 - n < f → itr (fun rec43 q => s_X8_takes_43 F rec43 q.1 q.2) f (zA τ 3 (fa_fill (fun j => kA τ 3 (30 + j)) (kA τ 3) n), nI n) = some ((), tk6 (tk5 (tk4 (tk3 τ)))) := by
  intro f
  induction f with
  | zero => intro n _ h; omega
  | succ f ih =>
    intro n hn hf
    show s_X8_takes_43 F _ (zA τ 3 (fa_fill (fun j => kA τ 3 (30 + j)) (kA τ 3) n)) (nI n) = _
    unfold s_X8_takes_43
    have hle : (30 : Int32) ≤ nI n ↔ 30 ≤ n := nI_leI (a := 30) (by omega) (by omega)
    by_cases c : 30 ≤ n
    · have : n = 30 := by omega
      subst this
      rw [if_pos (hle.mpr c)]
      have e := tk4_loop (F := F) hF (tk3 τ) F 0 (by omega) (by omega)
      rw [fa_fill_0, zA_self] at e
      exact e
    · have e30 : (30 : Int32) + nI n = nI (30 + n) := nI_add 30 n
      rw [if_neg (fun q => c (hle.mp q)), e30, if_neg (nI_in (by omega) (by omega)), if_neg (nI_in (by omega) (by omega)), nI_clamp (by omega), nI_clamp (by omega), kA_zA, fa_fill_out (by omega), jA_zA]
      have e := fa_fill_succ (fun j => kA τ 3 (30 + j)) (kA τ 3) n
      rw [e, nI_1]
      exact ih (n + 1) (by omega) (by omega)
theorem tk1_loop (hF : 40 ≤ F) (τ : kS) : ∀ (f n : Nat), n ≤ 6 → 6 - n < f → itr (fun rec2 q => s_X8_takes_2 F rec2 q.1 q.2) f (zA τ 1 (fa_fill (fun j => kA τ 1 (6 + j)) (kA τ 1) n), nI n) = some ((), tk τ) := by
  intro f
  induction f with
  | zero => intro n _ h; omega
  | succ f ih =>
    intro n hn hf
    show s_X8_takes_2 F _ (zA τ 1 (fa_fill (fun j => kA τ 1 (6 + j)) (kA τ 1) n)) (nI n) = _
    unfold s_X8_takes_2
    have hle : (6 : Int32) ≤ nI n ↔ 6 ≤ n := nI_leI (a := 6) (by omega) (by omega)
    by_cases c : 6 ≤ n
    · have : n = 6 := by omega
      subst this
      rw [if_pos (hle.mpr c)]
      have e := tk3_loop (F := F) hF (tk2 (tk1 τ)) F 0 (by omega) (by omega)
      rw [fa_fill_0, zA_self] at e
      exact e
    · have e6 : (6 : Int32) + nI n = nI (6 + n) := nI_add 6 n
      rw [if_neg (fun q => c (hle.mp q)), e6, if_neg (nI_in (by omega) (by omega)), if_neg (nI_in (by omega) (by omega)), nI_clamp (by omega), nI_clamp (by omega), kA_zA, fa_fill_out (by omega), jA_zA]
      have e := fa_fill_succ (fun j => kA τ 1 (6 + j)) (kA τ 1) n
      rw [e, nI_1]
      exact ih (n + 1) (by omega) (by omega)
theorem p8_takes (hF : 40 ≤ F) (τ : kS) : f_X8_takes F τ = some ((), tk τ) := by
  have e := tk1_loop (F := F) hF τ F 0 (by omega) (by omega)
  rw [fa_fill_0, zA_self] at e
  exact e
theorem p_numberOf_t {σ : kS} (i j : Nat) (x y : Int32) (hx : x = nI i) (hy : y = nI j) (hi : i < 6) (hj : j < 5) : f_X2_numberOf F σ x y = some (kA σ 3 (5 * i + j), σ) := by
  subst hx
  subst hy
  unfold f_X2_numberOf s_X2_numberOf_0
  have e : nI i * 5 + nI j = nI (5 * i + j) := by
    have h5 : (5 : Int32) = nI 5 := rfl
    rw [h5, pk_mul, nI_add, Nat.mul_comm]
  rw [kn_eq, e]
  have h30 : (30 : Int32) = nI 30 := rfl
  rw [h30, if_neg (nI_pos (by omega)), if_neg (nI_ge (by omega) (by omega)), if_neg (nI_in (by omega) (by omega)), nI_clamp (by omega)]
theorem p_told_loop {σ : kS} (a : Nat) (ha : a ≤ 6) (h14 : kI σ 14 = nI a) : ∀ (f n : Nat) (x : Int32), n ≤ a → a - n < f → ∃ v, itr (fun rec4 q => s_X2_toldLaws_4 F rec4 q.1 q.2.1 q.2.2) f (σ, x, nI n) = some (v, σ) := by
  intro f
  induction f with
  | zero => intro n x _ h; omega
  | succ f ih =>
    intro n x hn hf
    show ∃ v, s_X2_toldLaws_4 F _ σ x (nI n) = some (v, σ)
    unfold s_X2_toldLaws_4
    rw [h14]
    have hle := nI_leI (a := a) (b := n) (by omega) (by omega)
    by_cases c : a ≤ n
    · rw [if_pos (hle.mpr c)]; exact ⟨_, rfl⟩
    · rw [if_neg (fun q => c (hle.mp q)), kb_eq (p_numberOf_t n 1 (nI n) 1 rfl rfl (by omega) (by omega)), nI_1]
      exact ih (n + 1) _ (by omega) (by omega)
theorem p_told_ex {σ : kS} (hF : 40 ≤ F) (a : Nat) (ha : a ≤ 6) (h14 : kI σ 14 = nI a) : ∃ v, f_X2_toldLaws F σ = some (v, σ) := p_told_loop (F := F) a ha h14 F 0 0 (by omega) (by omega)
end

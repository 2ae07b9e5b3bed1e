theorem k_arr {s : State} {args : Array Value} {ty : FieldType} (h : (Cond.arrayClass ty).before args s = true) (hty : ∀ C, ty ≠ .object C) : ∃ cA : ClassId, ArrOfT s cA ty ∧ va_RA s cA ty := by
  obtain ⟨cA, kA, comp, hf, hk, hkind⟩ := Cond.arrayClass_spec h
  refine ⟨cA, fun n z => ⟨fun k h => (by cases h), kA, hk, comp, hkind⟩, ?_⟩
  cases ty with
  | object C => exact absurd rfl (hty C)
  | _ => exact hf
theorem k_lt27 {i : Nat} {x y : Nat} (h : i < 27) : (if 0 + i < 27 then x else y) = x := by rw [if_pos (by omega)]
theorem k_ge27 {i : Nat} {x y : Nat} : (if 27 + i < 27 then x else y) = y := by rw [if_neg (by omega)]
set_option maxHeartbeats 8000000 in
set_option maxRecDepth 100000 in
theorem whole_start {p : Program} {e : Env} {s : State} {m : MethodId} {below : List Frame} {meth : Method} {c : Code} (l : Launch) (hflags : l.flags = flags0) {b L : Nat} {xs : Nat → Int32} (hL : L ≤ 3072) (C0 : lw_At p s m meth c b L xs) : W p l e room_1 s m #[Value.ref b] below meth c s.heap [] 0 0 (lw_Z below #[Value.ref b] s) (entryFrame m ([Value.ref b] : List Value).toArray 4) := by
  obtain ⟨hx, hb, hr, hml, hown, htsL, hX, hbl, hlocks, hgv⟩ := id C0
  have hA : ∀ q : Nat, s.heap.size ≤ q → (fun q : Nat => s.heap.size ≤ q) q := fun _ h => h
  have hts : ∀ w ∈ wT, w.before #[Value.ref b] s = true := fun w hw => htsL w (wT_tbl w hw)
  obtain ⟨c0, iS0, hKn0⟩ := u_known (C := RX0) (T := TX0) (N := 2) (n := 2) hts inX0 (hts (.instantiable RX0 2) (mem_wT 162 (by decide +kernel) (by decide +kernel)))
  obtain ⟨c1, iS1, hKn1⟩ := u_known (C := RX1) (T := TX1) (N := 2) (n := 2) hts inX1 (hts (.instantiable RX1 2) (mem_wT 149 (by decide +kernel) (by decide +kernel)))
  obtain ⟨c2, iS2, hKn2⟩ := u_known (C := RX2) (T := TX2) (N := 8) (n := 8) hts inX2 (hts (.instantiable RX2 8) (mem_wT 77 (by decide +kernel) (by decide +kernel)))
  obtain ⟨c3, iS3, hKn3⟩ := u_known (C := RX3) (T := TX3) (N := 5) (n := 5) hts inX3 (hts (.instantiable RX3 5) (mem_wT 114 (by decide +kernel) (by decide +kernel)))
  obtain ⟨c4, iS4, hKn4⟩ := u_known (C := RX4) (T := TX4) (N := 3) (n := 3) hts inX4 (hts (.instantiable RX4 3) (mem_wT 58 (by decide +kernel) (by decide +kernel)))
  obtain ⟨c5, iS5, hKn5⟩ := u_known (C := RX5) (T := TX5) (N := 8) (n := 8) hts inX5 (hts (.instantiable RX5 8) (mem_wT 195 (by decide +kernel) (by decide +kernel)))
  obtain ⟨c6, iS6, hKn6⟩ := u_known (C := RX6) (T := TX6) (N := 4) (n := 4) hts inX6 (hts (.instantiable RX6 4) (mem_wT 175 (by decide +kernel) (by decide +kernel)))
  obtain ⟨c7, iS7, hKn7⟩ := u_known (C := RX7) (T := TX7) (N := 11) (n := 11) hts inX7 (hts (.instantiable RX7 11) (mem_wT 50 (by decide +kernel) (by decide +kernel)))
  obtain ⟨c8, iS8, hKn8⟩ := u_known (C := RX8) (T := TX8) (N := 18) (n := 18) hts inX8 (hts (.instantiable RX8 18) (mem_wT 662 (by decide +kernel) (by decide +kernel)))
  obtain ⟨dC, dI, hKc⟩ : ∃ (dC : Nat → ClassId) (dI : Nat → Nat → Nat), ∀ (k : Nat) (q : vw_C), vwCl[k]? = some q → u_Kn s q.1 q.2.1 q.2.2 (dC k) (dI k) := by
    refine ⟨fun k => if k = 0 then c0 else if k = 1 then c1 else if k = 2 then c2 else if k = 3 then c3 else if k = 4 then c4 else if k = 5 then c5 else if k = 6 then c6 else if k = 7 then c7 else c8, fun k => if k = 0 then iS0 else if k = 1 then iS1 else if k = 2 then iS2 else if k = 3 then iS3 else if k = 4 then iS4 else if k = 5 then iS5 else if k = 6 then iS6 else if k = 7 then iS7 else iS8, ?_⟩
    intro k q hq
    match k, hq with
    | 0, hq => cases hq; exact hKn0
    | 1, hq => cases hq; exact hKn1
    | 2, hq => cases hq; exact hKn2
    | 3, hq => cases hq; exact hKn3
    | 4, hq => cases hq; exact hKn4
    | 5, hq => cases hq; exact hKn5
    | 6, hq => cases hq; exact hKn6
    | 7, hq => cases hq; exact hKn7
    | 8, hq => cases hq; exact hKn8
    | k + 9, hq => simp [vwCl] at hq
  obtain ⟨cB, hcB⟩ := k_arr (ty := .byte) (hts (.arrayClass .byte) (mem_wT 74 (by decide +kernel) (by decide +kernel))) (fun _ h => by cases h)
  obtain ⟨cI, hcI⟩ := k_arr (ty := .int) (hts (.arrayClass .int) (mem_wT 75 (by decide +kernel) (by decide +kernel))) (fun _ h => by cases h)
  obtain ⟨cJ, hcJ⟩ := k_arr (ty := .long) (hts (.arrayClass .long) (mem_wT 229 (by decide +kernel) (by decide +kernel))) (fun _ h => by cases h)
  obtain ⟨E0, hE0e⟩ : ∃ E0 : kE, E0 = (dC, dI, cB, cI, cJ, fun k => k) := ⟨_, rfl⟩
  have hKa : va_K (eD E0) vwCl (eT E0) s := by
    rw [hE0e]
    refine ⟨hKc, fun k q hq => ?_⟩
    match k, hq with
    | 0, hq => cases hq; exact hcB
    | 1, hq => cases hq; exact hcI
    | 2, hq => cases hq; exact hcJ
    | k + 3, hq => simp [eT] at hq
  have hN : eN s := ⟨va_Nw.of rfl (htsL _ (List.mem_of_getElem? (i := 242) (by decide +kernel))), va_Nw.of rfl (htsL _ (List.mem_of_getElem? (i := 461) (by decide +kernel))), va_Nw.of rfl (htsL _ (List.mem_of_getElem? (i := 527) (by decide +kernel))), va_Nw.of rfl (htsL _ (List.mem_of_getElem? (i := 541) (by decide +kernel)))⟩
  have hM2 : eM s := ⟨va_Nw.of rfl (htsL _ (List.mem_of_getElem? (i := 59) (by decide +kernel))), va_Nw.of rfl (htsL _ (List.mem_of_getElem? (i := 115) (by decide +kernel)))⟩
  have hK : eK E0 s := ⟨hKa, hN⟩
  have hk0 : kap E0 := by rw [hE0e]; exact ⟨fun i j _ _ h => by simp only [eA] at h; omega, fun i j _ _ h => by simp only [eA] at h; omega⟩
  have C : Cx E0 p s m #[Value.ref b] meth c cL_law 4 RL ret := ⟨hk0, hx, hb, hml, hown, hts, hK, hr, hlocks⟩
  have hS : va_S (fun q : Nat => s.heap.size ≤ q) s.heap s.heap [] := va_S.rf
  have hP : va_P (eD E0) vwCl [] s.heap := fun k q h => by simp at h
  have hD : va_D (fun q : Nat => s.heap.size ≤ q) [] := ⟨fun i j p q h => by simp at h, fun k q h => by simp at h⟩
  have hl := lv_entry ([.ref b]) (n := 4) (Nat.le_of_ble_eq_true rfl)
  rw [lg_entry_eq]
  generalize (lg_sl ([.ref b]) ++ List.replicate (4 - (lg_sl ([.ref b])).length) Slot.unset).toArray = ls at hl ⊢
  have hl : lv_has ls 4 [(0, .ref b)] := hl
  refine va_new (ci := 7) (fs := [.null, .null, .null, .null, .null, .null, .null, .null, .null, .null, .int 0]) (C := RX7) (T := TX7) (N := 11) hx hb hts inX7 tyX7 tyX7_ok hown (hts (.classLink RL 7 RX7) (mem_wT 49 (by decide +kernel) (by decide +kernel))) (hts (.instantiable RX7 11) (mem_wT 50 (by decide +kernel) (by decide +kernel))) (hts (.initialized RX7) (mem_wT 38 (by decide +kernel) (by decide +kernel))) hK.1 hP hD hS hA rfl (fun j hj => by rcases (show j = 0 ∨ j = 1 ∨ j = 2 ∨ j = 3 ∨ j = 4 ∨ j = 5 ∨ j = 6 ∨ j = 7 ∨ j = 8 ∨ j = 9 ∨ j = 10 by omega) with rfl | rfl | rfl | rfl | rfl | rfl | rfl | rfl | rfl | rfl | rfl <;> rfl) (Nat.le_of_ble_eq_true rfl) (Nat.le_of_ble_eq_true rfl) dL_law_0 (fun q7 H hP hD hS => ?_)
  refine W.widen (k := 1) (n := 11) (Nat.le_of_ble_eq_true rfl) (Nat.le_of_ble_eq_true rfl) ?_
  have hP : va_P (eD E0) vwCl (ci_X7_pre q7) H := hP
  have hD : va_D (fun q : Nat => s.heap.size ≤ q) (ci_X7_pre q7) := hD
  refine lv_dup hx hb dL_law_3 rfl ?_
  have hF := va_free (wc := ci_X7_pre q7) hD hS hA [0] rfl
  refine va_callv (krunI (As := []) C hM2 (ci_X7_init l E0 hk0 q7 H.size) (mem_wT 51 (by decide +kernel) (by decide +kernel)) ki_X7_init hP hD rfl rfl ⟨Nat.le_of_ble_eq_true rfl, Nat.le_of_ble_eq_true rfl⟩ rfl hl.1 rfl (Nat.le_of_ble_eq_true rfl) dL_law_4 ⟨Nat.le_of_ble_eq_true rfl, Nat.le_of_ble_eq_true rfl⟩) hS (fun q _ h => hF q h) hF (fun u7 t H1 locs ht hvm hu7 hB hz1 hk1 hS => ?_)
  obtain ⟨hP1, hD1⟩ := hB
  have hP : cP (eW E0 (adC u7)) σc H1 := by rw [← ht]; exact hP1
  have hD : va_D (fun q : Nat => s.heap.size ≤ q) (cW (eW E0 (adC u7)) σc) := hD1.weaken (fun _ q _ h => hF q.1 h)
  clear hP1 hD1 hk1 hz1 ht hF
  generalize H1 = H at hP hS ⊢
  refine W.widen (k := 27) (n := 602) (Nat.le_of_ble_eq_true rfl) (Nat.le_of_ble_eq_true rfl) ?_
  refine lv_astore_n (lv' := [(1, .ref q7), (0, .ref b)]) hx hb dL_law_7 rfl hl (by decide) rfl (fun ls hl => ?_)
  have hP : va_P (eD E0) vwCl (cW (eW E0 (adC u7)) σc) H := hP
  refine va_new (ci := 8) (fs := [.int 0, .null, .int 0, .null, .null, .null, .null, .null, .int 0, .int 0, .null, .int 0, .null, .null, .int 0, .null, .int 0, .null]) (C := RX8) (T := TX8) (N := 18) hx hb hts inX8 tyX8 tyX8_ok hown (hts (.classLink RL 10 RX8) (mem_wT 661 (by decide +kernel) (by decide +kernel))) (hts (.instantiable RX8 18) (mem_wT 662 (by decide +kernel) (by decide +kernel))) (hts (.initialized RX8) (mem_wT 47 (by decide +kernel) (by decide +kernel))) hK.1 hP hD hS hA rfl (fun j hj => by rcases (show j = 0 ∨ j = 1 ∨ j = 2 ∨ j = 3 ∨ j = 4 ∨ j = 5 ∨ j = 6 ∨ j = 7 ∨ j = 8 ∨ j = 9 ∨ j = 10 ∨ j = 11 ∨ j = 12 ∨ j = 13 ∨ j = 14 ∨ j = 15 ∨ j = 16 ∨ j = 17 by omega) with rfl | rfl | rfl | rfl | rfl | rfl | rfl | rfl | rfl | rfl | rfl | rfl | rfl | rfl | rfl | rfl | rfl | rfl <;> rfl) (Nat.le_of_ble_eq_true rfl) (Nat.le_of_ble_eq_true rfl) dL_law_8 (fun q8 H hP hD hS => ?_)
  refine W.widen (k := 28) (n := 620) (Nat.le_of_ble_eq_true rfl) (Nat.le_of_ble_eq_true rfl) ?_
  have hPm : va_P (eD E0) vwCl (ci_X8_pre q8) H := hP.sub (ws' := ci_X8_pre q8) [27] rfl
  have hDm : va_D (fun q : Nat => s.heap.size ≤ q) (ci_X8_pre q8) := hD.sub (ws' := ci_X8_pre q8) [27] (by decide) rfl
  have hPc : cP (eW E0 (adC u7)) σc H := fun k q hq => hP k q (by rw [List.getElem?_append_left (List.getElem?_eq_some_iff.mp hq).1]; exact hq)
  have hDc : va_D (fun q : Nat => s.heap.size ≤ q) (cW (eW E0 (adC u7)) σc) := ⟨fun i j p q hi hj => hD.1 i j p q (by rw [List.getElem?_append_left (List.getElem?_eq_some_iff.mp hi).1]; exact hi) (by rw [List.getElem?_append_left (List.getElem?_eq_some_iff.mp hj).1]; exact hj), fun k q hq => hD.2 k q (by rw [List.getElem?_append_left (List.getElem?_eq_some_iff.mp hq).1]; exact hq)⟩
  have hne : ∀ (k : Nat) (q : Nat × va_E), (cW (eW E0 (adC u7)) σc)[k]? = some q → q.1 ≠ q8 := fun k q hq e9 => by
    have hlt : k < 27 := (List.getElem?_eq_some_iff.mp hq).1
    have := hD.1 k 27 q _ (by rw [List.getElem?_append_left (List.getElem?_eq_some_iff.mp hq).1]; exact hq) rfl e9
    omega
  refine lv_dup hx hb dL_law_11 rfl ?_
  have hF : ∀ q, va_A (ci_X8_pre q8) H.size q → s.heap.size ≤ q := va_free (A0 := fun q : Nat => s.heap.size ≤ q) (ws := ci_X8_pre q8) (wc := ci_X8_pre q8) hDm hS hA [0] rfl
  refine va_callv (krunI (As := []) C hM2 (ci_X8_init l E0 hk0 q8 H.size) (mem_wT 663 (by decide +kernel) (by decide +kernel)) ki_X8_init hPm hDm rfl rfl ⟨Nat.le_of_ble_eq_true rfl, Nat.le_of_ble_eq_true rfl⟩ rfl hl.1 rfl (Nat.le_of_ble_eq_true rfl) dL_law_12 ⟨Nat.le_of_ble_eq_true rfl, Nat.le_of_ble_eq_true rfl⟩) hS (fun q _ h => hF q h) hF (fun u8 t H1 locs ht hvm hu8 hB hz1 hk1 hS => ?_)
  refine W.widen (k := 39) (n := 1190) (Nat.le_of_ble_eq_true rfl) (Nat.le_of_ble_eq_true rfl) ?_
  obtain ⟨hP1, hD1⟩ := hB
  have hQ : mP (eW E0 (adM u8)) σm H1 := by rw [← ht]; exact hP1
  have hout : ∀ (k : Nat) (q : Nat × va_E), (cW (eW E0 (adC u7)) σc)[k]? = some q → ¬ va_A (ci_X8_pre q8) H.size q.1 := by
    intro k q hq h9
    rcases h9 with ⟨k2, e2, h9⟩ | h9
    · match k2, h9 with
      | 0, h9 => exact hne k q hq (congrArg Prod.fst (Option.some.inj h9)).symm
      | k2 + 1, h9 => simp at h9
    · exact absurd ((hPc k q hq).lt) (by omega)
  have hP2 : cP (eW E0 (adC u7)) σc H1 := hPc.kept (fun k q hq => hk1 q.1 ((hPc k q hq).lt) (hout k q hq))
  obtain ⟨E, hEe⟩ : ∃ E : kE, E = eW E0 (fun k => if k < 27 then u7.getD k 0 else u8.getD (k - 27) 0) := ⟨_, rfl⟩
  have hPf : cP E σc H1 := by rw [hEe]; exact hP2
  have hQf : mP E σm H1 := by rw [hEe]; exact hQ
  have hDcf : va_D (fun q : Nat => s.heap.size ≤ q) (cW E σc) := by rw [hEe]; exact hDc
  have hDmf : va_D (va_A (ci_X8_pre q8) H.size) (mW E σm) := by rw [hEe]; exact hD1
  have hcr : ∀ (k : Nat) (q : Nat × va_E), (cW E σc)[k]? = some q → ¬ va_A (ci_X8_pre q8) H.size q.1 := by rw [hEe]; exact hout
  have h0 : eA E 0 = q7 := by rw [hEe]; exact hu7
  have h27 : eA E 27 = q8 := by rw [hEe]; exact hu8
  have hKE : eK E s := by rw [hEe]; exact hK
  obtain ⟨ic, zc⟩ := kz_inv (E := E) (a := 0) (n := 27) (ws := cW E σc) rfl hDcf
  obtain ⟨im, zm⟩ := kz_inv (E := E) (a := 27) (n := 12) (ws := mW E σm) rfl hDmf
  have hkE : kap E := ⟨ic, im⟩
  have hlD : lD E s := by
    refine ⟨fun k hk => ?_, fun i j hi hj h9 => ?_⟩
    · by_cases h9 : k < 27
      · have := zc (eA E k) ⟨k, h9, by rw [Nat.zero_add]⟩
        exact this
      · exact hF _ (zm (eA E k) ⟨k - 27, by omega, by rw [show 27 + (k - 27) = k by omega]⟩)
    · have h1 := zm (eA E (27 + j)) ⟨j, hj, rfl⟩
      rw [← h9] at h1
      have h2 : ∃ q, (cW E σc)[i]? = some q ∧ q.1 = eA E (0 + i) := by
        have h3 : ((cW E σc).map (fun q => q.1))[i]? = some (eA E (0 + i)) := by rw [show (cW E σc).map (fun q => q.1) = (List.range 27).map (fun k => eA E (0 + k)) from rfl, List.getElem?_map, List.getElem?_range hi]; rfl
        rw [List.getElem?_map] at h3
        cases hq : (cW E σc)[i]? with
        | none => rw [hq] at h3; cases h3
        | some q => rw [hq] at h3; exact ⟨q, rfl, Option.some.inj h3⟩
      obtain ⟨q, hq, e9⟩ := h2
      rw [← e9] at h1
      exact hcr i q hq h1
  have CE : Cx E p s m #[Value.ref b] meth c cL_law 4 RL ret := ⟨hkE, hx, hb, hml, hown, hts, hKE, hr, hlocks⟩
  refine lv_astore_n (lv' := [(2, .ref q8), (1, .ref q7), (0, .ref b)]) hx hb dL_law_15 rfl hl (by decide) rfl (fun ls hl => ?_)
  refine lv_iconst (v := (0 : Int32)) hx hb dL_law_16 (by decide) ?_
  refine lv_istore_n (lv' := [(3, .int (0 : Int32)), (2, .ref q8), (1, .ref q7), (0, .ref b)]) hx hb dL_law_17 rfl hl (by decide) rfl (fun ls hl => ?_)
  rw [← h0, ← h27] at hl
  exact wf_L CE ⟨⟨hX, hbl⟩, hlD⟩ lw_fuel σc σm 0 (law_pure hL) H1 locs hPf hQf hS ls (lv_sub hl [3, 2, 1, 0] rfl)
-- ===== YOUR PART ENDS =====
set_option maxHeartbeats 4000000 in
theorem lw_walk (l : Launch) (hflags : l.flags = flags0) (b : Addr) (xs : List Int32) : MetFree l x (headSpec (Jvm.Cond.code x code maxLocals ret :: tables_1) room_1) (lw_P b xs) (fun _ _ _ _ _ => True) lw_Q := by
  refine MetFree.of_bodyS (code := code) (maxLocals := maxLocals) (ret := ret) (by decide) ?_ ?_
  · intro args s m h hn
    obtain ⟨meth, c, h1, h2, h3, h4, h5, h6, -, -⟩ := Cond.code_spec hn (atoms_spec (ws := Jvm.Cond.code x code maxLocals ret :: tables_1) h _ List.mem_cons_self)
    exact ⟨meth, c, h1, h2, h3, h4, h5, h6⟩
  · intro p e s m args below meth c s₁ B hml0 hP _
    obtain ⟨rfl, hx, hbd, hgv⟩ := hP
    obtain ⟨scr, harrAt, hlist, hof, hsmall⟩ := hx
    obtain ⟨hcb, hkn, -, -⟩ := State.arrayAt?_spec harrAt
    have hown : s.vm.findClass R_law = some m.cls := findClass_of_methodNamed B.named
    have hts0 : ∀ c ∈ (Jvm.Cond.code x code maxLocals ret :: tables_1), c.before #[Value.ref b] s = true := atoms_spec (ws := Jvm.Cond.code x code maxLocals ret :: tables_1) B.pre
    have hts : ∀ w ∈ lw_tbl, w.before #[Value.ref b] s = true := k2_hts_sels lw_privs (fun w hw => hts0 w (List.mem_cons_of_mem _ hw)) lw_privs_ok
    have hml : c.maxLocals = 4 := B.maxLocals_eq (hts0 _ List.mem_cons_self)
    have X₀ : Stand p l e room_1 s m #[Value.ref b] below meth c s₁ [] 0 0 := Stand.of_body B
    have hh0 : s₁.heap = s.heap := by rw [B.state]; rfl
    have hsz : scr.slots.size = xs.length := by rw [← Array.length_toList, hlist, List.length_map]
    have hval : ∀ j : Nat, j < xs.length → scr.slots[j]? = some (.int (xs.getD j 0)) := fun j hj => by
      rw [← Array.getElem?_toList, hlist]
      simp [hj]
    have hbl : b < s.heap.size := (Array.getElem?_eq_some_iff.mp hcb).1
    have hX : va_X b xs.length (fun j => xs.getD j 0) s s.heap := ⟨scr, hcb, hof, hkn, hsz, hval⟩
    have K : W p l e room_1 s m #[Value.ref b] below meth c s₁.heap [] 0 0 (lw_Z below #[Value.ref b] s) (entryFrame m ([Value.ref b] : List Value).toArray 4) := by
      rw [hh0]
      exact whole_start l hflags hbd ⟨B.exec, B.bytes, B.returns, hml, hown, hts, hX, hbl, B.notSynchronized, hgv⟩
    obtain ⟨t, a1, o, b1, b2, b3⟩ := K s₁ rfl X₀
    exact ⟨t, o, a1, b1, b2, b3⟩
theorem lw_pre_spec {args : Array Value} {s : State} (h : (Jvm.Cond.and given_1 narrow_1).before args s = true) (hr : rest_1_c.before args s = true) : ∃ (b : Addr) (xs : List Int32), lw_P b xs args s := by
  have hs := flat_of_before _ h
  have hq := flat_of_before _ hr
  have hc : (Cond.count 1).before args s = true := hs _ (by decide +kernel)
  have harr : (Cond.arrayOf (.arg 0) .int).before args s = true := hs _ (by decide +kernel)
  have hle : (Cond.le (.length (.arg 0)) (.int 3072)).before args s = true := hs _ (by decide +kernel)
  have hlen : (Cond.isInt (.length (.arg 0))).before args s = true := hq _ (by decide +kernel)
  have hall : (Cond.all (.arg 0) (.isInt (.elem (.arg 0) (.index 0)))).before args s = true := hq _ (by decide +kernel)
  obtain ⟨b, xs, hb, hx⟩ := State.ints_of_pre rfl harr hlen hall
  have hsm : xs.length < 2 ^ 31 := hx.choose_spec.2.2.2
  have hev : (Term.length (.arg 0)).eval args s none [] s = some (.int xs.length.toInt32) := hx.length_eval hb
  have hv := Cond.le_ints hev (show (Term.int 3072).eval args s none [] s = some (.int 3072) from rfl)
  have hd : xs.length.toInt32 ≤ 3072 := by
    simpa [Cond.before, Cond.holds, hv] using hle
  have hN : xs.length ≤ 3072 := (Int32.ofNat_le_ofNat hsm (by decide)).mp (show Int32.ofNat xs.length ≤ Int32.ofNat 3072 from hd)
  exact ⟨b, xs, Cond.one_arg hc (show args[0]? = some (.ref b) from hb), hx, hN, h⟩
theorem lw_comes (l : Launch) (hflags : l.flags = flags0) : Comes l x (Jvm.Cond.code x code maxLocals ret :: tables_1) room_1 (fun tb e args s => Calls_1 tb e args s ∧ rest_1 tb e args s ∧ Pre_1 tb e args s)
    (fun _ _ args s o t => lw_Q args s o t) := by
  intro p e ha hc hk s m args below hf hfit hheap happ hpre
  obtain ⟨b, xs, hP⟩ := lw_pre_spec hpre.2.2 hpre.2.1
  obtain ⟨k, o, h1, h2, h3, hQ⟩ := lw_walk l hflags b xs p e ha hc hk s m args below hf ((Spec.applies_iff_loose hf).mp happ).1 hP trivial
  exact ⟨k, o, h1, h2, h3, hQ⟩
theorem lw_frame {s t : State} {o : Outcome} {args : Array Value} (h : Framed s o t [] 600000 7302250) :
    Framed s o t (fieldLocs frame_1_writes args s ++ arrayLocs frame_1_arrays args s ++ staticLocs frame_1_statics s) 600000 7302250 := h
theorem lw_limb (L : Cond) (hL : ∀ (args : Array Value) (s t : State), L.after args s (.returned (some (.int 1))) t = true) :
    ArmFor flags0 classFile x code maxLocals ret World_1 tables_1 room_1 Calls_1 rest_1 Pre_1
      (fun tb e a s o t => postC L tb e a s o t ∧ Framed s o t (fieldLocs frame_1_writes a s ++ arrayLocs frame_1_arrays a s ++ staticLocs frame_1_statics s) 600000 7302250) := by
  intro l hflags _ _ p e ha hc hk s m args below hf hfit hheap happ hpre
  obtain ⟨k, o, h1, h2, h3, rfl, hF⟩ := lw_comes l hflags p e ha hc hk s m args below hf hfit hheap happ hpre
  exact ⟨k, _, h1, h2, h3, hL args s _, lw_frame hF⟩
theorem i_vc : Claimed_1_1 ∧ Claimed_1_2 := ⟨lw_limb limb_1_1 (fun args s t => by simp [limb_1_1, Cond.after, Cond.holds, Cond.value]), lw_limb limb_1_2 (fun args s t => Cond.after_iff.mpr (by
  first | (rw [show limb_1_2 = Cond.eq .result (.int 1) from rfl, Cond.eq_ints (x := 1) (y := 1) rfl rfl]; simp; done) | (simp [limb_1_2, Cond.value, Term.eval]; done)))⟩


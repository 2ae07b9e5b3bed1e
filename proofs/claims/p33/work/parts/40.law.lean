/-! THE CLAIM OUT OF ONE WALK OF THE LAW'S BODY. Your part is whole_start (and what it stands on); all else here is the same for every law, but numbers. -/
def R_law : String := "TwoKingsLaw"
def lw_P (b : Addr) (xs : List Int32) (args : Array Value) (s : State) : Prop := args = #[.ref b] ∧ s.IntsAt b xs ∧ xs.length ≤ 3072 ∧ (Jvm.Cond.and given_1 narrow_1).before args s = true
def lw_Q (_ : Array Value) (s : State) (o : Outcome) (t : State) : Prop := o = .returned (some (.int 1)) ∧ Framed s o t [] 600000 7302250
def lw_Z (below : List Frame) (a : Array Value) (s : State) : State → Prop := fun t => ∃ o, t.status = .running ∧ Ended t below o ∧ lw_Q a s o t
/-- the law's own end, with 1 on the stack, nothing written that was there before, its room as the claim has it -/
theorem lw_ret {p : Program} {l : Launch} {e : Env} {s : State} {m : MethodId} {below : List Frame} {meth : Method} {c : Code} {b : Nat} (hx : p.tables.exec = Jvm.exec) (hb : c.code = code) (hr : meth.sig.returnType = ret) (hlocks : meth.locks = false) {pc : Nat} {H : Heap} {ls : Array Slot} (hdg : decode code pc = .ok (.ireturn, 1)) : W p l e room_1 s m #[Value.ref b] below meth c H [] 600000 7302250 (lw_Z below #[Value.ref b] s) (F0 m pc ls [.int 1]) := by
  intro T hT X
  obtain ⟨fs, hret, hrun, hended, hW, hframe⟩ := X.leave (v := some (.int 1)) (hlocks := hlocks) (fun h => by rw [hr] at h; cases h)
  have hmeth' : T.vm.method? m = some meth := X.method'
  refine ⟨T.setFrames fs, ?_, .returned (some (.int 1)), hrun, hended, rfl, ⟨_, rfl⟩, hW, hframe⟩
  jvm_step X.here [X.here.top, hx, hb, hdg, hmeth', hr, ret, narrow_b1]
  (try refine ⟨rfl, ?_⟩); (try refine ⟨rfl, ?_⟩)
  first | (intro acts; rw [hret _ acts rfl rfl rfl]) | rw [hret _ _ rfl rfl rfl]
  exact Steps.refl _
/-- what holds at the law's entry: the machine, the code, the tables' words (any of lw_tbl by 'hts w (by decide +kernel)'), the script of L ints xs at the cell b, what the Statement gives of the start (any of its parts by flat_of_before) -/
def lw_At (p : Program) (s : State) (m : MethodId) (meth : Method) (c : Code) (b L : Nat) (xs : Nat → Int32) : Prop :=
  p.tables.exec = Jvm.exec ∧ c.code = code ∧ meth.sig.returnType = ret ∧ c.maxLocals = 4 ∧ s.vm.findClass R_law = some m.cls ∧ (∀ w ∈ lw_tbl, w.before #[Value.ref b] s = true) ∧ va_X b L xs s s.heap ∧ b < s.heap.size ∧ meth.locks = false ∧ (Jvm.Cond.and given_1 narrow_1).before #[Value.ref b] s = true

def lD (E : kE) (s : State) : Prop := (∀ k, k < 39 → s.heap.size ≤ eA E k) ∧ ∀ i j, i < 27 → j < 12 → eA E (0 + i) ≠ eA E (27 + j)
def lZ (E : kE) (s : State) (b L : Nat) (xs : Nat → Int32) : Prop := (va_X b L xs s s.heap ∧ b < s.heap.size) ∧ lD E s
theorem mW_at {E : kE} {τ : kS} {k : Nat} {q : Nat × va_E} (h : (mW E τ)[k]? = some q) : ∃ j, j < 12 ∧ q.1 = eA E (27 + j) := by
  have h1 : ((mW E τ).map (fun q => q.1))[k]? = some q.1 := by rw [List.getElem?_map, h]; rfl
  rw [show (mW E τ).map (fun q => q.1) = (List.range 12).map (fun k => eA E (27 + k)) from rfl, List.getElem?_map] at h1
  by_cases hk : k < 12
  · rw [List.getElem?_range hk] at h1; exact ⟨k, hk, (Option.some.inj h1).symm⟩
  · rw [List.getElem?_eq_none (by rw [List.length_range]; omega)] at h1; cases h1
theorem cW_at {E : kE} {τ : kS} {k : Nat} {q : Nat × va_E} (h : (cW E τ)[k]? = some q) : ∃ j, j < 27 ∧ q.1 = eA E (0 + j) := by
  have h1 : ((cW E τ).map (fun q => q.1))[k]? = some q.1 := by rw [List.getElem?_map, h]; rfl
  rw [show (cW E τ).map (fun q => q.1) = (List.range 27).map (fun k => eA E (0 + k)) from rfl, List.getElem?_map] at h1
  by_cases hk : k < 27
  · rw [List.getElem?_range hk] at h1; exact ⟨k, hk, (Option.some.inj h1).symm⟩
  · rw [List.getElem?_eq_none (by rw [List.length_range]; omega)] at h1; cases h1
section LC
variable {p : Program} {l : Launch} {e : Env} {R : Room} {s : State} {m : MethodId} {args : Array Value} {below : List Frame} {meth : Method} {c : Code} {H : Heap} {locs : List Loc} {cells slots : Nat} {Q : State → Prop}
variable {cc : ByteArray} {pc : Nat} {ls : Array Slot} {rest : List Value} {E : kE} {nL : Nat} {own : String} {ret : Option FieldType} {σ : kS}
variable {st0 : List Value} {σ' τ τ' : kS} {a : Array Value}
theorem lcc_i (C : Cx E p s m args meth c cc nL own ret) (Z : lD E s) (hP : cP E σ H) (hQ : mP E τ H) (hS : va_S (fun q : Nat => s.heap.size ≤ q) s.heap H locs) {v : Int32} (hr : va_Run p l e R s m args below meth c H locs cells slots 0 0 (F0 m pc ls st0) rest (kQi (cP E) (inC E) v σ' a) (inC E)) (kk : ∀ (H1 : Heap) (locs1 : List Loc), cP E σ' H1 → mP E τ H1 → va_S (fun q : Nat => s.heap.size ≤ q) s.heap H1 locs1 → W p l e R s m args below meth c H1 locs1 cells slots Q (F0 m (pc + 3) ls (.int v :: rest))) : W p l e R s m args below meth c H locs cells slots Q (F0 m pc ls st0) := by
  have hz : ∀ q, inC E q → (fun q : Nat => s.heap.size ≤ q) q := fun q ⟨k, hk, e9⟩ => by rw [e9]; exact Z.1 (0 + k) (by omega)
  refine va_calli hr hS (fun q _ h => hz q h) hz (fun r u t H1 locs1 ht _ hp hB _ hk hS1 => ?_)
  cases hp
  have hB : cP E σ' H1 := by rw [← ht]; exact hB
  refine kk H1 locs1 hB (hQ.kept (fun k q hq => hk q.1 ((hQ k q hq).lt) (fun ⟨i, hi, e9⟩ => ?_))) hS1
  obtain ⟨j, hj, e8⟩ := mW_at hq
  exact Z.2 i j hi hj (e9.symm.trans e8)
theorem lcc_l (C : Cx E p s m args meth c cc nL own ret) (Z : lD E s) (hP : cP E σ H) (hQ : mP E τ H) (hS : va_S (fun q : Nat => s.heap.size ≤ q) s.heap H locs) {v : Int64} (hr : va_Run p l e R s m args below meth c H locs cells slots 0 0 (F0 m pc ls st0) rest (kQl (cP E) (inC E) v σ' a) (inC E)) (kk : ∀ (H1 : Heap) (locs1 : List Loc), cP E σ' H1 → mP E τ H1 → va_S (fun q : Nat => s.heap.size ≤ q) s.heap H1 locs1 → W p l e R s m args below meth c H1 locs1 cells slots Q (F0 m (pc + 3) ls (.long v :: rest))) : W p l e R s m args below meth c H locs cells slots Q (F0 m pc ls st0) := by
  have hz : ∀ q, inC E q → (fun q : Nat => s.heap.size ≤ q) q := fun q ⟨k, hk, e9⟩ => by rw [e9]; exact Z.1 (0 + k) (by omega)
  refine va_calll hr hS (fun q _ h => hz q h) hz (fun r u t H1 locs1 ht _ hp hB _ hk hS1 => ?_)
  cases hp
  have hB : cP E σ' H1 := by rw [← ht]; exact hB
  refine kk H1 locs1 hB (hQ.kept (fun k q hq => hk q.1 ((hQ k q hq).lt) (fun ⟨i, hi, e9⟩ => ?_))) hS1
  obtain ⟨j, hj, e8⟩ := mW_at hq
  exact Z.2 i j hi hj (e9.symm.trans e8)
theorem lcm_i (C : Cx E p s m args meth c cc nL own ret) (Z : lD E s) (hP : cP E σ H) (hQ : mP E τ H) (hS : va_S (fun q : Nat => s.heap.size ≤ q) s.heap H locs) {v : Int32} (hr : va_Run p l e R s m args below meth c H locs cells slots 0 0 (F0 m pc ls st0) rest (kQi (mP E) (inM E) v τ' a) (inM E)) (kk : ∀ (H1 : Heap) (locs1 : List Loc), cP E σ H1 → mP E τ' H1 → va_S (fun q : Nat => s.heap.size ≤ q) s.heap H1 locs1 → W p l e R s m args below meth c H1 locs1 cells slots Q (F0 m (pc + 3) ls (.int v :: rest))) : W p l e R s m args below meth c H locs cells slots Q (F0 m pc ls st0) := by
  have hz : ∀ q, inM E q → (fun q : Nat => s.heap.size ≤ q) q := fun q ⟨k, hk, e9⟩ => by rw [e9]; exact Z.1 (27 + k) (by omega)
  refine va_calli hr hS (fun q _ h => hz q h) hz (fun r u t H1 locs1 ht _ hp hB _ hk hS1 => ?_)
  cases hp
  have hB : mP E τ' H1 := by rw [← ht]; exact hB
  refine kk H1 locs1 (hP.kept (fun k q hq => hk q.1 ((hP k q hq).lt) (fun ⟨i, hi, e9⟩ => ?_))) hB hS1
  obtain ⟨j, hj, e8⟩ := cW_at hq
  exact Z.2 j i hj hi (e8.symm.trans e9)
theorem lcm_l (C : Cx E p s m args meth c cc nL own ret) (Z : lD E s) (hP : cP E σ H) (hQ : mP E τ H) (hS : va_S (fun q : Nat => s.heap.size ≤ q) s.heap H locs) {v : Int64} (hr : va_Run p l e R s m args below meth c H locs cells slots 0 0 (F0 m pc ls st0) rest (kQl (mP E) (inM E) v τ' a) (inM E)) (kk : ∀ (H1 : Heap) (locs1 : List Loc), cP E σ H1 → mP E τ' H1 → va_S (fun q : Nat => s.heap.size ≤ q) s.heap H1 locs1 → W p l e R s m args below meth c H1 locs1 cells slots Q (F0 m (pc + 3) ls (.long v :: rest))) : W p l e R s m args below meth c H locs cells slots Q (F0 m pc ls st0) := by
  have hz : ∀ q, inM E q → (fun q : Nat => s.heap.size ≤ q) q := fun q ⟨k, hk, e9⟩ => by rw [e9]; exact Z.1 (27 + k) (by omega)
  refine va_calll hr hS (fun q _ h => hz q h) hz (fun r u t H1 locs1 ht _ hp hB _ hk hS1 => ?_)
  cases hp
  have hB : mP E τ' H1 := by rw [← ht]; exact hB
  refine kk H1 locs1 (hP.kept (fun k q hq => hk q.1 ((hP k q hq).lt) (fun ⟨i, hi, e9⟩ => ?_))) hB hS1
  obtain ⟨j, hj, e8⟩ := cW_at hq
  exact Z.2 j i hj hi (e8.symm.trans e9)
end LC
theorem lw_w283 : Cond.methodLink RL 15 yX7_write ∈ wT := mem_wT 283 (by decide +kernel) (by decide +kernel)
theorem lw_w291 : Cond.methodLink RL 20 yX7_wipe ∈ wT := mem_wT 291 (by decide +kernel) (by decide +kernel)
theorem lw_w295 : Cond.methodLink RL 25 yX7_fault ∈ wT := mem_wT 295 (by decide +kernel) (by decide +kernel)
theorem lw_w345 : Cond.methodLink RL 29 yX7_lay ∈ wT := mem_wT 345 (by decide +kernel) (by decide +kernel)
theorem lw_w357 : Cond.methodLink RL 33 yX7_act ∈ wT := mem_wT 357 (by decide +kernel) (by decide +kernel)
theorem lw_w369 : Cond.methodLink RL 38 yX7_year ∈ wT := mem_wT 369 (by decide +kernel) (by decide +kernel)
theorem lw_w373 : Cond.methodLink RL 43 yX7_rules ∈ wT := mem_wT 373 (by decide +kernel) (by decide +kernel)
theorem lw_w411 : Cond.methodLink RL 48 yX7_minutes ∈ wT := mem_wT 411 (by decide +kernel) (by decide +kernel)
theorem lw_w443 : Cond.methodLink RL 53 yX7_next ∈ wT := mem_wT 443 (by decide +kernel) (by decide +kernel)
theorem lw_w453 : Cond.methodLink RL 58 yX7_lawful ∈ wT := mem_wT 453 (by decide +kernel) (by decide +kernel)
theorem lw_w463 : Cond.methodLink RL 62 yX7_tell ∈ wT := mem_wT 463 (by decide +kernel) (by decide +kernel)
theorem lw_w467 : Cond.methodLink RL 66 yX7_noRow ∈ wT := mem_wT 467 (by decide +kernel) (by decide +kernel)
theorem lw_w471 : Cond.methodLink RL 70 yX7_soon ∈ wT := mem_wT 471 (by decide +kernel) (by decide +kernel)
theorem lw_w485 : Cond.methodLink RL 74 yX7_pass ∈ wT := mem_wT 485 (by decide +kernel) (by decide +kernel)
theorem lw_w494 : Cond.methodLink RL 79 yX7_doAct ∈ wT := mem_wT 494 (by decide +kernel) (by decide +kernel)
theorem lw_w503 : Cond.methodLink RL 83 yX7_allow ∈ wT := mem_wT 503 (by decide +kernel) (by decide +kernel)
theorem lw_w511 : Cond.methodLink RL 88 yX7_undo ∈ wT := mem_wT 511 (by decide +kernel) (by decide +kernel)
theorem lw_w519 : Cond.methodLink RL 92 yX7_gain ∈ wT := mem_wT 519 (by decide +kernel) (by decide +kernel)
theorem lw_w529 : Cond.methodLink RL 96 yX7_forbid ∈ wT := mem_wT 529 (by decide +kernel) (by decide +kernel)
theorem lw_w543 : Cond.methodLink RL 101 yX7_rests ∈ wT := mem_wT 543 (by decide +kernel) (by decide +kernel)
theorem lw_w560 : Cond.methodLink RL 105 yX7_firm ∈ wT := mem_wT 560 (by decide +kernel) (by decide +kernel)
theorem lw_w576 : Cond.methodLink RL 109 yX7_treaty ∈ wT := mem_wT 576 (by decide +kernel) (by decide +kernel)
theorem lw_w590 : Cond.methodLink RL 113 yX7_bargain ∈ wT := mem_wT 590 (by decide +kernel) (by decide +kernel)
theorem lw_w594 : Cond.methodLink RL 118 yX7_line ∈ wT := mem_wT 594 (by decide +kernel) (by decide +kernel)
theorem lw_w603 : Cond.methodLink RL 122 yX7_noTable ∈ wT := mem_wT 603 (by decide +kernel) (by decide +kernel)
theorem lw_w607 : Cond.methodLink RL 126 yX7_forged ∈ wT := mem_wT 607 (by decide +kernel) (by decide +kernel)
theorem lw_w621 : Cond.methodLink RL 130 yX7_shift ∈ wT := mem_wT 621 (by decide +kernel) (by decide +kernel)
theorem lw_w634 : Cond.methodLink RL 134 yX7_wreck ∈ wT := mem_wT 634 (by decide +kernel) (by decide +kernel)
theorem lw_w642 : Cond.methodLink RL 139 yX7_drawn ∈ wT := mem_wT 642 (by decide +kernel) (by decide +kernel)
theorem lw_w649 : Cond.methodLink RL 143 yX7_keep ∈ wT := mem_wT 649 (by decide +kernel) (by decide +kernel)
theorem lw_w653 : Cond.methodLink RL 147 yX7_back ∈ wT := mem_wT 653 (by decide +kernel) (by decide +kernel)
theorem lw_w657 : Cond.methodLink RL 151 yX7_count ∈ wT := mem_wT 657 (by decide +kernel) (by decide +kernel)
theorem lw_w730 : Cond.methodLink RL 19 yX8_write ∈ wT := mem_wT 730 (by decide +kernel) (by decide +kernel)
theorem lw_w738 : Cond.methodLink RL 24 yX8_wipe ∈ wT := mem_wT 738 (by decide +kernel) (by decide +kernel)
theorem lw_w742 : Cond.methodLink RL 28 yX8_fault ∈ wT := mem_wT 742 (by decide +kernel) (by decide +kernel)
theorem lw_w768 : Cond.methodLink RL 32 yX8_lay ∈ wT := mem_wT 768 (by decide +kernel) (by decide +kernel)
theorem lw_w773 : Cond.methodLink RL 37 yX8_act ∈ wT := mem_wT 773 (by decide +kernel) (by decide +kernel)
theorem lw_w782 : Cond.methodLink RL 42 yX8_year ∈ wT := mem_wT 782 (by decide +kernel) (by decide +kernel)
theorem lw_w787 : Cond.methodLink RL 47 yX8_rules ∈ wT := mem_wT 787 (by decide +kernel) (by decide +kernel)
theorem lw_w799 : Cond.methodLink RL 52 yX8_minutes ∈ wT := mem_wT 799 (by decide +kernel) (by decide +kernel)
theorem lw_w809 : Cond.methodLink RL 57 yX8_next ∈ wT := mem_wT 809 (by decide +kernel) (by decide +kernel)
theorem lw_w816 : Cond.methodLink RL 61 yX8_lawful ∈ wT := mem_wT 816 (by decide +kernel) (by decide +kernel)
theorem lw_w828 : Cond.methodLink RL 65 yX8_tell ∈ wT := mem_wT 828 (by decide +kernel) (by decide +kernel)
theorem lw_w832 : Cond.methodLink RL 69 yX8_noRow ∈ wT := mem_wT 832 (by decide +kernel) (by decide +kernel)
theorem lw_w836 : Cond.methodLink RL 73 yX8_soon ∈ wT := mem_wT 836 (by decide +kernel) (by decide +kernel)
theorem lw_w845 : Cond.methodLink RL 78 yX8_pass ∈ wT := mem_wT 845 (by decide +kernel) (by decide +kernel)
theorem lw_w854 : Cond.methodLink RL 82 yX8_doAct ∈ wT := mem_wT 854 (by decide +kernel) (by decide +kernel)
theorem lw_w859 : Cond.methodLink RL 87 yX8_allow ∈ wT := mem_wT 859 (by decide +kernel) (by decide +kernel)
theorem lw_w863 : Cond.methodLink RL 91 yX8_undo ∈ wT := mem_wT 863 (by decide +kernel) (by decide +kernel)
theorem lw_w867 : Cond.methodLink RL 95 yX8_gain ∈ wT := mem_wT 867 (by decide +kernel) (by decide +kernel)
theorem lw_w879 : Cond.methodLink RL 100 yX8_forbid ∈ wT := mem_wT 879 (by decide +kernel) (by decide +kernel)
theorem lw_w883 : Cond.methodLink RL 104 yX8_rests ∈ wT := mem_wT 883 (by decide +kernel) (by decide +kernel)
theorem lw_w891 : Cond.methodLink RL 108 yX8_firm ∈ wT := mem_wT 891 (by decide +kernel) (by decide +kernel)
theorem lw_w903 : Cond.methodLink RL 112 yX8_treaty ∈ wT := mem_wT 903 (by decide +kernel) (by decide +kernel)
theorem lw_w911 : Cond.methodLink RL 117 yX8_bargain ∈ wT := mem_wT 911 (by decide +kernel) (by decide +kernel)
theorem lw_w915 : Cond.methodLink RL 121 yX8_line ∈ wT := mem_wT 915 (by decide +kernel) (by decide +kernel)
theorem lw_w920 : Cond.methodLink RL 125 yX8_noTable ∈ wT := mem_wT 920 (by decide +kernel) (by decide +kernel)
theorem lw_w924 : Cond.methodLink RL 129 yX8_forged ∈ wT := mem_wT 924 (by decide +kernel) (by decide +kernel)
theorem lw_w928 : Cond.methodLink RL 133 yX8_shift ∈ wT := mem_wT 928 (by decide +kernel) (by decide +kernel)
theorem lw_w936 : Cond.methodLink RL 138 yX8_wreck ∈ wT := mem_wT 936 (by decide +kernel) (by decide +kernel)
theorem lw_w941 : Cond.methodLink RL 142 yX8_drawn ∈ wT := mem_wT 941 (by decide +kernel) (by decide +kernel)
theorem lw_w949 : Cond.methodLink RL 146 yX8_keep ∈ wT := mem_wT 949 (by decide +kernel) (by decide +kernel)
theorem lw_w957 : Cond.methodLink RL 150 yX8_back ∈ wT := mem_wT 957 (by decide +kernel) (by decide +kernel)
theorem lw_w961 : Cond.methodLink RL 154 yX8_count ∈ wT := mem_wT 961 (by decide +kernel) (by decide +kernel)
theorem lw_w966 : Cond.constantLong RL 13 (4294967295) ∈ wT := mem_wT 966 (by decide +kernel) (by decide +kernel)
theorem kv_X7_act : kV yX7_act cX7_act 3 (some .int) 2 := ⟨⟨mem_wT 358 (by decide +kernel) (by decide +kernel), mem_wT 359 (by decide +kernel) (by decide +kernel)⟩, mem_wT 38 (by decide +kernel) (by decide +kernel), mem_wT 360 (by decide +kernel) (by decide +kernel), by decide +kernel⟩
theorem kv_X7_allow : kV yX7_allow cX7_allow 5 (some .int) 3 := ⟨⟨mem_wT 504 (by decide +kernel) (by decide +kernel), mem_wT 505 (by decide +kernel) (by decide +kernel)⟩, mem_wT 38 (by decide +kernel) (by decide +kernel), mem_wT 506 (by decide +kernel) (by decide +kernel), by decide +kernel⟩
theorem kv_X7_back : kV yX7_back cX7_back 1 (some .int) 0 := ⟨⟨mem_wT 654 (by decide +kernel) (by decide +kernel), mem_wT 655 (by decide +kernel) (by decide +kernel)⟩, mem_wT 38 (by decide +kernel) (by decide +kernel), mem_wT 656 (by decide +kernel) (by decide +kernel), by decide +kernel⟩
theorem kv_X7_bargain : kV yX7_bargain cX7_bargain 5 (some .long) 3 := ⟨⟨mem_wT 591 (by decide +kernel) (by decide +kernel), mem_wT 592 (by decide +kernel) (by decide +kernel)⟩, mem_wT 38 (by decide +kernel) (by decide +kernel), mem_wT 593 (by decide +kernel) (by decide +kernel), by decide +kernel⟩
theorem kv_X7_count : kV yX7_count cX7_count 2 (some .int) 1 := ⟨⟨mem_wT 658 (by decide +kernel) (by decide +kernel), mem_wT 659 (by decide +kernel) (by decide +kernel)⟩, mem_wT 38 (by decide +kernel) (by decide +kernel), mem_wT 660 (by decide +kernel) (by decide +kernel), by decide +kernel⟩
theorem kv_X7_doAct : kV yX7_doAct cX7_doAct 2 (some .long) 1 := ⟨⟨mem_wT 495 (by decide +kernel) (by decide +kernel), mem_wT 496 (by decide +kernel) (by decide +kernel)⟩, mem_wT 38 (by decide +kernel) (by decide +kernel), mem_wT 497 (by decide +kernel) (by decide +kernel), by decide +kernel⟩
theorem kv_X7_drawn : kV yX7_drawn cX7_drawn 8 (some .int) 2 := ⟨⟨mem_wT 643 (by decide +kernel) (by decide +kernel), mem_wT 644 (by decide +kernel) (by decide +kernel)⟩, mem_wT 38 (by decide +kernel) (by decide +kernel), mem_wT 645 (by decide +kernel) (by decide +kernel), by decide +kernel⟩
theorem kv_X7_fault : kV yX7_fault cX7_fault 1 (some .int) 0 := ⟨⟨mem_wT 296 (by decide +kernel) (by decide +kernel), mem_wT 297 (by decide +kernel) (by decide +kernel)⟩, mem_wT 38 (by decide +kernel) (by decide +kernel), mem_wT 298 (by decide +kernel) (by decide +kernel), by decide +kernel⟩
theorem kv_X7_firm : kV yX7_firm cX7_firm 2 (some .int) 1 := ⟨⟨mem_wT 561 (by decide +kernel) (by decide +kernel), mem_wT 562 (by decide +kernel) (by decide +kernel)⟩, mem_wT 38 (by decide +kernel) (by decide +kernel), mem_wT 563 (by decide +kernel) (by decide +kernel), by decide +kernel⟩
theorem kv_X7_forbid : kV yX7_forbid cX7_forbid 4 (some .int) 3 := ⟨⟨mem_wT 530 (by decide +kernel) (by decide +kernel), mem_wT 531 (by decide +kernel) (by decide +kernel)⟩, mem_wT 38 (by decide +kernel) (by decide +kernel), mem_wT 532 (by decide +kernel) (by decide +kernel), by decide +kernel⟩
theorem kv_X7_forged : kV yX7_forged cX7_forged 1 (some .int) 0 := ⟨⟨mem_wT 608 (by decide +kernel) (by decide +kernel), mem_wT 609 (by decide +kernel) (by decide +kernel)⟩, mem_wT 38 (by decide +kernel) (by decide +kernel), mem_wT 610 (by decide +kernel) (by decide +kernel), by decide +kernel⟩
theorem kv_X7_gain : kV yX7_gain cX7_gain 2 (some .int) 1 := ⟨⟨mem_wT 520 (by decide +kernel) (by decide +kernel), mem_wT 521 (by decide +kernel) (by decide +kernel)⟩, mem_wT 38 (by decide +kernel) (by decide +kernel), mem_wT 522 (by decide +kernel) (by decide +kernel), by decide +kernel⟩
theorem kv_X7_keep : kV yX7_keep cX7_keep 1 (some .int) 0 := ⟨⟨mem_wT 650 (by decide +kernel) (by decide +kernel), mem_wT 651 (by decide +kernel) (by decide +kernel)⟩, mem_wT 38 (by decide +kernel) (by decide +kernel), mem_wT 652 (by decide +kernel) (by decide +kernel), by decide +kernel⟩
theorem kv_X7_lawful : kV yX7_lawful cX7_lawful 4 (some .int) 2 := ⟨⟨mem_wT 454 (by decide +kernel) (by decide +kernel), mem_wT 455 (by decide +kernel) (by decide +kernel)⟩, mem_wT 38 (by decide +kernel) (by decide +kernel), mem_wT 456 (by decide +kernel) (by decide +kernel), by decide +kernel⟩
theorem kv_X7_lay : kV yX7_lay cX7_lay 1 (some .int) 0 := ⟨⟨mem_wT 346 (by decide +kernel) (by decide +kernel), mem_wT 347 (by decide +kernel) (by decide +kernel)⟩, mem_wT 38 (by decide +kernel) (by decide +kernel), mem_wT 348 (by decide +kernel) (by decide +kernel), by decide +kernel⟩
theorem kv_X7_line : kV yX7_line cX7_line 3 (some .int) 2 := ⟨⟨mem_wT 595 (by decide +kernel) (by decide +kernel), mem_wT 596 (by decide +kernel) (by decide +kernel)⟩, mem_wT 38 (by decide +kernel) (by decide +kernel), mem_wT 597 (by decide +kernel) (by decide +kernel), by decide +kernel⟩
theorem kv_X7_minutes : kV yX7_minutes cX7_minutes 5 (some .int) 3 := ⟨⟨mem_wT 412 (by decide +kernel) (by decide +kernel), mem_wT 413 (by decide +kernel) (by decide +kernel)⟩, mem_wT 38 (by decide +kernel) (by decide +kernel), mem_wT 414 (by decide +kernel) (by decide +kernel), by decide +kernel⟩
theorem kv_X7_next : kV yX7_next cX7_next 4 (some .long) 2 := ⟨⟨mem_wT 444 (by decide +kernel) (by decide +kernel), mem_wT 445 (by decide +kernel) (by decide +kernel)⟩, mem_wT 38 (by decide +kernel) (by decide +kernel), mem_wT 446 (by decide +kernel) (by decide +kernel), by decide +kernel⟩
theorem kv_X7_noRow : kV yX7_noRow cX7_noRow 2 (some .int) 0 := ⟨⟨mem_wT 468 (by decide +kernel) (by decide +kernel), mem_wT 469 (by decide +kernel) (by decide +kernel)⟩, mem_wT 38 (by decide +kernel) (by decide +kernel), mem_wT 470 (by decide +kernel) (by decide +kernel), by decide +kernel⟩
theorem kv_X7_noTable : kV yX7_noTable cX7_noTable 2 (some .int) 0 := ⟨⟨mem_wT 604 (by decide +kernel) (by decide +kernel), mem_wT 605 (by decide +kernel) (by decide +kernel)⟩, mem_wT 38 (by decide +kernel) (by decide +kernel), mem_wT 606 (by decide +kernel) (by decide +kernel), by decide +kernel⟩
theorem kv_X7_pass : kV yX7_pass cX7_pass 2 (some .long) 1 := ⟨⟨mem_wT 486 (by decide +kernel) (by decide +kernel), mem_wT 487 (by decide +kernel) (by decide +kernel)⟩, mem_wT 38 (by decide +kernel) (by decide +kernel), mem_wT 488 (by decide +kernel) (by decide +kernel), by decide +kernel⟩
theorem kv_X7_rests : kV yX7_rests cX7_rests 3 (some .int) 1 := ⟨⟨mem_wT 544 (by decide +kernel) (by decide +kernel), mem_wT 545 (by decide +kernel) (by decide +kernel)⟩, mem_wT 38 (by decide +kernel) (by decide +kernel), mem_wT 546 (by decide +kernel) (by decide +kernel), by decide +kernel⟩
theorem kv_X7_rules : kV yX7_rules cX7_rules 3 (some .int) 1 := ⟨⟨mem_wT 374 (by decide +kernel) (by decide +kernel), mem_wT 375 (by decide +kernel) (by decide +kernel)⟩, mem_wT 38 (by decide +kernel) (by decide +kernel), mem_wT 376 (by decide +kernel) (by decide +kernel), by decide +kernel⟩
theorem kv_X7_shift : kV yX7_shift cX7_shift 3 (some .int) 1 := ⟨⟨mem_wT 622 (by decide +kernel) (by decide +kernel), mem_wT 623 (by decide +kernel) (by decide +kernel)⟩, mem_wT 38 (by decide +kernel) (by decide +kernel), mem_wT 624 (by decide +kernel) (by decide +kernel), by decide +kernel⟩
theorem kv_X7_soon : kV yX7_soon cX7_soon 9 (some .long) 2 := ⟨⟨mem_wT 472 (by decide +kernel) (by decide +kernel), mem_wT 473 (by decide +kernel) (by decide +kernel)⟩, mem_wT 38 (by decide +kernel) (by decide +kernel), mem_wT 474 (by decide +kernel) (by decide +kernel), by decide +kernel⟩
theorem kv_X7_tell : kV yX7_tell cX7_tell 2 (some .int) 1 := ⟨⟨mem_wT 464 (by decide +kernel) (by decide +kernel), mem_wT 465 (by decide +kernel) (by decide +kernel)⟩, mem_wT 38 (by decide +kernel) (by decide +kernel), mem_wT 466 (by decide +kernel) (by decide +kernel), by decide +kernel⟩
theorem kv_X7_treaty : kV yX7_treaty cX7_treaty 3 (some .int) 1 := ⟨⟨mem_wT 577 (by decide +kernel) (by decide +kernel), mem_wT 578 (by decide +kernel) (by decide +kernel)⟩, mem_wT 38 (by decide +kernel) (by decide +kernel), mem_wT 579 (by decide +kernel) (by decide +kernel), by decide +kernel⟩
theorem kv_X7_undo : kV yX7_undo cX7_undo 2 (some .int) 0 := ⟨⟨mem_wT 512 (by decide +kernel) (by decide +kernel), mem_wT 513 (by decide +kernel) (by decide +kernel)⟩, mem_wT 38 (by decide +kernel) (by decide +kernel), mem_wT 514 (by decide +kernel) (by decide +kernel), by decide +kernel⟩
theorem kv_X7_wipe : kV yX7_wipe cX7_wipe 2 (some .int) 0 := ⟨⟨mem_wT 292 (by decide +kernel) (by decide +kernel), mem_wT 293 (by decide +kernel) (by decide +kernel)⟩, mem_wT 38 (by decide +kernel) (by decide +kernel), mem_wT 294 (by decide +kernel) (by decide +kernel), by decide +kernel⟩
theorem kv_X7_wreck : kV yX7_wreck cX7_wreck 9 (some .int) 4 := ⟨⟨mem_wT 635 (by decide +kernel) (by decide +kernel), mem_wT 636 (by decide +kernel) (by decide +kernel)⟩, mem_wT 38 (by decide +kernel) (by decide +kernel), mem_wT 637 (by decide +kernel) (by decide +kernel), by decide +kernel⟩
theorem kv_X7_write : kV yX7_write cX7_write 4 (some .int) 2 := ⟨⟨mem_wT 284 (by decide +kernel) (by decide +kernel), mem_wT 285 (by decide +kernel) (by decide +kernel)⟩, mem_wT 38 (by decide +kernel) (by decide +kernel), mem_wT 286 (by decide +kernel) (by decide +kernel), by decide +kernel⟩
theorem kv_X7_year : kV yX7_year cX7_year 3 (some .int) 1 := ⟨⟨mem_wT 370 (by decide +kernel) (by decide +kernel), mem_wT 371 (by decide +kernel) (by decide +kernel)⟩, mem_wT 38 (by decide +kernel) (by decide +kernel), mem_wT 372 (by decide +kernel) (by decide +kernel), by decide +kernel⟩
theorem kv_X8_act : kV yX8_act cX8_act 3 (some .int) 2 := ⟨⟨mem_wT 774 (by decide +kernel) (by decide +kernel), mem_wT 775 (by decide +kernel) (by decide +kernel)⟩, mem_wT 47 (by decide +kernel) (by decide +kernel), mem_wT 776 (by decide +kernel) (by decide +kernel), by decide +kernel⟩
theorem kv_X8_allow : kV yX8_allow cX8_allow 5 (some .int) 3 := ⟨⟨mem_wT 860 (by decide +kernel) (by decide +kernel), mem_wT 861 (by decide +kernel) (by decide +kernel)⟩, mem_wT 47 (by decide +kernel) (by decide +kernel), mem_wT 862 (by decide +kernel) (by decide +kernel), by decide +kernel⟩
theorem kv_X8_back : kV yX8_back cX8_back 1 (some .int) 0 := ⟨⟨mem_wT 958 (by decide +kernel) (by decide +kernel), mem_wT 959 (by decide +kernel) (by decide +kernel)⟩, mem_wT 47 (by decide +kernel) (by decide +kernel), mem_wT 960 (by decide +kernel) (by decide +kernel), by decide +kernel⟩
theorem kv_X8_bargain : kV yX8_bargain cX8_bargain 7 (some .long) 3 := ⟨⟨mem_wT 912 (by decide +kernel) (by decide +kernel), mem_wT 913 (by decide +kernel) (by decide +kernel)⟩, mem_wT 47 (by decide +kernel) (by decide +kernel), mem_wT 914 (by decide +kernel) (by decide +kernel), by decide +kernel⟩
theorem kv_X8_count : kV yX8_count cX8_count 2 (some .int) 1 := ⟨⟨mem_wT 962 (by decide +kernel) (by decide +kernel), mem_wT 963 (by decide +kernel) (by decide +kernel)⟩, mem_wT 47 (by decide +kernel) (by decide +kernel), mem_wT 964 (by decide +kernel) (by decide +kernel), by decide +kernel⟩
theorem kv_X8_doAct : kV yX8_doAct cX8_doAct 2 (some .long) 1 := ⟨⟨mem_wT 855 (by decide +kernel) (by decide +kernel), mem_wT 856 (by decide +kernel) (by decide +kernel)⟩, mem_wT 47 (by decide +kernel) (by decide +kernel), mem_wT 857 (by decide +kernel) (by decide +kernel), by decide +kernel⟩
theorem kv_X8_drawn : kV yX8_drawn cX8_drawn 7 (some .int) 2 := ⟨⟨mem_wT 942 (by decide +kernel) (by decide +kernel), mem_wT 943 (by decide +kernel) (by decide +kernel)⟩, mem_wT 47 (by decide +kernel) (by decide +kernel), mem_wT 944 (by decide +kernel) (by decide +kernel), by decide +kernel⟩
theorem kv_X8_firm : kV yX8_firm cX8_firm 2 (some .int) 1 := ⟨⟨mem_wT 892 (by decide +kernel) (by decide +kernel), mem_wT 893 (by decide +kernel) (by decide +kernel)⟩, mem_wT 47 (by decide +kernel) (by decide +kernel), mem_wT 894 (by decide +kernel) (by decide +kernel), by decide +kernel⟩
theorem kv_X8_forbid : kV yX8_forbid cX8_forbid 4 (some .int) 3 := ⟨⟨mem_wT 880 (by decide +kernel) (by decide +kernel), mem_wT 881 (by decide +kernel) (by decide +kernel)⟩, mem_wT 47 (by decide +kernel) (by decide +kernel), mem_wT 882 (by decide +kernel) (by decide +kernel), by decide +kernel⟩
theorem kv_X8_forged : kV yX8_forged cX8_forged 3 (some .int) 0 := ⟨⟨mem_wT 925 (by decide +kernel) (by decide +kernel), mem_wT 926 (by decide +kernel) (by decide +kernel)⟩, mem_wT 47 (by decide +kernel) (by decide +kernel), mem_wT 927 (by decide +kernel) (by decide +kernel), by decide +kernel⟩
theorem kv_X8_gain : kV yX8_gain cX8_gain 2 (some .int) 1 := ⟨⟨mem_wT 868 (by decide +kernel) (by decide +kernel), mem_wT 869 (by decide +kernel) (by decide +kernel)⟩, mem_wT 47 (by decide +kernel) (by decide +kernel), mem_wT 870 (by decide +kernel) (by decide +kernel), by decide +kernel⟩
theorem kv_X8_keep : kV yX8_keep cX8_keep 1 (some .int) 0 := ⟨⟨mem_wT 950 (by decide +kernel) (by decide +kernel), mem_wT 951 (by decide +kernel) (by decide +kernel)⟩, mem_wT 47 (by decide +kernel) (by decide +kernel), mem_wT 952 (by decide +kernel) (by decide +kernel), by decide +kernel⟩
theorem kv_X8_lawful : kV yX8_lawful cX8_lawful 4 (some .int) 2 := ⟨⟨mem_wT 817 (by decide +kernel) (by decide +kernel), mem_wT 818 (by decide +kernel) (by decide +kernel)⟩, mem_wT 47 (by decide +kernel) (by decide +kernel), mem_wT 819 (by decide +kernel) (by decide +kernel), by decide +kernel⟩
theorem kv_X8_lay : kV yX8_lay cX8_lay 1 (some .int) 0 := ⟨⟨mem_wT 769 (by decide +kernel) (by decide +kernel), mem_wT 770 (by decide +kernel) (by decide +kernel)⟩, mem_wT 47 (by decide +kernel) (by decide +kernel), mem_wT 771 (by decide +kernel) (by decide +kernel), by decide +kernel⟩
theorem kv_X8_line : kV yX8_line cX8_line 3 (some .int) 2 := ⟨⟨mem_wT 916 (by decide +kernel) (by decide +kernel), mem_wT 917 (by decide +kernel) (by decide +kernel)⟩, mem_wT 47 (by decide +kernel) (by decide +kernel), mem_wT 918 (by decide +kernel) (by decide +kernel), by decide +kernel⟩
theorem kv_X8_minutes : kV yX8_minutes cX8_minutes 5 (some .int) 3 := ⟨⟨mem_wT 800 (by decide +kernel) (by decide +kernel), mem_wT 801 (by decide +kernel) (by decide +kernel)⟩, mem_wT 47 (by decide +kernel) (by decide +kernel), mem_wT 802 (by decide +kernel) (by decide +kernel), by decide +kernel⟩
theorem kv_X8_next : kV yX8_next cX8_next 6 (some .long) 2 := ⟨⟨mem_wT 810 (by decide +kernel) (by decide +kernel), mem_wT 811 (by decide +kernel) (by decide +kernel)⟩, mem_wT 47 (by decide +kernel) (by decide +kernel), mem_wT 812 (by decide +kernel) (by decide +kernel), by decide +kernel⟩
theorem kv_X8_noRow : kV yX8_noRow cX8_noRow 2 (some .int) 0 := ⟨⟨mem_wT 833 (by decide +kernel) (by decide +kernel), mem_wT 834 (by decide +kernel) (by decide +kernel)⟩, mem_wT 47 (by decide +kernel) (by decide +kernel), mem_wT 835 (by decide +kernel) (by decide +kernel), by decide +kernel⟩
theorem kv_X8_noTable : kV yX8_noTable cX8_noTable 2 (some .int) 0 := ⟨⟨mem_wT 921 (by decide +kernel) (by decide +kernel), mem_wT 922 (by decide +kernel) (by decide +kernel)⟩, mem_wT 47 (by decide +kernel) (by decide +kernel), mem_wT 923 (by decide +kernel) (by decide +kernel), by decide +kernel⟩
theorem kv_X8_pass : kV yX8_pass cX8_pass 2 (some .long) 1 := ⟨⟨mem_wT 846 (by decide +kernel) (by decide +kernel), mem_wT 847 (by decide +kernel) (by decide +kernel)⟩, mem_wT 47 (by decide +kernel) (by decide +kernel), mem_wT 848 (by decide +kernel) (by decide +kernel), by decide +kernel⟩
theorem kv_X8_rests : kV yX8_rests cX8_rests 6 (some .int) 1 := ⟨⟨mem_wT 884 (by decide +kernel) (by decide +kernel), mem_wT 885 (by decide +kernel) (by decide +kernel)⟩, mem_wT 47 (by decide +kernel) (by decide +kernel), mem_wT 886 (by decide +kernel) (by decide +kernel), by decide +kernel⟩
theorem kv_X8_rules : kV yX8_rules cX8_rules 3 (some .int) 1 := ⟨⟨mem_wT 788 (by decide +kernel) (by decide +kernel), mem_wT 789 (by decide +kernel) (by decide +kernel)⟩, mem_wT 47 (by decide +kernel) (by decide +kernel), mem_wT 790 (by decide +kernel) (by decide +kernel), by decide +kernel⟩
theorem kv_X8_shift : kV yX8_shift cX8_shift 6 (some .int) 1 := ⟨⟨mem_wT 929 (by decide +kernel) (by decide +kernel), mem_wT 930 (by decide +kernel) (by decide +kernel)⟩, mem_wT 47 (by decide +kernel) (by decide +kernel), mem_wT 931 (by decide +kernel) (by decide +kernel), by decide +kernel⟩
theorem kv_X8_soon : kV yX8_soon cX8_soon 9 (some .long) 2 := ⟨⟨mem_wT 837 (by decide +kernel) (by decide +kernel), mem_wT 838 (by decide +kernel) (by decide +kernel)⟩, mem_wT 47 (by decide +kernel) (by decide +kernel), mem_wT 839 (by decide +kernel) (by decide +kernel), by decide +kernel⟩
theorem kv_X8_tell : kV yX8_tell cX8_tell 2 (some .int) 1 := ⟨⟨mem_wT 829 (by decide +kernel) (by decide +kernel), mem_wT 830 (by decide +kernel) (by decide +kernel)⟩, mem_wT 47 (by decide +kernel) (by decide +kernel), mem_wT 831 (by decide +kernel) (by decide +kernel), by decide +kernel⟩
theorem kv_X8_treaty : kV yX8_treaty cX8_treaty 5 (some .int) 1 := ⟨⟨mem_wT 904 (by decide +kernel) (by decide +kernel), mem_wT 905 (by decide +kernel) (by decide +kernel)⟩, mem_wT 47 (by decide +kernel) (by decide +kernel), mem_wT 906 (by decide +kernel) (by decide +kernel), by decide +kernel⟩
theorem kv_X8_undo : kV yX8_undo cX8_undo 2 (some .int) 0 := ⟨⟨mem_wT 864 (by decide +kernel) (by decide +kernel), mem_wT 865 (by decide +kernel) (by decide +kernel)⟩, mem_wT 47 (by decide +kernel) (by decide +kernel), mem_wT 866 (by decide +kernel) (by decide +kernel), by decide +kernel⟩
theorem kv_X8_wipe : kV yX8_wipe cX8_wipe 2 (some .int) 0 := ⟨⟨mem_wT 739 (by decide +kernel) (by decide +kernel), mem_wT 740 (by decide +kernel) (by decide +kernel)⟩, mem_wT 47 (by decide +kernel) (by decide +kernel), mem_wT 741 (by decide +kernel) (by decide +kernel), by decide +kernel⟩
theorem kv_X8_wreck : kV yX8_wreck cX8_wreck 11 (some .int) 4 := ⟨⟨mem_wT 937 (by decide +kernel) (by decide +kernel), mem_wT 938 (by decide +kernel) (by decide +kernel)⟩, mem_wT 47 (by decide +kernel) (by decide +kernel), mem_wT 939 (by decide +kernel) (by decide +kernel), by decide +kernel⟩
theorem kv_X8_write : kV yX8_write cX8_write 5 (some .int) 2 := ⟨⟨mem_wT 731 (by decide +kernel) (by decide +kernel), mem_wT 732 (by decide +kernel) (by decide +kernel)⟩, mem_wT 47 (by decide +kernel) (by decide +kernel), mem_wT 733 (by decide +kernel) (by decide +kernel), by decide +kernel⟩
theorem kv_X8_year : kV yX8_year cX8_year 3 (some .int) 1 := ⟨⟨mem_wT 783 (by decide +kernel) (by decide +kernel), mem_wT 784 (by decide +kernel) (by decide +kernel)⟩, mem_wT 47 (by decide +kernel) (by decide +kernel), mem_wT 785 (by decide +kernel) (by decide +kernel), by decide +kernel⟩
section LW
variable {p : Program} {l : Launch} {e : Env} {s : State} {m : MethodId} {below : List Frame} {meth : Method} {c : Code} {E : kE} {b L : Nat} {xs : Nat → Int32}
def s_L_1258 (F L : Nat) (xs : Nat → Int32) (rec18 : kS × kS × Int32 → Option Unit) (σ τ : kS) (x3 : Int32) : Option Unit :=
  rec18 (σ, τ, (x3 + (6 : Int32)))
set_option maxRecDepth 100000 in
set_option maxHeartbeats 8000000 in
theorem w_L_1258 (C : Cx E p s m #[Value.ref b] meth c cL_law 4 RL ret) (Z : lZ E s b L xs) (F : Nat) (rec18 : kS × kS × Int32 → Option Unit) (hrec : ∀ (σ τ : kS) (x3 : Int32), rec18 (σ, τ, x3) = some () → ∀ (H : Heap) (locs : List Loc), cP E σ H → mP E τ H → va_S (fun q : Nat => s.heap.size ≤ q) s.heap H locs → ∀ (ls : Array Slot), lv_has ls 4 [(0, .ref b), (1, .ref (eA E 0)), (2, .ref (eA E 27)), (3, .int x3)] → W p l e room_1 s m #[Value.ref b] below meth c H locs 39 1190 (lw_Z below #[Value.ref b] s) (F0 m 18 ls [])) (σ τ : kS) (x3 : Int32) (h : s_L_1258 F L xs rec18 σ τ x3 = some ()) (H : Heap) (locs : List Loc) (hP : cP E σ H) (hQ : mP E τ H) (hS : va_S (fun q : Nat => s.heap.size ≤ q) s.heap H locs) (ls : Array Slot) (hl : lv_has ls 4 [(0, .ref b), (1, .ref (eA E 0)), (2, .ref (eA E 27)), (3, .int x3)]) : W p l e room_1 s m #[Value.ref b] below meth c H locs 39 1190 (lw_Z below #[Value.ref b] s) (F0 m 1258 ls []) := by
  obtain ⟨-, hx, hb, hml, hown, hts, hK, hr, hlk⟩ := id C
  obtain ⟨⟨hX, hbl⟩, -⟩ := id Z
  have hbA : ¬ (fun q : Nat => s.heap.size ≤ q) b := Nat.not_le.mpr hbl
  unfold s_L_1258 at h
  refine lv_iinc (v := (x3 + (6 : Int32))) (lv' := [(3, .int (x3 + (6 : Int32))), (0, .ref b), (1, .ref (eA E 0)), (2, .ref (eA E 27))]) hx hb dL_law_1258 hl (k := 3) rfl rfl (by decide) rfl (fun ls hl => ?_)
  refine lv_goto (tgt := 18) hx hb dL_law_1261 (by decide) ?_
  exact hrec σ τ (x3 + (6 : Int32)) h H locs hP hQ hS ls (lv_sub hl [1, 2, 3, 0] rfl)
def s_L_176 (F L : Nat) (xs : Nat → Int32) (rec18 : kS × kS × Int32 → Option Unit) (σ τ : kS) (x3 : Int32) : Option Unit :=
  (if (x3 + (1 : Int32)) < 0 ∨ L ≤ (x3 + (1 : Int32)).toNatClampNeg then none else (if (x3 + (2 : Int32)) < 0 ∨ L ≤ (x3 + (2 : Int32)).toNatClampNeg then none else (if (x3 + (3 : Int32)) < 0 ∨ L ≤ (x3 + (3 : Int32)).toNatClampNeg then none else (kb (f_X7_write F σ (xs (x3 + (1 : Int32)).toNatClampNeg) (((xs (x3 + (2 : Int32)).toNatClampNeg).toInt64 <<< ((32 : Int32).toInt64 &&& 63)) ||| ((xs (x3 + (3 : Int32)).toNatClampNeg).toInt64 &&& (4294967295 : Int64)))) fun v_4 σ_5 => (if (x3 + (1 : Int32)) < 0 ∨ L ≤ (x3 + (1 : Int32)).toNatClampNeg then none else (if (x3 + (2 : Int32)) < 0 ∨ L ≤ (x3 + (2 : Int32)).toNatClampNeg then none else (if (x3 + (3 : Int32)) < 0 ∨ L ≤ (x3 + (3 : Int32)).toNatClampNeg then none else (kb (f_X8_write F τ (xs (x3 + (1 : Int32)).toNatClampNeg) (((xs (x3 + (2 : Int32)).toNatClampNeg).toInt64 <<< ((32 : Int32).toInt64 &&& 63)) ||| ((xs (x3 + (3 : Int32)).toNatClampNeg).toInt64 &&& (4294967295 : Int64)))) fun v_10 τ_11 => s_L_1258 F L xs rec18 σ_5 τ_11 x3))))))))
set_option maxRecDepth 100000 in
set_option maxHeartbeats 8000000 in
theorem w_L_176 (C : Cx E p s m #[Value.ref b] meth c cL_law 4 RL ret) (Z : lZ E s b L xs) (F : Nat) (rec18 : kS × kS × Int32 → Option Unit) (hrec : ∀ (σ τ : kS) (x3 : Int32), rec18 (σ, τ, x3) = some () → ∀ (H : Heap) (locs : List Loc), cP E σ H → mP E τ H → va_S (fun q : Nat => s.heap.size ≤ q) s.heap H locs → ∀ (ls : Array Slot), lv_has ls 4 [(0, .ref b), (1, .ref (eA E 0)), (2, .ref (eA E 27)), (3, .int x3)] → W p l e room_1 s m #[Value.ref b] below meth c H locs 39 1190 (lw_Z below #[Value.ref b] s) (F0 m 18 ls [])) (σ τ : kS) (x3 : Int32) (h : s_L_176 F L xs rec18 σ τ x3 = some ()) (H : Heap) (locs : List Loc) (hP : cP E σ H) (hQ : mP E τ H) (hS : va_S (fun q : Nat => s.heap.size ≤ q) s.heap H locs) (ls : Array Slot) (hl : lv_has ls 4 [(0, .ref b), (1, .ref (eA E 0)), (2, .ref (eA E 27)), (3, .int x3)]) : W p l e room_1 s m #[Value.ref b] below meth c H locs 39 1190 (lw_Z below #[Value.ref b] s) (F0 m 176 ls []) := by
  obtain ⟨-, hx, hb, hml, hown, hts, hK, hr, hlk⟩ := id C
  obtain ⟨⟨hX, hbl⟩, -⟩ := id Z
  have hbA : ¬ (fun q : Nat => s.heap.size ≤ q) b := Nat.not_le.mpr hbl
  unfold s_L_176 at h
  refine lv_aload_n hx hb dL_law_176 rfl (lv_at hl 1 rfl) ?_
  refine lv_aload_n hx hb dL_law_177 rfl (lv_at hl 0 rfl) ?_
  refine lv_iload_n hx hb dL_law_178 rfl (lv_at hl 3 rfl) ?_
  refine lv_iconst (v := (1 : Int32)) hx hb dL_law_179 (by decide) ?_
  refine lv_iadd hx hb dL_law_180 ?_
  obtain ⟨n_1, h⟩ := k_no h
  refine va_sld hx hb hX hbl hbA hS n_1 dL_law_181 ?_
  refine lv_aload_n hx hb dL_law_182 rfl (lv_at hl 0 rfl) ?_
  refine lv_iload_n hx hb dL_law_183 rfl (lv_at hl 3 rfl) ?_
  refine lv_iconst (v := (2 : Int32)) hx hb dL_law_184 (by decide) ?_
  refine lv_iadd hx hb dL_law_185 ?_
  obtain ⟨n_2, h⟩ := k_no h
  refine va_sld hx hb hX hbl hbA hS n_2 dL_law_186 ?_
  refine lv_i2l (v := (xs (x3 + (2 : Int32)).toNatClampNeg).toInt64) hx hb dL_law_187 rfl ?_
  refine lv_bipush (v := (32 : Int32)) hx hb dL_law_188 (by decide) ?_
  refine lv_lshl (v := ((xs (x3 + (2 : Int32)).toNatClampNeg).toInt64 <<< ((32 : Int32).toInt64 &&& 63))) hx hb dL_law_190 rfl ?_
  refine lv_aload_n hx hb dL_law_191 rfl (lv_at hl 0 rfl) ?_
  refine lv_iload_n hx hb dL_law_192 rfl (lv_at hl 3 rfl) ?_
  refine lv_iconst (v := (3 : Int32)) hx hb dL_law_193 (by decide) ?_
  refine lv_iadd hx hb dL_law_194 ?_
  obtain ⟨n_3, h⟩ := k_no h
  refine va_sld hx hb hX hbl hbA hS n_3 dL_law_195 ?_
  refine lv_i2l (v := (xs (x3 + (3 : Int32)).toNatClampNeg).toInt64) hx hb dL_law_196 rfl ?_
  refine lv_ldc2 (v := (4294967295 : Int64)) hx hb hown (hts _ lw_w966) dL_law_197 ?_
  refine lv_land hx hb dL_law_200 ?_
  refine lv_lor hx hb dL_law_201 ?_
  obtain ⟨v_4, σ_5, hc_6, h⟩ := kb_ok h
  refine lcc_i C Z.2 hP hQ hS (krunVG (As := [.int (xs (x3 + (1 : Int32)).toNatClampNeg), .long (((xs (x3 + (2 : Int32)).toNatClampNeg).toInt64 <<< ((32 : Int32).toInt64 &&& 63)) ||| ((xs (x3 + (3 : Int32)).toNatClampNeg).toInt64 &&& (4294967295 : Int64)))]) C (fun U hW => hK.warm hW) hP (c_X7_write E C.1 F σ (xs (x3 + (1 : Int32)).toNatClampNeg) (((xs (x3 + (2 : Int32)).toNatClampNeg).toInt64 <<< ((32 : Int32).toInt64 &&& 63)) ||| ((xs (x3 + (3 : Int32)).toNatClampNeg).toInt64 &&& (4294967295 : Int64))) hc_6) lw_w283 kv_X7_write ⟨Nat.le_of_ble_eq_true rfl, Nat.le_of_ble_eq_true rfl⟩ (rc_0 C hP) rfl hl.1 rfl (Nat.le_of_ble_eq_true rfl) dL_law_202 ⟨Nat.le_of_ble_eq_true rfl, Nat.le_of_ble_eq_true rfl⟩) (fun H locs hP hQ hS => ?_)
  refine lv_pop hx hb dL_law_205 rfl ?_
  refine lv_aload_n hx hb dL_law_206 rfl (lv_at hl 2 rfl) ?_
  refine lv_aload_n hx hb dL_law_207 rfl (lv_at hl 0 rfl) ?_
  refine lv_iload_n hx hb dL_law_208 rfl (lv_at hl 3 rfl) ?_
  refine lv_iconst (v := (1 : Int32)) hx hb dL_law_209 (by decide) ?_
  refine lv_iadd hx hb dL_law_210 ?_
  obtain ⟨n_7, h⟩ := k_no h
  refine va_sld hx hb hX hbl hbA hS n_7 dL_law_211 ?_
  refine lv_aload_n hx hb dL_law_212 rfl (lv_at hl 0 rfl) ?_
  refine lv_iload_n hx hb dL_law_213 rfl (lv_at hl 3 rfl) ?_
  refine lv_iconst (v := (2 : Int32)) hx hb dL_law_214 (by decide) ?_
  refine lv_iadd hx hb dL_law_215 ?_
  obtain ⟨n_8, h⟩ := k_no h
  refine va_sld hx hb hX hbl hbA hS n_8 dL_law_216 ?_
  refine lv_i2l (v := (xs (x3 + (2 : Int32)).toNatClampNeg).toInt64) hx hb dL_law_217 rfl ?_
  refine lv_bipush (v := (32 : Int32)) hx hb dL_law_218 (by decide) ?_
  refine lv_lshl (v := ((xs (x3 + (2 : Int32)).toNatClampNeg).toInt64 <<< ((32 : Int32).toInt64 &&& 63))) hx hb dL_law_220 rfl ?_
  refine lv_aload_n hx hb dL_law_221 rfl (lv_at hl 0 rfl) ?_
  refine lv_iload_n hx hb dL_law_222 rfl (lv_at hl 3 rfl) ?_
  refine lv_iconst (v := (3 : Int32)) hx hb dL_law_223 (by decide) ?_
  refine lv_iadd hx hb dL_law_224 ?_
  obtain ⟨n_9, h⟩ := k_no h
  refine va_sld hx hb hX hbl hbA hS n_9 dL_law_225 ?_
  refine lv_i2l (v := (xs (x3 + (3 : Int32)).toNatClampNeg).toInt64) hx hb dL_law_226 rfl ?_
  refine lv_ldc2 (v := (4294967295 : Int64)) hx hb hown (hts _ lw_w966) dL_law_227 ?_
  refine lv_land hx hb dL_law_230 ?_
  refine lv_lor hx hb dL_law_231 ?_
  obtain ⟨v_10, τ_11, hc_12, h⟩ := kb_ok h
  refine lcm_i C Z.2 hP hQ hS (krunVG (As := [.int (xs (x3 + (1 : Int32)).toNatClampNeg), .long (((xs (x3 + (2 : Int32)).toNatClampNeg).toInt64 <<< ((32 : Int32).toInt64 &&& 63)) ||| ((xs (x3 + (3 : Int32)).toNatClampNeg).toInt64 &&& (4294967295 : Int64)))]) C (fun U hW => hK.warm hW) hQ (c_X8_write E C.1 F τ (xs (x3 + (1 : Int32)).toNatClampNeg) (((xs (x3 + (2 : Int32)).toNatClampNeg).toInt64 <<< ((32 : Int32).toInt64 &&& 63)) ||| ((xs (x3 + (3 : Int32)).toNatClampNeg).toInt64 &&& (4294967295 : Int64))) hc_12) lw_w730 kv_X8_write ⟨Nat.le_of_ble_eq_true rfl, Nat.le_of_ble_eq_true rfl⟩ (rc_27 C hQ) rfl hl.1 rfl (Nat.le_of_ble_eq_true rfl) dL_law_232 ⟨Nat.le_of_ble_eq_true rfl, Nat.le_of_ble_eq_true rfl⟩) (fun H locs hP hQ hS => ?_)
  refine lv_pop hx hb dL_law_235 rfl ?_
  refine lv_goto (tgt := 1258) hx hb dL_law_236 (by decide) ?_
  exact w_L_1258 C Z F rec18 hrec σ_5 τ_11 x3 h H locs hP hQ hS ls hl
def s_L_239 (F L : Nat) (xs : Nat → Int32) (rec18 : kS × kS × Int32 → Option Unit) (σ τ : kS) (x3 : Int32) : Option Unit :=
  (kb (f_X7_wipe F σ) fun v_1 σ_2 => (kb (f_X8_wipe F τ) fun v_4 τ_5 => s_L_1258 F L xs rec18 σ_2 τ_5 x3))
set_option maxRecDepth 100000 in
set_option maxHeartbeats 8000000 in
theorem w_L_239 (C : Cx E p s m #[Value.ref b] meth c cL_law 4 RL ret) (Z : lZ E s b L xs) (F : Nat) (rec18 : kS × kS × Int32 → Option Unit) (hrec : ∀ (σ τ : kS) (x3 : Int32), rec18 (σ, τ, x3) = some () → ∀ (H : Heap) (locs : List Loc), cP E σ H → mP E τ H → va_S (fun q : Nat => s.heap.size ≤ q) s.heap H locs → ∀ (ls : Array Slot), lv_has ls 4 [(0, .ref b), (1, .ref (eA E 0)), (2, .ref (eA E 27)), (3, .int x3)] → W p l e room_1 s m #[Value.ref b] below meth c H locs 39 1190 (lw_Z below #[Value.ref b] s) (F0 m 18 ls [])) (σ τ : kS) (x3 : Int32) (h : s_L_239 F L xs rec18 σ τ x3 = some ()) (H : Heap) (locs : List Loc) (hP : cP E σ H) (hQ : mP E τ H) (hS : va_S (fun q : Nat => s.heap.size ≤ q) s.heap H locs) (ls : Array Slot) (hl : lv_has ls 4 [(0, .ref b), (1, .ref (eA E 0)), (2, .ref (eA E 27)), (3, .int x3)]) : W p l e room_1 s m #[Value.ref b] below meth c H locs 39 1190 (lw_Z below #[Value.ref b] s) (F0 m 239 ls []) := by
  obtain ⟨-, hx, hb, hml, hown, hts, hK, hr, hlk⟩ := id C
  obtain ⟨⟨hX, hbl⟩, -⟩ := id Z
  have hbA : ¬ (fun q : Nat => s.heap.size ≤ q) b := Nat.not_le.mpr hbl
  unfold s_L_239 at h
  refine lv_aload_n hx hb dL_law_239 rfl (lv_at hl 1 rfl) ?_
  obtain ⟨v_1, σ_2, hc_3, h⟩ := kb_ok h
  refine lcc_i C Z.2 hP hQ hS (krunVG (As := []) C (fun U hW => hK.warm hW) hP (c_X7_wipe E C.1 F σ hc_3) lw_w291 kv_X7_wipe ⟨Nat.le_of_ble_eq_true rfl, Nat.le_of_ble_eq_true rfl⟩ (rc_0 C hP) rfl hl.1 rfl (Nat.le_of_ble_eq_true rfl) dL_law_240 ⟨Nat.le_of_ble_eq_true rfl, Nat.le_of_ble_eq_true rfl⟩) (fun H locs hP hQ hS => ?_)
  refine lv_pop hx hb dL_law_243 rfl ?_
  refine lv_aload_n hx hb dL_law_244 rfl (lv_at hl 2 rfl) ?_
  obtain ⟨v_4, τ_5, hc_6, h⟩ := kb_ok h
  refine lcm_i C Z.2 hP hQ hS (krunVG (As := []) C (fun U hW => hK.warm hW) hQ (c_X8_wipe E C.1 F τ hc_6) lw_w738 kv_X8_wipe ⟨Nat.le_of_ble_eq_true rfl, Nat.le_of_ble_eq_true rfl⟩ (rc_27 C hQ) rfl hl.1 rfl (Nat.le_of_ble_eq_true rfl) dL_law_245 ⟨Nat.le_of_ble_eq_true rfl, Nat.le_of_ble_eq_true rfl⟩) (fun H locs hP hQ hS => ?_)
  refine lv_pop hx hb dL_law_248 rfl ?_
  refine lv_goto (tgt := 1258) hx hb dL_law_249 (by decide) ?_
  exact w_L_1258 C Z F rec18 hrec σ_2 τ_5 x3 h H locs hP hQ hS ls hl
def s_L_252 (F L : Nat) (xs : Nat → Int32) (rec18 : kS × kS × Int32 → Option Unit) (σ τ : kS) (x3 : Int32) : Option Unit :=
  (kb (f_X7_fault F σ) fun v_1 σ_2 => (kb (f_X8_fault F τ) fun v_4 τ_5 => s_L_1258 F L xs rec18 σ_2 τ_5 x3))
set_option maxRecDepth 100000 in
set_option maxHeartbeats 8000000 in
theorem w_L_252 (C : Cx E p s m #[Value.ref b] meth c cL_law 4 RL ret) (Z : lZ E s b L xs) (F : Nat) (rec18 : kS × kS × Int32 → Option Unit) (hrec : ∀ (σ τ : kS) (x3 : Int32), rec18 (σ, τ, x3) = some () → ∀ (H : Heap) (locs : List Loc), cP E σ H → mP E τ H → va_S (fun q : Nat => s.heap.size ≤ q) s.heap H locs → ∀ (ls : Array Slot), lv_has ls 4 [(0, .ref b), (1, .ref (eA E 0)), (2, .ref (eA E 27)), (3, .int x3)] → W p l e room_1 s m #[Value.ref b] below meth c H locs 39 1190 (lw_Z below #[Value.ref b] s) (F0 m 18 ls [])) (σ τ : kS) (x3 : Int32) (h : s_L_252 F L xs rec18 σ τ x3 = some ()) (H : Heap) (locs : List Loc) (hP : cP E σ H) (hQ : mP E τ H) (hS : va_S (fun q : Nat => s.heap.size ≤ q) s.heap H locs) (ls : Array Slot) (hl : lv_has ls 4 [(0, .ref b), (1, .ref (eA E 0)), (2, .ref (eA E 27)), (3, .int x3)]) : W p l e room_1 s m #[Value.ref b] below meth c H locs 39 1190 (lw_Z below #[Value.ref b] s) (F0 m 252 ls []) := by
  obtain ⟨-, hx, hb, hml, hown, hts, hK, hr, hlk⟩ := id C
  obtain ⟨⟨hX, hbl⟩, -⟩ := id Z
  have hbA : ¬ (fun q : Nat => s.heap.size ≤ q) b := Nat.not_le.mpr hbl
  unfold s_L_252 at h
  refine lv_aload_n hx hb dL_law_252 rfl (lv_at hl 1 rfl) ?_
  obtain ⟨v_1, σ_2, hc_3, h⟩ := kb_ok h
  refine lcc_i C Z.2 hP hQ hS (krunVG (As := []) C (fun U hW => hK.warm hW) hP (c_X7_fault E C.1 F σ hc_3) lw_w295 kv_X7_fault ⟨Nat.le_of_ble_eq_true rfl, Nat.le_of_ble_eq_true rfl⟩ (rc_0 C hP) rfl hl.1 rfl (Nat.le_of_ble_eq_true rfl) dL_law_253 ⟨Nat.le_of_ble_eq_true rfl, Nat.le_of_ble_eq_true rfl⟩) (fun H locs hP hQ hS => ?_)
  refine lv_pop hx hb dL_law_256 rfl ?_
  refine lv_aload_n hx hb dL_law_257 rfl (lv_at hl 2 rfl) ?_
  obtain ⟨v_4, τ_5, hc_6, h⟩ := kb_ok h
  refine lcm_i C Z.2 hP hQ hS (krunVG (As := []) C (fun U hW => hK.warm hW) hQ (c_X8_fault E C.1 F τ hc_6) lw_w742 kv_X8_fault ⟨Nat.le_of_ble_eq_true rfl, Nat.le_of_ble_eq_true rfl⟩ (rc_27 C hQ) rfl hl.1 rfl (Nat.le_of_ble_eq_true rfl) dL_law_258 ⟨Nat.le_of_ble_eq_true rfl, Nat.le_of_ble_eq_true rfl⟩) (fun H locs hP hQ hS => ?_)
  refine lv_pop hx hb dL_law_261 rfl ?_
  refine lv_goto (tgt := 1258) hx hb dL_law_262 (by decide) ?_
  exact w_L_1258 C Z F rec18 hrec σ_2 τ_5 x3 h H locs hP hQ hS ls hl
def s_L_265 (F L : Nat) (xs : Nat → Int32) (rec18 : kS × kS × Int32 → Option Unit) (σ τ : kS) (x3 : Int32) : Option Unit :=
  (kb (f_X7_lay F σ) fun v_1 σ_2 => (kb (f_X8_lay F τ) fun v_4 τ_5 => s_L_1258 F L xs rec18 σ_2 τ_5 x3))
set_option maxRecDepth 100000 in
set_option maxHeartbeats 8000000 in
theorem w_L_265 (C : Cx E p s m #[Value.ref b] meth c cL_law 4 RL ret) (Z : lZ E s b L xs) (F : Nat) (rec18 : kS × kS × Int32 → Option Unit) (hrec : ∀ (σ τ : kS) (x3 : Int32), rec18 (σ, τ, x3) = some () → ∀ (H : Heap) (locs : List Loc), cP E σ H → mP E τ H → va_S (fun q : Nat => s.heap.size ≤ q) s.heap H locs → ∀ (ls : Array Slot), lv_has ls 4 [(0, .ref b), (1, .ref (eA E 0)), (2, .ref (eA E 27)), (3, .int x3)] → W p l e room_1 s m #[Value.ref b] below meth c H locs 39 1190 (lw_Z below #[Value.ref b] s) (F0 m 18 ls [])) (σ τ : kS) (x3 : Int32) (h : s_L_265 F L xs rec18 σ τ x3 = some ()) (H : Heap) (locs : List Loc) (hP : cP E σ H) (hQ : mP E τ H) (hS : va_S (fun q : Nat => s.heap.size ≤ q) s.heap H locs) (ls : Array Slot) (hl : lv_has ls 4 [(0, .ref b), (1, .ref (eA E 0)), (2, .ref (eA E 27)), (3, .int x3)]) : W p l e room_1 s m #[Value.ref b] below meth c H locs 39 1190 (lw_Z below #[Value.ref b] s) (F0 m 265 ls []) := by
  obtain ⟨-, hx, hb, hml, hown, hts, hK, hr, hlk⟩ := id C
  obtain ⟨⟨hX, hbl⟩, -⟩ := id Z
  have hbA : ¬ (fun q : Nat => s.heap.size ≤ q) b := Nat.not_le.mpr hbl
  unfold s_L_265 at h
  refine lv_aload_n hx hb dL_law_265 rfl (lv_at hl 1 rfl) ?_
  obtain ⟨v_1, σ_2, hc_3, h⟩ := kb_ok h
  refine lcc_i C Z.2 hP hQ hS (krunVG (As := []) C (fun U hW => hK.warm hW) hP (c_X7_lay E C.1 F σ hc_3) lw_w345 kv_X7_lay ⟨Nat.le_of_ble_eq_true rfl, Nat.le_of_ble_eq_true rfl⟩ (rc_0 C hP) rfl hl.1 rfl (Nat.le_of_ble_eq_true rfl) dL_law_266 ⟨Nat.le_of_ble_eq_true rfl, Nat.le_of_ble_eq_true rfl⟩) (fun H locs hP hQ hS => ?_)
  refine lv_pop hx hb dL_law_269 rfl ?_
  refine lv_aload_n hx hb dL_law_270 rfl (lv_at hl 2 rfl) ?_
  obtain ⟨v_4, τ_5, hc_6, h⟩ := kb_ok h
  refine lcm_i C Z.2 hP hQ hS (krunVG (As := []) C (fun U hW => hK.warm hW) hQ (c_X8_lay E C.1 F τ hc_6) lw_w768 kv_X8_lay ⟨Nat.le_of_ble_eq_true rfl, Nat.le_of_ble_eq_true rfl⟩ (rc_27 C hQ) rfl hl.1 rfl (Nat.le_of_ble_eq_true rfl) dL_law_271 ⟨Nat.le_of_ble_eq_true rfl, Nat.le_of_ble_eq_true rfl⟩) (fun H locs hP hQ hS => ?_)
  refine lv_pop hx hb dL_law_274 rfl ?_
  refine lv_goto (tgt := 1258) hx hb dL_law_275 (by decide) ?_
  exact w_L_1258 C Z F rec18 hrec σ_2 τ_5 x3 h H locs hP hQ hS ls hl
def s_L_278 (F L : Nat) (xs : Nat → Int32) (rec18 : kS × kS × Int32 → Option Unit) (σ τ : kS) (x3 : Int32) : Option Unit :=
  (if (x3 + (1 : Int32)) < 0 ∨ L ≤ (x3 + (1 : Int32)).toNatClampNeg then none else (if (x3 + (2 : Int32)) < 0 ∨ L ≤ (x3 + (2 : Int32)).toNatClampNeg then none else (kb (f_X7_act F σ (xs (x3 + (1 : Int32)).toNatClampNeg) (xs (x3 + (2 : Int32)).toNatClampNeg)) fun v_3 σ_4 => (if (x3 + (1 : Int32)) < 0 ∨ L ≤ (x3 + (1 : Int32)).toNatClampNeg then none else (if (x3 + (2 : Int32)) < 0 ∨ L ≤ (x3 + (2 : Int32)).toNatClampNeg then none else (kb (f_X8_act F τ (xs (x3 + (1 : Int32)).toNatClampNeg) (xs (x3 + (2 : Int32)).toNatClampNeg)) fun v_8 τ_9 => s_L_1258 F L xs rec18 σ_4 τ_9 x3))))))
set_option maxRecDepth 100000 in
set_option maxHeartbeats 8000000 in
theorem w_L_278 (C : Cx E p s m #[Value.ref b] meth c cL_law 4 RL ret) (Z : lZ E s b L xs) (F : Nat) (rec18 : kS × kS × Int32 → Option Unit) (hrec : ∀ (σ τ : kS) (x3 : Int32), rec18 (σ, τ, x3) = some () → ∀ (H : Heap) (locs : List Loc), cP E σ H → mP E τ H → va_S (fun q : Nat => s.heap.size ≤ q) s.heap H locs → ∀ (ls : Array Slot), lv_has ls 4 [(0, .ref b), (1, .ref (eA E 0)), (2, .ref (eA E 27)), (3, .int x3)] → W p l e room_1 s m #[Value.ref b] below meth c H locs 39 1190 (lw_Z below #[Value.ref b] s) (F0 m 18 ls [])) (σ τ : kS) (x3 : Int32) (h : s_L_278 F L xs rec18 σ τ x3 = some ()) (H : Heap) (locs : List Loc) (hP : cP E σ H) (hQ : mP E τ H) (hS : va_S (fun q : Nat => s.heap.size ≤ q) s.heap H locs) (ls : Array Slot) (hl : lv_has ls 4 [(0, .ref b), (1, .ref (eA E 0)), (2, .ref (eA E 27)), (3, .int x3)]) : W p l e room_1 s m #[Value.ref b] below meth c H locs 39 1190 (lw_Z below #[Value.ref b] s) (F0 m 278 ls []) := by
  obtain ⟨-, hx, hb, hml, hown, hts, hK, hr, hlk⟩ := id C
  obtain ⟨⟨hX, hbl⟩, -⟩ := id Z
  have hbA : ¬ (fun q : Nat => s.heap.size ≤ q) b := Nat.not_le.mpr hbl
  unfold s_L_278 at h
  refine lv_aload_n hx hb dL_law_278 rfl (lv_at hl 1 rfl) ?_
  refine lv_aload_n hx hb dL_law_279 rfl (lv_at hl 0 rfl) ?_
  refine lv_iload_n hx hb dL_law_280 rfl (lv_at hl 3 rfl) ?_
  refine lv_iconst (v := (1 : Int32)) hx hb dL_law_281 (by decide) ?_
  refine lv_iadd hx hb dL_law_282 ?_
  obtain ⟨n_1, h⟩ := k_no h
  refine va_sld hx hb hX hbl hbA hS n_1 dL_law_283 ?_
  refine lv_aload_n hx hb dL_law_284 rfl (lv_at hl 0 rfl) ?_
  refine lv_iload_n hx hb dL_law_285 rfl (lv_at hl 3 rfl) ?_
  refine lv_iconst (v := (2 : Int32)) hx hb dL_law_286 (by decide) ?_
  refine lv_iadd hx hb dL_law_287 ?_
  obtain ⟨n_2, h⟩ := k_no h
  refine va_sld hx hb hX hbl hbA hS n_2 dL_law_288 ?_
  obtain ⟨v_3, σ_4, hc_5, h⟩ := kb_ok h
  refine lcc_i C Z.2 hP hQ hS (krunVG (As := [.int (xs (x3 + (1 : Int32)).toNatClampNeg), .int (xs (x3 + (2 : Int32)).toNatClampNeg)]) C (fun U hW => hK.warm hW) hP (c_X7_act E C.1 F σ (xs (x3 + (1 : Int32)).toNatClampNeg) (xs (x3 + (2 : Int32)).toNatClampNeg) hc_5) lw_w357 kv_X7_act ⟨Nat.le_of_ble_eq_true rfl, Nat.le_of_ble_eq_true rfl⟩ (rc_0 C hP) rfl hl.1 rfl (Nat.le_of_ble_eq_true rfl) dL_law_289 ⟨Nat.le_of_ble_eq_true rfl, Nat.le_of_ble_eq_true rfl⟩) (fun H locs hP hQ hS => ?_)
  refine lv_pop hx hb dL_law_292 rfl ?_
  refine lv_aload_n hx hb dL_law_293 rfl (lv_at hl 2 rfl) ?_
  refine lv_aload_n hx hb dL_law_294 rfl (lv_at hl 0 rfl) ?_
  refine lv_iload_n hx hb dL_law_295 rfl (lv_at hl 3 rfl) ?_
  refine lv_iconst (v := (1 : Int32)) hx hb dL_law_296 (by decide) ?_
  refine lv_iadd hx hb dL_law_297 ?_
  obtain ⟨n_6, h⟩ := k_no h
  refine va_sld hx hb hX hbl hbA hS n_6 dL_law_298 ?_
  refine lv_aload_n hx hb dL_law_299 rfl (lv_at hl 0 rfl) ?_
  refine lv_iload_n hx hb dL_law_300 rfl (lv_at hl 3 rfl) ?_
  refine lv_iconst (v := (2 : Int32)) hx hb dL_law_301 (by decide) ?_
  refine lv_iadd hx hb dL_law_302 ?_
  obtain ⟨n_7, h⟩ := k_no h
  refine va_sld hx hb hX hbl hbA hS n_7 dL_law_303 ?_
  obtain ⟨v_8, τ_9, hc_10, h⟩ := kb_ok h
  refine lcm_i C Z.2 hP hQ hS (krunVG (As := [.int (xs (x3 + (1 : Int32)).toNatClampNeg), .int (xs (x3 + (2 : Int32)).toNatClampNeg)]) C (fun U hW => hK.warm hW) hQ (c_X8_act E C.1 F τ (xs (x3 + (1 : Int32)).toNatClampNeg) (xs (x3 + (2 : Int32)).toNatClampNeg) hc_10) lw_w773 kv_X8_act ⟨Nat.le_of_ble_eq_true rfl, Nat.le_of_ble_eq_true rfl⟩ (rc_27 C hQ) rfl hl.1 rfl (Nat.le_of_ble_eq_true rfl) dL_law_304 ⟨Nat.le_of_ble_eq_true rfl, Nat.le_of_ble_eq_true rfl⟩) (fun H locs hP hQ hS => ?_)
  refine lv_pop hx hb dL_law_307 rfl ?_
  refine lv_goto (tgt := 1258) hx hb dL_law_308 (by decide) ?_
  exact w_L_1258 C Z F rec18 hrec σ_4 τ_9 x3 h H locs hP hQ hS ls hl
def s_L_311 (F L : Nat) (xs : Nat → Int32) (rec18 : kS × kS × Int32 → Option Unit) (σ τ : kS) (x3 : Int32) : Option Unit :=
  (if (x3 + (1 : Int32)) < 0 ∨ L ≤ (x3 + (1 : Int32)).toNatClampNeg then none else (kb (f_X7_year F σ (xs (x3 + (1 : Int32)).toNatClampNeg)) fun v_2 σ_3 => (if (x3 + (1 : Int32)) < 0 ∨ L ≤ (x3 + (1 : Int32)).toNatClampNeg then none else (kb (f_X8_year F τ (xs (x3 + (1 : Int32)).toNatClampNeg)) fun v_6 τ_7 => s_L_1258 F L xs rec18 σ_3 τ_7 x3))))
set_option maxRecDepth 100000 in
set_option maxHeartbeats 8000000 in
theorem w_L_311 (C : Cx E p s m #[Value.ref b] meth c cL_law 4 RL ret) (Z : lZ E s b L xs) (F : Nat) (rec18 : kS × kS × Int32 → Option Unit) (hrec : ∀ (σ τ : kS) (x3 : Int32), rec18 (σ, τ, x3) = some () → ∀ (H : Heap) (locs : List Loc), cP E σ H → mP E τ H → va_S (fun q : Nat => s.heap.size ≤ q) s.heap H locs → ∀ (ls : Array Slot), lv_has ls 4 [(0, .ref b), (1, .ref (eA E 0)), (2, .ref (eA E 27)), (3, .int x3)] → W p l e room_1 s m #[Value.ref b] below meth c H locs 39 1190 (lw_Z below #[Value.ref b] s) (F0 m 18 ls [])) (σ τ : kS) (x3 : Int32) (h : s_L_311 F L xs rec18 σ τ x3 = some ()) (H : Heap) (locs : List Loc) (hP : cP E σ H) (hQ : mP E τ H) (hS : va_S (fun q : Nat => s.heap.size ≤ q) s.heap H locs) (ls : Array Slot) (hl : lv_has ls 4 [(0, .ref b), (1, .ref (eA E 0)), (2, .ref (eA E 27)), (3, .int x3)]) : W p l e room_1 s m #[Value.ref b] below meth c H locs 39 1190 (lw_Z below #[Value.ref b] s) (F0 m 311 ls []) := by
  obtain ⟨-, hx, hb, hml, hown, hts, hK, hr, hlk⟩ := id C
  obtain ⟨⟨hX, hbl⟩, -⟩ := id Z
  have hbA : ¬ (fun q : Nat => s.heap.size ≤ q) b := Nat.not_le.mpr hbl
  unfold s_L_311 at h
  refine lv_aload_n hx hb dL_law_311 rfl (lv_at hl 1 rfl) ?_
  refine lv_aload_n hx hb dL_law_312 rfl (lv_at hl 0 rfl) ?_
  refine lv_iload_n hx hb dL_law_313 rfl (lv_at hl 3 rfl) ?_
  refine lv_iconst (v := (1 : Int32)) hx hb dL_law_314 (by decide) ?_
  refine lv_iadd hx hb dL_law_315 ?_
  obtain ⟨n_1, h⟩ := k_no h
  refine va_sld hx hb hX hbl hbA hS n_1 dL_law_316 ?_
  obtain ⟨v_2, σ_3, hc_4, h⟩ := kb_ok h
  refine lcc_i C Z.2 hP hQ hS (krunVG (As := [.int (xs (x3 + (1 : Int32)).toNatClampNeg)]) C (fun U hW => hK.warm hW) hP (c_X7_year E C.1 F σ (xs (x3 + (1 : Int32)).toNatClampNeg) hc_4) lw_w369 kv_X7_year ⟨Nat.le_of_ble_eq_true rfl, Nat.le_of_ble_eq_true rfl⟩ (rc_0 C hP) rfl hl.1 rfl (Nat.le_of_ble_eq_true rfl) dL_law_317 ⟨Nat.le_of_ble_eq_true rfl, Nat.le_of_ble_eq_true rfl⟩) (fun H locs hP hQ hS => ?_)
  refine lv_pop hx hb dL_law_320 rfl ?_
  refine lv_aload_n hx hb dL_law_321 rfl (lv_at hl 2 rfl) ?_
  refine lv_aload_n hx hb dL_law_322 rfl (lv_at hl 0 rfl) ?_
  refine lv_iload_n hx hb dL_law_323 rfl (lv_at hl 3 rfl) ?_
  refine lv_iconst (v := (1 : Int32)) hx hb dL_law_324 (by decide) ?_
  refine lv_iadd hx hb dL_law_325 ?_
  obtain ⟨n_5, h⟩ := k_no h
  refine va_sld hx hb hX hbl hbA hS n_5 dL_law_326 ?_
  obtain ⟨v_6, τ_7, hc_8, h⟩ := kb_ok h
  refine lcm_i C Z.2 hP hQ hS (krunVG (As := [.int (xs (x3 + (1 : Int32)).toNatClampNeg)]) C (fun U hW => hK.warm hW) hQ (c_X8_year E C.1 F τ (xs (x3 + (1 : Int32)).toNatClampNeg) hc_8) lw_w782 kv_X8_year ⟨Nat.le_of_ble_eq_true rfl, Nat.le_of_ble_eq_true rfl⟩ (rc_27 C hQ) rfl hl.1 rfl (Nat.le_of_ble_eq_true rfl) dL_law_327 ⟨Nat.le_of_ble_eq_true rfl, Nat.le_of_ble_eq_true rfl⟩) (fun H locs hP hQ hS => ?_)
  refine lv_pop hx hb dL_law_330 rfl ?_
  refine lv_goto (tgt := 1258) hx hb dL_law_331 (by decide) ?_
  exact w_L_1258 C Z F rec18 hrec σ_3 τ_7 x3 h H locs hP hQ hS ls hl
def s_L_334 (F L : Nat) (xs : Nat → Int32) (rec18 : kS × kS × Int32 → Option Unit) (σ τ : kS) (x3 : Int32) : Option Unit :=
  (if (x3 + (1 : Int32)) < 0 ∨ L ≤ (x3 + (1 : Int32)).toNatClampNeg then none else (if (x3 + (2 : Int32)) < 0 ∨ L ≤ (x3 + (2 : Int32)).toNatClampNeg then none else (kb (f_X7_rules F σ (((xs (x3 + (1 : Int32)).toNatClampNeg).toInt64 <<< ((32 : Int32).toInt64 &&& 63)) ||| ((xs (x3 + (2 : Int32)).toNatClampNeg).toInt64 &&& (4294967295 : Int64)))) fun v_3 σ_4 => (if (x3 + (1 : Int32)) < 0 ∨ L ≤ (x3 + (1 : Int32)).toNatClampNeg then none else (if (x3 + (2 : Int32)) < 0 ∨ L ≤ (x3 + (2 : Int32)).toNatClampNeg then none else (kb (f_X8_rules F τ (((xs (x3 + (1 : Int32)).toNatClampNeg).toInt64 <<< ((32 : Int32).toInt64 &&& 63)) ||| ((xs (x3 + (2 : Int32)).toNatClampNeg).toInt64 &&& (4294967295 : Int64)))) fun v_8 τ_9 => s_L_1258 F L xs rec18 σ_4 τ_9 x3))))))
set_option maxRecDepth 100000 in
set_option maxHeartbeats 8000000 in
theorem w_L_334 (C : Cx E p s m #[Value.ref b] meth c cL_law 4 RL ret) (Z : lZ E s b L xs) (F : Nat) (rec18 : kS × kS × Int32 → Option Unit) (hrec : ∀ (σ τ : kS) (x3 : Int32), rec18 (σ, τ, x3) = some () → ∀ (H : Heap) (locs : List Loc), cP E σ H → mP E τ H → va_S (fun q : Nat => s.heap.size ≤ q) s.heap H locs → ∀ (ls : Array Slot), lv_has ls 4 [(0, .ref b), (1, .ref (eA E 0)), (2, .ref (eA E 27)), (3, .int x3)] → W p l e room_1 s m #[Value.ref b] below meth c H locs 39 1190 (lw_Z below #[Value.ref b] s) (F0 m 18 ls [])) (σ τ : kS) (x3 : Int32) (h : s_L_334 F L xs rec18 σ τ x3 = some ()) (H : Heap) (locs : List Loc) (hP : cP E σ H) (hQ : mP E τ H) (hS : va_S (fun q : Nat => s.heap.size ≤ q) s.heap H locs) (ls : Array Slot) (hl : lv_has ls 4 [(0, .ref b), (1, .ref (eA E 0)), (2, .ref (eA E 27)), (3, .int x3)]) : W p l e room_1 s m #[Value.ref b] below meth c H locs 39 1190 (lw_Z below #[Value.ref b] s) (F0 m 334 ls []) := by
  obtain ⟨-, hx, hb, hml, hown, hts, hK, hr, hlk⟩ := id C
  obtain ⟨⟨hX, hbl⟩, -⟩ := id Z
  have hbA : ¬ (fun q : Nat => s.heap.size ≤ q) b := Nat.not_le.mpr hbl
  unfold s_L_334 at h
  refine lv_aload_n hx hb dL_law_334 rfl (lv_at hl 1 rfl) ?_
  refine lv_aload_n hx hb dL_law_335 rfl (lv_at hl 0 rfl) ?_
  refine lv_iload_n hx hb dL_law_336 rfl (lv_at hl 3 rfl) ?_
  refine lv_iconst (v := (1 : Int32)) hx hb dL_law_337 (by decide) ?_
  refine lv_iadd hx hb dL_law_338 ?_
  obtain ⟨n_1, h⟩ := k_no h
  refine va_sld hx hb hX hbl hbA hS n_1 dL_law_339 ?_
  refine lv_i2l (v := (xs (x3 + (1 : Int32)).toNatClampNeg).toInt64) hx hb dL_law_340 rfl ?_
  refine lv_bipush (v := (32 : Int32)) hx hb dL_law_341 (by decide) ?_
  refine lv_lshl (v := ((xs (x3 + (1 : Int32)).toNatClampNeg).toInt64 <<< ((32 : Int32).toInt64 &&& 63))) hx hb dL_law_343 rfl ?_
  refine lv_aload_n hx hb dL_law_344 rfl (lv_at hl 0 rfl) ?_
  refine lv_iload_n hx hb dL_law_345 rfl (lv_at hl 3 rfl) ?_
  refine lv_iconst (v := (2 : Int32)) hx hb dL_law_346 (by decide) ?_
  refine lv_iadd hx hb dL_law_347 ?_
  obtain ⟨n_2, h⟩ := k_no h
  refine va_sld hx hb hX hbl hbA hS n_2 dL_law_348 ?_
  refine lv_i2l (v := (xs (x3 + (2 : Int32)).toNatClampNeg).toInt64) hx hb dL_law_349 rfl ?_
  refine lv_ldc2 (v := (4294967295 : Int64)) hx hb hown (hts _ lw_w966) dL_law_350 ?_
  refine lv_land hx hb dL_law_353 ?_
  refine lv_lor hx hb dL_law_354 ?_
  obtain ⟨v_3, σ_4, hc_5, h⟩ := kb_ok h
  refine lcc_i C Z.2 hP hQ hS (krunVG (As := [.long (((xs (x3 + (1 : Int32)).toNatClampNeg).toInt64 <<< ((32 : Int32).toInt64 &&& 63)) ||| ((xs (x3 + (2 : Int32)).toNatClampNeg).toInt64 &&& (4294967295 : Int64)))]) C (fun U hW => hK.warm hW) hP (c_X7_rules E C.1 F σ (((xs (x3 + (1 : Int32)).toNatClampNeg).toInt64 <<< ((32 : Int32).toInt64 &&& 63)) ||| ((xs (x3 + (2 : Int32)).toNatClampNeg).toInt64 &&& (4294967295 : Int64))) hc_5) lw_w373 kv_X7_rules ⟨Nat.le_of_ble_eq_true rfl, Nat.le_of_ble_eq_true rfl⟩ (rc_0 C hP) rfl hl.1 rfl (Nat.le_of_ble_eq_true rfl) dL_law_355 ⟨Nat.le_of_ble_eq_true rfl, Nat.le_of_ble_eq_true rfl⟩) (fun H locs hP hQ hS => ?_)
  refine lv_pop hx hb dL_law_358 rfl ?_
  refine lv_aload_n hx hb dL_law_359 rfl (lv_at hl 2 rfl) ?_
  refine lv_aload_n hx hb dL_law_360 rfl (lv_at hl 0 rfl) ?_
  refine lv_iload_n hx hb dL_law_361 rfl (lv_at hl 3 rfl) ?_
  refine lv_iconst (v := (1 : Int32)) hx hb dL_law_362 (by decide) ?_
  refine lv_iadd hx hb dL_law_363 ?_
  obtain ⟨n_6, h⟩ := k_no h
  refine va_sld hx hb hX hbl hbA hS n_6 dL_law_364 ?_
  refine lv_i2l (v := (xs (x3 + (1 : Int32)).toNatClampNeg).toInt64) hx hb dL_law_365 rfl ?_
  refine lv_bipush (v := (32 : Int32)) hx hb dL_law_366 (by decide) ?_
  refine lv_lshl (v := ((xs (x3 + (1 : Int32)).toNatClampNeg).toInt64 <<< ((32 : Int32).toInt64 &&& 63))) hx hb dL_law_368 rfl ?_
  refine lv_aload_n hx hb dL_law_369 rfl (lv_at hl 0 rfl) ?_
  refine lv_iload_n hx hb dL_law_370 rfl (lv_at hl 3 rfl) ?_
  refine lv_iconst (v := (2 : Int32)) hx hb dL_law_371 (by decide) ?_
  refine lv_iadd hx hb dL_law_372 ?_
  obtain ⟨n_7, h⟩ := k_no h
  refine va_sld hx hb hX hbl hbA hS n_7 dL_law_373 ?_
  refine lv_i2l (v := (xs (x3 + (2 : Int32)).toNatClampNeg).toInt64) hx hb dL_law_374 rfl ?_
  refine lv_ldc2 (v := (4294967295 : Int64)) hx hb hown (hts _ lw_w966) dL_law_375 ?_
  refine lv_land hx hb dL_law_378 ?_
  refine lv_lor hx hb dL_law_379 ?_
  obtain ⟨v_8, τ_9, hc_10, h⟩ := kb_ok h
  refine lcm_i C Z.2 hP hQ hS (krunVG (As := [.long (((xs (x3 + (1 : Int32)).toNatClampNeg).toInt64 <<< ((32 : Int32).toInt64 &&& 63)) ||| ((xs (x3 + (2 : Int32)).toNatClampNeg).toInt64 &&& (4294967295 : Int64)))]) C (fun U hW => hK.warm hW) hQ (c_X8_rules E C.1 F τ (((xs (x3 + (1 : Int32)).toNatClampNeg).toInt64 <<< ((32 : Int32).toInt64 &&& 63)) ||| ((xs (x3 + (2 : Int32)).toNatClampNeg).toInt64 &&& (4294967295 : Int64))) hc_10) lw_w787 kv_X8_rules ⟨Nat.le_of_ble_eq_true rfl, Nat.le_of_ble_eq_true rfl⟩ (rc_27 C hQ) rfl hl.1 rfl (Nat.le_of_ble_eq_true rfl) dL_law_380 ⟨Nat.le_of_ble_eq_true rfl, Nat.le_of_ble_eq_true rfl⟩) (fun H locs hP hQ hS => ?_)
  refine lv_pop hx hb dL_law_383 rfl ?_
  refine lv_goto (tgt := 1258) hx hb dL_law_384 (by decide) ?_
  exact w_L_1258 C Z F rec18 hrec σ_4 τ_9 x3 h H locs hP hQ hS ls hl
def s_L_387 (F L : Nat) (xs : Nat → Int32) (rec18 : kS × kS × Int32 → Option Unit) (σ τ : kS) (x3 : Int32) : Option Unit :=
  (if (x3 + (1 : Int32)) < 0 ∨ L ≤ (x3 + (1 : Int32)).toNatClampNeg then none else (if (x3 + (2 : Int32)) < 0 ∨ L ≤ (x3 + (2 : Int32)).toNatClampNeg then none else (if (x3 + (3 : Int32)) < 0 ∨ L ≤ (x3 + (3 : Int32)).toNatClampNeg then none else (if (x3 + (4 : Int32)) < 0 ∨ L ≤ (x3 + (4 : Int32)).toNatClampNeg then none else (kb (f_X7_minutes F σ (((xs (x3 + (1 : Int32)).toNatClampNeg).toInt64 <<< ((32 : Int32).toInt64 &&& 63)) ||| ((xs (x3 + (2 : Int32)).toNatClampNeg).toInt64 &&& (4294967295 : Int64))) (xs (x3 + (3 : Int32)).toNatClampNeg) (xs (x3 + (4 : Int32)).toNatClampNeg)) fun v_5 σ_6 => (if (x3 + (1 : Int32)) < 0 ∨ L ≤ (x3 + (1 : Int32)).toNatClampNeg then none else (if (x3 + (2 : Int32)) < 0 ∨ L ≤ (x3 + (2 : Int32)).toNatClampNeg then none else (if (x3 + (3 : Int32)) < 0 ∨ L ≤ (x3 + (3 : Int32)).toNatClampNeg then none else (if (x3 + (4 : Int32)) < 0 ∨ L ≤ (x3 + (4 : Int32)).toNatClampNeg then none else (kb (f_X8_minutes F τ (((xs (x3 + (1 : Int32)).toNatClampNeg).toInt64 <<< ((32 : Int32).toInt64 &&& 63)) ||| ((xs (x3 + (2 : Int32)).toNatClampNeg).toInt64 &&& (4294967295 : Int64))) (xs (x3 + (3 : Int32)).toNatClampNeg) (xs (x3 + (4 : Int32)).toNatClampNeg)) fun v_12 τ_13 => s_L_1258 F L xs rec18 σ_6 τ_13 x3))))))))))
set_option maxRecDepth 100000 in
set_option maxHeartbeats 8000000 in
theorem w_L_387 (C : Cx E p s m #[Value.ref b] meth c cL_law 4 RL ret) (Z : lZ E s b L xs) (F : Nat) (rec18 : kS × kS × Int32 → Option Unit) (hrec : ∀ (σ τ : kS) (x3 : Int32), rec18 (σ, τ, x3) = some () → ∀ (H : Heap) (locs : List Loc), cP E σ H → mP E τ H → va_S (fun q : Nat => s.heap.size ≤ q) s.heap H locs → ∀ (ls : Array Slot), lv_has ls 4 [(0, .ref b), (1, .ref (eA E 0)), (2, .ref (eA E 27)), (3, .int x3)] → W p l e room_1 s m #[Value.ref b] below meth c H locs 39 1190 (lw_Z below #[Value.ref b] s) (F0 m 18 ls [])) (σ τ : kS) (x3 : Int32) (h : s_L_387 F L xs rec18 σ τ x3 = some ()) (H : Heap) (locs : List Loc) (hP : cP E σ H) (hQ : mP E τ H) (hS : va_S (fun q : Nat => s.heap.size ≤ q) s.heap H locs) (ls : Array Slot) (hl : lv_has ls 4 [(0, .ref b), (1, .ref (eA E 0)), (2, .ref (eA E 27)), (3, .int x3)]) : W p l e room_1 s m #[Value.ref b] below meth c H locs 39 1190 (lw_Z below #[Value.ref b] s) (F0 m 387 ls []) := by
  obtain ⟨-, hx, hb, hml, hown, hts, hK, hr, hlk⟩ := id C
  obtain ⟨⟨hX, hbl⟩, -⟩ := id Z
  have hbA : ¬ (fun q : Nat => s.heap.size ≤ q) b := Nat.not_le.mpr hbl
  unfold s_L_387 at h
  refine lv_aload_n hx hb dL_law_387 rfl (lv_at hl 1 rfl) ?_
  refine lv_aload_n hx hb dL_law_388 rfl (lv_at hl 0 rfl) ?_
  refine lv_iload_n hx hb dL_law_389 rfl (lv_at hl 3 rfl) ?_
  refine lv_iconst (v := (1 : Int32)) hx hb dL_law_390 (by decide) ?_
  refine lv_iadd hx hb dL_law_391 ?_
  obtain ⟨n_1, h⟩ := k_no h
  refine va_sld hx hb hX hbl hbA hS n_1 dL_law_392 ?_
  refine lv_i2l (v := (xs (x3 + (1 : Int32)).toNatClampNeg).toInt64) hx hb dL_law_393 rfl ?_
  refine lv_bipush (v := (32 : Int32)) hx hb dL_law_394 (by decide) ?_
  refine lv_lshl (v := ((xs (x3 + (1 : Int32)).toNatClampNeg).toInt64 <<< ((32 : Int32).toInt64 &&& 63))) hx hb dL_law_396 rfl ?_
  refine lv_aload_n hx hb dL_law_397 rfl (lv_at hl 0 rfl) ?_
  refine lv_iload_n hx hb dL_law_398 rfl (lv_at hl 3 rfl) ?_
  refine lv_iconst (v := (2 : Int32)) hx hb dL_law_399 (by decide) ?_
  refine lv_iadd hx hb dL_law_400 ?_
  obtain ⟨n_2, h⟩ := k_no h
  refine va_sld hx hb hX hbl hbA hS n_2 dL_law_401 ?_
  refine lv_i2l (v := (xs (x3 + (2 : Int32)).toNatClampNeg).toInt64) hx hb dL_law_402 rfl ?_
  refine lv_ldc2 (v := (4294967295 : Int64)) hx hb hown (hts _ lw_w966) dL_law_403 ?_
  refine lv_land hx hb dL_law_406 ?_
  refine lv_lor hx hb dL_law_407 ?_
  refine lv_aload_n hx hb dL_law_408 rfl (lv_at hl 0 rfl) ?_
  refine lv_iload_n hx hb dL_law_409 rfl (lv_at hl 3 rfl) ?_
  refine lv_iconst (v := (3 : Int32)) hx hb dL_law_410 (by decide) ?_
  refine lv_iadd hx hb dL_law_411 ?_
  obtain ⟨n_3, h⟩ := k_no h
  refine va_sld hx hb hX hbl hbA hS n_3 dL_law_412 ?_
  refine lv_aload_n hx hb dL_law_413 rfl (lv_at hl 0 rfl) ?_
  refine lv_iload_n hx hb dL_law_414 rfl (lv_at hl 3 rfl) ?_
  refine lv_iconst (v := (4 : Int32)) hx hb dL_law_415 (by decide) ?_
  refine lv_iadd hx hb dL_law_416 ?_
  obtain ⟨n_4, h⟩ := k_no h
  refine va_sld hx hb hX hbl hbA hS n_4 dL_law_417 ?_
  obtain ⟨v_5, σ_6, hc_7, h⟩ := kb_ok h
  refine lcc_i C Z.2 hP hQ hS (krunVG (As := [.long (((xs (x3 + (1 : Int32)).toNatClampNeg).toInt64 <<< ((32 : Int32).toInt64 &&& 63)) ||| ((xs (x3 + (2 : Int32)).toNatClampNeg).toInt64 &&& (4294967295 : Int64))), .int (xs (x3 + (3 : Int32)).toNatClampNeg), .int (xs (x3 + (4 : Int32)).toNatClampNeg)]) C (fun U hW => hK.warm hW) hP (c_X7_minutes E C.1 F σ (((xs (x3 + (1 : Int32)).toNatClampNeg).toInt64 <<< ((32 : Int32).toInt64 &&& 63)) ||| ((xs (x3 + (2 : Int32)).toNatClampNeg).toInt64 &&& (4294967295 : Int64))) (xs (x3 + (3 : Int32)).toNatClampNeg) (xs (x3 + (4 : Int32)).toNatClampNeg) hc_7) lw_w411 kv_X7_minutes ⟨Nat.le_of_ble_eq_true rfl, Nat.le_of_ble_eq_true rfl⟩ (rc_0 C hP) rfl hl.1 rfl (Nat.le_of_ble_eq_true rfl) dL_law_418 ⟨Nat.le_of_ble_eq_true rfl, Nat.le_of_ble_eq_true rfl⟩) (fun H locs hP hQ hS => ?_)
  refine lv_pop hx hb dL_law_421 rfl ?_
  refine lv_aload_n hx hb dL_law_422 rfl (lv_at hl 2 rfl) ?_
  refine lv_aload_n hx hb dL_law_423 rfl (lv_at hl 0 rfl) ?_
  refine lv_iload_n hx hb dL_law_424 rfl (lv_at hl 3 rfl) ?_
  refine lv_iconst (v := (1 : Int32)) hx hb dL_law_425 (by decide) ?_
  refine lv_iadd hx hb dL_law_426 ?_
  obtain ⟨n_8, h⟩ := k_no h
  refine va_sld hx hb hX hbl hbA hS n_8 dL_law_427 ?_
  refine lv_i2l (v := (xs (x3 + (1 : Int32)).toNatClampNeg).toInt64) hx hb dL_law_428 rfl ?_
  refine lv_bipush (v := (32 : Int32)) hx hb dL_law_429 (by decide) ?_
  refine lv_lshl (v := ((xs (x3 + (1 : Int32)).toNatClampNeg).toInt64 <<< ((32 : Int32).toInt64 &&& 63))) hx hb dL_law_431 rfl ?_
  refine lv_aload_n hx hb dL_law_432 rfl (lv_at hl 0 rfl) ?_
  refine lv_iload_n hx hb dL_law_433 rfl (lv_at hl 3 rfl) ?_
  refine lv_iconst (v := (2 : Int32)) hx hb dL_law_434 (by decide) ?_
  refine lv_iadd hx hb dL_law_435 ?_
  obtain ⟨n_9, h⟩ := k_no h
  refine va_sld hx hb hX hbl hbA hS n_9 dL_law_436 ?_
  refine lv_i2l (v := (xs (x3 + (2 : Int32)).toNatClampNeg).toInt64) hx hb dL_law_437 rfl ?_
  refine lv_ldc2 (v := (4294967295 : Int64)) hx hb hown (hts _ lw_w966) dL_law_438 ?_
  refine lv_land hx hb dL_law_441 ?_
  refine lv_lor hx hb dL_law_442 ?_
  refine lv_aload_n hx hb dL_law_443 rfl (lv_at hl 0 rfl) ?_
  refine lv_iload_n hx hb dL_law_444 rfl (lv_at hl 3 rfl) ?_
  refine lv_iconst (v := (3 : Int32)) hx hb dL_law_445 (by decide) ?_
  refine lv_iadd hx hb dL_law_446 ?_
  obtain ⟨n_10, h⟩ := k_no h
  refine va_sld hx hb hX hbl hbA hS n_10 dL_law_447 ?_
  refine lv_aload_n hx hb dL_law_448 rfl (lv_at hl 0 rfl) ?_
  refine lv_iload_n hx hb dL_law_449 rfl (lv_at hl 3 rfl) ?_
  refine lv_iconst (v := (4 : Int32)) hx hb dL_law_450 (by decide) ?_
  refine lv_iadd hx hb dL_law_451 ?_
  obtain ⟨n_11, h⟩ := k_no h
  refine va_sld hx hb hX hbl hbA hS n_11 dL_law_452 ?_
  obtain ⟨v_12, τ_13, hc_14, h⟩ := kb_ok h
  refine lcm_i C Z.2 hP hQ hS (krunVG (As := [.long (((xs (x3 + (1 : Int32)).toNatClampNeg).toInt64 <<< ((32 : Int32).toInt64 &&& 63)) ||| ((xs (x3 + (2 : Int32)).toNatClampNeg).toInt64 &&& (4294967295 : Int64))), .int (xs (x3 + (3 : Int32)).toNatClampNeg), .int (xs (x3 + (4 : Int32)).toNatClampNeg)]) C (fun U hW => hK.warm hW) hQ (c_X8_minutes E C.1 F τ (((xs (x3 + (1 : Int32)).toNatClampNeg).toInt64 <<< ((32 : Int32).toInt64 &&& 63)) ||| ((xs (x3 + (2 : Int32)).toNatClampNeg).toInt64 &&& (4294967295 : Int64))) (xs (x3 + (3 : Int32)).toNatClampNeg) (xs (x3 + (4 : Int32)).toNatClampNeg) hc_14) lw_w799 kv_X8_minutes ⟨Nat.le_of_ble_eq_true rfl, Nat.le_of_ble_eq_true rfl⟩ (rc_27 C hQ) rfl hl.1 rfl (Nat.le_of_ble_eq_true rfl) dL_law_453 ⟨Nat.le_of_ble_eq_true rfl, Nat.le_of_ble_eq_true rfl⟩) (fun H locs hP hQ hS => ?_)
  refine lv_pop hx hb dL_law_456 rfl ?_
  refine lv_goto (tgt := 1258) hx hb dL_law_457 (by decide) ?_
  exact w_L_1258 C Z F rec18 hrec σ_6 τ_13 x3 h H locs hP hQ hS ls hl
def s_L_460 (F L : Nat) (xs : Nat → Int32) (rec18 : kS × kS × Int32 → Option Unit) (σ τ : kS) (x3 : Int32) : Option Unit :=
  (if (x3 + (1 : Int32)) < 0 ∨ L ≤ (x3 + (1 : Int32)).toNatClampNeg then none else (if (x3 + (2 : Int32)) < 0 ∨ L ≤ (x3 + (2 : Int32)).toNatClampNeg then none else (if (x3 + (3 : Int32)) < 0 ∨ L ≤ (x3 + (3 : Int32)).toNatClampNeg then none else (kb (f_X7_next F σ (((xs (x3 + (1 : Int32)).toNatClampNeg).toInt64 <<< ((32 : Int32).toInt64 &&& 63)) ||| ((xs (x3 + (2 : Int32)).toNatClampNeg).toInt64 &&& (4294967295 : Int64))) (xs (x3 + (3 : Int32)).toNatClampNeg)) fun v_4 σ_5 => (if (x3 + (1 : Int32)) < 0 ∨ L ≤ (x3 + (1 : Int32)).toNatClampNeg then none else (if (x3 + (2 : Int32)) < 0 ∨ L ≤ (x3 + (2 : Int32)).toNatClampNeg then none else (if (x3 + (3 : Int32)) < 0 ∨ L ≤ (x3 + (3 : Int32)).toNatClampNeg then none else (kb (f_X8_next F τ (((xs (x3 + (1 : Int32)).toNatClampNeg).toInt64 <<< ((32 : Int32).toInt64 &&& 63)) ||| ((xs (x3 + (2 : Int32)).toNatClampNeg).toInt64 &&& (4294967295 : Int64))) (xs (x3 + (3 : Int32)).toNatClampNeg)) fun v_10 τ_11 => s_L_1258 F L xs rec18 σ_5 τ_11 x3))))))))
set_option maxRecDepth 100000 in
set_option maxHeartbeats 8000000 in
theorem w_L_460 (C : Cx E p s m #[Value.ref b] meth c cL_law 4 RL ret) (Z : lZ E s b L xs) (F : Nat) (rec18 : kS × kS × Int32 → Option Unit) (hrec : ∀ (σ τ : kS) (x3 : Int32), rec18 (σ, τ, x3) = some () → ∀ (H : Heap) (locs : List Loc), cP E σ H → mP E τ H → va_S (fun q : Nat => s.heap.size ≤ q) s.heap H locs → ∀ (ls : Array Slot), lv_has ls 4 [(0, .ref b), (1, .ref (eA E 0)), (2, .ref (eA E 27)), (3, .int x3)] → W p l e room_1 s m #[Value.ref b] below meth c H locs 39 1190 (lw_Z below #[Value.ref b] s) (F0 m 18 ls [])) (σ τ : kS) (x3 : Int32) (h : s_L_460 F L xs rec18 σ τ x3 = some ()) (H : Heap) (locs : List Loc) (hP : cP E σ H) (hQ : mP E τ H) (hS : va_S (fun q : Nat => s.heap.size ≤ q) s.heap H locs) (ls : Array Slot) (hl : lv_has ls 4 [(0, .ref b), (1, .ref (eA E 0)), (2, .ref (eA E 27)), (3, .int x3)]) : W p l e room_1 s m #[Value.ref b] below meth c H locs 39 1190 (lw_Z below #[Value.ref b] s) (F0 m 460 ls []) := by
  obtain ⟨-, hx, hb, hml, hown, hts, hK, hr, hlk⟩ := id C
  obtain ⟨⟨hX, hbl⟩, -⟩ := id Z
  have hbA : ¬ (fun q : Nat => s.heap.size ≤ q) b := Nat.not_le.mpr hbl
  unfold s_L_460 at h
  refine lv_aload_n hx hb dL_law_460 rfl (lv_at hl 1 rfl) ?_
  refine lv_aload_n hx hb dL_law_461 rfl (lv_at hl 0 rfl) ?_
  refine lv_iload_n hx hb dL_law_462 rfl (lv_at hl 3 rfl) ?_
  refine lv_iconst (v := (1 : Int32)) hx hb dL_law_463 (by decide) ?_
  refine lv_iadd hx hb dL_law_464 ?_
  obtain ⟨n_1, h⟩ := k_no h
  refine va_sld hx hb hX hbl hbA hS n_1 dL_law_465 ?_
  refine lv_i2l (v := (xs (x3 + (1 : Int32)).toNatClampNeg).toInt64) hx hb dL_law_466 rfl ?_
  refine lv_bipush (v := (32 : Int32)) hx hb dL_law_467 (by decide) ?_
  refine lv_lshl (v := ((xs (x3 + (1 : Int32)).toNatClampNeg).toInt64 <<< ((32 : Int32).toInt64 &&& 63))) hx hb dL_law_469 rfl ?_
  refine lv_aload_n hx hb dL_law_470 rfl (lv_at hl 0 rfl) ?_
  refine lv_iload_n hx hb dL_law_471 rfl (lv_at hl 3 rfl) ?_
  refine lv_iconst (v := (2 : Int32)) hx hb dL_law_472 (by decide) ?_
  refine lv_iadd hx hb dL_law_473 ?_
  obtain ⟨n_2, h⟩ := k_no h
  refine va_sld hx hb hX hbl hbA hS n_2 dL_law_474 ?_
  refine lv_i2l (v := (xs (x3 + (2 : Int32)).toNatClampNeg).toInt64) hx hb dL_law_475 rfl ?_
  refine lv_ldc2 (v := (4294967295 : Int64)) hx hb hown (hts _ lw_w966) dL_law_476 ?_
  refine lv_land hx hb dL_law_479 ?_
  refine lv_lor hx hb dL_law_480 ?_
  refine lv_aload_n hx hb dL_law_481 rfl (lv_at hl 0 rfl) ?_
  refine lv_iload_n hx hb dL_law_482 rfl (lv_at hl 3 rfl) ?_
  refine lv_iconst (v := (3 : Int32)) hx hb dL_law_483 (by decide) ?_
  refine lv_iadd hx hb dL_law_484 ?_
  obtain ⟨n_3, h⟩ := k_no h
  refine va_sld hx hb hX hbl hbA hS n_3 dL_law_485 ?_
  obtain ⟨v_4, σ_5, hc_6, h⟩ := kb_ok h
  refine lcc_l C Z.2 hP hQ hS (krunVG (As := [.long (((xs (x3 + (1 : Int32)).toNatClampNeg).toInt64 <<< ((32 : Int32).toInt64 &&& 63)) ||| ((xs (x3 + (2 : Int32)).toNatClampNeg).toInt64 &&& (4294967295 : Int64))), .int (xs (x3 + (3 : Int32)).toNatClampNeg)]) C (fun U hW => hK.warm hW) hP (c_X7_next E C.1 F σ (((xs (x3 + (1 : Int32)).toNatClampNeg).toInt64 <<< ((32 : Int32).toInt64 &&& 63)) ||| ((xs (x3 + (2 : Int32)).toNatClampNeg).toInt64 &&& (4294967295 : Int64))) (xs (x3 + (3 : Int32)).toNatClampNeg) hc_6) lw_w443 kv_X7_next ⟨Nat.le_of_ble_eq_true rfl, Nat.le_of_ble_eq_true rfl⟩ (rc_0 C hP) rfl hl.1 rfl (Nat.le_of_ble_eq_true rfl) dL_law_486 ⟨Nat.le_of_ble_eq_true rfl, Nat.le_of_ble_eq_true rfl⟩) (fun H locs hP hQ hS => ?_)
  refine lv_pop2_2 hx hb dL_law_489 rfl ?_
  refine lv_aload_n hx hb dL_law_490 rfl (lv_at hl 2 rfl) ?_
  refine lv_aload_n hx hb dL_law_491 rfl (lv_at hl 0 rfl) ?_
  refine lv_iload_n hx hb dL_law_492 rfl (lv_at hl 3 rfl) ?_
  refine lv_iconst (v := (1 : Int32)) hx hb dL_law_493 (by decide) ?_
  refine lv_iadd hx hb dL_law_494 ?_
  obtain ⟨n_7, h⟩ := k_no h
  refine va_sld hx hb hX hbl hbA hS n_7 dL_law_495 ?_
  refine lv_i2l (v := (xs (x3 + (1 : Int32)).toNatClampNeg).toInt64) hx hb dL_law_496 rfl ?_
  refine lv_bipush (v := (32 : Int32)) hx hb dL_law_497 (by decide) ?_
  refine lv_lshl (v := ((xs (x3 + (1 : Int32)).toNatClampNeg).toInt64 <<< ((32 : Int32).toInt64 &&& 63))) hx hb dL_law_499 rfl ?_
  refine lv_aload_n hx hb dL_law_500 rfl (lv_at hl 0 rfl) ?_
  refine lv_iload_n hx hb dL_law_501 rfl (lv_at hl 3 rfl) ?_
  refine lv_iconst (v := (2 : Int32)) hx hb dL_law_502 (by decide) ?_
  refine lv_iadd hx hb dL_law_503 ?_
  obtain ⟨n_8, h⟩ := k_no h
  refine va_sld hx hb hX hbl hbA hS n_8 dL_law_504 ?_
  refine lv_i2l (v := (xs (x3 + (2 : Int32)).toNatClampNeg).toInt64) hx hb dL_law_505 rfl ?_
  refine lv_ldc2 (v := (4294967295 : Int64)) hx hb hown (hts _ lw_w966) dL_law_506 ?_
  refine lv_land hx hb dL_law_509 ?_
  refine lv_lor hx hb dL_law_510 ?_
  refine lv_aload_n hx hb dL_law_511 rfl (lv_at hl 0 rfl) ?_
  refine lv_iload_n hx hb dL_law_512 rfl (lv_at hl 3 rfl) ?_
  refine lv_iconst (v := (3 : Int32)) hx hb dL_law_513 (by decide) ?_
  refine lv_iadd hx hb dL_law_514 ?_
  obtain ⟨n_9, h⟩ := k_no h
  refine va_sld hx hb hX hbl hbA hS n_9 dL_law_515 ?_
  obtain ⟨v_10, τ_11, hc_12, h⟩ := kb_ok h
  refine lcm_l C Z.2 hP hQ hS (krunVG (As := [.long (((xs (x3 + (1 : Int32)).toNatClampNeg).toInt64 <<< ((32 : Int32).toInt64 &&& 63)) ||| ((xs (x3 + (2 : Int32)).toNatClampNeg).toInt64 &&& (4294967295 : Int64))), .int (xs (x3 + (3 : Int32)).toNatClampNeg)]) C (fun U hW => hK.warm hW) hQ (c_X8_next E C.1 F τ (((xs (x3 + (1 : Int32)).toNatClampNeg).toInt64 <<< ((32 : Int32).toInt64 &&& 63)) ||| ((xs (x3 + (2 : Int32)).toNatClampNeg).toInt64 &&& (4294967295 : Int64))) (xs (x3 + (3 : Int32)).toNatClampNeg) hc_12) lw_w809 kv_X8_next ⟨Nat.le_of_ble_eq_true rfl, Nat.le_of_ble_eq_true rfl⟩ (rc_27 C hQ) rfl hl.1 rfl (Nat.le_of_ble_eq_true rfl) dL_law_516 ⟨Nat.le_of_ble_eq_true rfl, Nat.le_of_ble_eq_true rfl⟩) (fun H locs hP hQ hS => ?_)
  refine lv_pop2_2 hx hb dL_law_519 rfl ?_
  refine lv_goto (tgt := 1258) hx hb dL_law_520 (by decide) ?_
  exact w_L_1258 C Z F rec18 hrec σ_5 τ_11 x3 h H locs hP hQ hS ls hl
def s_L_523 (F L : Nat) (xs : Nat → Int32) (rec18 : kS × kS × Int32 → Option Unit) (σ τ : kS) (x3 : Int32) : Option Unit :=
  (if (x3 + (1 : Int32)) < 0 ∨ L ≤ (x3 + (1 : Int32)).toNatClampNeg then none else (if (x3 + (2 : Int32)) < 0 ∨ L ≤ (x3 + (2 : Int32)).toNatClampNeg then none else (if (x3 + (3 : Int32)) < 0 ∨ L ≤ (x3 + (3 : Int32)).toNatClampNeg then none else (kb (f_X7_lawful F σ (xs (x3 + (1 : Int32)).toNatClampNeg) (((xs (x3 + (2 : Int32)).toNatClampNeg).toInt64 <<< ((32 : Int32).toInt64 &&& 63)) ||| ((xs (x3 + (3 : Int32)).toNatClampNeg).toInt64 &&& (4294967295 : Int64)))) fun v_4 σ_5 => (if (x3 + (1 : Int32)) < 0 ∨ L ≤ (x3 + (1 : Int32)).toNatClampNeg then none else (if (x3 + (2 : Int32)) < 0 ∨ L ≤ (x3 + (2 : Int32)).toNatClampNeg then none else (if (x3 + (3 : Int32)) < 0 ∨ L ≤ (x3 + (3 : Int32)).toNatClampNeg then none else (kb (f_X8_lawful F τ (xs (x3 + (1 : Int32)).toNatClampNeg) (((xs (x3 + (2 : Int32)).toNatClampNeg).toInt64 <<< ((32 : Int32).toInt64 &&& 63)) ||| ((xs (x3 + (3 : Int32)).toNatClampNeg).toInt64 &&& (4294967295 : Int64)))) fun v_10 τ_11 => s_L_1258 F L xs rec18 σ_5 τ_11 x3))))))))
set_option maxRecDepth 100000 in
set_option maxHeartbeats 8000000 in
theorem w_L_523 (C : Cx E p s m #[Value.ref b] meth c cL_law 4 RL ret) (Z : lZ E s b L xs) (F : Nat) (rec18 : kS × kS × Int32 → Option Unit) (hrec : ∀ (σ τ : kS) (x3 : Int32), rec18 (σ, τ, x3) = some () → ∀ (H : Heap) (locs : List Loc), cP E σ H → mP E τ H → va_S (fun q : Nat => s.heap.size ≤ q) s.heap H locs → ∀ (ls : Array Slot), lv_has ls 4 [(0, .ref b), (1, .ref (eA E 0)), (2, .ref (eA E 27)), (3, .int x3)] → W p l e room_1 s m #[Value.ref b] below meth c H locs 39 1190 (lw_Z below #[Value.ref b] s) (F0 m 18 ls [])) (σ τ : kS) (x3 : Int32) (h : s_L_523 F L xs rec18 σ τ x3 = some ()) (H : Heap) (locs : List Loc) (hP : cP E σ H) (hQ : mP E τ H) (hS : va_S (fun q : Nat => s.heap.size ≤ q) s.heap H locs) (ls : Array Slot) (hl : lv_has ls 4 [(0, .ref b), (1, .ref (eA E 0)), (2, .ref (eA E 27)), (3, .int x3)]) : W p l e room_1 s m #[Value.ref b] below meth c H locs 39 1190 (lw_Z below #[Value.ref b] s) (F0 m 523 ls []) := by
  obtain ⟨-, hx, hb, hml, hown, hts, hK, hr, hlk⟩ := id C
  obtain ⟨⟨hX, hbl⟩, -⟩ := id Z
  have hbA : ¬ (fun q : Nat => s.heap.size ≤ q) b := Nat.not_le.mpr hbl
  unfold s_L_523 at h
  refine lv_aload_n hx hb dL_law_523 rfl (lv_at hl 1 rfl) ?_
  refine lv_aload_n hx hb dL_law_524 rfl (lv_at hl 0 rfl) ?_
  refine lv_iload_n hx hb dL_law_525 rfl (lv_at hl 3 rfl) ?_
  refine lv_iconst (v := (1 : Int32)) hx hb dL_law_526 (by decide) ?_
  refine lv_iadd hx hb dL_law_527 ?_
  obtain ⟨n_1, h⟩ := k_no h
  refine va_sld hx hb hX hbl hbA hS n_1 dL_law_528 ?_
  refine lv_aload_n hx hb dL_law_529 rfl (lv_at hl 0 rfl) ?_
  refine lv_iload_n hx hb dL_law_530 rfl (lv_at hl 3 rfl) ?_
  refine lv_iconst (v := (2 : Int32)) hx hb dL_law_531 (by decide) ?_
  refine lv_iadd hx hb dL_law_532 ?_
  obtain ⟨n_2, h⟩ := k_no h
  refine va_sld hx hb hX hbl hbA hS n_2 dL_law_533 ?_
  refine lv_i2l (v := (xs (x3 + (2 : Int32)).toNatClampNeg).toInt64) hx hb dL_law_534 rfl ?_
  refine lv_bipush (v := (32 : Int32)) hx hb dL_law_535 (by decide) ?_
  refine lv_lshl (v := ((xs (x3 + (2 : Int32)).toNatClampNeg).toInt64 <<< ((32 : Int32).toInt64 &&& 63))) hx hb dL_law_537 rfl ?_
  refine lv_aload_n hx hb dL_law_538 rfl (lv_at hl 0 rfl) ?_
  refine lv_iload_n hx hb dL_law_539 rfl (lv_at hl 3 rfl) ?_
  refine lv_iconst (v := (3 : Int32)) hx hb dL_law_540 (by decide) ?_
  refine lv_iadd hx hb dL_law_541 ?_
  obtain ⟨n_3, h⟩ := k_no h
  refine va_sld hx hb hX hbl hbA hS n_3 dL_law_542 ?_
  refine lv_i2l (v := (xs (x3 + (3 : Int32)).toNatClampNeg).toInt64) hx hb dL_law_543 rfl ?_
  refine lv_ldc2 (v := (4294967295 : Int64)) hx hb hown (hts _ lw_w966) dL_law_544 ?_
  refine lv_land hx hb dL_law_547 ?_
  refine lv_lor hx hb dL_law_548 ?_
  obtain ⟨v_4, σ_5, hc_6, h⟩ := kb_ok h
  refine lcc_i C Z.2 hP hQ hS (krunVG (As := [.int (xs (x3 + (1 : Int32)).toNatClampNeg), .long (((xs (x3 + (2 : Int32)).toNatClampNeg).toInt64 <<< ((32 : Int32).toInt64 &&& 63)) ||| ((xs (x3 + (3 : Int32)).toNatClampNeg).toInt64 &&& (4294967295 : Int64)))]) C (fun U hW => hK.warm hW) hP (c_X7_lawful E C.1 F σ (xs (x3 + (1 : Int32)).toNatClampNeg) (((xs (x3 + (2 : Int32)).toNatClampNeg).toInt64 <<< ((32 : Int32).toInt64 &&& 63)) ||| ((xs (x3 + (3 : Int32)).toNatClampNeg).toInt64 &&& (4294967295 : Int64))) hc_6) lw_w453 kv_X7_lawful ⟨Nat.le_of_ble_eq_true rfl, Nat.le_of_ble_eq_true rfl⟩ (rc_0 C hP) rfl hl.1 rfl (Nat.le_of_ble_eq_true rfl) dL_law_549 ⟨Nat.le_of_ble_eq_true rfl, Nat.le_of_ble_eq_true rfl⟩) (fun H locs hP hQ hS => ?_)
  refine lv_pop hx hb dL_law_552 rfl ?_
  refine lv_aload_n hx hb dL_law_553 rfl (lv_at hl 2 rfl) ?_
  refine lv_aload_n hx hb dL_law_554 rfl (lv_at hl 0 rfl) ?_
  refine lv_iload_n hx hb dL_law_555 rfl (lv_at hl 3 rfl) ?_
  refine lv_iconst (v := (1 : Int32)) hx hb dL_law_556 (by decide) ?_
  refine lv_iadd hx hb dL_law_557 ?_
  obtain ⟨n_7, h⟩ := k_no h
  refine va_sld hx hb hX hbl hbA hS n_7 dL_law_558 ?_
  refine lv_aload_n hx hb dL_law_559 rfl (lv_at hl 0 rfl) ?_
  refine lv_iload_n hx hb dL_law_560 rfl (lv_at hl 3 rfl) ?_
  refine lv_iconst (v := (2 : Int32)) hx hb dL_law_561 (by decide) ?_
  refine lv_iadd hx hb dL_law_562 ?_
  obtain ⟨n_8, h⟩ := k_no h
  refine va_sld hx hb hX hbl hbA hS n_8 dL_law_563 ?_
  refine lv_i2l (v := (xs (x3 + (2 : Int32)).toNatClampNeg).toInt64) hx hb dL_law_564 rfl ?_
  refine lv_bipush (v := (32 : Int32)) hx hb dL_law_565 (by decide) ?_
  refine lv_lshl (v := ((xs (x3 + (2 : Int32)).toNatClampNeg).toInt64 <<< ((32 : Int32).toInt64 &&& 63))) hx hb dL_law_567 rfl ?_
  refine lv_aload_n hx hb dL_law_568 rfl (lv_at hl 0 rfl) ?_
  refine lv_iload_n hx hb dL_law_569 rfl (lv_at hl 3 rfl) ?_
  refine lv_iconst (v := (3 : Int32)) hx hb dL_law_570 (by decide) ?_
  refine lv_iadd hx hb dL_law_571 ?_
  obtain ⟨n_9, h⟩ := k_no h
  refine va_sld hx hb hX hbl hbA hS n_9 dL_law_572 ?_
  refine lv_i2l (v := (xs (x3 + (3 : Int32)).toNatClampNeg).toInt64) hx hb dL_law_573 rfl ?_
  refine lv_ldc2 (v := (4294967295 : Int64)) hx hb hown (hts _ lw_w966) dL_law_574 ?_
  refine lv_land hx hb dL_law_577 ?_
  refine lv_lor hx hb dL_law_578 ?_
  obtain ⟨v_10, τ_11, hc_12, h⟩ := kb_ok h
  refine lcm_i C Z.2 hP hQ hS (krunVG (As := [.int (xs (x3 + (1 : Int32)).toNatClampNeg), .long (((xs (x3 + (2 : Int32)).toNatClampNeg).toInt64 <<< ((32 : Int32).toInt64 &&& 63)) ||| ((xs (x3 + (3 : Int32)).toNatClampNeg).toInt64 &&& (4294967295 : Int64)))]) C (fun U hW => hK.warm hW) hQ (c_X8_lawful E C.1 F τ (xs (x3 + (1 : Int32)).toNatClampNeg) (((xs (x3 + (2 : Int32)).toNatClampNeg).toInt64 <<< ((32 : Int32).toInt64 &&& 63)) ||| ((xs (x3 + (3 : Int32)).toNatClampNeg).toInt64 &&& (4294967295 : Int64))) hc_12) lw_w816 kv_X8_lawful ⟨Nat.le_of_ble_eq_true rfl, Nat.le_of_ble_eq_true rfl⟩ (rc_27 C hQ) rfl hl.1 rfl (Nat.le_of_ble_eq_true rfl) dL_law_579 ⟨Nat.le_of_ble_eq_true rfl, Nat.le_of_ble_eq_true rfl⟩) (fun H locs hP hQ hS => ?_)
  refine lv_pop hx hb dL_law_582 rfl ?_
  refine lv_goto (tgt := 1258) hx hb dL_law_583 (by decide) ?_
  exact w_L_1258 C Z F rec18 hrec σ_5 τ_11 x3 h H locs hP hQ hS ls hl
def s_L_586 (F L : Nat) (xs : Nat → Int32) (rec18 : kS × kS × Int32 → Option Unit) (σ τ : kS) (x3 : Int32) : Option Unit :=
  (if (x3 + (1 : Int32)) < 0 ∨ L ≤ (x3 + (1 : Int32)).toNatClampNeg then none else (kb (f_X7_tell F σ (xs (x3 + (1 : Int32)).toNatClampNeg)) fun v_2 σ_3 => (if (x3 + (1 : Int32)) < 0 ∨ L ≤ (x3 + (1 : Int32)).toNatClampNeg then none else (kb (f_X8_tell F τ (xs (x3 + (1 : Int32)).toNatClampNeg)) fun v_6 τ_7 => s_L_1258 F L xs rec18 σ_3 τ_7 x3))))
set_option maxRecDepth 100000 in
set_option maxHeartbeats 8000000 in
theorem w_L_586 (C : Cx E p s m #[Value.ref b] meth c cL_law 4 RL ret) (Z : lZ E s b L xs) (F : Nat) (rec18 : kS × kS × Int32 → Option Unit) (hrec : ∀ (σ τ : kS) (x3 : Int32), rec18 (σ, τ, x3) = some () → ∀ (H : Heap) (locs : List Loc), cP E σ H → mP E τ H → va_S (fun q : Nat => s.heap.size ≤ q) s.heap H locs → ∀ (ls : Array Slot), lv_has ls 4 [(0, .ref b), (1, .ref (eA E 0)), (2, .ref (eA E 27)), (3, .int x3)] → W p l e room_1 s m #[Value.ref b] below meth c H locs 39 1190 (lw_Z below #[Value.ref b] s) (F0 m 18 ls [])) (σ τ : kS) (x3 : Int32) (h : s_L_586 F L xs rec18 σ τ x3 = some ()) (H : Heap) (locs : List Loc) (hP : cP E σ H) (hQ : mP E τ H) (hS : va_S (fun q : Nat => s.heap.size ≤ q) s.heap H locs) (ls : Array Slot) (hl : lv_has ls 4 [(0, .ref b), (1, .ref (eA E 0)), (2, .ref (eA E 27)), (3, .int x3)]) : W p l e room_1 s m #[Value.ref b] below meth c H locs 39 1190 (lw_Z below #[Value.ref b] s) (F0 m 586 ls []) := by
  obtain ⟨-, hx, hb, hml, hown, hts, hK, hr, hlk⟩ := id C
  obtain ⟨⟨hX, hbl⟩, -⟩ := id Z
  have hbA : ¬ (fun q : Nat => s.heap.size ≤ q) b := Nat.not_le.mpr hbl
  unfold s_L_586 at h
  refine lv_aload_n hx hb dL_law_586 rfl (lv_at hl 1 rfl) ?_
  refine lv_aload_n hx hb dL_law_587 rfl (lv_at hl 0 rfl) ?_
  refine lv_iload_n hx hb dL_law_588 rfl (lv_at hl 3 rfl) ?_
  refine lv_iconst (v := (1 : Int32)) hx hb dL_law_589 (by decide) ?_
  refine lv_iadd hx hb dL_law_590 ?_
  obtain ⟨n_1, h⟩ := k_no h
  refine va_sld hx hb hX hbl hbA hS n_1 dL_law_591 ?_
  obtain ⟨v_2, σ_3, hc_4, h⟩ := kb_ok h
  refine lcc_i C Z.2 hP hQ hS (krunVG (As := [.int (xs (x3 + (1 : Int32)).toNatClampNeg)]) C (fun U hW => hK.warm hW) hP (c_X7_tell E C.1 F σ (xs (x3 + (1 : Int32)).toNatClampNeg) hc_4) lw_w463 kv_X7_tell ⟨Nat.le_of_ble_eq_true rfl, Nat.le_of_ble_eq_true rfl⟩ (rc_0 C hP) rfl hl.1 rfl (Nat.le_of_ble_eq_true rfl) dL_law_592 ⟨Nat.le_of_ble_eq_true rfl, Nat.le_of_ble_eq_true rfl⟩) (fun H locs hP hQ hS => ?_)
  refine lv_pop hx hb dL_law_595 rfl ?_
  refine lv_aload_n hx hb dL_law_596 rfl (lv_at hl 2 rfl) ?_
  refine lv_aload_n hx hb dL_law_597 rfl (lv_at hl 0 rfl) ?_
  refine lv_iload_n hx hb dL_law_598 rfl (lv_at hl 3 rfl) ?_
  refine lv_iconst (v := (1 : Int32)) hx hb dL_law_599 (by decide) ?_
  refine lv_iadd hx hb dL_law_600 ?_
  obtain ⟨n_5, h⟩ := k_no h
  refine va_sld hx hb hX hbl hbA hS n_5 dL_law_601 ?_
  obtain ⟨v_6, τ_7, hc_8, h⟩ := kb_ok h
  refine lcm_i C Z.2 hP hQ hS (krunVG (As := [.int (xs (x3 + (1 : Int32)).toNatClampNeg)]) C (fun U hW => hK.warm hW) hQ (c_X8_tell E C.1 F τ (xs (x3 + (1 : Int32)).toNatClampNeg) hc_8) lw_w828 kv_X8_tell ⟨Nat.le_of_ble_eq_true rfl, Nat.le_of_ble_eq_true rfl⟩ (rc_27 C hQ) rfl hl.1 rfl (Nat.le_of_ble_eq_true rfl) dL_law_602 ⟨Nat.le_of_ble_eq_true rfl, Nat.le_of_ble_eq_true rfl⟩) (fun H locs hP hQ hS => ?_)
  refine lv_pop hx hb dL_law_605 rfl ?_
  refine lv_goto (tgt := 1258) hx hb dL_law_606 (by decide) ?_
  exact w_L_1258 C Z F rec18 hrec σ_3 τ_7 x3 h H locs hP hQ hS ls hl
def s_L_609 (F L : Nat) (xs : Nat → Int32) (rec18 : kS × kS × Int32 → Option Unit) (σ τ : kS) (x3 : Int32) : Option Unit :=
  (kb (f_X7_noRow F σ) fun v_1 σ_2 => (kb (f_X8_noRow F τ) fun v_4 τ_5 => s_L_1258 F L xs rec18 σ_2 τ_5 x3))
set_option maxRecDepth 100000 in
set_option maxHeartbeats 8000000 in
theorem w_L_609 (C : Cx E p s m #[Value.ref b] meth c cL_law 4 RL ret) (Z : lZ E s b L xs) (F : Nat) (rec18 : kS × kS × Int32 → Option Unit) (hrec : ∀ (σ τ : kS) (x3 : Int32), rec18 (σ, τ, x3) = some () → ∀ (H : Heap) (locs : List Loc), cP E σ H → mP E τ H → va_S (fun q : Nat => s.heap.size ≤ q) s.heap H locs → ∀ (ls : Array Slot), lv_has ls 4 [(0, .ref b), (1, .ref (eA E 0)), (2, .ref (eA E 27)), (3, .int x3)] → W p l e room_1 s m #[Value.ref b] below meth c H locs 39 1190 (lw_Z below #[Value.ref b] s) (F0 m 18 ls [])) (σ τ : kS) (x3 : Int32) (h : s_L_609 F L xs rec18 σ τ x3 = some ()) (H : Heap) (locs : List Loc) (hP : cP E σ H) (hQ : mP E τ H) (hS : va_S (fun q : Nat => s.heap.size ≤ q) s.heap H locs) (ls : Array Slot) (hl : lv_has ls 4 [(0, .ref b), (1, .ref (eA E 0)), (2, .ref (eA E 27)), (3, .int x3)]) : W p l e room_1 s m #[Value.ref b] below meth c H locs 39 1190 (lw_Z below #[Value.ref b] s) (F0 m 609 ls []) := by
  obtain ⟨-, hx, hb, hml, hown, hts, hK, hr, hlk⟩ := id C
  obtain ⟨⟨hX, hbl⟩, -⟩ := id Z
  have hbA : ¬ (fun q : Nat => s.heap.size ≤ q) b := Nat.not_le.mpr hbl
  unfold s_L_609 at h
  refine lv_aload_n hx hb dL_law_609 rfl (lv_at hl 1 rfl) ?_
  obtain ⟨v_1, σ_2, hc_3, h⟩ := kb_ok h
  refine lcc_i C Z.2 hP hQ hS (krunVG (As := []) C (fun U hW => hK.warm hW) hP (c_X7_noRow E C.1 F σ hc_3) lw_w467 kv_X7_noRow ⟨Nat.le_of_ble_eq_true rfl, Nat.le_of_ble_eq_true rfl⟩ (rc_0 C hP) rfl hl.1 rfl (Nat.le_of_ble_eq_true rfl) dL_law_610 ⟨Nat.le_of_ble_eq_true rfl, Nat.le_of_ble_eq_true rfl⟩) (fun H locs hP hQ hS => ?_)
  refine lv_pop hx hb dL_law_613 rfl ?_
  refine lv_aload_n hx hb dL_law_614 rfl (lv_at hl 2 rfl) ?_
  obtain ⟨v_4, τ_5, hc_6, h⟩ := kb_ok h
  refine lcm_i C Z.2 hP hQ hS (krunVG (As := []) C (fun U hW => hK.warm hW) hQ (c_X8_noRow E C.1 F τ hc_6) lw_w832 kv_X8_noRow ⟨Nat.le_of_ble_eq_true rfl, Nat.le_of_ble_eq_true rfl⟩ (rc_27 C hQ) rfl hl.1 rfl (Nat.le_of_ble_eq_true rfl) dL_law_615 ⟨Nat.le_of_ble_eq_true rfl, Nat.le_of_ble_eq_true rfl⟩) (fun H locs hP hQ hS => ?_)
  refine lv_pop hx hb dL_law_618 rfl ?_
  refine lv_goto (tgt := 1258) hx hb dL_law_619 (by decide) ?_
  exact w_L_1258 C Z F rec18 hrec σ_2 τ_5 x3 h H locs hP hQ hS ls hl
def s_L_622 (F L : Nat) (xs : Nat → Int32) (rec18 : kS × kS × Int32 → Option Unit) (σ τ : kS) (x3 : Int32) : Option Unit :=
  (if (x3 + (1 : Int32)) < 0 ∨ L ≤ (x3 + (1 : Int32)).toNatClampNeg then none else (if (x3 + (2 : Int32)) < 0 ∨ L ≤ (x3 + (2 : Int32)).toNatClampNeg then none else (if (x3 + (3 : Int32)) < 0 ∨ L ≤ (x3 + (3 : Int32)).toNatClampNeg then none else (kb (f_X7_soon F σ (((xs (x3 + (1 : Int32)).toNatClampNeg).toInt64 <<< ((32 : Int32).toInt64 &&& 63)) ||| ((xs (x3 + (2 : Int32)).toNatClampNeg).toInt64 &&& (4294967295 : Int64))) (xs (x3 + (3 : Int32)).toNatClampNeg)) fun v_4 σ_5 => (if (x3 + (1 : Int32)) < 0 ∨ L ≤ (x3 + (1 : Int32)).toNatClampNeg then none else (if (x3 + (2 : Int32)) < 0 ∨ L ≤ (x3 + (2 : Int32)).toNatClampNeg then none else (if (x3 + (3 : Int32)) < 0 ∨ L ≤ (x3 + (3 : Int32)).toNatClampNeg then none else (kb (f_X8_soon F τ (((xs (x3 + (1 : Int32)).toNatClampNeg).toInt64 <<< ((32 : Int32).toInt64 &&& 63)) ||| ((xs (x3 + (2 : Int32)).toNatClampNeg).toInt64 &&& (4294967295 : Int64))) (xs (x3 + (3 : Int32)).toNatClampNeg)) fun v_10 τ_11 => s_L_1258 F L xs rec18 σ_5 τ_11 x3))))))))
set_option maxRecDepth 100000 in
set_option maxHeartbeats 8000000 in
theorem w_L_622 (C : Cx E p s m #[Value.ref b] meth c cL_law 4 RL ret) (Z : lZ E s b L xs) (F : Nat) (rec18 : kS × kS × Int32 → Option Unit) (hrec : ∀ (σ τ : kS) (x3 : Int32), rec18 (σ, τ, x3) = some () → ∀ (H : Heap) (locs : List Loc), cP E σ H → mP E τ H → va_S (fun q : Nat => s.heap.size ≤ q) s.heap H locs → ∀ (ls : Array Slot), lv_has ls 4 [(0, .ref b), (1, .ref (eA E 0)), (2, .ref (eA E 27)), (3, .int x3)] → W p l e room_1 s m #[Value.ref b] below meth c H locs 39 1190 (lw_Z below #[Value.ref b] s) (F0 m 18 ls [])) (σ τ : kS) (x3 : Int32) (h : s_L_622 F L xs rec18 σ τ x3 = some ()) (H : Heap) (locs : List Loc) (hP : cP E σ H) (hQ : mP E τ H) (hS : va_S (fun q : Nat => s.heap.size ≤ q) s.heap H locs) (ls : Array Slot) (hl : lv_has ls 4 [(0, .ref b), (1, .ref (eA E 0)), (2, .ref (eA E 27)), (3, .int x3)]) : W p l e room_1 s m #[Value.ref b] below meth c H locs 39 1190 (lw_Z below #[Value.ref b] s) (F0 m 622 ls []) := by
  obtain ⟨-, hx, hb, hml, hown, hts, hK, hr, hlk⟩ := id C
  obtain ⟨⟨hX, hbl⟩, -⟩ := id Z
  have hbA : ¬ (fun q : Nat => s.heap.size ≤ q) b := Nat.not_le.mpr hbl
  unfold s_L_622 at h
  refine lv_aload_n hx hb dL_law_622 rfl (lv_at hl 1 rfl) ?_
  refine lv_aload_n hx hb dL_law_623 rfl (lv_at hl 0 rfl) ?_
  refine lv_iload_n hx hb dL_law_624 rfl (lv_at hl 3 rfl) ?_
  refine lv_iconst (v := (1 : Int32)) hx hb dL_law_625 (by decide) ?_
  refine lv_iadd hx hb dL_law_626 ?_
  obtain ⟨n_1, h⟩ := k_no h
  refine va_sld hx hb hX hbl hbA hS n_1 dL_law_627 ?_
  refine lv_i2l (v := (xs (x3 + (1 : Int32)).toNatClampNeg).toInt64) hx hb dL_law_628 rfl ?_
  refine lv_bipush (v := (32 : Int32)) hx hb dL_law_629 (by decide) ?_
  refine lv_lshl (v := ((xs (x3 + (1 : Int32)).toNatClampNeg).toInt64 <<< ((32 : Int32).toInt64 &&& 63))) hx hb dL_law_631 rfl ?_
  refine lv_aload_n hx hb dL_law_632 rfl (lv_at hl 0 rfl) ?_
  refine lv_iload_n hx hb dL_law_633 rfl (lv_at hl 3 rfl) ?_
  refine lv_iconst (v := (2 : Int32)) hx hb dL_law_634 (by decide) ?_
  refine lv_iadd hx hb dL_law_635 ?_
  obtain ⟨n_2, h⟩ := k_no h
  refine va_sld hx hb hX hbl hbA hS n_2 dL_law_636 ?_
  refine lv_i2l (v := (xs (x3 + (2 : Int32)).toNatClampNeg).toInt64) hx hb dL_law_637 rfl ?_
  refine lv_ldc2 (v := (4294967295 : Int64)) hx hb hown (hts _ lw_w966) dL_law_638 ?_
  refine lv_land hx hb dL_law_641 ?_
  refine lv_lor hx hb dL_law_642 ?_
  refine lv_aload_n hx hb dL_law_643 rfl (lv_at hl 0 rfl) ?_
  refine lv_iload_n hx hb dL_law_644 rfl (lv_at hl 3 rfl) ?_
  refine lv_iconst (v := (3 : Int32)) hx hb dL_law_645 (by decide) ?_
  refine lv_iadd hx hb dL_law_646 ?_
  obtain ⟨n_3, h⟩ := k_no h
  refine va_sld hx hb hX hbl hbA hS n_3 dL_law_647 ?_
  obtain ⟨v_4, σ_5, hc_6, h⟩ := kb_ok h
  refine lcc_l C Z.2 hP hQ hS (krunVG (As := [.long (((xs (x3 + (1 : Int32)).toNatClampNeg).toInt64 <<< ((32 : Int32).toInt64 &&& 63)) ||| ((xs (x3 + (2 : Int32)).toNatClampNeg).toInt64 &&& (4294967295 : Int64))), .int (xs (x3 + (3 : Int32)).toNatClampNeg)]) C (fun U hW => hK.warm hW) hP (c_X7_soon E C.1 F σ (((xs (x3 + (1 : Int32)).toNatClampNeg).toInt64 <<< ((32 : Int32).toInt64 &&& 63)) ||| ((xs (x3 + (2 : Int32)).toNatClampNeg).toInt64 &&& (4294967295 : Int64))) (xs (x3 + (3 : Int32)).toNatClampNeg) hc_6) lw_w471 kv_X7_soon ⟨Nat.le_of_ble_eq_true rfl, Nat.le_of_ble_eq_true rfl⟩ (rc_0 C hP) rfl hl.1 rfl (Nat.le_of_ble_eq_true rfl) dL_law_648 ⟨Nat.le_of_ble_eq_true rfl, Nat.le_of_ble_eq_true rfl⟩) (fun H locs hP hQ hS => ?_)
  refine lv_pop2_2 hx hb dL_law_651 rfl ?_
  refine lv_aload_n hx hb dL_law_652 rfl (lv_at hl 2 rfl) ?_
  refine lv_aload_n hx hb dL_law_653 rfl (lv_at hl 0 rfl) ?_
  refine lv_iload_n hx hb dL_law_654 rfl (lv_at hl 3 rfl) ?_
  refine lv_iconst (v := (1 : Int32)) hx hb dL_law_655 (by decide) ?_
  refine lv_iadd hx hb dL_law_656 ?_
  obtain ⟨n_7, h⟩ := k_no h
  refine va_sld hx hb hX hbl hbA hS n_7 dL_law_657 ?_
  refine lv_i2l (v := (xs (x3 + (1 : Int32)).toNatClampNeg).toInt64) hx hb dL_law_658 rfl ?_
  refine lv_bipush (v := (32 : Int32)) hx hb dL_law_659 (by decide) ?_
  refine lv_lshl (v := ((xs (x3 + (1 : Int32)).toNatClampNeg).toInt64 <<< ((32 : Int32).toInt64 &&& 63))) hx hb dL_law_661 rfl ?_
  refine lv_aload_n hx hb dL_law_662 rfl (lv_at hl 0 rfl) ?_
  refine lv_iload_n hx hb dL_law_663 rfl (lv_at hl 3 rfl) ?_
  refine lv_iconst (v := (2 : Int32)) hx hb dL_law_664 (by decide) ?_
  refine lv_iadd hx hb dL_law_665 ?_
  obtain ⟨n_8, h⟩ := k_no h
  refine va_sld hx hb hX hbl hbA hS n_8 dL_law_666 ?_
  refine lv_i2l (v := (xs (x3 + (2 : Int32)).toNatClampNeg).toInt64) hx hb dL_law_667 rfl ?_
  refine lv_ldc2 (v := (4294967295 : Int64)) hx hb hown (hts _ lw_w966) dL_law_668 ?_
  refine lv_land hx hb dL_law_671 ?_
  refine lv_lor hx hb dL_law_672 ?_
  refine lv_aload_n hx hb dL_law_673 rfl (lv_at hl 0 rfl) ?_
  refine lv_iload_n hx hb dL_law_674 rfl (lv_at hl 3 rfl) ?_
  refine lv_iconst (v := (3 : Int32)) hx hb dL_law_675 (by decide) ?_
  refine lv_iadd hx hb dL_law_676 ?_
  obtain ⟨n_9, h⟩ := k_no h
  refine va_sld hx hb hX hbl hbA hS n_9 dL_law_677 ?_
  obtain ⟨v_10, τ_11, hc_12, h⟩ := kb_ok h
  refine lcm_l C Z.2 hP hQ hS (krunVG (As := [.long (((xs (x3 + (1 : Int32)).toNatClampNeg).toInt64 <<< ((32 : Int32).toInt64 &&& 63)) ||| ((xs (x3 + (2 : Int32)).toNatClampNeg).toInt64 &&& (4294967295 : Int64))), .int (xs (x3 + (3 : Int32)).toNatClampNeg)]) C (fun U hW => hK.warm hW) hQ (c_X8_soon E C.1 F τ (((xs (x3 + (1 : Int32)).toNatClampNeg).toInt64 <<< ((32 : Int32).toInt64 &&& 63)) ||| ((xs (x3 + (2 : Int32)).toNatClampNeg).toInt64 &&& (4294967295 : Int64))) (xs (x3 + (3 : Int32)).toNatClampNeg) hc_12) lw_w836 kv_X8_soon ⟨Nat.le_of_ble_eq_true rfl, Nat.le_of_ble_eq_true rfl⟩ (rc_27 C hQ) rfl hl.1 rfl (Nat.le_of_ble_eq_true rfl) dL_law_678 ⟨Nat.le_of_ble_eq_true rfl, Nat.le_of_ble_eq_true rfl⟩) (fun H locs hP hQ hS => ?_)
  refine lv_pop2_2 hx hb dL_law_681 rfl ?_
  refine lv_goto (tgt := 1258) hx hb dL_law_682 (by decide) ?_
  exact w_L_1258 C Z F rec18 hrec σ_5 τ_11 x3 h H locs hP hQ hS ls hl
def s_L_685 (F L : Nat) (xs : Nat → Int32) (rec18 : kS × kS × Int32 → Option Unit) (σ τ : kS) (x3 : Int32) : Option Unit :=
  (if (x3 + (1 : Int32)) < 0 ∨ L ≤ (x3 + (1 : Int32)).toNatClampNeg then none else (kb (f_X7_pass F σ (xs (x3 + (1 : Int32)).toNatClampNeg)) fun v_2 σ_3 => (if (x3 + (1 : Int32)) < 0 ∨ L ≤ (x3 + (1 : Int32)).toNatClampNeg then none else (kb (f_X8_pass F τ (xs (x3 + (1 : Int32)).toNatClampNeg)) fun v_6 τ_7 => s_L_1258 F L xs rec18 σ_3 τ_7 x3))))
set_option maxRecDepth 100000 in
set_option maxHeartbeats 8000000 in
theorem w_L_685 (C : Cx E p s m #[Value.ref b] meth c cL_law 4 RL ret) (Z : lZ E s b L xs) (F : Nat) (rec18 : kS × kS × Int32 → Option Unit) (hrec : ∀ (σ τ : kS) (x3 : Int32), rec18 (σ, τ, x3) = some () → ∀ (H : Heap) (locs : List Loc), cP E σ H → mP E τ H → va_S (fun q : Nat => s.heap.size ≤ q) s.heap H locs → ∀ (ls : Array Slot), lv_has ls 4 [(0, .ref b), (1, .ref (eA E 0)), (2, .ref (eA E 27)), (3, .int x3)] → W p l e room_1 s m #[Value.ref b] below meth c H locs 39 1190 (lw_Z below #[Value.ref b] s) (F0 m 18 ls [])) (σ τ : kS) (x3 : Int32) (h : s_L_685 F L xs rec18 σ τ x3 = some ()) (H : Heap) (locs : List Loc) (hP : cP E σ H) (hQ : mP E τ H) (hS : va_S (fun q : Nat => s.heap.size ≤ q) s.heap H locs) (ls : Array Slot) (hl : lv_has ls 4 [(0, .ref b), (1, .ref (eA E 0)), (2, .ref (eA E 27)), (3, .int x3)]) : W p l e room_1 s m #[Value.ref b] below meth c H locs 39 1190 (lw_Z below #[Value.ref b] s) (F0 m 685 ls []) := by
  obtain ⟨-, hx, hb, hml, hown, hts, hK, hr, hlk⟩ := id C
  obtain ⟨⟨hX, hbl⟩, -⟩ := id Z
  have hbA : ¬ (fun q : Nat => s.heap.size ≤ q) b := Nat.not_le.mpr hbl
  unfold s_L_685 at h
  refine lv_aload_n hx hb dL_law_685 rfl (lv_at hl 1 rfl) ?_
  refine lv_aload_n hx hb dL_law_686 rfl (lv_at hl 0 rfl) ?_
  refine lv_iload_n hx hb dL_law_687 rfl (lv_at hl 3 rfl) ?_
  refine lv_iconst (v := (1 : Int32)) hx hb dL_law_688 (by decide) ?_
  refine lv_iadd hx hb dL_law_689 ?_
  obtain ⟨n_1, h⟩ := k_no h
  refine va_sld hx hb hX hbl hbA hS n_1 dL_law_690 ?_
  obtain ⟨v_2, σ_3, hc_4, h⟩ := kb_ok h
  refine lcc_l C Z.2 hP hQ hS (krunVG (As := [.int (xs (x3 + (1 : Int32)).toNatClampNeg)]) C (fun U hW => hK.warm hW) hP (c_X7_pass E C.1 F σ (xs (x3 + (1 : Int32)).toNatClampNeg) hc_4) lw_w485 kv_X7_pass ⟨Nat.le_of_ble_eq_true rfl, Nat.le_of_ble_eq_true rfl⟩ (rc_0 C hP) rfl hl.1 rfl (Nat.le_of_ble_eq_true rfl) dL_law_691 ⟨Nat.le_of_ble_eq_true rfl, Nat.le_of_ble_eq_true rfl⟩) (fun H locs hP hQ hS => ?_)
  refine lv_pop2_2 hx hb dL_law_694 rfl ?_
  refine lv_aload_n hx hb dL_law_695 rfl (lv_at hl 2 rfl) ?_
  refine lv_aload_n hx hb dL_law_696 rfl (lv_at hl 0 rfl) ?_
  refine lv_iload_n hx hb dL_law_697 rfl (lv_at hl 3 rfl) ?_
  refine lv_iconst (v := (1 : Int32)) hx hb dL_law_698 (by decide) ?_
  refine lv_iadd hx hb dL_law_699 ?_
  obtain ⟨n_5, h⟩ := k_no h
  refine va_sld hx hb hX hbl hbA hS n_5 dL_law_700 ?_
  obtain ⟨v_6, τ_7, hc_8, h⟩ := kb_ok h
  refine lcm_l C Z.2 hP hQ hS (krunVG (As := [.int (xs (x3 + (1 : Int32)).toNatClampNeg)]) C (fun U hW => hK.warm hW) hQ (c_X8_pass E C.1 F τ (xs (x3 + (1 : Int32)).toNatClampNeg) hc_8) lw_w845 kv_X8_pass ⟨Nat.le_of_ble_eq_true rfl, Nat.le_of_ble_eq_true rfl⟩ (rc_27 C hQ) rfl hl.1 rfl (Nat.le_of_ble_eq_true rfl) dL_law_701 ⟨Nat.le_of_ble_eq_true rfl, Nat.le_of_ble_eq_true rfl⟩) (fun H locs hP hQ hS => ?_)
  refine lv_pop2_2 hx hb dL_law_704 rfl ?_
  refine lv_goto (tgt := 1258) hx hb dL_law_705 (by decide) ?_
  exact w_L_1258 C Z F rec18 hrec σ_3 τ_7 x3 h H locs hP hQ hS ls hl
def s_L_708 (F L : Nat) (xs : Nat → Int32) (rec18 : kS × kS × Int32 → Option Unit) (σ τ : kS) (x3 : Int32) : Option Unit :=
  (if (x3 + (1 : Int32)) < 0 ∨ L ≤ (x3 + (1 : Int32)).toNatClampNeg then none else (kb (f_X7_doAct F σ (xs (x3 + (1 : Int32)).toNatClampNeg)) fun v_2 σ_3 => (if (x3 + (1 : Int32)) < 0 ∨ L ≤ (x3 + (1 : Int32)).toNatClampNeg then none else (kb (f_X8_doAct F τ (xs (x3 + (1 : Int32)).toNatClampNeg)) fun v_6 τ_7 => s_L_1258 F L xs rec18 σ_3 τ_7 x3))))
set_option maxRecDepth 100000 in
set_option maxHeartbeats 8000000 in
theorem w_L_708 (C : Cx E p s m #[Value.ref b] meth c cL_law 4 RL ret) (Z : lZ E s b L xs) (F : Nat) (rec18 : kS × kS × Int32 → Option Unit) (hrec : ∀ (σ τ : kS) (x3 : Int32), rec18 (σ, τ, x3) = some () → ∀ (H : Heap) (locs : List Loc), cP E σ H → mP E τ H → va_S (fun q : Nat => s.heap.size ≤ q) s.heap H locs → ∀ (ls : Array Slot), lv_has ls 4 [(0, .ref b), (1, .ref (eA E 0)), (2, .ref (eA E 27)), (3, .int x3)] → W p l e room_1 s m #[Value.ref b] below meth c H locs 39 1190 (lw_Z below #[Value.ref b] s) (F0 m 18 ls [])) (σ τ : kS) (x3 : Int32) (h : s_L_708 F L xs rec18 σ τ x3 = some ()) (H : Heap) (locs : List Loc) (hP : cP E σ H) (hQ : mP E τ H) (hS : va_S (fun q : Nat => s.heap.size ≤ q) s.heap H locs) (ls : Array Slot) (hl : lv_has ls 4 [(0, .ref b), (1, .ref (eA E 0)), (2, .ref (eA E 27)), (3, .int x3)]) : W p l e room_1 s m #[Value.ref b] below meth c H locs 39 1190 (lw_Z below #[Value.ref b] s) (F0 m 708 ls []) := by
  obtain ⟨-, hx, hb, hml, hown, hts, hK, hr, hlk⟩ := id C
  obtain ⟨⟨hX, hbl⟩, -⟩ := id Z
  have hbA : ¬ (fun q : Nat => s.heap.size ≤ q) b := Nat.not_le.mpr hbl
  unfold s_L_708 at h
  refine lv_aload_n hx hb dL_law_708 rfl (lv_at hl 1 rfl) ?_
  refine lv_aload_n hx hb dL_law_709 rfl (lv_at hl 0 rfl) ?_
  refine lv_iload_n hx hb dL_law_710 rfl (lv_at hl 3 rfl) ?_
  refine lv_iconst (v := (1 : Int32)) hx hb dL_law_711 (by decide) ?_
  refine lv_iadd hx hb dL_law_712 ?_
  obtain ⟨n_1, h⟩ := k_no h
  refine va_sld hx hb hX hbl hbA hS n_1 dL_law_713 ?_
  obtain ⟨v_2, σ_3, hc_4, h⟩ := kb_ok h
  refine lcc_l C Z.2 hP hQ hS (krunVG (As := [.int (xs (x3 + (1 : Int32)).toNatClampNeg)]) C (fun U hW => hK.warm hW) hP (c_X7_doAct E C.1 F σ (xs (x3 + (1 : Int32)).toNatClampNeg) hc_4) lw_w494 kv_X7_doAct ⟨Nat.le_of_ble_eq_true rfl, Nat.le_of_ble_eq_true rfl⟩ (rc_0 C hP) rfl hl.1 rfl (Nat.le_of_ble_eq_true rfl) dL_law_714 ⟨Nat.le_of_ble_eq_true rfl, Nat.le_of_ble_eq_true rfl⟩) (fun H locs hP hQ hS => ?_)
  refine lv_pop2_2 hx hb dL_law_717 rfl ?_
  refine lv_aload_n hx hb dL_law_718 rfl (lv_at hl 2 rfl) ?_
  refine lv_aload_n hx hb dL_law_719 rfl (lv_at hl 0 rfl) ?_
  refine lv_iload_n hx hb dL_law_720 rfl (lv_at hl 3 rfl) ?_
  refine lv_iconst (v := (1 : Int32)) hx hb dL_law_721 (by decide) ?_
  refine lv_iadd hx hb dL_law_722 ?_
  obtain ⟨n_5, h⟩ := k_no h
  refine va_sld hx hb hX hbl hbA hS n_5 dL_law_723 ?_
  obtain ⟨v_6, τ_7, hc_8, h⟩ := kb_ok h
  refine lcm_l C Z.2 hP hQ hS (krunVG (As := [.int (xs (x3 + (1 : Int32)).toNatClampNeg)]) C (fun U hW => hK.warm hW) hQ (c_X8_doAct E C.1 F τ (xs (x3 + (1 : Int32)).toNatClampNeg) hc_8) lw_w854 kv_X8_doAct ⟨Nat.le_of_ble_eq_true rfl, Nat.le_of_ble_eq_true rfl⟩ (rc_27 C hQ) rfl hl.1 rfl (Nat.le_of_ble_eq_true rfl) dL_law_724 ⟨Nat.le_of_ble_eq_true rfl, Nat.le_of_ble_eq_true rfl⟩) (fun H locs hP hQ hS => ?_)
  refine lv_pop2_2 hx hb dL_law_727 rfl ?_
  refine lv_goto (tgt := 1258) hx hb dL_law_728 (by decide) ?_
  exact w_L_1258 C Z F rec18 hrec σ_3 τ_7 x3 h H locs hP hQ hS ls hl
def s_L_731 (F L : Nat) (xs : Nat → Int32) (rec18 : kS × kS × Int32 → Option Unit) (σ τ : kS) (x3 : Int32) : Option Unit :=
  (if (x3 + (1 : Int32)) < 0 ∨ L ≤ (x3 + (1 : Int32)).toNatClampNeg then none else (if (x3 + (2 : Int32)) < 0 ∨ L ≤ (x3 + (2 : Int32)).toNatClampNeg then none else (if (x3 + (3 : Int32)) < 0 ∨ L ≤ (x3 + (3 : Int32)).toNatClampNeg then none else (if (xs (x3 + (3 : Int32)).toNatClampNeg) = 0 then (kb (f_X7_allow F σ (xs (x3 + (1 : Int32)).toNatClampNeg) (xs (x3 + (2 : Int32)).toNatClampNeg) (0 : Int32)) fun v_5 σ_6 => (if (x3 + (1 : Int32)) < 0 ∨ L ≤ (x3 + (1 : Int32)).toNatClampNeg then none else (if (x3 + (2 : Int32)) < 0 ∨ L ≤ (x3 + (2 : Int32)).toNatClampNeg then none else (if (x3 + (3 : Int32)) < 0 ∨ L ≤ (x3 + (3 : Int32)).toNatClampNeg then none else (if (xs (x3 + (3 : Int32)).toNatClampNeg) = 0 then (kb (f_X8_allow F τ (xs (x3 + (1 : Int32)).toNatClampNeg) (xs (x3 + (2 : Int32)).toNatClampNeg) (0 : Int32)) fun v_12 τ_13 => s_L_1258 F L xs rec18 σ_6 τ_13 x3) else (kb (f_X8_allow F τ (xs (x3 + (1 : Int32)).toNatClampNeg) (xs (x3 + (2 : Int32)).toNatClampNeg) (1 : Int32)) fun v_15 τ_16 => s_L_1258 F L xs rec18 σ_6 τ_16 x3)))))) else (kb (f_X7_allow F σ (xs (x3 + (1 : Int32)).toNatClampNeg) (xs (x3 + (2 : Int32)).toNatClampNeg) (1 : Int32)) fun v_18 σ_19 => (if (x3 + (1 : Int32)) < 0 ∨ L ≤ (x3 + (1 : Int32)).toNatClampNeg then none else (if (x3 + (2 : Int32)) < 0 ∨ L ≤ (x3 + (2 : Int32)).toNatClampNeg then none else (if (x3 + (3 : Int32)) < 0 ∨ L ≤ (x3 + (3 : Int32)).toNatClampNeg then none else (if (xs (x3 + (3 : Int32)).toNatClampNeg) = 0 then (kb (f_X8_allow F τ (xs (x3 + (1 : Int32)).toNatClampNeg) (xs (x3 + (2 : Int32)).toNatClampNeg) (0 : Int32)) fun v_25 τ_26 => s_L_1258 F L xs rec18 σ_19 τ_26 x3) else (kb (f_X8_allow F τ (xs (x3 + (1 : Int32)).toNatClampNeg) (xs (x3 + (2 : Int32)).toNatClampNeg) (1 : Int32)) fun v_28 τ_29 => s_L_1258 F L xs rec18 σ_19 τ_29 x3))))))))))
set_option maxRecDepth 100000 in
set_option maxHeartbeats 8000000 in
theorem w_L_731 (C : Cx E p s m #[Value.ref b] meth c cL_law 4 RL ret) (Z : lZ E s b L xs) (F : Nat) (rec18 : kS × kS × Int32 → Option Unit) (hrec : ∀ (σ τ : kS) (x3 : Int32), rec18 (σ, τ, x3) = some () → ∀ (H : Heap) (locs : List Loc), cP E σ H → mP E τ H → va_S (fun q : Nat => s.heap.size ≤ q) s.heap H locs → ∀ (ls : Array Slot), lv_has ls 4 [(0, .ref b), (1, .ref (eA E 0)), (2, .ref (eA E 27)), (3, .int x3)] → W p l e room_1 s m #[Value.ref b] below meth c H locs 39 1190 (lw_Z below #[Value.ref b] s) (F0 m 18 ls [])) (σ τ : kS) (x3 : Int32) (h : s_L_731 F L xs rec18 σ τ x3 = some ()) (H : Heap) (locs : List Loc) (hP : cP E σ H) (hQ : mP E τ H) (hS : va_S (fun q : Nat => s.heap.size ≤ q) s.heap H locs) (ls : Array Slot) (hl : lv_has ls 4 [(0, .ref b), (1, .ref (eA E 0)), (2, .ref (eA E 27)), (3, .int x3)]) : W p l e room_1 s m #[Value.ref b] below meth c H locs 39 1190 (lw_Z below #[Value.ref b] s) (F0 m 731 ls []) := by
  obtain ⟨-, hx, hb, hml, hown, hts, hK, hr, hlk⟩ := id C
  obtain ⟨⟨hX, hbl⟩, -⟩ := id Z
  have hbA : ¬ (fun q : Nat => s.heap.size ≤ q) b := Nat.not_le.mpr hbl
  unfold s_L_731 at h
  refine lv_aload_n hx hb dL_law_731 rfl (lv_at hl 1 rfl) ?_
  refine lv_aload_n hx hb dL_law_732 rfl (lv_at hl 0 rfl) ?_
  refine lv_iload_n hx hb dL_law_733 rfl (lv_at hl 3 rfl) ?_
  refine lv_iconst (v := (1 : Int32)) hx hb dL_law_734 (by decide) ?_
  refine lv_iadd hx hb dL_law_735 ?_
  obtain ⟨n_1, h⟩ := k_no h
  refine va_sld hx hb hX hbl hbA hS n_1 dL_law_736 ?_
  refine lv_aload_n hx hb dL_law_737 rfl (lv_at hl 0 rfl) ?_
  refine lv_iload_n hx hb dL_law_738 rfl (lv_at hl 3 rfl) ?_
  refine lv_iconst (v := (2 : Int32)) hx hb dL_law_739 (by decide) ?_
  refine lv_iadd hx hb dL_law_740 ?_
  obtain ⟨n_2, h⟩ := k_no h
  refine va_sld hx hb hX hbl hbA hS n_2 dL_law_741 ?_
  refine lv_aload_n hx hb dL_law_742 rfl (lv_at hl 0 rfl) ?_
  refine lv_iload_n hx hb dL_law_743 rfl (lv_at hl 3 rfl) ?_
  refine lv_iconst (v := (3 : Int32)) hx hb dL_law_744 (by decide) ?_
  refine lv_iadd hx hb dL_law_745 ?_
  obtain ⟨n_3, h⟩ := k_no h
  refine va_sld hx hb hX hbl hbA hS n_3 dL_law_746 ?_
  refine lv_if_eq (tgt := 754) hx hb dL_law_747 (by decide) (fun c_4 => ?_) (fun c_4 => ?_)
  · have h := k_t c_4 h
    refine lv_iconst (v := (0 : Int32)) hx hb dL_law_754 (by decide) ?_
    obtain ⟨v_5, σ_6, hc_7, h⟩ := kb_ok h
    refine lcc_i C Z.2 hP hQ hS (krunVG (As := [.int (xs (x3 + (1 : Int32)).toNatClampNeg), .int (xs (x3 + (2 : Int32)).toNatClampNeg), .int (0 : Int32)]) C (fun U hW => hK.warm hW) hP (c_X7_allow E C.1 F σ (xs (x3 + (1 : Int32)).toNatClampNeg) (xs (x3 + (2 : Int32)).toNatClampNeg) (0 : Int32) hc_7) lw_w503 kv_X7_allow ⟨Nat.le_of_ble_eq_true rfl, Nat.le_of_ble_eq_true rfl⟩ (rc_0 C hP) rfl hl.1 rfl (Nat.le_of_ble_eq_true rfl) dL_law_755 ⟨Nat.le_of_ble_eq_true rfl, Nat.le_of_ble_eq_true rfl⟩) (fun H locs hP hQ hS => ?_)
    refine lv_pop hx hb dL_law_758 rfl ?_
    refine lv_aload_n hx hb dL_law_759 rfl (lv_at hl 2 rfl) ?_
    refine lv_aload_n hx hb dL_law_760 rfl (lv_at hl 0 rfl) ?_
    refine lv_iload_n hx hb dL_law_761 rfl (lv_at hl 3 rfl) ?_
    refine lv_iconst (v := (1 : Int32)) hx hb dL_law_762 (by decide) ?_
    refine lv_iadd hx hb dL_law_763 ?_
    obtain ⟨n_8, h⟩ := k_no h
    refine va_sld hx hb hX hbl hbA hS n_8 dL_law_764 ?_
    refine lv_aload_n hx hb dL_law_765 rfl (lv_at hl 0 rfl) ?_
    refine lv_iload_n hx hb dL_law_766 rfl (lv_at hl 3 rfl) ?_
    refine lv_iconst (v := (2 : Int32)) hx hb dL_law_767 (by decide) ?_
    refine lv_iadd hx hb dL_law_768 ?_
    obtain ⟨n_9, h⟩ := k_no h
    refine va_sld hx hb hX hbl hbA hS n_9 dL_law_769 ?_
    refine lv_aload_n hx hb dL_law_770 rfl (lv_at hl 0 rfl) ?_
    refine lv_iload_n hx hb dL_law_771 rfl (lv_at hl 3 rfl) ?_
    refine lv_iconst (v := (3 : Int32)) hx hb dL_law_772 (by decide) ?_
    refine lv_iadd hx hb dL_law_773 ?_
    obtain ⟨n_10, h⟩ := k_no h
    refine va_sld hx hb hX hbl hbA hS n_10 dL_law_774 ?_
    refine lv_if_eq (tgt := 782) hx hb dL_law_775 (by decide) (fun c_11 => ?_) (fun c_11 => ?_)
    · have h := k_t c_11 h
      refine lv_iconst (v := (0 : Int32)) hx hb dL_law_782 (by decide) ?_
      obtain ⟨v_12, τ_13, hc_14, h⟩ := kb_ok h
      refine lcm_i C Z.2 hP hQ hS (krunVG (As := [.int (xs (x3 + (1 : Int32)).toNatClampNeg), .int (xs (x3 + (2 : Int32)).toNatClampNeg), .int (0 : Int32)]) C (fun U hW => hK.warm hW) hQ (c_X8_allow E C.1 F τ (xs (x3 + (1 : Int32)).toNatClampNeg) (xs (x3 + (2 : Int32)).toNatClampNeg) (0 : Int32) hc_14) lw_w859 kv_X8_allow ⟨Nat.le_of_ble_eq_true rfl, Nat.le_of_ble_eq_true rfl⟩ (rc_27 C hQ) rfl hl.1 rfl (Nat.le_of_ble_eq_true rfl) dL_law_783 ⟨Nat.le_of_ble_eq_true rfl, Nat.le_of_ble_eq_true rfl⟩) (fun H locs hP hQ hS => ?_)
      refine lv_pop hx hb dL_law_786 rfl ?_
      refine lv_goto (tgt := 1258) hx hb dL_law_787 (by decide) ?_
      exact w_L_1258 C Z F rec18 hrec σ_6 τ_13 x3 h H locs hP hQ hS ls hl
    · have h := k_f c_11 h
      refine lv_iconst (v := (1 : Int32)) hx hb dL_law_778 (by decide) ?_
      refine lv_goto (tgt := 783) hx hb dL_law_779 (by decide) ?_
      obtain ⟨v_15, τ_16, hc_17, h⟩ := kb_ok h
      refine lcm_i C Z.2 hP hQ hS (krunVG (As := [.int (xs (x3 + (1 : Int32)).toNatClampNeg), .int (xs (x3 + (2 : Int32)).toNatClampNeg), .int (1 : Int32)]) C (fun U hW => hK.warm hW) hQ (c_X8_allow E C.1 F τ (xs (x3 + (1 : Int32)).toNatClampNeg) (xs (x3 + (2 : Int32)).toNatClampNeg) (1 : Int32) hc_17) lw_w859 kv_X8_allow ⟨Nat.le_of_ble_eq_true rfl, Nat.le_of_ble_eq_true rfl⟩ (rc_27 C hQ) rfl hl.1 rfl (Nat.le_of_ble_eq_true rfl) dL_law_783 ⟨Nat.le_of_ble_eq_true rfl, Nat.le_of_ble_eq_true rfl⟩) (fun H locs hP hQ hS => ?_)
      refine lv_pop hx hb dL_law_786 rfl ?_
      refine lv_goto (tgt := 1258) hx hb dL_law_787 (by decide) ?_
      exact w_L_1258 C Z F rec18 hrec σ_6 τ_16 x3 h H locs hP hQ hS ls hl
  · have h := k_f c_4 h
    refine lv_iconst (v := (1 : Int32)) hx hb dL_law_750 (by decide) ?_
    refine lv_goto (tgt := 755) hx hb dL_law_751 (by decide) ?_
    obtain ⟨v_18, σ_19, hc_20, h⟩ := kb_ok h
    refine lcc_i C Z.2 hP hQ hS (krunVG (As := [.int (xs (x3 + (1 : Int32)).toNatClampNeg), .int (xs (x3 + (2 : Int32)).toNatClampNeg), .int (1 : Int32)]) C (fun U hW => hK.warm hW) hP (c_X7_allow E C.1 F σ (xs (x3 + (1 : Int32)).toNatClampNeg) (xs (x3 + (2 : Int32)).toNatClampNeg) (1 : Int32) hc_20) lw_w503 kv_X7_allow ⟨Nat.le_of_ble_eq_true rfl, Nat.le_of_ble_eq_true rfl⟩ (rc_0 C hP) rfl hl.1 rfl (Nat.le_of_ble_eq_true rfl) dL_law_755 ⟨Nat.le_of_ble_eq_true rfl, Nat.le_of_ble_eq_true rfl⟩) (fun H locs hP hQ hS => ?_)
    refine lv_pop hx hb dL_law_758 rfl ?_
    refine lv_aload_n hx hb dL_law_759 rfl (lv_at hl 2 rfl) ?_
    refine lv_aload_n hx hb dL_law_760 rfl (lv_at hl 0 rfl) ?_
    refine lv_iload_n hx hb dL_law_761 rfl (lv_at hl 3 rfl) ?_
    refine lv_iconst (v := (1 : Int32)) hx hb dL_law_762 (by decide) ?_
    refine lv_iadd hx hb dL_law_763 ?_
    obtain ⟨n_21, h⟩ := k_no h
    refine va_sld hx hb hX hbl hbA hS n_21 dL_law_764 ?_
    refine lv_aload_n hx hb dL_law_765 rfl (lv_at hl 0 rfl) ?_
    refine lv_iload_n hx hb dL_law_766 rfl (lv_at hl 3 rfl) ?_
    refine lv_iconst (v := (2 : Int32)) hx hb dL_law_767 (by decide) ?_
    refine lv_iadd hx hb dL_law_768 ?_
    obtain ⟨n_22, h⟩ := k_no h
    refine va_sld hx hb hX hbl hbA hS n_22 dL_law_769 ?_
    refine lv_aload_n hx hb dL_law_770 rfl (lv_at hl 0 rfl) ?_
    refine lv_iload_n hx hb dL_law_771 rfl (lv_at hl 3 rfl) ?_
    refine lv_iconst (v := (3 : Int32)) hx hb dL_law_772 (by decide) ?_
    refine lv_iadd hx hb dL_law_773 ?_
    obtain ⟨n_23, h⟩ := k_no h
    refine va_sld hx hb hX hbl hbA hS n_23 dL_law_774 ?_
    refine lv_if_eq (tgt := 782) hx hb dL_law_775 (by decide) (fun c_24 => ?_) (fun c_24 => ?_)
    · have h := k_t c_24 h
      refine lv_iconst (v := (0 : Int32)) hx hb dL_law_782 (by decide) ?_
      obtain ⟨v_25, τ_26, hc_27, h⟩ := kb_ok h
      refine lcm_i C Z.2 hP hQ hS (krunVG (As := [.int (xs (x3 + (1 : Int32)).toNatClampNeg), .int (xs (x3 + (2 : Int32)).toNatClampNeg), .int (0 : Int32)]) C (fun U hW => hK.warm hW) hQ (c_X8_allow E C.1 F τ (xs (x3 + (1 : Int32)).toNatClampNeg) (xs (x3 + (2 : Int32)).toNatClampNeg) (0 : Int32) hc_27) lw_w859 kv_X8_allow ⟨Nat.le_of_ble_eq_true rfl, Nat.le_of_ble_eq_true rfl⟩ (rc_27 C hQ) rfl hl.1 rfl (Nat.le_of_ble_eq_true rfl) dL_law_783 ⟨Nat.le_of_ble_eq_true rfl, Nat.le_of_ble_eq_true rfl⟩) (fun H locs hP hQ hS => ?_)
      refine lv_pop hx hb dL_law_786 rfl ?_
      refine lv_goto (tgt := 1258) hx hb dL_law_787 (by decide) ?_
      exact w_L_1258 C Z F rec18 hrec σ_19 τ_26 x3 h H locs hP hQ hS ls hl
    · have h := k_f c_24 h
      refine lv_iconst (v := (1 : Int32)) hx hb dL_law_778 (by decide) ?_
      refine lv_goto (tgt := 783) hx hb dL_law_779 (by decide) ?_
      obtain ⟨v_28, τ_29, hc_30, h⟩ := kb_ok h
      refine lcm_i C Z.2 hP hQ hS (krunVG (As := [.int (xs (x3 + (1 : Int32)).toNatClampNeg), .int (xs (x3 + (2 : Int32)).toNatClampNeg), .int (1 : Int32)]) C (fun U hW => hK.warm hW) hQ (c_X8_allow E C.1 F τ (xs (x3 + (1 : Int32)).toNatClampNeg) (xs (x3 + (2 : Int32)).toNatClampNeg) (1 : Int32) hc_30) lw_w859 kv_X8_allow ⟨Nat.le_of_ble_eq_true rfl, Nat.le_of_ble_eq_true rfl⟩ (rc_27 C hQ) rfl hl.1 rfl (Nat.le_of_ble_eq_true rfl) dL_law_783 ⟨Nat.le_of_ble_eq_true rfl, Nat.le_of_ble_eq_true rfl⟩) (fun H locs hP hQ hS => ?_)
      refine lv_pop hx hb dL_law_786 rfl ?_
      refine lv_goto (tgt := 1258) hx hb dL_law_787 (by decide) ?_
      exact w_L_1258 C Z F rec18 hrec σ_19 τ_29 x3 h H locs hP hQ hS ls hl
def s_L_790 (F L : Nat) (xs : Nat → Int32) (rec18 : kS × kS × Int32 → Option Unit) (σ τ : kS) (x3 : Int32) : Option Unit :=
  (kb (f_X7_undo F σ) fun v_1 σ_2 => (kb (f_X8_undo F τ) fun v_4 τ_5 => s_L_1258 F L xs rec18 σ_2 τ_5 x3))
set_option maxRecDepth 100000 in
set_option maxHeartbeats 8000000 in
theorem w_L_790 (C : Cx E p s m #[Value.ref b] meth c cL_law 4 RL ret) (Z : lZ E s b L xs) (F : Nat) (rec18 : kS × kS × Int32 → Option Unit) (hrec : ∀ (σ τ : kS) (x3 : Int32), rec18 (σ, τ, x3) = some () → ∀ (H : Heap) (locs : List Loc), cP E σ H → mP E τ H → va_S (fun q : Nat => s.heap.size ≤ q) s.heap H locs → ∀ (ls : Array Slot), lv_has ls 4 [(0, .ref b), (1, .ref (eA E 0)), (2, .ref (eA E 27)), (3, .int x3)] → W p l e room_1 s m #[Value.ref b] below meth c H locs 39 1190 (lw_Z below #[Value.ref b] s) (F0 m 18 ls [])) (σ τ : kS) (x3 : Int32) (h : s_L_790 F L xs rec18 σ τ x3 = some ()) (H : Heap) (locs : List Loc) (hP : cP E σ H) (hQ : mP E τ H) (hS : va_S (fun q : Nat => s.heap.size ≤ q) s.heap H locs) (ls : Array Slot) (hl : lv_has ls 4 [(0, .ref b), (1, .ref (eA E 0)), (2, .ref (eA E 27)), (3, .int x3)]) : W p l e room_1 s m #[Value.ref b] below meth c H locs 39 1190 (lw_Z below #[Value.ref b] s) (F0 m 790 ls []) := by
  obtain ⟨-, hx, hb, hml, hown, hts, hK, hr, hlk⟩ := id C
  obtain ⟨⟨hX, hbl⟩, -⟩ := id Z
  have hbA : ¬ (fun q : Nat => s.heap.size ≤ q) b := Nat.not_le.mpr hbl
  unfold s_L_790 at h
  refine lv_aload_n hx hb dL_law_790 rfl (lv_at hl 1 rfl) ?_
  obtain ⟨v_1, σ_2, hc_3, h⟩ := kb_ok h
  refine lcc_i C Z.2 hP hQ hS (krunVG (As := []) C (fun U hW => hK.warm hW) hP (c_X7_undo E C.1 F σ hc_3) lw_w511 kv_X7_undo ⟨Nat.le_of_ble_eq_true rfl, Nat.le_of_ble_eq_true rfl⟩ (rc_0 C hP) rfl hl.1 rfl (Nat.le_of_ble_eq_true rfl) dL_law_791 ⟨Nat.le_of_ble_eq_true rfl, Nat.le_of_ble_eq_true rfl⟩) (fun H locs hP hQ hS => ?_)
  refine lv_pop hx hb dL_law_794 rfl ?_
  refine lv_aload_n hx hb dL_law_795 rfl (lv_at hl 2 rfl) ?_
  obtain ⟨v_4, τ_5, hc_6, h⟩ := kb_ok h
  refine lcm_i C Z.2 hP hQ hS (krunVG (As := []) C (fun U hW => hK.warm hW) hQ (c_X8_undo E C.1 F τ hc_6) lw_w863 kv_X8_undo ⟨Nat.le_of_ble_eq_true rfl, Nat.le_of_ble_eq_true rfl⟩ (rc_27 C hQ) rfl hl.1 rfl (Nat.le_of_ble_eq_true rfl) dL_law_796 ⟨Nat.le_of_ble_eq_true rfl, Nat.le_of_ble_eq_true rfl⟩) (fun H locs hP hQ hS => ?_)
  refine lv_pop hx hb dL_law_799 rfl ?_
  refine lv_goto (tgt := 1258) hx hb dL_law_800 (by decide) ?_
  exact w_L_1258 C Z F rec18 hrec σ_2 τ_5 x3 h H locs hP hQ hS ls hl
def s_L_803 (F L : Nat) (xs : Nat → Int32) (rec18 : kS × kS × Int32 → Option Unit) (σ τ : kS) (x3 : Int32) : Option Unit :=
  (if (x3 + (1 : Int32)) < 0 ∨ L ≤ (x3 + (1 : Int32)).toNatClampNeg then none else (kb (f_X7_gain F σ (xs (x3 + (1 : Int32)).toNatClampNeg)) fun v_2 σ_3 => (if (x3 + (1 : Int32)) < 0 ∨ L ≤ (x3 + (1 : Int32)).toNatClampNeg then none else (kb (f_X8_gain F τ (xs (x3 + (1 : Int32)).toNatClampNeg)) fun v_6 τ_7 => s_L_1258 F L xs rec18 σ_3 τ_7 x3))))
set_option maxRecDepth 100000 in
set_option maxHeartbeats 8000000 in
theorem w_L_803 (C : Cx E p s m #[Value.ref b] meth c cL_law 4 RL ret) (Z : lZ E s b L xs) (F : Nat) (rec18 : kS × kS × Int32 → Option Unit) (hrec : ∀ (σ τ : kS) (x3 : Int32), rec18 (σ, τ, x3) = some () → ∀ (H : Heap) (locs : List Loc), cP E σ H → mP E τ H → va_S (fun q : Nat => s.heap.size ≤ q) s.heap H locs → ∀ (ls : Array Slot), lv_has ls 4 [(0, .ref b), (1, .ref (eA E 0)), (2, .ref (eA E 27)), (3, .int x3)] → W p l e room_1 s m #[Value.ref b] below meth c H locs 39 1190 (lw_Z below #[Value.ref b] s) (F0 m 18 ls [])) (σ τ : kS) (x3 : Int32) (h : s_L_803 F L xs rec18 σ τ x3 = some ()) (H : Heap) (locs : List Loc) (hP : cP E σ H) (hQ : mP E τ H) (hS : va_S (fun q : Nat => s.heap.size ≤ q) s.heap H locs) (ls : Array Slot) (hl : lv_has ls 4 [(0, .ref b), (1, .ref (eA E 0)), (2, .ref (eA E 27)), (3, .int x3)]) : W p l e room_1 s m #[Value.ref b] below meth c H locs 39 1190 (lw_Z below #[Value.ref b] s) (F0 m 803 ls []) := by
  obtain ⟨-, hx, hb, hml, hown, hts, hK, hr, hlk⟩ := id C
  obtain ⟨⟨hX, hbl⟩, -⟩ := id Z
  have hbA : ¬ (fun q : Nat => s.heap.size ≤ q) b := Nat.not_le.mpr hbl
  unfold s_L_803 at h
  refine lv_aload_n hx hb dL_law_803 rfl (lv_at hl 1 rfl) ?_
  refine lv_aload_n hx hb dL_law_804 rfl (lv_at hl 0 rfl) ?_
  refine lv_iload_n hx hb dL_law_805 rfl (lv_at hl 3 rfl) ?_
  refine lv_iconst (v := (1 : Int32)) hx hb dL_law_806 (by decide) ?_
  refine lv_iadd hx hb dL_law_807 ?_
  obtain ⟨n_1, h⟩ := k_no h
  refine va_sld hx hb hX hbl hbA hS n_1 dL_law_808 ?_
  obtain ⟨v_2, σ_3, hc_4, h⟩ := kb_ok h
  refine lcc_i C Z.2 hP hQ hS (krunVG (As := [.int (xs (x3 + (1 : Int32)).toNatClampNeg)]) C (fun U hW => hK.warm hW) hP (c_X7_gain E C.1 F σ (xs (x3 + (1 : Int32)).toNatClampNeg) hc_4) lw_w519 kv_X7_gain ⟨Nat.le_of_ble_eq_true rfl, Nat.le_of_ble_eq_true rfl⟩ (rc_0 C hP) rfl hl.1 rfl (Nat.le_of_ble_eq_true rfl) dL_law_809 ⟨Nat.le_of_ble_eq_true rfl, Nat.le_of_ble_eq_true rfl⟩) (fun H locs hP hQ hS => ?_)
  refine lv_pop hx hb dL_law_812 rfl ?_
  refine lv_aload_n hx hb dL_law_813 rfl (lv_at hl 2 rfl) ?_
  refine lv_aload_n hx hb dL_law_814 rfl (lv_at hl 0 rfl) ?_
  refine lv_iload_n hx hb dL_law_815 rfl (lv_at hl 3 rfl) ?_
  refine lv_iconst (v := (1 : Int32)) hx hb dL_law_816 (by decide) ?_
  refine lv_iadd hx hb dL_law_817 ?_
  obtain ⟨n_5, h⟩ := k_no h
  refine va_sld hx hb hX hbl hbA hS n_5 dL_law_818 ?_
  obtain ⟨v_6, τ_7, hc_8, h⟩ := kb_ok h
  refine lcm_i C Z.2 hP hQ hS (krunVG (As := [.int (xs (x3 + (1 : Int32)).toNatClampNeg)]) C (fun U hW => hK.warm hW) hQ (c_X8_gain E C.1 F τ (xs (x3 + (1 : Int32)).toNatClampNeg) hc_8) lw_w867 kv_X8_gain ⟨Nat.le_of_ble_eq_true rfl, Nat.le_of_ble_eq_true rfl⟩ (rc_27 C hQ) rfl hl.1 rfl (Nat.le_of_ble_eq_true rfl) dL_law_819 ⟨Nat.le_of_ble_eq_true rfl, Nat.le_of_ble_eq_true rfl⟩) (fun H locs hP hQ hS => ?_)
  refine lv_pop hx hb dL_law_822 rfl ?_
  refine lv_goto (tgt := 1258) hx hb dL_law_823 (by decide) ?_
  exact w_L_1258 C Z F rec18 hrec σ_3 τ_7 x3 h H locs hP hQ hS ls hl
def s_L_826 (F L : Nat) (xs : Nat → Int32) (rec18 : kS × kS × Int32 → Option Unit) (σ τ : kS) (x3 : Int32) : Option Unit :=
  (if (x3 + (1 : Int32)) < 0 ∨ L ≤ (x3 + (1 : Int32)).toNatClampNeg then none else (if (x3 + (2 : Int32)) < 0 ∨ L ≤ (x3 + (2 : Int32)).toNatClampNeg then none else (if (x3 + (3 : Int32)) < 0 ∨ L ≤ (x3 + (3 : Int32)).toNatClampNeg then none else (kb (f_X7_forbid F σ (xs (x3 + (1 : Int32)).toNatClampNeg) (xs (x3 + (2 : Int32)).toNatClampNeg) (xs (x3 + (3 : Int32)).toNatClampNeg)) fun v_4 σ_5 => (if (x3 + (1 : Int32)) < 0 ∨ L ≤ (x3 + (1 : Int32)).toNatClampNeg then none else (if (x3 + (2 : Int32)) < 0 ∨ L ≤ (x3 + (2 : Int32)).toNatClampNeg then none else (if (x3 + (3 : Int32)) < 0 ∨ L ≤ (x3 + (3 : Int32)).toNatClampNeg then none else (kb (f_X8_forbid F τ (xs (x3 + (1 : Int32)).toNatClampNeg) (xs (x3 + (2 : Int32)).toNatClampNeg) (xs (x3 + (3 : Int32)).toNatClampNeg)) fun v_10 τ_11 => s_L_1258 F L xs rec18 σ_5 τ_11 x3))))))))
set_option maxRecDepth 100000 in
set_option maxHeartbeats 8000000 in
theorem w_L_826 (C : Cx E p s m #[Value.ref b] meth c cL_law 4 RL ret) (Z : lZ E s b L xs) (F : Nat) (rec18 : kS × kS × Int32 → Option Unit) (hrec : ∀ (σ τ : kS) (x3 : Int32), rec18 (σ, τ, x3) = some () → ∀ (H : Heap) (locs : List Loc), cP E σ H → mP E τ H → va_S (fun q : Nat => s.heap.size ≤ q) s.heap H locs → ∀ (ls : Array Slot), lv_has ls 4 [(0, .ref b), (1, .ref (eA E 0)), (2, .ref (eA E 27)), (3, .int x3)] → W p l e room_1 s m #[Value.ref b] below meth c H locs 39 1190 (lw_Z below #[Value.ref b] s) (F0 m 18 ls [])) (σ τ : kS) (x3 : Int32) (h : s_L_826 F L xs rec18 σ τ x3 = some ()) (H : Heap) (locs : List Loc) (hP : cP E σ H) (hQ : mP E τ H) (hS : va_S (fun q : Nat => s.heap.size ≤ q) s.heap H locs) (ls : Array Slot) (hl : lv_has ls 4 [(0, .ref b), (1, .ref (eA E 0)), (2, .ref (eA E 27)), (3, .int x3)]) : W p l e room_1 s m #[Value.ref b] below meth c H locs 39 1190 (lw_Z below #[Value.ref b] s) (F0 m 826 ls []) := by
  obtain ⟨-, hx, hb, hml, hown, hts, hK, hr, hlk⟩ := id C
  obtain ⟨⟨hX, hbl⟩, -⟩ := id Z
  have hbA : ¬ (fun q : Nat => s.heap.size ≤ q) b := Nat.not_le.mpr hbl
  unfold s_L_826 at h
  refine lv_aload_n hx hb dL_law_826 rfl (lv_at hl 1 rfl) ?_
  refine lv_aload_n hx hb dL_law_827 rfl (lv_at hl 0 rfl) ?_
  refine lv_iload_n hx hb dL_law_828 rfl (lv_at hl 3 rfl) ?_
  refine lv_iconst (v := (1 : Int32)) hx hb dL_law_829 (by decide) ?_
  refine lv_iadd hx hb dL_law_830 ?_
  obtain ⟨n_1, h⟩ := k_no h
  refine va_sld hx hb hX hbl hbA hS n_1 dL_law_831 ?_
  refine lv_aload_n hx hb dL_law_832 rfl (lv_at hl 0 rfl) ?_
  refine lv_iload_n hx hb dL_law_833 rfl (lv_at hl 3 rfl) ?_
  refine lv_iconst (v := (2 : Int32)) hx hb dL_law_834 (by decide) ?_
  refine lv_iadd hx hb dL_law_835 ?_
  obtain ⟨n_2, h⟩ := k_no h
  refine va_sld hx hb hX hbl hbA hS n_2 dL_law_836 ?_
  refine lv_aload_n hx hb dL_law_837 rfl (lv_at hl 0 rfl) ?_
  refine lv_iload_n hx hb dL_law_838 rfl (lv_at hl 3 rfl) ?_
  refine lv_iconst (v := (3 : Int32)) hx hb dL_law_839 (by decide) ?_
  refine lv_iadd hx hb dL_law_840 ?_
  obtain ⟨n_3, h⟩ := k_no h
  refine va_sld hx hb hX hbl hbA hS n_3 dL_law_841 ?_
  obtain ⟨v_4, σ_5, hc_6, h⟩ := kb_ok h
  refine lcc_i C Z.2 hP hQ hS (krunVG (As := [.int (xs (x3 + (1 : Int32)).toNatClampNeg), .int (xs (x3 + (2 : Int32)).toNatClampNeg), .int (xs (x3 + (3 : Int32)).toNatClampNeg)]) C (fun U hW => hK.warm hW) hP (c_X7_forbid E C.1 F σ (xs (x3 + (1 : Int32)).toNatClampNeg) (xs (x3 + (2 : Int32)).toNatClampNeg) (xs (x3 + (3 : Int32)).toNatClampNeg) hc_6) lw_w529 kv_X7_forbid ⟨Nat.le_of_ble_eq_true rfl, Nat.le_of_ble_eq_true rfl⟩ (rc_0 C hP) rfl hl.1 rfl (Nat.le_of_ble_eq_true rfl) dL_law_842 ⟨Nat.le_of_ble_eq_true rfl, Nat.le_of_ble_eq_true rfl⟩) (fun H locs hP hQ hS => ?_)
  refine lv_pop hx hb dL_law_845 rfl ?_
  refine lv_aload_n hx hb dL_law_846 rfl (lv_at hl 2 rfl) ?_
  refine lv_aload_n hx hb dL_law_847 rfl (lv_at hl 0 rfl) ?_
  refine lv_iload_n hx hb dL_law_848 rfl (lv_at hl 3 rfl) ?_
  refine lv_iconst (v := (1 : Int32)) hx hb dL_law_849 (by decide) ?_
  refine lv_iadd hx hb dL_law_850 ?_
  obtain ⟨n_7, h⟩ := k_no h
  refine va_sld hx hb hX hbl hbA hS n_7 dL_law_851 ?_
  refine lv_aload_n hx hb dL_law_852 rfl (lv_at hl 0 rfl) ?_
  refine lv_iload_n hx hb dL_law_853 rfl (lv_at hl 3 rfl) ?_
  refine lv_iconst (v := (2 : Int32)) hx hb dL_law_854 (by decide) ?_
  refine lv_iadd hx hb dL_law_855 ?_
  obtain ⟨n_8, h⟩ := k_no h
  refine va_sld hx hb hX hbl hbA hS n_8 dL_law_856 ?_
  refine lv_aload_n hx hb dL_law_857 rfl (lv_at hl 0 rfl) ?_
  refine lv_iload_n hx hb dL_law_858 rfl (lv_at hl 3 rfl) ?_
  refine lv_iconst (v := (3 : Int32)) hx hb dL_law_859 (by decide) ?_
  refine lv_iadd hx hb dL_law_860 ?_
  obtain ⟨n_9, h⟩ := k_no h
  refine va_sld hx hb hX hbl hbA hS n_9 dL_law_861 ?_
  obtain ⟨v_10, τ_11, hc_12, h⟩ := kb_ok h
  refine lcm_i C Z.2 hP hQ hS (krunVG (As := [.int (xs (x3 + (1 : Int32)).toNatClampNeg), .int (xs (x3 + (2 : Int32)).toNatClampNeg), .int (xs (x3 + (3 : Int32)).toNatClampNeg)]) C (fun U hW => hK.warm hW) hQ (c_X8_forbid E C.1 F τ (xs (x3 + (1 : Int32)).toNatClampNeg) (xs (x3 + (2 : Int32)).toNatClampNeg) (xs (x3 + (3 : Int32)).toNatClampNeg) hc_12) lw_w879 kv_X8_forbid ⟨Nat.le_of_ble_eq_true rfl, Nat.le_of_ble_eq_true rfl⟩ (rc_27 C hQ) rfl hl.1 rfl (Nat.le_of_ble_eq_true rfl) dL_law_862 ⟨Nat.le_of_ble_eq_true rfl, Nat.le_of_ble_eq_true rfl⟩) (fun H locs hP hQ hS => ?_)
  refine lv_pop hx hb dL_law_865 rfl ?_
  refine lv_goto (tgt := 1258) hx hb dL_law_866 (by decide) ?_
  exact w_L_1258 C Z F rec18 hrec σ_5 τ_11 x3 h H locs hP hQ hS ls hl
def s_L_869 (F L : Nat) (xs : Nat → Int32) (rec18 : kS × kS × Int32 → Option Unit) (σ τ : kS) (x3 : Int32) : Option Unit :=
  (if (x3 + (1 : Int32)) < 0 ∨ L ≤ (x3 + (1 : Int32)).toNatClampNeg then none else (kb (f_X7_rests F σ (xs (x3 + (1 : Int32)).toNatClampNeg)) fun v_2 σ_3 => (if (x3 + (1 : Int32)) < 0 ∨ L ≤ (x3 + (1 : Int32)).toNatClampNeg then none else (kb (f_X8_rests F τ (xs (x3 + (1 : Int32)).toNatClampNeg)) fun v_6 τ_7 => s_L_1258 F L xs rec18 σ_3 τ_7 x3))))
set_option maxRecDepth 100000 in
set_option maxHeartbeats 8000000 in
theorem w_L_869 (C : Cx E p s m #[Value.ref b] meth c cL_law 4 RL ret) (Z : lZ E s b L xs) (F : Nat) (rec18 : kS × kS × Int32 → Option Unit) (hrec : ∀ (σ τ : kS) (x3 : Int32), rec18 (σ, τ, x3) = some () → ∀ (H : Heap) (locs : List Loc), cP E σ H → mP E τ H → va_S (fun q : Nat => s.heap.size ≤ q) s.heap H locs → ∀ (ls : Array Slot), lv_has ls 4 [(0, .ref b), (1, .ref (eA E 0)), (2, .ref (eA E 27)), (3, .int x3)] → W p l e room_1 s m #[Value.ref b] below meth c H locs 39 1190 (lw_Z below #[Value.ref b] s) (F0 m 18 ls [])) (σ τ : kS) (x3 : Int32) (h : s_L_869 F L xs rec18 σ τ x3 = some ()) (H : Heap) (locs : List Loc) (hP : cP E σ H) (hQ : mP E τ H) (hS : va_S (fun q : Nat => s.heap.size ≤ q) s.heap H locs) (ls : Array Slot) (hl : lv_has ls 4 [(0, .ref b), (1, .ref (eA E 0)), (2, .ref (eA E 27)), (3, .int x3)]) : W p l e room_1 s m #[Value.ref b] below meth c H locs 39 1190 (lw_Z below #[Value.ref b] s) (F0 m 869 ls []) := by
  obtain ⟨-, hx, hb, hml, hown, hts, hK, hr, hlk⟩ := id C
  obtain ⟨⟨hX, hbl⟩, -⟩ := id Z
  have hbA : ¬ (fun q : Nat => s.heap.size ≤ q) b := Nat.not_le.mpr hbl
  unfold s_L_869 at h
  refine lv_aload_n hx hb dL_law_869 rfl (lv_at hl 1 rfl) ?_
  refine lv_aload_n hx hb dL_law_870 rfl (lv_at hl 0 rfl) ?_
  refine lv_iload_n hx hb dL_law_871 rfl (lv_at hl 3 rfl) ?_
  refine lv_iconst (v := (1 : Int32)) hx hb dL_law_872 (by decide) ?_
  refine lv_iadd hx hb dL_law_873 ?_
  obtain ⟨n_1, h⟩ := k_no h
  refine va_sld hx hb hX hbl hbA hS n_1 dL_law_874 ?_
  obtain ⟨v_2, σ_3, hc_4, h⟩ := kb_ok h
  refine lcc_i C Z.2 hP hQ hS (krunVG (As := [.int (xs (x3 + (1 : Int32)).toNatClampNeg)]) C (fun U hW => hK.warm hW) hP (c_X7_rests E C.1 F σ (xs (x3 + (1 : Int32)).toNatClampNeg) hc_4) lw_w543 kv_X7_rests ⟨Nat.le_of_ble_eq_true rfl, Nat.le_of_ble_eq_true rfl⟩ (rc_0 C hP) rfl hl.1 rfl (Nat.le_of_ble_eq_true rfl) dL_law_875 ⟨Nat.le_of_ble_eq_true rfl, Nat.le_of_ble_eq_true rfl⟩) (fun H locs hP hQ hS => ?_)
  refine lv_pop hx hb dL_law_878 rfl ?_
  refine lv_aload_n hx hb dL_law_879 rfl (lv_at hl 2 rfl) ?_
  refine lv_aload_n hx hb dL_law_880 rfl (lv_at hl 0 rfl) ?_
  refine lv_iload_n hx hb dL_law_881 rfl (lv_at hl 3 rfl) ?_
  refine lv_iconst (v := (1 : Int32)) hx hb dL_law_882 (by decide) ?_
  refine lv_iadd hx hb dL_law_883 ?_
  obtain ⟨n_5, h⟩ := k_no h
  refine va_sld hx hb hX hbl hbA hS n_5 dL_law_884 ?_
  obtain ⟨v_6, τ_7, hc_8, h⟩ := kb_ok h
  refine lcm_i C Z.2 hP hQ hS (krunVG (As := [.int (xs (x3 + (1 : Int32)).toNatClampNeg)]) C (fun U hW => hK.warm hW) hQ (c_X8_rests E C.1 F τ (xs (x3 + (1 : Int32)).toNatClampNeg) hc_8) lw_w883 kv_X8_rests ⟨Nat.le_of_ble_eq_true rfl, Nat.le_of_ble_eq_true rfl⟩ (rc_27 C hQ) rfl hl.1 rfl (Nat.le_of_ble_eq_true rfl) dL_law_885 ⟨Nat.le_of_ble_eq_true rfl, Nat.le_of_ble_eq_true rfl⟩) (fun H locs hP hQ hS => ?_)
  refine lv_pop hx hb dL_law_888 rfl ?_
  refine lv_goto (tgt := 1258) hx hb dL_law_889 (by decide) ?_
  exact w_L_1258 C Z F rec18 hrec σ_3 τ_7 x3 h H locs hP hQ hS ls hl
def s_L_892 (F L : Nat) (xs : Nat → Int32) (rec18 : kS × kS × Int32 → Option Unit) (σ τ : kS) (x3 : Int32) : Option Unit :=
  (if (x3 + (1 : Int32)) < 0 ∨ L ≤ (x3 + (1 : Int32)).toNatClampNeg then none else (kb (f_X7_firm F σ (xs (x3 + (1 : Int32)).toNatClampNeg)) fun v_2 σ_3 => (if (x3 + (1 : Int32)) < 0 ∨ L ≤ (x3 + (1 : Int32)).toNatClampNeg then none else (kb (f_X8_firm F τ (xs (x3 + (1 : Int32)).toNatClampNeg)) fun v_6 τ_7 => s_L_1258 F L xs rec18 σ_3 τ_7 x3))))
set_option maxRecDepth 100000 in
set_option maxHeartbeats 8000000 in
theorem w_L_892 (C : Cx E p s m #[Value.ref b] meth c cL_law 4 RL ret) (Z : lZ E s b L xs) (F : Nat) (rec18 : kS × kS × Int32 → Option Unit) (hrec : ∀ (σ τ : kS) (x3 : Int32), rec18 (σ, τ, x3) = some () → ∀ (H : Heap) (locs : List Loc), cP E σ H → mP E τ H → va_S (fun q : Nat => s.heap.size ≤ q) s.heap H locs → ∀ (ls : Array Slot), lv_has ls 4 [(0, .ref b), (1, .ref (eA E 0)), (2, .ref (eA E 27)), (3, .int x3)] → W p l e room_1 s m #[Value.ref b] below meth c H locs 39 1190 (lw_Z below #[Value.ref b] s) (F0 m 18 ls [])) (σ τ : kS) (x3 : Int32) (h : s_L_892 F L xs rec18 σ τ x3 = some ()) (H : Heap) (locs : List Loc) (hP : cP E σ H) (hQ : mP E τ H) (hS : va_S (fun q : Nat => s.heap.size ≤ q) s.heap H locs) (ls : Array Slot) (hl : lv_has ls 4 [(0, .ref b), (1, .ref (eA E 0)), (2, .ref (eA E 27)), (3, .int x3)]) : W p l e room_1 s m #[Value.ref b] below meth c H locs 39 1190 (lw_Z below #[Value.ref b] s) (F0 m 892 ls []) := by
  obtain ⟨-, hx, hb, hml, hown, hts, hK, hr, hlk⟩ := id C
  obtain ⟨⟨hX, hbl⟩, -⟩ := id Z
  have hbA : ¬ (fun q : Nat => s.heap.size ≤ q) b := Nat.not_le.mpr hbl
  unfold s_L_892 at h
  refine lv_aload_n hx hb dL_law_892 rfl (lv_at hl 1 rfl) ?_
  refine lv_aload_n hx hb dL_law_893 rfl (lv_at hl 0 rfl) ?_
  refine lv_iload_n hx hb dL_law_894 rfl (lv_at hl 3 rfl) ?_
  refine lv_iconst (v := (1 : Int32)) hx hb dL_law_895 (by decide) ?_
  refine lv_iadd hx hb dL_law_896 ?_
  obtain ⟨n_1, h⟩ := k_no h
  refine va_sld hx hb hX hbl hbA hS n_1 dL_law_897 ?_
  obtain ⟨v_2, σ_3, hc_4, h⟩ := kb_ok h
  refine lcc_i C Z.2 hP hQ hS (krunVG (As := [.int (xs (x3 + (1 : Int32)).toNatClampNeg)]) C (fun U hW => hK.warm hW) hP (c_X7_firm E C.1 F σ (xs (x3 + (1 : Int32)).toNatClampNeg) hc_4) lw_w560 kv_X7_firm ⟨Nat.le_of_ble_eq_true rfl, Nat.le_of_ble_eq_true rfl⟩ (rc_0 C hP) rfl hl.1 rfl (Nat.le_of_ble_eq_true rfl) dL_law_898 ⟨Nat.le_of_ble_eq_true rfl, Nat.le_of_ble_eq_true rfl⟩) (fun H locs hP hQ hS => ?_)
  refine lv_pop hx hb dL_law_901 rfl ?_
  refine lv_aload_n hx hb dL_law_902 rfl (lv_at hl 2 rfl) ?_
  refine lv_aload_n hx hb dL_law_903 rfl (lv_at hl 0 rfl) ?_
  refine lv_iload_n hx hb dL_law_904 rfl (lv_at hl 3 rfl) ?_
  refine lv_iconst (v := (1 : Int32)) hx hb dL_law_905 (by decide) ?_
  refine lv_iadd hx hb dL_law_906 ?_
  obtain ⟨n_5, h⟩ := k_no h
  refine va_sld hx hb hX hbl hbA hS n_5 dL_law_907 ?_
  obtain ⟨v_6, τ_7, hc_8, h⟩ := kb_ok h
  refine lcm_i C Z.2 hP hQ hS (krunVG (As := [.int (xs (x3 + (1 : Int32)).toNatClampNeg)]) C (fun U hW => hK.warm hW) hQ (c_X8_firm E C.1 F τ (xs (x3 + (1 : Int32)).toNatClampNeg) hc_8) lw_w891 kv_X8_firm ⟨Nat.le_of_ble_eq_true rfl, Nat.le_of_ble_eq_true rfl⟩ (rc_27 C hQ) rfl hl.1 rfl (Nat.le_of_ble_eq_true rfl) dL_law_908 ⟨Nat.le_of_ble_eq_true rfl, Nat.le_of_ble_eq_true rfl⟩) (fun H locs hP hQ hS => ?_)
  refine lv_pop hx hb dL_law_911 rfl ?_
  refine lv_goto (tgt := 1258) hx hb dL_law_912 (by decide) ?_
  exact w_L_1258 C Z F rec18 hrec σ_3 τ_7 x3 h H locs hP hQ hS ls hl
def s_L_915 (F L : Nat) (xs : Nat → Int32) (rec18 : kS × kS × Int32 → Option Unit) (σ τ : kS) (x3 : Int32) : Option Unit :=
  (if (x3 + (1 : Int32)) < 0 ∨ L ≤ (x3 + (1 : Int32)).toNatClampNeg then none else (kb (f_X7_treaty F σ (xs (x3 + (1 : Int32)).toNatClampNeg)) fun v_2 σ_3 => (if (x3 + (1 : Int32)) < 0 ∨ L ≤ (x3 + (1 : Int32)).toNatClampNeg then none else (kb (f_X8_treaty F τ (xs (x3 + (1 : Int32)).toNatClampNeg)) fun v_6 τ_7 => s_L_1258 F L xs rec18 σ_3 τ_7 x3))))
set_option maxRecDepth 100000 in
set_option maxHeartbeats 8000000 in
theorem w_L_915 (C : Cx E p s m #[Value.ref b] meth c cL_law 4 RL ret) (Z : lZ E s b L xs) (F : Nat) (rec18 : kS × kS × Int32 → Option Unit) (hrec : ∀ (σ τ : kS) (x3 : Int32), rec18 (σ, τ, x3) = some () → ∀ (H : Heap) (locs : List Loc), cP E σ H → mP E τ H → va_S (fun q : Nat => s.heap.size ≤ q) s.heap H locs → ∀ (ls : Array Slot), lv_has ls 4 [(0, .ref b), (1, .ref (eA E 0)), (2, .ref (eA E 27)), (3, .int x3)] → W p l e room_1 s m #[Value.ref b] below meth c H locs 39 1190 (lw_Z below #[Value.ref b] s) (F0 m 18 ls [])) (σ τ : kS) (x3 : Int32) (h : s_L_915 F L xs rec18 σ τ x3 = some ()) (H : Heap) (locs : List Loc) (hP : cP E σ H) (hQ : mP E τ H) (hS : va_S (fun q : Nat => s.heap.size ≤ q) s.heap H locs) (ls : Array Slot) (hl : lv_has ls 4 [(0, .ref b), (1, .ref (eA E 0)), (2, .ref (eA E 27)), (3, .int x3)]) : W p l e room_1 s m #[Value.ref b] below meth c H locs 39 1190 (lw_Z below #[Value.ref b] s) (F0 m 915 ls []) := by
  obtain ⟨-, hx, hb, hml, hown, hts, hK, hr, hlk⟩ := id C
  obtain ⟨⟨hX, hbl⟩, -⟩ := id Z
  have hbA : ¬ (fun q : Nat => s.heap.size ≤ q) b := Nat.not_le.mpr hbl
  unfold s_L_915 at h
  refine lv_aload_n hx hb dL_law_915 rfl (lv_at hl 1 rfl) ?_
  refine lv_aload_n hx hb dL_law_916 rfl (lv_at hl 0 rfl) ?_
  refine lv_iload_n hx hb dL_law_917 rfl (lv_at hl 3 rfl) ?_
  refine lv_iconst (v := (1 : Int32)) hx hb dL_law_918 (by decide) ?_
  refine lv_iadd hx hb dL_law_919 ?_
  obtain ⟨n_1, h⟩ := k_no h
  refine va_sld hx hb hX hbl hbA hS n_1 dL_law_920 ?_
  obtain ⟨v_2, σ_3, hc_4, h⟩ := kb_ok h
  refine lcc_i C Z.2 hP hQ hS (krunVG (As := [.int (xs (x3 + (1 : Int32)).toNatClampNeg)]) C (fun U hW => hK.warm hW) hP (c_X7_treaty E C.1 F σ (xs (x3 + (1 : Int32)).toNatClampNeg) hc_4) lw_w576 kv_X7_treaty ⟨Nat.le_of_ble_eq_true rfl, Nat.le_of_ble_eq_true rfl⟩ (rc_0 C hP) rfl hl.1 rfl (Nat.le_of_ble_eq_true rfl) dL_law_921 ⟨Nat.le_of_ble_eq_true rfl, Nat.le_of_ble_eq_true rfl⟩) (fun H locs hP hQ hS => ?_)
  refine lv_pop hx hb dL_law_924 rfl ?_
  refine lv_aload_n hx hb dL_law_925 rfl (lv_at hl 2 rfl) ?_
  refine lv_aload_n hx hb dL_law_926 rfl (lv_at hl 0 rfl) ?_
  refine lv_iload_n hx hb dL_law_927 rfl (lv_at hl 3 rfl) ?_
  refine lv_iconst (v := (1 : Int32)) hx hb dL_law_928 (by decide) ?_
  refine lv_iadd hx hb dL_law_929 ?_
  obtain ⟨n_5, h⟩ := k_no h
  refine va_sld hx hb hX hbl hbA hS n_5 dL_law_930 ?_
  obtain ⟨v_6, τ_7, hc_8, h⟩ := kb_ok h
  refine lcm_i C Z.2 hP hQ hS (krunVG (As := [.int (xs (x3 + (1 : Int32)).toNatClampNeg)]) C (fun U hW => hK.warm hW) hQ (c_X8_treaty E C.1 F τ (xs (x3 + (1 : Int32)).toNatClampNeg) hc_8) lw_w903 kv_X8_treaty ⟨Nat.le_of_ble_eq_true rfl, Nat.le_of_ble_eq_true rfl⟩ (rc_27 C hQ) rfl hl.1 rfl (Nat.le_of_ble_eq_true rfl) dL_law_931 ⟨Nat.le_of_ble_eq_true rfl, Nat.le_of_ble_eq_true rfl⟩) (fun H locs hP hQ hS => ?_)
  refine lv_pop hx hb dL_law_934 rfl ?_
  refine lv_goto (tgt := 1258) hx hb dL_law_935 (by decide) ?_
  exact w_L_1258 C Z F rec18 hrec σ_3 τ_7 x3 h H locs hP hQ hS ls hl
def s_L_938 (F L : Nat) (xs : Nat → Int32) (rec18 : kS × kS × Int32 → Option Unit) (σ τ : kS) (x3 : Int32) : Option Unit :=
  (if (x3 + (1 : Int32)) < 0 ∨ L ≤ (x3 + (1 : Int32)).toNatClampNeg then none else (if (x3 + (2 : Int32)) < 0 ∨ L ≤ (x3 + (2 : Int32)).toNatClampNeg then none else (if (x3 + (3 : Int32)) < 0 ∨ L ≤ (x3 + (3 : Int32)).toNatClampNeg then none else (if (x3 + (4 : Int32)) < 0 ∨ L ≤ (x3 + (4 : Int32)).toNatClampNeg then none else (kb (f_X7_bargain F σ (xs (x3 + (1 : Int32)).toNatClampNeg) (xs (x3 + (2 : Int32)).toNatClampNeg) (((xs (x3 + (3 : Int32)).toNatClampNeg).toInt64 <<< ((32 : Int32).toInt64 &&& 63)) ||| ((xs (x3 + (4 : Int32)).toNatClampNeg).toInt64 &&& (4294967295 : Int64)))) fun v_5 σ_6 => (if (x3 + (1 : Int32)) < 0 ∨ L ≤ (x3 + (1 : Int32)).toNatClampNeg then none else (if (x3 + (2 : Int32)) < 0 ∨ L ≤ (x3 + (2 : Int32)).toNatClampNeg then none else (if (x3 + (3 : Int32)) < 0 ∨ L ≤ (x3 + (3 : Int32)).toNatClampNeg then none else (if (x3 + (4 : Int32)) < 0 ∨ L ≤ (x3 + (4 : Int32)).toNatClampNeg then none else (kb (f_X8_bargain F τ (xs (x3 + (1 : Int32)).toNatClampNeg) (xs (x3 + (2 : Int32)).toNatClampNeg) (((xs (x3 + (3 : Int32)).toNatClampNeg).toInt64 <<< ((32 : Int32).toInt64 &&& 63)) ||| ((xs (x3 + (4 : Int32)).toNatClampNeg).toInt64 &&& (4294967295 : Int64)))) fun v_12 τ_13 => s_L_1258 F L xs rec18 σ_6 τ_13 x3))))))))))
set_option maxRecDepth 100000 in
set_option maxHeartbeats 8000000 in
theorem w_L_938 (C : Cx E p s m #[Value.ref b] meth c cL_law 4 RL ret) (Z : lZ E s b L xs) (F : Nat) (rec18 : kS × kS × Int32 → Option Unit) (hrec : ∀ (σ τ : kS) (x3 : Int32), rec18 (σ, τ, x3) = some () → ∀ (H : Heap) (locs : List Loc), cP E σ H → mP E τ H → va_S (fun q : Nat => s.heap.size ≤ q) s.heap H locs → ∀ (ls : Array Slot), lv_has ls 4 [(0, .ref b), (1, .ref (eA E 0)), (2, .ref (eA E 27)), (3, .int x3)] → W p l e room_1 s m #[Value.ref b] below meth c H locs 39 1190 (lw_Z below #[Value.ref b] s) (F0 m 18 ls [])) (σ τ : kS) (x3 : Int32) (h : s_L_938 F L xs rec18 σ τ x3 = some ()) (H : Heap) (locs : List Loc) (hP : cP E σ H) (hQ : mP E τ H) (hS : va_S (fun q : Nat => s.heap.size ≤ q) s.heap H locs) (ls : Array Slot) (hl : lv_has ls 4 [(0, .ref b), (1, .ref (eA E 0)), (2, .ref (eA E 27)), (3, .int x3)]) : W p l e room_1 s m #[Value.ref b] below meth c H locs 39 1190 (lw_Z below #[Value.ref b] s) (F0 m 938 ls []) := by
  obtain ⟨-, hx, hb, hml, hown, hts, hK, hr, hlk⟩ := id C
  obtain ⟨⟨hX, hbl⟩, -⟩ := id Z
  have hbA : ¬ (fun q : Nat => s.heap.size ≤ q) b := Nat.not_le.mpr hbl
  unfold s_L_938 at h
  refine lv_aload_n hx hb dL_law_938 rfl (lv_at hl 1 rfl) ?_
  refine lv_aload_n hx hb dL_law_939 rfl (lv_at hl 0 rfl) ?_
  refine lv_iload_n hx hb dL_law_940 rfl (lv_at hl 3 rfl) ?_
  refine lv_iconst (v := (1 : Int32)) hx hb dL_law_941 (by decide) ?_
  refine lv_iadd hx hb dL_law_942 ?_
  obtain ⟨n_1, h⟩ := k_no h
  refine va_sld hx hb hX hbl hbA hS n_1 dL_law_943 ?_
  refine lv_aload_n hx hb dL_law_944 rfl (lv_at hl 0 rfl) ?_
  refine lv_iload_n hx hb dL_law_945 rfl (lv_at hl 3 rfl) ?_
  refine lv_iconst (v := (2 : Int32)) hx hb dL_law_946 (by decide) ?_
  refine lv_iadd hx hb dL_law_947 ?_
  obtain ⟨n_2, h⟩ := k_no h
  refine va_sld hx hb hX hbl hbA hS n_2 dL_law_948 ?_
  refine lv_aload_n hx hb dL_law_949 rfl (lv_at hl 0 rfl) ?_
  refine lv_iload_n hx hb dL_law_950 rfl (lv_at hl 3 rfl) ?_
  refine lv_iconst (v := (3 : Int32)) hx hb dL_law_951 (by decide) ?_
  refine lv_iadd hx hb dL_law_952 ?_
  obtain ⟨n_3, h⟩ := k_no h
  refine va_sld hx hb hX hbl hbA hS n_3 dL_law_953 ?_
  refine lv_i2l (v := (xs (x3 + (3 : Int32)).toNatClampNeg).toInt64) hx hb dL_law_954 rfl ?_
  refine lv_bipush (v := (32 : Int32)) hx hb dL_law_955 (by decide) ?_
  refine lv_lshl (v := ((xs (x3 + (3 : Int32)).toNatClampNeg).toInt64 <<< ((32 : Int32).toInt64 &&& 63))) hx hb dL_law_957 rfl ?_
  refine lv_aload_n hx hb dL_law_958 rfl (lv_at hl 0 rfl) ?_
  refine lv_iload_n hx hb dL_law_959 rfl (lv_at hl 3 rfl) ?_
  refine lv_iconst (v := (4 : Int32)) hx hb dL_law_960 (by decide) ?_
  refine lv_iadd hx hb dL_law_961 ?_
  obtain ⟨n_4, h⟩ := k_no h
  refine va_sld hx hb hX hbl hbA hS n_4 dL_law_962 ?_
  refine lv_i2l (v := (xs (x3 + (4 : Int32)).toNatClampNeg).toInt64) hx hb dL_law_963 rfl ?_
  refine lv_ldc2 (v := (4294967295 : Int64)) hx hb hown (hts _ lw_w966) dL_law_964 ?_
  refine lv_land hx hb dL_law_967 ?_
  refine lv_lor hx hb dL_law_968 ?_
  obtain ⟨v_5, σ_6, hc_7, h⟩ := kb_ok h
  refine lcc_l C Z.2 hP hQ hS (krunVG (As := [.int (xs (x3 + (1 : Int32)).toNatClampNeg), .int (xs (x3 + (2 : Int32)).toNatClampNeg), .long (((xs (x3 + (3 : Int32)).toNatClampNeg).toInt64 <<< ((32 : Int32).toInt64 &&& 63)) ||| ((xs (x3 + (4 : Int32)).toNatClampNeg).toInt64 &&& (4294967295 : Int64)))]) C (fun U hW => hK.warm hW) hP (c_X7_bargain E C.1 F σ (xs (x3 + (1 : Int32)).toNatClampNeg) (xs (x3 + (2 : Int32)).toNatClampNeg) (((xs (x3 + (3 : Int32)).toNatClampNeg).toInt64 <<< ((32 : Int32).toInt64 &&& 63)) ||| ((xs (x3 + (4 : Int32)).toNatClampNeg).toInt64 &&& (4294967295 : Int64))) hc_7) lw_w590 kv_X7_bargain ⟨Nat.le_of_ble_eq_true rfl, Nat.le_of_ble_eq_true rfl⟩ (rc_0 C hP) rfl hl.1 rfl (Nat.le_of_ble_eq_true rfl) dL_law_969 ⟨Nat.le_of_ble_eq_true rfl, Nat.le_of_ble_eq_true rfl⟩) (fun H locs hP hQ hS => ?_)
  refine lv_pop2_2 hx hb dL_law_972 rfl ?_
  refine lv_aload_n hx hb dL_law_973 rfl (lv_at hl 2 rfl) ?_
  refine lv_aload_n hx hb dL_law_974 rfl (lv_at hl 0 rfl) ?_
  refine lv_iload_n hx hb dL_law_975 rfl (lv_at hl 3 rfl) ?_
  refine lv_iconst (v := (1 : Int32)) hx hb dL_law_976 (by decide) ?_
  refine lv_iadd hx hb dL_law_977 ?_
  obtain ⟨n_8, h⟩ := k_no h
  refine va_sld hx hb hX hbl hbA hS n_8 dL_law_978 ?_
  refine lv_aload_n hx hb dL_law_979 rfl (lv_at hl 0 rfl) ?_
  refine lv_iload_n hx hb dL_law_980 rfl (lv_at hl 3 rfl) ?_
  refine lv_iconst (v := (2 : Int32)) hx hb dL_law_981 (by decide) ?_
  refine lv_iadd hx hb dL_law_982 ?_
  obtain ⟨n_9, h⟩ := k_no h
  refine va_sld hx hb hX hbl hbA hS n_9 dL_law_983 ?_
  refine lv_aload_n hx hb dL_law_984 rfl (lv_at hl 0 rfl) ?_
  refine lv_iload_n hx hb dL_law_985 rfl (lv_at hl 3 rfl) ?_
  refine lv_iconst (v := (3 : Int32)) hx hb dL_law_986 (by decide) ?_
  refine lv_iadd hx hb dL_law_987 ?_
  obtain ⟨n_10, h⟩ := k_no h
  refine va_sld hx hb hX hbl hbA hS n_10 dL_law_988 ?_
  refine lv_i2l (v := (xs (x3 + (3 : Int32)).toNatClampNeg).toInt64) hx hb dL_law_989 rfl ?_
  refine lv_bipush (v := (32 : Int32)) hx hb dL_law_990 (by decide) ?_
  refine lv_lshl (v := ((xs (x3 + (3 : Int32)).toNatClampNeg).toInt64 <<< ((32 : Int32).toInt64 &&& 63))) hx hb dL_law_992 rfl ?_
  refine lv_aload_n hx hb dL_law_993 rfl (lv_at hl 0 rfl) ?_
  refine lv_iload_n hx hb dL_law_994 rfl (lv_at hl 3 rfl) ?_
  refine lv_iconst (v := (4 : Int32)) hx hb dL_law_995 (by decide) ?_
  refine lv_iadd hx hb dL_law_996 ?_
  obtain ⟨n_11, h⟩ := k_no h
  refine va_sld hx hb hX hbl hbA hS n_11 dL_law_997 ?_
  refine lv_i2l (v := (xs (x3 + (4 : Int32)).toNatClampNeg).toInt64) hx hb dL_law_998 rfl ?_
  refine lv_ldc2 (v := (4294967295 : Int64)) hx hb hown (hts _ lw_w966) dL_law_999 ?_
  refine lv_land hx hb dL_law_1002 ?_
  refine lv_lor hx hb dL_law_1003 ?_
  obtain ⟨v_12, τ_13, hc_14, h⟩ := kb_ok h
  refine lcm_l C Z.2 hP hQ hS (krunVG (As := [.int (xs (x3 + (1 : Int32)).toNatClampNeg), .int (xs (x3 + (2 : Int32)).toNatClampNeg), .long (((xs (x3 + (3 : Int32)).toNatClampNeg).toInt64 <<< ((32 : Int32).toInt64 &&& 63)) ||| ((xs (x3 + (4 : Int32)).toNatClampNeg).toInt64 &&& (4294967295 : Int64)))]) C (fun U hW => hK.warm hW) hQ (c_X8_bargain E C.1 F τ (xs (x3 + (1 : Int32)).toNatClampNeg) (xs (x3 + (2 : Int32)).toNatClampNeg) (((xs (x3 + (3 : Int32)).toNatClampNeg).toInt64 <<< ((32 : Int32).toInt64 &&& 63)) ||| ((xs (x3 + (4 : Int32)).toNatClampNeg).toInt64 &&& (4294967295 : Int64))) hc_14) lw_w911 kv_X8_bargain ⟨Nat.le_of_ble_eq_true rfl, Nat.le_of_ble_eq_true rfl⟩ (rc_27 C hQ) rfl hl.1 rfl (Nat.le_of_ble_eq_true rfl) dL_law_1004 ⟨Nat.le_of_ble_eq_true rfl, Nat.le_of_ble_eq_true rfl⟩) (fun H locs hP hQ hS => ?_)
  refine lv_pop2_2 hx hb dL_law_1007 rfl ?_
  refine lv_goto (tgt := 1258) hx hb dL_law_1008 (by decide) ?_
  exact w_L_1258 C Z F rec18 hrec σ_6 τ_13 x3 h H locs hP hQ hS ls hl
def s_L_1011 (F L : Nat) (xs : Nat → Int32) (rec18 : kS × kS × Int32 → Option Unit) (σ τ : kS) (x3 : Int32) : Option Unit :=
  (if (x3 + (1 : Int32)) < 0 ∨ L ≤ (x3 + (1 : Int32)).toNatClampNeg then none else (if (x3 + (2 : Int32)) < 0 ∨ L ≤ (x3 + (2 : Int32)).toNatClampNeg then none else (kb (f_X7_line F σ (xs (x3 + (1 : Int32)).toNatClampNeg) (xs (x3 + (2 : Int32)).toNatClampNeg)) fun v_3 σ_4 => (if (x3 + (1 : Int32)) < 0 ∨ L ≤ (x3 + (1 : Int32)).toNatClampNeg then none else (if (x3 + (2 : Int32)) < 0 ∨ L ≤ (x3 + (2 : Int32)).toNatClampNeg then none else (kb (f_X8_line F τ (xs (x3 + (1 : Int32)).toNatClampNeg) (xs (x3 + (2 : Int32)).toNatClampNeg)) fun v_8 τ_9 => s_L_1258 F L xs rec18 σ_4 τ_9 x3))))))
set_option maxRecDepth 100000 in
set_option maxHeartbeats 8000000 in
theorem w_L_1011 (C : Cx E p s m #[Value.ref b] meth c cL_law 4 RL ret) (Z : lZ E s b L xs) (F : Nat) (rec18 : kS × kS × Int32 → Option Unit) (hrec : ∀ (σ τ : kS) (x3 : Int32), rec18 (σ, τ, x3) = some () → ∀ (H : Heap) (locs : List Loc), cP E σ H → mP E τ H → va_S (fun q : Nat => s.heap.size ≤ q) s.heap H locs → ∀ (ls : Array Slot), lv_has ls 4 [(0, .ref b), (1, .ref (eA E 0)), (2, .ref (eA E 27)), (3, .int x3)] → W p l e room_1 s m #[Value.ref b] below meth c H locs 39 1190 (lw_Z below #[Value.ref b] s) (F0 m 18 ls [])) (σ τ : kS) (x3 : Int32) (h : s_L_1011 F L xs rec18 σ τ x3 = some ()) (H : Heap) (locs : List Loc) (hP : cP E σ H) (hQ : mP E τ H) (hS : va_S (fun q : Nat => s.heap.size ≤ q) s.heap H locs) (ls : Array Slot) (hl : lv_has ls 4 [(0, .ref b), (1, .ref (eA E 0)), (2, .ref (eA E 27)), (3, .int x3)]) : W p l e room_1 s m #[Value.ref b] below meth c H locs 39 1190 (lw_Z below #[Value.ref b] s) (F0 m 1011 ls []) := by
  obtain ⟨-, hx, hb, hml, hown, hts, hK, hr, hlk⟩ := id C
  obtain ⟨⟨hX, hbl⟩, -⟩ := id Z
  have hbA : ¬ (fun q : Nat => s.heap.size ≤ q) b := Nat.not_le.mpr hbl
  unfold s_L_1011 at h
  refine lv_aload_n hx hb dL_law_1011 rfl (lv_at hl 1 rfl) ?_
  refine lv_aload_n hx hb dL_law_1012 rfl (lv_at hl 0 rfl) ?_
  refine lv_iload_n hx hb dL_law_1013 rfl (lv_at hl 3 rfl) ?_
  refine lv_iconst (v := (1 : Int32)) hx hb dL_law_1014 (by decide) ?_
  refine lv_iadd hx hb dL_law_1015 ?_
  obtain ⟨n_1, h⟩ := k_no h
  refine va_sld hx hb hX hbl hbA hS n_1 dL_law_1016 ?_
  refine lv_aload_n hx hb dL_law_1017 rfl (lv_at hl 0 rfl) ?_
  refine lv_iload_n hx hb dL_law_1018 rfl (lv_at hl 3 rfl) ?_
  refine lv_iconst (v := (2 : Int32)) hx hb dL_law_1019 (by decide) ?_
  refine lv_iadd hx hb dL_law_1020 ?_
  obtain ⟨n_2, h⟩ := k_no h
  refine va_sld hx hb hX hbl hbA hS n_2 dL_law_1021 ?_
  obtain ⟨v_3, σ_4, hc_5, h⟩ := kb_ok h
  refine lcc_i C Z.2 hP hQ hS (krunVG (As := [.int (xs (x3 + (1 : Int32)).toNatClampNeg), .int (xs (x3 + (2 : Int32)).toNatClampNeg)]) C (fun U hW => hK.warm hW) hP (c_X7_line E C.1 F σ (xs (x3 + (1 : Int32)).toNatClampNeg) (xs (x3 + (2 : Int32)).toNatClampNeg) hc_5) lw_w594 kv_X7_line ⟨Nat.le_of_ble_eq_true rfl, Nat.le_of_ble_eq_true rfl⟩ (rc_0 C hP) rfl hl.1 rfl (Nat.le_of_ble_eq_true rfl) dL_law_1022 ⟨Nat.le_of_ble_eq_true rfl, Nat.le_of_ble_eq_true rfl⟩) (fun H locs hP hQ hS => ?_)
  refine lv_pop hx hb dL_law_1025 rfl ?_
  refine lv_aload_n hx hb dL_law_1026 rfl (lv_at hl 2 rfl) ?_
  refine lv_aload_n hx hb dL_law_1027 rfl (lv_at hl 0 rfl) ?_
  refine lv_iload_n hx hb dL_law_1028 rfl (lv_at hl 3 rfl) ?_
  refine lv_iconst (v := (1 : Int32)) hx hb dL_law_1029 (by decide) ?_
  refine lv_iadd hx hb dL_law_1030 ?_
  obtain ⟨n_6, h⟩ := k_no h
  refine va_sld hx hb hX hbl hbA hS n_6 dL_law_1031 ?_
  refine lv_aload_n hx hb dL_law_1032 rfl (lv_at hl 0 rfl) ?_
  refine lv_iload_n hx hb dL_law_1033 rfl (lv_at hl 3 rfl) ?_
  refine lv_iconst (v := (2 : Int32)) hx hb dL_law_1034 (by decide) ?_
  refine lv_iadd hx hb dL_law_1035 ?_
  obtain ⟨n_7, h⟩ := k_no h
  refine va_sld hx hb hX hbl hbA hS n_7 dL_law_1036 ?_
  obtain ⟨v_8, τ_9, hc_10, h⟩ := kb_ok h
  refine lcm_i C Z.2 hP hQ hS (krunVG (As := [.int (xs (x3 + (1 : Int32)).toNatClampNeg), .int (xs (x3 + (2 : Int32)).toNatClampNeg)]) C (fun U hW => hK.warm hW) hQ (c_X8_line E C.1 F τ (xs (x3 + (1 : Int32)).toNatClampNeg) (xs (x3 + (2 : Int32)).toNatClampNeg) hc_10) lw_w915 kv_X8_line ⟨Nat.le_of_ble_eq_true rfl, Nat.le_of_ble_eq_true rfl⟩ (rc_27 C hQ) rfl hl.1 rfl (Nat.le_of_ble_eq_true rfl) dL_law_1037 ⟨Nat.le_of_ble_eq_true rfl, Nat.le_of_ble_eq_true rfl⟩) (fun H locs hP hQ hS => ?_)
  refine lv_pop hx hb dL_law_1040 rfl ?_
  refine lv_goto (tgt := 1258) hx hb dL_law_1041 (by decide) ?_
  exact w_L_1258 C Z F rec18 hrec σ_4 τ_9 x3 h H locs hP hQ hS ls hl
def s_L_1044 (F L : Nat) (xs : Nat → Int32) (rec18 : kS × kS × Int32 → Option Unit) (σ τ : kS) (x3 : Int32) : Option Unit :=
  (kb (f_X7_noTable F σ) fun v_1 σ_2 => (kb (f_X8_noTable F τ) fun v_4 τ_5 => s_L_1258 F L xs rec18 σ_2 τ_5 x3))
set_option maxRecDepth 100000 in
set_option maxHeartbeats 8000000 in
theorem w_L_1044 (C : Cx E p s m #[Value.ref b] meth c cL_law 4 RL ret) (Z : lZ E s b L xs) (F : Nat) (rec18 : kS × kS × Int32 → Option Unit) (hrec : ∀ (σ τ : kS) (x3 : Int32), rec18 (σ, τ, x3) = some () → ∀ (H : Heap) (locs : List Loc), cP E σ H → mP E τ H → va_S (fun q : Nat => s.heap.size ≤ q) s.heap H locs → ∀ (ls : Array Slot), lv_has ls 4 [(0, .ref b), (1, .ref (eA E 0)), (2, .ref (eA E 27)), (3, .int x3)] → W p l e room_1 s m #[Value.ref b] below meth c H locs 39 1190 (lw_Z below #[Value.ref b] s) (F0 m 18 ls [])) (σ τ : kS) (x3 : Int32) (h : s_L_1044 F L xs rec18 σ τ x3 = some ()) (H : Heap) (locs : List Loc) (hP : cP E σ H) (hQ : mP E τ H) (hS : va_S (fun q : Nat => s.heap.size ≤ q) s.heap H locs) (ls : Array Slot) (hl : lv_has ls 4 [(0, .ref b), (1, .ref (eA E 0)), (2, .ref (eA E 27)), (3, .int x3)]) : W p l e room_1 s m #[Value.ref b] below meth c H locs 39 1190 (lw_Z below #[Value.ref b] s) (F0 m 1044 ls []) := by
  obtain ⟨-, hx, hb, hml, hown, hts, hK, hr, hlk⟩ := id C
  obtain ⟨⟨hX, hbl⟩, -⟩ := id Z
  have hbA : ¬ (fun q : Nat => s.heap.size ≤ q) b := Nat.not_le.mpr hbl
  unfold s_L_1044 at h
  refine lv_aload_n hx hb dL_law_1044 rfl (lv_at hl 1 rfl) ?_
  obtain ⟨v_1, σ_2, hc_3, h⟩ := kb_ok h
  refine lcc_i C Z.2 hP hQ hS (krunVG (As := []) C (fun U hW => hK.warm hW) hP (c_X7_noTable E C.1 F σ hc_3) lw_w603 kv_X7_noTable ⟨Nat.le_of_ble_eq_true rfl, Nat.le_of_ble_eq_true rfl⟩ (rc_0 C hP) rfl hl.1 rfl (Nat.le_of_ble_eq_true rfl) dL_law_1045 ⟨Nat.le_of_ble_eq_true rfl, Nat.le_of_ble_eq_true rfl⟩) (fun H locs hP hQ hS => ?_)
  refine lv_pop hx hb dL_law_1048 rfl ?_
  refine lv_aload_n hx hb dL_law_1049 rfl (lv_at hl 2 rfl) ?_
  obtain ⟨v_4, τ_5, hc_6, h⟩ := kb_ok h
  refine lcm_i C Z.2 hP hQ hS (krunVG (As := []) C (fun U hW => hK.warm hW) hQ (c_X8_noTable E C.1 F τ hc_6) lw_w920 kv_X8_noTable ⟨Nat.le_of_ble_eq_true rfl, Nat.le_of_ble_eq_true rfl⟩ (rc_27 C hQ) rfl hl.1 rfl (Nat.le_of_ble_eq_true rfl) dL_law_1050 ⟨Nat.le_of_ble_eq_true rfl, Nat.le_of_ble_eq_true rfl⟩) (fun H locs hP hQ hS => ?_)
  refine lv_pop hx hb dL_law_1053 rfl ?_
  refine lv_goto (tgt := 1258) hx hb dL_law_1054 (by decide) ?_
  exact w_L_1258 C Z F rec18 hrec σ_2 τ_5 x3 h H locs hP hQ hS ls hl
def s_L_1057 (F L : Nat) (xs : Nat → Int32) (rec18 : kS × kS × Int32 → Option Unit) (σ τ : kS) (x3 : Int32) : Option Unit :=
  (kb (f_X7_forged F σ) fun v_1 σ_2 => (kb (f_X8_forged F τ) fun v_4 τ_5 => s_L_1258 F L xs rec18 σ_2 τ_5 x3))
set_option maxRecDepth 100000 in
set_option maxHeartbeats 8000000 in
theorem w_L_1057 (C : Cx E p s m #[Value.ref b] meth c cL_law 4 RL ret) (Z : lZ E s b L xs) (F : Nat) (rec18 : kS × kS × Int32 → Option Unit) (hrec : ∀ (σ τ : kS) (x3 : Int32), rec18 (σ, τ, x3) = some () → ∀ (H : Heap) (locs : List Loc), cP E σ H → mP E τ H → va_S (fun q : Nat => s.heap.size ≤ q) s.heap H locs → ∀ (ls : Array Slot), lv_has ls 4 [(0, .ref b), (1, .ref (eA E 0)), (2, .ref (eA E 27)), (3, .int x3)] → W p l e room_1 s m #[Value.ref b] below meth c H locs 39 1190 (lw_Z below #[Value.ref b] s) (F0 m 18 ls [])) (σ τ : kS) (x3 : Int32) (h : s_L_1057 F L xs rec18 σ τ x3 = some ()) (H : Heap) (locs : List Loc) (hP : cP E σ H) (hQ : mP E τ H) (hS : va_S (fun q : Nat => s.heap.size ≤ q) s.heap H locs) (ls : Array Slot) (hl : lv_has ls 4 [(0, .ref b), (1, .ref (eA E 0)), (2, .ref (eA E 27)), (3, .int x3)]) : W p l e room_1 s m #[Value.ref b] below meth c H locs 39 1190 (lw_Z below #[Value.ref b] s) (F0 m 1057 ls []) := by
  obtain ⟨-, hx, hb, hml, hown, hts, hK, hr, hlk⟩ := id C
  obtain ⟨⟨hX, hbl⟩, -⟩ := id Z
  have hbA : ¬ (fun q : Nat => s.heap.size ≤ q) b := Nat.not_le.mpr hbl
  unfold s_L_1057 at h
  refine lv_aload_n hx hb dL_law_1057 rfl (lv_at hl 1 rfl) ?_
  obtain ⟨v_1, σ_2, hc_3, h⟩ := kb_ok h
  refine lcc_i C Z.2 hP hQ hS (krunVG (As := []) C (fun U hW => hK.warm hW) hP (c_X7_forged E C.1 F σ hc_3) lw_w607 kv_X7_forged ⟨Nat.le_of_ble_eq_true rfl, Nat.le_of_ble_eq_true rfl⟩ (rc_0 C hP) rfl hl.1 rfl (Nat.le_of_ble_eq_true rfl) dL_law_1058 ⟨Nat.le_of_ble_eq_true rfl, Nat.le_of_ble_eq_true rfl⟩) (fun H locs hP hQ hS => ?_)
  refine lv_pop hx hb dL_law_1061 rfl ?_
  refine lv_aload_n hx hb dL_law_1062 rfl (lv_at hl 2 rfl) ?_
  obtain ⟨v_4, τ_5, hc_6, h⟩ := kb_ok h
  refine lcm_i C Z.2 hP hQ hS (krunVG (As := []) C (fun U hW => hK.warm hW) hQ (c_X8_forged E C.1 F τ hc_6) lw_w924 kv_X8_forged ⟨Nat.le_of_ble_eq_true rfl, Nat.le_of_ble_eq_true rfl⟩ (rc_27 C hQ) rfl hl.1 rfl (Nat.le_of_ble_eq_true rfl) dL_law_1063 ⟨Nat.le_of_ble_eq_true rfl, Nat.le_of_ble_eq_true rfl⟩) (fun H locs hP hQ hS => ?_)
  refine lv_pop hx hb dL_law_1066 rfl ?_
  refine lv_goto (tgt := 1258) hx hb dL_law_1067 (by decide) ?_
  exact w_L_1258 C Z F rec18 hrec σ_2 τ_5 x3 h H locs hP hQ hS ls hl
def s_L_1070 (F L : Nat) (xs : Nat → Int32) (rec18 : kS × kS × Int32 → Option Unit) (σ τ : kS) (x3 : Int32) : Option Unit :=
  (if (x3 + (1 : Int32)) < 0 ∨ L ≤ (x3 + (1 : Int32)).toNatClampNeg then none else (kb (f_X7_shift F σ (xs (x3 + (1 : Int32)).toNatClampNeg)) fun v_2 σ_3 => (if (x3 + (1 : Int32)) < 0 ∨ L ≤ (x3 + (1 : Int32)).toNatClampNeg then none else (kb (f_X8_shift F τ (xs (x3 + (1 : Int32)).toNatClampNeg)) fun v_6 τ_7 => s_L_1258 F L xs rec18 σ_3 τ_7 x3))))
set_option maxRecDepth 100000 in
set_option maxHeartbeats 8000000 in
theorem w_L_1070 (C : Cx E p s m #[Value.ref b] meth c cL_law 4 RL ret) (Z : lZ E s b L xs) (F : Nat) (rec18 : kS × kS × Int32 → Option Unit) (hrec : ∀ (σ τ : kS) (x3 : Int32), rec18 (σ, τ, x3) = some () → ∀ (H : Heap) (locs : List Loc), cP E σ H → mP E τ H → va_S (fun q : Nat => s.heap.size ≤ q) s.heap H locs → ∀ (ls : Array Slot), lv_has ls 4 [(0, .ref b), (1, .ref (eA E 0)), (2, .ref (eA E 27)), (3, .int x3)] → W p l e room_1 s m #[Value.ref b] below meth c H locs 39 1190 (lw_Z below #[Value.ref b] s) (F0 m 18 ls [])) (σ τ : kS) (x3 : Int32) (h : s_L_1070 F L xs rec18 σ τ x3 = some ()) (H : Heap) (locs : List Loc) (hP : cP E σ H) (hQ : mP E τ H) (hS : va_S (fun q : Nat => s.heap.size ≤ q) s.heap H locs) (ls : Array Slot) (hl : lv_has ls 4 [(0, .ref b), (1, .ref (eA E 0)), (2, .ref (eA E 27)), (3, .int x3)]) : W p l e room_1 s m #[Value.ref b] below meth c H locs 39 1190 (lw_Z below #[Value.ref b] s) (F0 m 1070 ls []) := by
  obtain ⟨-, hx, hb, hml, hown, hts, hK, hr, hlk⟩ := id C
  obtain ⟨⟨hX, hbl⟩, -⟩ := id Z
  have hbA : ¬ (fun q : Nat => s.heap.size ≤ q) b := Nat.not_le.mpr hbl
  unfold s_L_1070 at h
  refine lv_aload_n hx hb dL_law_1070 rfl (lv_at hl 1 rfl) ?_
  refine lv_aload_n hx hb dL_law_1071 rfl (lv_at hl 0 rfl) ?_
  refine lv_iload_n hx hb dL_law_1072 rfl (lv_at hl 3 rfl) ?_
  refine lv_iconst (v := (1 : Int32)) hx hb dL_law_1073 (by decide) ?_
  refine lv_iadd hx hb dL_law_1074 ?_
  obtain ⟨n_1, h⟩ := k_no h
  refine va_sld hx hb hX hbl hbA hS n_1 dL_law_1075 ?_
  obtain ⟨v_2, σ_3, hc_4, h⟩ := kb_ok h
  refine lcc_i C Z.2 hP hQ hS (krunVG (As := [.int (xs (x3 + (1 : Int32)).toNatClampNeg)]) C (fun U hW => hK.warm hW) hP (c_X7_shift E C.1 F σ (xs (x3 + (1 : Int32)).toNatClampNeg) hc_4) lw_w621 kv_X7_shift ⟨Nat.le_of_ble_eq_true rfl, Nat.le_of_ble_eq_true rfl⟩ (rc_0 C hP) rfl hl.1 rfl (Nat.le_of_ble_eq_true rfl) dL_law_1076 ⟨Nat.le_of_ble_eq_true rfl, Nat.le_of_ble_eq_true rfl⟩) (fun H locs hP hQ hS => ?_)
  refine lv_pop hx hb dL_law_1079 rfl ?_
  refine lv_aload_n hx hb dL_law_1080 rfl (lv_at hl 2 rfl) ?_
  refine lv_aload_n hx hb dL_law_1081 rfl (lv_at hl 0 rfl) ?_
  refine lv_iload_n hx hb dL_law_1082 rfl (lv_at hl 3 rfl) ?_
  refine lv_iconst (v := (1 : Int32)) hx hb dL_law_1083 (by decide) ?_
  refine lv_iadd hx hb dL_law_1084 ?_
  obtain ⟨n_5, h⟩ := k_no h
  refine va_sld hx hb hX hbl hbA hS n_5 dL_law_1085 ?_
  obtain ⟨v_6, τ_7, hc_8, h⟩ := kb_ok h
  refine lcm_i C Z.2 hP hQ hS (krunVG (As := [.int (xs (x3 + (1 : Int32)).toNatClampNeg)]) C (fun U hW => hK.warm hW) hQ (c_X8_shift E C.1 F τ (xs (x3 + (1 : Int32)).toNatClampNeg) hc_8) lw_w928 kv_X8_shift ⟨Nat.le_of_ble_eq_true rfl, Nat.le_of_ble_eq_true rfl⟩ (rc_27 C hQ) rfl hl.1 rfl (Nat.le_of_ble_eq_true rfl) dL_law_1086 ⟨Nat.le_of_ble_eq_true rfl, Nat.le_of_ble_eq_true rfl⟩) (fun H locs hP hQ hS => ?_)
  refine lv_pop hx hb dL_law_1089 rfl ?_
  refine lv_goto (tgt := 1258) hx hb dL_law_1090 (by decide) ?_
  exact w_L_1258 C Z F rec18 hrec σ_3 τ_7 x3 h H locs hP hQ hS ls hl
def s_L_1093 (F L : Nat) (xs : Nat → Int32) (rec18 : kS × kS × Int32 → Option Unit) (σ τ : kS) (x3 : Int32) : Option Unit :=
  (if (x3 + (1 : Int32)) < 0 ∨ L ≤ (x3 + (1 : Int32)).toNatClampNeg then none else (if (x3 + (2 : Int32)) < 0 ∨ L ≤ (x3 + (2 : Int32)).toNatClampNeg then none else (if (x3 + (3 : Int32)) < 0 ∨ L ≤ (x3 + (3 : Int32)).toNatClampNeg then none else (if (x3 + (4 : Int32)) < 0 ∨ L ≤ (x3 + (4 : Int32)).toNatClampNeg then none else (if (x3 + (5 : Int32)) < 0 ∨ L ≤ (x3 + (5 : Int32)).toNatClampNeg then none else (kb (f_X7_wreck F σ (((xs (x3 + (1 : Int32)).toNatClampNeg).toInt64 <<< ((32 : Int32).toInt64 &&& 63)) ||| ((xs (x3 + (2 : Int32)).toNatClampNeg).toInt64 &&& (4294967295 : Int64))) (xs (x3 + (3 : Int32)).toNatClampNeg) (xs (x3 + (4 : Int32)).toNatClampNeg) (xs (x3 + (5 : Int32)).toNatClampNeg)) fun v_6 σ_7 => (if (x3 + (1 : Int32)) < 0 ∨ L ≤ (x3 + (1 : Int32)).toNatClampNeg then none else (if (x3 + (2 : Int32)) < 0 ∨ L ≤ (x3 + (2 : Int32)).toNatClampNeg then none else (if (x3 + (3 : Int32)) < 0 ∨ L ≤ (x3 + (3 : Int32)).toNatClampNeg then none else (if (x3 + (4 : Int32)) < 0 ∨ L ≤ (x3 + (4 : Int32)).toNatClampNeg then none else (if (x3 + (5 : Int32)) < 0 ∨ L ≤ (x3 + (5 : Int32)).toNatClampNeg then none else (kb (f_X8_wreck F τ (((xs (x3 + (1 : Int32)).toNatClampNeg).toInt64 <<< ((32 : Int32).toInt64 &&& 63)) ||| ((xs (x3 + (2 : Int32)).toNatClampNeg).toInt64 &&& (4294967295 : Int64))) (xs (x3 + (3 : Int32)).toNatClampNeg) (xs (x3 + (4 : Int32)).toNatClampNeg) (xs (x3 + (5 : Int32)).toNatClampNeg)) fun v_14 τ_15 => s_L_1258 F L xs rec18 σ_7 τ_15 x3))))))))))))
set_option maxRecDepth 100000 in
set_option maxHeartbeats 8000000 in
theorem w_L_1093 (C : Cx E p s m #[Value.ref b] meth c cL_law 4 RL ret) (Z : lZ E s b L xs) (F : Nat) (rec18 : kS × kS × Int32 → Option Unit) (hrec : ∀ (σ τ : kS) (x3 : Int32), rec18 (σ, τ, x3) = some () → ∀ (H : Heap) (locs : List Loc), cP E σ H → mP E τ H → va_S (fun q : Nat => s.heap.size ≤ q) s.heap H locs → ∀ (ls : Array Slot), lv_has ls 4 [(0, .ref b), (1, .ref (eA E 0)), (2, .ref (eA E 27)), (3, .int x3)] → W p l e room_1 s m #[Value.ref b] below meth c H locs 39 1190 (lw_Z below #[Value.ref b] s) (F0 m 18 ls [])) (σ τ : kS) (x3 : Int32) (h : s_L_1093 F L xs rec18 σ τ x3 = some ()) (H : Heap) (locs : List Loc) (hP : cP E σ H) (hQ : mP E τ H) (hS : va_S (fun q : Nat => s.heap.size ≤ q) s.heap H locs) (ls : Array Slot) (hl : lv_has ls 4 [(0, .ref b), (1, .ref (eA E 0)), (2, .ref (eA E 27)), (3, .int x3)]) : W p l e room_1 s m #[Value.ref b] below meth c H locs 39 1190 (lw_Z below #[Value.ref b] s) (F0 m 1093 ls []) := by
  obtain ⟨-, hx, hb, hml, hown, hts, hK, hr, hlk⟩ := id C
  obtain ⟨⟨hX, hbl⟩, -⟩ := id Z
  have hbA : ¬ (fun q : Nat => s.heap.size ≤ q) b := Nat.not_le.mpr hbl
  unfold s_L_1093 at h
  refine lv_aload_n hx hb dL_law_1093 rfl (lv_at hl 1 rfl) ?_
  refine lv_aload_n hx hb dL_law_1094 rfl (lv_at hl 0 rfl) ?_
  refine lv_iload_n hx hb dL_law_1095 rfl (lv_at hl 3 rfl) ?_
  refine lv_iconst (v := (1 : Int32)) hx hb dL_law_1096 (by decide) ?_
  refine lv_iadd hx hb dL_law_1097 ?_
  obtain ⟨n_1, h⟩ := k_no h
  refine va_sld hx hb hX hbl hbA hS n_1 dL_law_1098 ?_
  refine lv_i2l (v := (xs (x3 + (1 : Int32)).toNatClampNeg).toInt64) hx hb dL_law_1099 rfl ?_
  refine lv_bipush (v := (32 : Int32)) hx hb dL_law_1100 (by decide) ?_
  refine lv_lshl (v := ((xs (x3 + (1 : Int32)).toNatClampNeg).toInt64 <<< ((32 : Int32).toInt64 &&& 63))) hx hb dL_law_1102 rfl ?_
  refine lv_aload_n hx hb dL_law_1103 rfl (lv_at hl 0 rfl) ?_
  refine lv_iload_n hx hb dL_law_1104 rfl (lv_at hl 3 rfl) ?_
  refine lv_iconst (v := (2 : Int32)) hx hb dL_law_1105 (by decide) ?_
  refine lv_iadd hx hb dL_law_1106 ?_
  obtain ⟨n_2, h⟩ := k_no h
  refine va_sld hx hb hX hbl hbA hS n_2 dL_law_1107 ?_
  refine lv_i2l (v := (xs (x3 + (2 : Int32)).toNatClampNeg).toInt64) hx hb dL_law_1108 rfl ?_
  refine lv_ldc2 (v := (4294967295 : Int64)) hx hb hown (hts _ lw_w966) dL_law_1109 ?_
  refine lv_land hx hb dL_law_1112 ?_
  refine lv_lor hx hb dL_law_1113 ?_
  refine lv_aload_n hx hb dL_law_1114 rfl (lv_at hl 0 rfl) ?_
  refine lv_iload_n hx hb dL_law_1115 rfl (lv_at hl 3 rfl) ?_
  refine lv_iconst (v := (3 : Int32)) hx hb dL_law_1116 (by decide) ?_
  refine lv_iadd hx hb dL_law_1117 ?_
  obtain ⟨n_3, h⟩ := k_no h
  refine va_sld hx hb hX hbl hbA hS n_3 dL_law_1118 ?_
  refine lv_aload_n hx hb dL_law_1119 rfl (lv_at hl 0 rfl) ?_
  refine lv_iload_n hx hb dL_law_1120 rfl (lv_at hl 3 rfl) ?_
  refine lv_iconst (v := (4 : Int32)) hx hb dL_law_1121 (by decide) ?_
  refine lv_iadd hx hb dL_law_1122 ?_
  obtain ⟨n_4, h⟩ := k_no h
  refine va_sld hx hb hX hbl hbA hS n_4 dL_law_1123 ?_
  refine lv_aload_n hx hb dL_law_1124 rfl (lv_at hl 0 rfl) ?_
  refine lv_iload_n hx hb dL_law_1125 rfl (lv_at hl 3 rfl) ?_
  refine lv_iconst (v := (5 : Int32)) hx hb dL_law_1126 (by decide) ?_
  refine lv_iadd hx hb dL_law_1127 ?_
  obtain ⟨n_5, h⟩ := k_no h
  refine va_sld hx hb hX hbl hbA hS n_5 dL_law_1128 ?_
  obtain ⟨v_6, σ_7, hc_8, h⟩ := kb_ok h
  refine lcc_i C Z.2 hP hQ hS (krunVG (As := [.long (((xs (x3 + (1 : Int32)).toNatClampNeg).toInt64 <<< ((32 : Int32).toInt64 &&& 63)) ||| ((xs (x3 + (2 : Int32)).toNatClampNeg).toInt64 &&& (4294967295 : Int64))), .int (xs (x3 + (3 : Int32)).toNatClampNeg), .int (xs (x3 + (4 : Int32)).toNatClampNeg), .int (xs (x3 + (5 : Int32)).toNatClampNeg)]) C (fun U hW => hK.warm hW) hP (c_X7_wreck E C.1 F σ (((xs (x3 + (1 : Int32)).toNatClampNeg).toInt64 <<< ((32 : Int32).toInt64 &&& 63)) ||| ((xs (x3 + (2 : Int32)).toNatClampNeg).toInt64 &&& (4294967295 : Int64))) (xs (x3 + (3 : Int32)).toNatClampNeg) (xs (x3 + (4 : Int32)).toNatClampNeg) (xs (x3 + (5 : Int32)).toNatClampNeg) hc_8) lw_w634 kv_X7_wreck ⟨Nat.le_of_ble_eq_true rfl, Nat.le_of_ble_eq_true rfl⟩ (rc_0 C hP) rfl hl.1 rfl (Nat.le_of_ble_eq_true rfl) dL_law_1129 ⟨Nat.le_of_ble_eq_true rfl, Nat.le_of_ble_eq_true rfl⟩) (fun H locs hP hQ hS => ?_)
  refine lv_pop hx hb dL_law_1132 rfl ?_
  refine lv_aload_n hx hb dL_law_1133 rfl (lv_at hl 2 rfl) ?_
  refine lv_aload_n hx hb dL_law_1134 rfl (lv_at hl 0 rfl) ?_
  refine lv_iload_n hx hb dL_law_1135 rfl (lv_at hl 3 rfl) ?_
  refine lv_iconst (v := (1 : Int32)) hx hb dL_law_1136 (by decide) ?_
  refine lv_iadd hx hb dL_law_1137 ?_
  obtain ⟨n_9, h⟩ := k_no h
  refine va_sld hx hb hX hbl hbA hS n_9 dL_law_1138 ?_
  refine lv_i2l (v := (xs (x3 + (1 : Int32)).toNatClampNeg).toInt64) hx hb dL_law_1139 rfl ?_
  refine lv_bipush (v := (32 : Int32)) hx hb dL_law_1140 (by decide) ?_
  refine lv_lshl (v := ((xs (x3 + (1 : Int32)).toNatClampNeg).toInt64 <<< ((32 : Int32).toInt64 &&& 63))) hx hb dL_law_1142 rfl ?_
  refine lv_aload_n hx hb dL_law_1143 rfl (lv_at hl 0 rfl) ?_
  refine lv_iload_n hx hb dL_law_1144 rfl (lv_at hl 3 rfl) ?_
  refine lv_iconst (v := (2 : Int32)) hx hb dL_law_1145 (by decide) ?_
  refine lv_iadd hx hb dL_law_1146 ?_
  obtain ⟨n_10, h⟩ := k_no h
  refine va_sld hx hb hX hbl hbA hS n_10 dL_law_1147 ?_
  refine lv_i2l (v := (xs (x3 + (2 : Int32)).toNatClampNeg).toInt64) hx hb dL_law_1148 rfl ?_
  refine lv_ldc2 (v := (4294967295 : Int64)) hx hb hown (hts _ lw_w966) dL_law_1149 ?_
  refine lv_land hx hb dL_law_1152 ?_
  refine lv_lor hx hb dL_law_1153 ?_
  refine lv_aload_n hx hb dL_law_1154 rfl (lv_at hl 0 rfl) ?_
  refine lv_iload_n hx hb dL_law_1155 rfl (lv_at hl 3 rfl) ?_
  refine lv_iconst (v := (3 : Int32)) hx hb dL_law_1156 (by decide) ?_
  refine lv_iadd hx hb dL_law_1157 ?_
  obtain ⟨n_11, h⟩ := k_no h
  refine va_sld hx hb hX hbl hbA hS n_11 dL_law_1158 ?_
  refine lv_aload_n hx hb dL_law_1159 rfl (lv_at hl 0 rfl) ?_
  refine lv_iload_n hx hb dL_law_1160 rfl (lv_at hl 3 rfl) ?_
  refine lv_iconst (v := (4 : Int32)) hx hb dL_law_1161 (by decide) ?_
  refine lv_iadd hx hb dL_law_1162 ?_
  obtain ⟨n_12, h⟩ := k_no h
  refine va_sld hx hb hX hbl hbA hS n_12 dL_law_1163 ?_
  refine lv_aload_n hx hb dL_law_1164 rfl (lv_at hl 0 rfl) ?_
  refine lv_iload_n hx hb dL_law_1165 rfl (lv_at hl 3 rfl) ?_
  refine lv_iconst (v := (5 : Int32)) hx hb dL_law_1166 (by decide) ?_
  refine lv_iadd hx hb dL_law_1167 ?_
  obtain ⟨n_13, h⟩ := k_no h
  refine va_sld hx hb hX hbl hbA hS n_13 dL_law_1168 ?_
  obtain ⟨v_14, τ_15, hc_16, h⟩ := kb_ok h
  refine lcm_i C Z.2 hP hQ hS (krunVG (As := [.long (((xs (x3 + (1 : Int32)).toNatClampNeg).toInt64 <<< ((32 : Int32).toInt64 &&& 63)) ||| ((xs (x3 + (2 : Int32)).toNatClampNeg).toInt64 &&& (4294967295 : Int64))), .int (xs (x3 + (3 : Int32)).toNatClampNeg), .int (xs (x3 + (4 : Int32)).toNatClampNeg), .int (xs (x3 + (5 : Int32)).toNatClampNeg)]) C (fun U hW => hK.warm hW) hQ (c_X8_wreck E C.1 F τ (((xs (x3 + (1 : Int32)).toNatClampNeg).toInt64 <<< ((32 : Int32).toInt64 &&& 63)) ||| ((xs (x3 + (2 : Int32)).toNatClampNeg).toInt64 &&& (4294967295 : Int64))) (xs (x3 + (3 : Int32)).toNatClampNeg) (xs (x3 + (4 : Int32)).toNatClampNeg) (xs (x3 + (5 : Int32)).toNatClampNeg) hc_16) lw_w936 kv_X8_wreck ⟨Nat.le_of_ble_eq_true rfl, Nat.le_of_ble_eq_true rfl⟩ (rc_27 C hQ) rfl hl.1 rfl (Nat.le_of_ble_eq_true rfl) dL_law_1169 ⟨Nat.le_of_ble_eq_true rfl, Nat.le_of_ble_eq_true rfl⟩) (fun H locs hP hQ hS => ?_)
  refine lv_pop hx hb dL_law_1172 rfl ?_
  refine lv_goto (tgt := 1258) hx hb dL_law_1173 (by decide) ?_
  exact w_L_1258 C Z F rec18 hrec σ_7 τ_15 x3 h H locs hP hQ hS ls hl
def s_L_1176 (F L : Nat) (xs : Nat → Int32) (rec18 : kS × kS × Int32 → Option Unit) (σ τ : kS) (x3 : Int32) : Option Unit :=
  (if (x3 + (1 : Int32)) < 0 ∨ L ≤ (x3 + (1 : Int32)).toNatClampNeg then none else (if (x3 + (2 : Int32)) < 0 ∨ L ≤ (x3 + (2 : Int32)).toNatClampNeg then none else (kb (f_X7_drawn F σ (xs (x3 + (1 : Int32)).toNatClampNeg) (xs (x3 + (2 : Int32)).toNatClampNeg)) fun v_3 σ_4 => (if (x3 + (1 : Int32)) < 0 ∨ L ≤ (x3 + (1 : Int32)).toNatClampNeg then none else (if (x3 + (2 : Int32)) < 0 ∨ L ≤ (x3 + (2 : Int32)).toNatClampNeg then none else (kb (f_X8_drawn F τ (xs (x3 + (1 : Int32)).toNatClampNeg) (xs (x3 + (2 : Int32)).toNatClampNeg)) fun v_8 τ_9 => s_L_1258 F L xs rec18 σ_4 τ_9 x3))))))
set_option maxRecDepth 100000 in
set_option maxHeartbeats 8000000 in
theorem w_L_1176 (C : Cx E p s m #[Value.ref b] meth c cL_law 4 RL ret) (Z : lZ E s b L xs) (F : Nat) (rec18 : kS × kS × Int32 → Option Unit) (hrec : ∀ (σ τ : kS) (x3 : Int32), rec18 (σ, τ, x3) = some () → ∀ (H : Heap) (locs : List Loc), cP E σ H → mP E τ H → va_S (fun q : Nat => s.heap.size ≤ q) s.heap H locs → ∀ (ls : Array Slot), lv_has ls 4 [(0, .ref b), (1, .ref (eA E 0)), (2, .ref (eA E 27)), (3, .int x3)] → W p l e room_1 s m #[Value.ref b] below meth c H locs 39 1190 (lw_Z below #[Value.ref b] s) (F0 m 18 ls [])) (σ τ : kS) (x3 : Int32) (h : s_L_1176 F L xs rec18 σ τ x3 = some ()) (H : Heap) (locs : List Loc) (hP : cP E σ H) (hQ : mP E τ H) (hS : va_S (fun q : Nat => s.heap.size ≤ q) s.heap H locs) (ls : Array Slot) (hl : lv_has ls 4 [(0, .ref b), (1, .ref (eA E 0)), (2, .ref (eA E 27)), (3, .int x3)]) : W p l e room_1 s m #[Value.ref b] below meth c H locs 39 1190 (lw_Z below #[Value.ref b] s) (F0 m 1176 ls []) := by
  obtain ⟨-, hx, hb, hml, hown, hts, hK, hr, hlk⟩ := id C
  obtain ⟨⟨hX, hbl⟩, -⟩ := id Z
  have hbA : ¬ (fun q : Nat => s.heap.size ≤ q) b := Nat.not_le.mpr hbl
  unfold s_L_1176 at h
  refine lv_aload_n hx hb dL_law_1176 rfl (lv_at hl 1 rfl) ?_
  refine lv_aload_n hx hb dL_law_1177 rfl (lv_at hl 0 rfl) ?_
  refine lv_iload_n hx hb dL_law_1178 rfl (lv_at hl 3 rfl) ?_
  refine lv_iconst (v := (1 : Int32)) hx hb dL_law_1179 (by decide) ?_
  refine lv_iadd hx hb dL_law_1180 ?_
  obtain ⟨n_1, h⟩ := k_no h
  refine va_sld hx hb hX hbl hbA hS n_1 dL_law_1181 ?_
  refine lv_aload_n hx hb dL_law_1182 rfl (lv_at hl 0 rfl) ?_
  refine lv_iload_n hx hb dL_law_1183 rfl (lv_at hl 3 rfl) ?_
  refine lv_iconst (v := (2 : Int32)) hx hb dL_law_1184 (by decide) ?_
  refine lv_iadd hx hb dL_law_1185 ?_
  obtain ⟨n_2, h⟩ := k_no h
  refine va_sld hx hb hX hbl hbA hS n_2 dL_law_1186 ?_
  obtain ⟨v_3, σ_4, hc_5, h⟩ := kb_ok h
  refine lcc_i C Z.2 hP hQ hS (krunVG (As := [.int (xs (x3 + (1 : Int32)).toNatClampNeg), .int (xs (x3 + (2 : Int32)).toNatClampNeg)]) C (fun U hW => hK.warm hW) hP (c_X7_drawn E C.1 F σ (xs (x3 + (1 : Int32)).toNatClampNeg) (xs (x3 + (2 : Int32)).toNatClampNeg) hc_5) lw_w642 kv_X7_drawn ⟨Nat.le_of_ble_eq_true rfl, Nat.le_of_ble_eq_true rfl⟩ (rc_0 C hP) rfl hl.1 rfl (Nat.le_of_ble_eq_true rfl) dL_law_1187 ⟨Nat.le_of_ble_eq_true rfl, Nat.le_of_ble_eq_true rfl⟩) (fun H locs hP hQ hS => ?_)
  refine lv_pop hx hb dL_law_1190 rfl ?_
  refine lv_aload_n hx hb dL_law_1191 rfl (lv_at hl 2 rfl) ?_
  refine lv_aload_n hx hb dL_law_1192 rfl (lv_at hl 0 rfl) ?_
  refine lv_iload_n hx hb dL_law_1193 rfl (lv_at hl 3 rfl) ?_
  refine lv_iconst (v := (1 : Int32)) hx hb dL_law_1194 (by decide) ?_
  refine lv_iadd hx hb dL_law_1195 ?_
  obtain ⟨n_6, h⟩ := k_no h
  refine va_sld hx hb hX hbl hbA hS n_6 dL_law_1196 ?_
  refine lv_aload_n hx hb dL_law_1197 rfl (lv_at hl 0 rfl) ?_
  refine lv_iload_n hx hb dL_law_1198 rfl (lv_at hl 3 rfl) ?_
  refine lv_iconst (v := (2 : Int32)) hx hb dL_law_1199 (by decide) ?_
  refine lv_iadd hx hb dL_law_1200 ?_
  obtain ⟨n_7, h⟩ := k_no h
  refine va_sld hx hb hX hbl hbA hS n_7 dL_law_1201 ?_
  obtain ⟨v_8, τ_9, hc_10, h⟩ := kb_ok h
  refine lcm_i C Z.2 hP hQ hS (krunVG (As := [.int (xs (x3 + (1 : Int32)).toNatClampNeg), .int (xs (x3 + (2 : Int32)).toNatClampNeg)]) C (fun U hW => hK.warm hW) hQ (c_X8_drawn E C.1 F τ (xs (x3 + (1 : Int32)).toNatClampNeg) (xs (x3 + (2 : Int32)).toNatClampNeg) hc_10) lw_w941 kv_X8_drawn ⟨Nat.le_of_ble_eq_true rfl, Nat.le_of_ble_eq_true rfl⟩ (rc_27 C hQ) rfl hl.1 rfl (Nat.le_of_ble_eq_true rfl) dL_law_1202 ⟨Nat.le_of_ble_eq_true rfl, Nat.le_of_ble_eq_true rfl⟩) (fun H locs hP hQ hS => ?_)
  refine lv_pop hx hb dL_law_1205 rfl ?_
  refine lv_goto (tgt := 1258) hx hb dL_law_1206 (by decide) ?_
  exact w_L_1258 C Z F rec18 hrec σ_4 τ_9 x3 h H locs hP hQ hS ls hl
def s_L_1209 (F L : Nat) (xs : Nat → Int32) (rec18 : kS × kS × Int32 → Option Unit) (σ τ : kS) (x3 : Int32) : Option Unit :=
  (kb (f_X7_keep F σ) fun v_1 σ_2 => (kb (f_X8_keep F τ) fun v_4 τ_5 => s_L_1258 F L xs rec18 σ_2 τ_5 x3))
set_option maxRecDepth 100000 in
set_option maxHeartbeats 8000000 in
theorem w_L_1209 (C : Cx E p s m #[Value.ref b] meth c cL_law 4 RL ret) (Z : lZ E s b L xs) (F : Nat) (rec18 : kS × kS × Int32 → Option Unit) (hrec : ∀ (σ τ : kS) (x3 : Int32), rec18 (σ, τ, x3) = some () → ∀ (H : Heap) (locs : List Loc), cP E σ H → mP E τ H → va_S (fun q : Nat => s.heap.size ≤ q) s.heap H locs → ∀ (ls : Array Slot), lv_has ls 4 [(0, .ref b), (1, .ref (eA E 0)), (2, .ref (eA E 27)), (3, .int x3)] → W p l e room_1 s m #[Value.ref b] below meth c H locs 39 1190 (lw_Z below #[Value.ref b] s) (F0 m 18 ls [])) (σ τ : kS) (x3 : Int32) (h : s_L_1209 F L xs rec18 σ τ x3 = some ()) (H : Heap) (locs : List Loc) (hP : cP E σ H) (hQ : mP E τ H) (hS : va_S (fun q : Nat => s.heap.size ≤ q) s.heap H locs) (ls : Array Slot) (hl : lv_has ls 4 [(0, .ref b), (1, .ref (eA E 0)), (2, .ref (eA E 27)), (3, .int x3)]) : W p l e room_1 s m #[Value.ref b] below meth c H locs 39 1190 (lw_Z below #[Value.ref b] s) (F0 m 1209 ls []) := by
  obtain ⟨-, hx, hb, hml, hown, hts, hK, hr, hlk⟩ := id C
  obtain ⟨⟨hX, hbl⟩, -⟩ := id Z
  have hbA : ¬ (fun q : Nat => s.heap.size ≤ q) b := Nat.not_le.mpr hbl
  unfold s_L_1209 at h
  refine lv_aload_n hx hb dL_law_1209 rfl (lv_at hl 1 rfl) ?_
  obtain ⟨v_1, σ_2, hc_3, h⟩ := kb_ok h
  refine lcc_i C Z.2 hP hQ hS (krunVG (As := []) C (fun U hW => hK.warm hW) hP (c_X7_keep E C.1 F σ hc_3) lw_w649 kv_X7_keep ⟨Nat.le_of_ble_eq_true rfl, Nat.le_of_ble_eq_true rfl⟩ (rc_0 C hP) rfl hl.1 rfl (Nat.le_of_ble_eq_true rfl) dL_law_1210 ⟨Nat.le_of_ble_eq_true rfl, Nat.le_of_ble_eq_true rfl⟩) (fun H locs hP hQ hS => ?_)
  refine lv_pop hx hb dL_law_1213 rfl ?_
  refine lv_aload_n hx hb dL_law_1214 rfl (lv_at hl 2 rfl) ?_
  obtain ⟨v_4, τ_5, hc_6, h⟩ := kb_ok h
  refine lcm_i C Z.2 hP hQ hS (krunVG (As := []) C (fun U hW => hK.warm hW) hQ (c_X8_keep E C.1 F τ hc_6) lw_w949 kv_X8_keep ⟨Nat.le_of_ble_eq_true rfl, Nat.le_of_ble_eq_true rfl⟩ (rc_27 C hQ) rfl hl.1 rfl (Nat.le_of_ble_eq_true rfl) dL_law_1215 ⟨Nat.le_of_ble_eq_true rfl, Nat.le_of_ble_eq_true rfl⟩) (fun H locs hP hQ hS => ?_)
  refine lv_pop hx hb dL_law_1218 rfl ?_
  refine lv_goto (tgt := 1258) hx hb dL_law_1219 (by decide) ?_
  exact w_L_1258 C Z F rec18 hrec σ_2 τ_5 x3 h H locs hP hQ hS ls hl
def s_L_1222 (F L : Nat) (xs : Nat → Int32) (rec18 : kS × kS × Int32 → Option Unit) (σ τ : kS) (x3 : Int32) : Option Unit :=
  (kb (f_X7_back F σ) fun v_1 σ_2 => (kb (f_X8_back F τ) fun v_4 τ_5 => s_L_1258 F L xs rec18 σ_2 τ_5 x3))
set_option maxRecDepth 100000 in
set_option maxHeartbeats 8000000 in
theorem w_L_1222 (C : Cx E p s m #[Value.ref b] meth c cL_law 4 RL ret) (Z : lZ E s b L xs) (F : Nat) (rec18 : kS × kS × Int32 → Option Unit) (hrec : ∀ (σ τ : kS) (x3 : Int32), rec18 (σ, τ, x3) = some () → ∀ (H : Heap) (locs : List Loc), cP E σ H → mP E τ H → va_S (fun q : Nat => s.heap.size ≤ q) s.heap H locs → ∀ (ls : Array Slot), lv_has ls 4 [(0, .ref b), (1, .ref (eA E 0)), (2, .ref (eA E 27)), (3, .int x3)] → W p l e room_1 s m #[Value.ref b] below meth c H locs 39 1190 (lw_Z below #[Value.ref b] s) (F0 m 18 ls [])) (σ τ : kS) (x3 : Int32) (h : s_L_1222 F L xs rec18 σ τ x3 = some ()) (H : Heap) (locs : List Loc) (hP : cP E σ H) (hQ : mP E τ H) (hS : va_S (fun q : Nat => s.heap.size ≤ q) s.heap H locs) (ls : Array Slot) (hl : lv_has ls 4 [(0, .ref b), (1, .ref (eA E 0)), (2, .ref (eA E 27)), (3, .int x3)]) : W p l e room_1 s m #[Value.ref b] below meth c H locs 39 1190 (lw_Z below #[Value.ref b] s) (F0 m 1222 ls []) := by
  obtain ⟨-, hx, hb, hml, hown, hts, hK, hr, hlk⟩ := id C
  obtain ⟨⟨hX, hbl⟩, -⟩ := id Z
  have hbA : ¬ (fun q : Nat => s.heap.size ≤ q) b := Nat.not_le.mpr hbl
  unfold s_L_1222 at h
  refine lv_aload_n hx hb dL_law_1222 rfl (lv_at hl 1 rfl) ?_
  obtain ⟨v_1, σ_2, hc_3, h⟩ := kb_ok h
  refine lcc_i C Z.2 hP hQ hS (krunVG (As := []) C (fun U hW => hK.warm hW) hP (c_X7_back E C.1 F σ hc_3) lw_w653 kv_X7_back ⟨Nat.le_of_ble_eq_true rfl, Nat.le_of_ble_eq_true rfl⟩ (rc_0 C hP) rfl hl.1 rfl (Nat.le_of_ble_eq_true rfl) dL_law_1223 ⟨Nat.le_of_ble_eq_true rfl, Nat.le_of_ble_eq_true rfl⟩) (fun H locs hP hQ hS => ?_)
  refine lv_pop hx hb dL_law_1226 rfl ?_
  refine lv_aload_n hx hb dL_law_1227 rfl (lv_at hl 2 rfl) ?_
  obtain ⟨v_4, τ_5, hc_6, h⟩ := kb_ok h
  refine lcm_i C Z.2 hP hQ hS (krunVG (As := []) C (fun U hW => hK.warm hW) hQ (c_X8_back E C.1 F τ hc_6) lw_w957 kv_X8_back ⟨Nat.le_of_ble_eq_true rfl, Nat.le_of_ble_eq_true rfl⟩ (rc_27 C hQ) rfl hl.1 rfl (Nat.le_of_ble_eq_true rfl) dL_law_1228 ⟨Nat.le_of_ble_eq_true rfl, Nat.le_of_ble_eq_true rfl⟩) (fun H locs hP hQ hS => ?_)
  refine lv_pop hx hb dL_law_1231 rfl ?_
  refine lv_goto (tgt := 1258) hx hb dL_law_1232 (by decide) ?_
  exact w_L_1258 C Z F rec18 hrec σ_2 τ_5 x3 h H locs hP hQ hS ls hl
def s_L_1235 (F L : Nat) (xs : Nat → Int32) (rec18 : kS × kS × Int32 → Option Unit) (σ τ : kS) (x3 : Int32) : Option Unit :=
  (if (x3 + (1 : Int32)) < 0 ∨ L ≤ (x3 + (1 : Int32)).toNatClampNeg then none else (kb (f_X7_count F σ (xs (x3 + (1 : Int32)).toNatClampNeg)) fun v_2 σ_3 => (if (x3 + (1 : Int32)) < 0 ∨ L ≤ (x3 + (1 : Int32)).toNatClampNeg then none else (kb (f_X8_count F τ (xs (x3 + (1 : Int32)).toNatClampNeg)) fun v_6 τ_7 => (if v_2 = v_6 then s_L_1258 F L xs rec18 σ_3 τ_7 x3 else none)))))
set_option maxRecDepth 100000 in
set_option maxHeartbeats 8000000 in
theorem w_L_1235 (C : Cx E p s m #[Value.ref b] meth c cL_law 4 RL ret) (Z : lZ E s b L xs) (F : Nat) (rec18 : kS × kS × Int32 → Option Unit) (hrec : ∀ (σ τ : kS) (x3 : Int32), rec18 (σ, τ, x3) = some () → ∀ (H : Heap) (locs : List Loc), cP E σ H → mP E τ H → va_S (fun q : Nat => s.heap.size ≤ q) s.heap H locs → ∀ (ls : Array Slot), lv_has ls 4 [(0, .ref b), (1, .ref (eA E 0)), (2, .ref (eA E 27)), (3, .int x3)] → W p l e room_1 s m #[Value.ref b] below meth c H locs 39 1190 (lw_Z below #[Value.ref b] s) (F0 m 18 ls [])) (σ τ : kS) (x3 : Int32) (h : s_L_1235 F L xs rec18 σ τ x3 = some ()) (H : Heap) (locs : List Loc) (hP : cP E σ H) (hQ : mP E τ H) (hS : va_S (fun q : Nat => s.heap.size ≤ q) s.heap H locs) (ls : Array Slot) (hl : lv_has ls 4 [(0, .ref b), (1, .ref (eA E 0)), (2, .ref (eA E 27)), (3, .int x3)]) : W p l e room_1 s m #[Value.ref b] below meth c H locs 39 1190 (lw_Z below #[Value.ref b] s) (F0 m 1235 ls []) := by
  obtain ⟨-, hx, hb, hml, hown, hts, hK, hr, hlk⟩ := id C
  obtain ⟨⟨hX, hbl⟩, -⟩ := id Z
  have hbA : ¬ (fun q : Nat => s.heap.size ≤ q) b := Nat.not_le.mpr hbl
  unfold s_L_1235 at h
  refine lv_aload_n hx hb dL_law_1235 rfl (lv_at hl 1 rfl) ?_
  refine lv_aload_n hx hb dL_law_1236 rfl (lv_at hl 0 rfl) ?_
  refine lv_iload_n hx hb dL_law_1237 rfl (lv_at hl 3 rfl) ?_
  refine lv_iconst (v := (1 : Int32)) hx hb dL_law_1238 (by decide) ?_
  refine lv_iadd hx hb dL_law_1239 ?_
  obtain ⟨n_1, h⟩ := k_no h
  refine va_sld hx hb hX hbl hbA hS n_1 dL_law_1240 ?_
  obtain ⟨v_2, σ_3, hc_4, h⟩ := kb_ok h
  refine lcc_i C Z.2 hP hQ hS (krunVG (As := [.int (xs (x3 + (1 : Int32)).toNatClampNeg)]) C (fun U hW => hK.warm hW) hP (c_X7_count E C.1 F σ (xs (x3 + (1 : Int32)).toNatClampNeg) hc_4) lw_w657 kv_X7_count ⟨Nat.le_of_ble_eq_true rfl, Nat.le_of_ble_eq_true rfl⟩ (rc_0 C hP) rfl hl.1 rfl (Nat.le_of_ble_eq_true rfl) dL_law_1241 ⟨Nat.le_of_ble_eq_true rfl, Nat.le_of_ble_eq_true rfl⟩) (fun H locs hP hQ hS => ?_)
  refine lv_aload_n hx hb dL_law_1244 rfl (lv_at hl 2 rfl) ?_
  refine lv_aload_n hx hb dL_law_1245 rfl (lv_at hl 0 rfl) ?_
  refine lv_iload_n hx hb dL_law_1246 rfl (lv_at hl 3 rfl) ?_
  refine lv_iconst (v := (1 : Int32)) hx hb dL_law_1247 (by decide) ?_
  refine lv_iadd hx hb dL_law_1248 ?_
  obtain ⟨n_5, h⟩ := k_no h
  refine va_sld hx hb hX hbl hbA hS n_5 dL_law_1249 ?_
  obtain ⟨v_6, τ_7, hc_8, h⟩ := kb_ok h
  refine lcm_i C Z.2 hP hQ hS (krunVG (As := [.int (xs (x3 + (1 : Int32)).toNatClampNeg)]) C (fun U hW => hK.warm hW) hQ (c_X8_count E C.1 F τ (xs (x3 + (1 : Int32)).toNatClampNeg) hc_8) lw_w961 kv_X8_count ⟨Nat.le_of_ble_eq_true rfl, Nat.le_of_ble_eq_true rfl⟩ (rc_27 C hQ) rfl hl.1 rfl (Nat.le_of_ble_eq_true rfl) dL_law_1250 ⟨Nat.le_of_ble_eq_true rfl, Nat.le_of_ble_eq_true rfl⟩) (fun H locs hP hQ hS => ?_)
  refine lv_icmp_eq (tgt := 1258) hx hb dL_law_1253 (by decide) (fun c_9 => ?_) (fun c_9 => ?_)
  · have h := k_t c_9 h
    exact w_L_1258 C Z F rec18 hrec σ_3 τ_7 x3 h H locs hP hQ hS ls hl
  · have h := k_f c_9 h
    refine lv_iconst (v := (0 : Int32)) hx hb dL_law_1256 (by decide) ?_
    cases h
def s_L_18 (F L : Nat) (xs : Nat → Int32) (rec18 : kS × kS × Int32 → Option Unit) (σ τ : kS) (x3 : Int32) : Option Unit :=
  (if ((Int32.ofNat L) - (6 : Int32)) < x3 then some () else (if x3 < 0 ∨ L ≤ x3.toNatClampNeg then none else (if ((xs x3.toNatClampNeg) &&& (31 : Int32)) = (0 : Int32) then s_L_176 F L xs rec18 σ τ x3 else (if ((xs x3.toNatClampNeg) &&& (31 : Int32)) = (1 : Int32) then s_L_239 F L xs rec18 σ τ x3 else (if ((xs x3.toNatClampNeg) &&& (31 : Int32)) = (2 : Int32) then s_L_252 F L xs rec18 σ τ x3 else (if ((xs x3.toNatClampNeg) &&& (31 : Int32)) = (3 : Int32) then s_L_265 F L xs rec18 σ τ x3 else (if ((xs x3.toNatClampNeg) &&& (31 : Int32)) = (4 : Int32) then s_L_278 F L xs rec18 σ τ x3 else (if ((xs x3.toNatClampNeg) &&& (31 : Int32)) = (5 : Int32) then s_L_311 F L xs rec18 σ τ x3 else (if ((xs x3.toNatClampNeg) &&& (31 : Int32)) = (6 : Int32) then s_L_334 F L xs rec18 σ τ x3 else (if ((xs x3.toNatClampNeg) &&& (31 : Int32)) = (7 : Int32) then s_L_387 F L xs rec18 σ τ x3 else (if ((xs x3.toNatClampNeg) &&& (31 : Int32)) = (8 : Int32) then s_L_460 F L xs rec18 σ τ x3 else (if ((xs x3.toNatClampNeg) &&& (31 : Int32)) = (9 : Int32) then s_L_523 F L xs rec18 σ τ x3 else (if ((xs x3.toNatClampNeg) &&& (31 : Int32)) = (10 : Int32) then s_L_586 F L xs rec18 σ τ x3 else (if ((xs x3.toNatClampNeg) &&& (31 : Int32)) = (11 : Int32) then s_L_609 F L xs rec18 σ τ x3 else (if ((xs x3.toNatClampNeg) &&& (31 : Int32)) = (12 : Int32) then s_L_622 F L xs rec18 σ τ x3 else (if ((xs x3.toNatClampNeg) &&& (31 : Int32)) = (13 : Int32) then s_L_685 F L xs rec18 σ τ x3 else (if ((xs x3.toNatClampNeg) &&& (31 : Int32)) = (14 : Int32) then s_L_708 F L xs rec18 σ τ x3 else (if ((xs x3.toNatClampNeg) &&& (31 : Int32)) = (15 : Int32) then s_L_731 F L xs rec18 σ τ x3 else (if ((xs x3.toNatClampNeg) &&& (31 : Int32)) = (16 : Int32) then s_L_790 F L xs rec18 σ τ x3 else (if ((xs x3.toNatClampNeg) &&& (31 : Int32)) = (17 : Int32) then s_L_803 F L xs rec18 σ τ x3 else (if ((xs x3.toNatClampNeg) &&& (31 : Int32)) = (18 : Int32) then s_L_826 F L xs rec18 σ τ x3 else (if ((xs x3.toNatClampNeg) &&& (31 : Int32)) = (19 : Int32) then s_L_869 F L xs rec18 σ τ x3 else (if ((xs x3.toNatClampNeg) &&& (31 : Int32)) = (20 : Int32) then s_L_892 F L xs rec18 σ τ x3 else (if ((xs x3.toNatClampNeg) &&& (31 : Int32)) = (21 : Int32) then s_L_915 F L xs rec18 σ τ x3 else (if ((xs x3.toNatClampNeg) &&& (31 : Int32)) = (22 : Int32) then s_L_938 F L xs rec18 σ τ x3 else (if ((xs x3.toNatClampNeg) &&& (31 : Int32)) = (23 : Int32) then s_L_1011 F L xs rec18 σ τ x3 else (if ((xs x3.toNatClampNeg) &&& (31 : Int32)) = (24 : Int32) then s_L_1044 F L xs rec18 σ τ x3 else (if ((xs x3.toNatClampNeg) &&& (31 : Int32)) = (25 : Int32) then s_L_1057 F L xs rec18 σ τ x3 else (if ((xs x3.toNatClampNeg) &&& (31 : Int32)) = (26 : Int32) then s_L_1070 F L xs rec18 σ τ x3 else (if ((xs x3.toNatClampNeg) &&& (31 : Int32)) = (27 : Int32) then s_L_1093 F L xs rec18 σ τ x3 else (if ((xs x3.toNatClampNeg) &&& (31 : Int32)) = (28 : Int32) then s_L_1176 F L xs rec18 σ τ x3 else (if ((xs x3.toNatClampNeg) &&& (31 : Int32)) = (29 : Int32) then s_L_1209 F L xs rec18 σ τ x3 else (if ((xs x3.toNatClampNeg) &&& (31 : Int32)) = (30 : Int32) then s_L_1222 F L xs rec18 σ τ x3 else (if ((xs x3.toNatClampNeg) &&& (31 : Int32)) = (31 : Int32) then s_L_1235 F L xs rec18 σ τ x3 else s_L_1258 F L xs rec18 σ τ x3))))))))))))))))))))))))))))))))))
set_option maxRecDepth 100000 in
set_option maxHeartbeats 8000000 in
theorem w_L_18 (C : Cx E p s m #[Value.ref b] meth c cL_law 4 RL ret) (Z : lZ E s b L xs) (F : Nat) (rec18 : kS × kS × Int32 → Option Unit) (hrec : ∀ (σ τ : kS) (x3 : Int32), rec18 (σ, τ, x3) = some () → ∀ (H : Heap) (locs : List Loc), cP E σ H → mP E τ H → va_S (fun q : Nat => s.heap.size ≤ q) s.heap H locs → ∀ (ls : Array Slot), lv_has ls 4 [(0, .ref b), (1, .ref (eA E 0)), (2, .ref (eA E 27)), (3, .int x3)] → W p l e room_1 s m #[Value.ref b] below meth c H locs 39 1190 (lw_Z below #[Value.ref b] s) (F0 m 18 ls [])) (σ τ : kS) (x3 : Int32) (h : s_L_18 F L xs rec18 σ τ x3 = some ()) (H : Heap) (locs : List Loc) (hP : cP E σ H) (hQ : mP E τ H) (hS : va_S (fun q : Nat => s.heap.size ≤ q) s.heap H locs) (ls : Array Slot) (hl : lv_has ls 4 [(0, .ref b), (1, .ref (eA E 0)), (2, .ref (eA E 27)), (3, .int x3)]) : W p l e room_1 s m #[Value.ref b] below meth c H locs 39 1190 (lw_Z below #[Value.ref b] s) (F0 m 18 ls []) := by
  obtain ⟨-, hx, hb, hml, hown, hts, hK, hr, hlk⟩ := id C
  obtain ⟨⟨hX, hbl⟩, -⟩ := id Z
  have hbA : ¬ (fun q : Nat => s.heap.size ≤ q) b := Nat.not_le.mpr hbl
  unfold s_L_18 at h
  refine lv_iload_n hx hb dL_law_18 rfl (lv_at hl 3 rfl) ?_
  refine lv_aload_n hx hb dL_law_19 rfl (lv_at hl 0 rfl) ?_
  refine va_slen hx hb hX hbl hbA hS dL_law_20 ?_
  refine lv_bipush (v := (6 : Int32)) hx hb dL_law_21 (by decide) ?_
  refine lv_isub hx hb dL_law_23 ?_
  refine lv_icmp_gt (tgt := 1264) hx hb dL_law_24 (by decide) (fun c_1 => ?_) (fun c_1 => ?_)
  · have h := k_t c_1 h
    refine lv_iconst (v := (1 : Int32)) hx hb dL_law_1264 (by decide) ?_
    refine va_forget (fun q hq => hS.2.2 q hq) ?_
    refine W.widen (k := 600000) (n := 7302250) (Nat.le_of_ble_eq_true rfl) (Nat.le_of_ble_eq_true rfl) ?_
    exact lw_ret hx hb hr hlk dL_law_1265
  · have h := k_f c_1 h
    refine lv_aload_n hx hb dL_law_27 rfl (lv_at hl 0 rfl) ?_
    refine lv_iload_n hx hb dL_law_28 rfl (lv_at hl 3 rfl) ?_
    obtain ⟨n_2, h⟩ := k_no h
    refine va_sld hx hb hX hbl hbA hS n_2 dL_law_29 ?_
    refine lv_bipush (v := (31 : Int32)) hx hb dL_law_30 (by decide) ?_
    refine lv_iand hx hb dL_law_32 ?_
    by_cases c_3 : ((xs x3.toNatClampNeg) &&& (31 : Int32)) = (0 : Int32)
    · have h := k_t c_3 h
      refine lv_tableIn (off := 143) (tgt := 176) hx hb dL_law_33 (by rw [c_3]; decide) (by rw [c_3]; decide) (by rw [c_3]; rfl) (by decide) ?_
      exact w_L_176 C Z F rec18 hrec σ τ x3 h H locs hP hQ hS ls hl
    · have h := k_f c_3 h
      by_cases c_4 : ((xs x3.toNatClampNeg) &&& (31 : Int32)) = (1 : Int32)
      · have h := k_t c_4 h
        refine lv_tableIn (off := 206) (tgt := 239) hx hb dL_law_33 (by rw [c_4]; decide) (by rw [c_4]; decide) (by rw [c_4]; rfl) (by decide) ?_
        exact w_L_239 C Z F rec18 hrec σ τ x3 h H locs hP hQ hS ls hl
      · have h := k_f c_4 h
        by_cases c_5 : ((xs x3.toNatClampNeg) &&& (31 : Int32)) = (2 : Int32)
        · have h := k_t c_5 h
          refine lv_tableIn (off := 219) (tgt := 252) hx hb dL_law_33 (by rw [c_5]; decide) (by rw [c_5]; decide) (by rw [c_5]; rfl) (by decide) ?_
          exact w_L_252 C Z F rec18 hrec σ τ x3 h H locs hP hQ hS ls hl
        · have h := k_f c_5 h
          by_cases c_6 : ((xs x3.toNatClampNeg) &&& (31 : Int32)) = (3 : Int32)
          · have h := k_t c_6 h
            refine lv_tableIn (off := 232) (tgt := 265) hx hb dL_law_33 (by rw [c_6]; decide) (by rw [c_6]; decide) (by rw [c_6]; rfl) (by decide) ?_
            exact w_L_265 C Z F rec18 hrec σ τ x3 h H locs hP hQ hS ls hl
          · have h := k_f c_6 h
            by_cases c_7 : ((xs x3.toNatClampNeg) &&& (31 : Int32)) = (4 : Int32)
            · have h := k_t c_7 h
              refine lv_tableIn (off := 245) (tgt := 278) hx hb dL_law_33 (by rw [c_7]; decide) (by rw [c_7]; decide) (by rw [c_7]; rfl) (by decide) ?_
              exact w_L_278 C Z F rec18 hrec σ τ x3 h H locs hP hQ hS ls hl
            · have h := k_f c_7 h
              by_cases c_8 : ((xs x3.toNatClampNeg) &&& (31 : Int32)) = (5 : Int32)
              · have h := k_t c_8 h
                refine lv_tableIn (off := 278) (tgt := 311) hx hb dL_law_33 (by rw [c_8]; decide) (by rw [c_8]; decide) (by rw [c_8]; rfl) (by decide) ?_
                exact w_L_311 C Z F rec18 hrec σ τ x3 h H locs hP hQ hS ls hl
              · have h := k_f c_8 h
                by_cases c_9 : ((xs x3.toNatClampNeg) &&& (31 : Int32)) = (6 : Int32)
                · have h := k_t c_9 h
                  refine lv_tableIn (off := 301) (tgt := 334) hx hb dL_law_33 (by rw [c_9]; decide) (by rw [c_9]; decide) (by rw [c_9]; rfl) (by decide) ?_
                  exact w_L_334 C Z F rec18 hrec σ τ x3 h H locs hP hQ hS ls hl
                · have h := k_f c_9 h
                  by_cases c_10 : ((xs x3.toNatClampNeg) &&& (31 : Int32)) = (7 : Int32)
                  · have h := k_t c_10 h
                    refine lv_tableIn (off := 354) (tgt := 387) hx hb dL_law_33 (by rw [c_10]; decide) (by rw [c_10]; decide) (by rw [c_10]; rfl) (by decide) ?_
                    exact w_L_387 C Z F rec18 hrec σ τ x3 h H locs hP hQ hS ls hl
                  · have h := k_f c_10 h
                    by_cases c_11 : ((xs x3.toNatClampNeg) &&& (31 : Int32)) = (8 : Int32)
                    · have h := k_t c_11 h
                      refine lv_tableIn (off := 427) (tgt := 460) hx hb dL_law_33 (by rw [c_11]; decide) (by rw [c_11]; decide) (by rw [c_11]; rfl) (by decide) ?_
                      exact w_L_460 C Z F rec18 hrec σ τ x3 h H locs hP hQ hS ls hl
                    · have h := k_f c_11 h
                      by_cases c_12 : ((xs x3.toNatClampNeg) &&& (31 : Int32)) = (9 : Int32)
                      · have h := k_t c_12 h
                        refine lv_tableIn (off := 490) (tgt := 523) hx hb dL_law_33 (by rw [c_12]; decide) (by rw [c_12]; decide) (by rw [c_12]; rfl) (by decide) ?_
                        exact w_L_523 C Z F rec18 hrec σ τ x3 h H locs hP hQ hS ls hl
                      · have h := k_f c_12 h
                        by_cases c_13 : ((xs x3.toNatClampNeg) &&& (31 : Int32)) = (10 : Int32)
                        · have h := k_t c_13 h
                          refine lv_tableIn (off := 553) (tgt := 586) hx hb dL_law_33 (by rw [c_13]; decide) (by rw [c_13]; decide) (by rw [c_13]; rfl) (by decide) ?_
                          exact w_L_586 C Z F rec18 hrec σ τ x3 h H locs hP hQ hS ls hl
                        · have h := k_f c_13 h
                          by_cases c_14 : ((xs x3.toNatClampNeg) &&& (31 : Int32)) = (11 : Int32)
                          · have h := k_t c_14 h
                            refine lv_tableIn (off := 576) (tgt := 609) hx hb dL_law_33 (by rw [c_14]; decide) (by rw [c_14]; decide) (by rw [c_14]; rfl) (by decide) ?_
                            exact w_L_609 C Z F rec18 hrec σ τ x3 h H locs hP hQ hS ls hl
                          · have h := k_f c_14 h
                            by_cases c_15 : ((xs x3.toNatClampNeg) &&& (31 : Int32)) = (12 : Int32)
                            · have h := k_t c_15 h
                              refine lv_tableIn (off := 589) (tgt := 622) hx hb dL_law_33 (by rw [c_15]; decide) (by rw [c_15]; decide) (by rw [c_15]; rfl) (by decide) ?_
                              exact w_L_622 C Z F rec18 hrec σ τ x3 h H locs hP hQ hS ls hl
                            · have h := k_f c_15 h
                              by_cases c_16 : ((xs x3.toNatClampNeg) &&& (31 : Int32)) = (13 : Int32)
                              · have h := k_t c_16 h
                                refine lv_tableIn (off := 652) (tgt := 685) hx hb dL_law_33 (by rw [c_16]; decide) (by rw [c_16]; decide) (by rw [c_16]; rfl) (by decide) ?_
                                exact w_L_685 C Z F rec18 hrec σ τ x3 h H locs hP hQ hS ls hl
                              · have h := k_f c_16 h
                                by_cases c_17 : ((xs x3.toNatClampNeg) &&& (31 : Int32)) = (14 : Int32)
                                · have h := k_t c_17 h
                                  refine lv_tableIn (off := 675) (tgt := 708) hx hb dL_law_33 (by rw [c_17]; decide) (by rw [c_17]; decide) (by rw [c_17]; rfl) (by decide) ?_
                                  exact w_L_708 C Z F rec18 hrec σ τ x3 h H locs hP hQ hS ls hl
                                · have h := k_f c_17 h
                                  by_cases c_18 : ((xs x3.toNatClampNeg) &&& (31 : Int32)) = (15 : Int32)
                                  · have h := k_t c_18 h
                                    refine lv_tableIn (off := 698) (tgt := 731) hx hb dL_law_33 (by rw [c_18]; decide) (by rw [c_18]; decide) (by rw [c_18]; rfl) (by decide) ?_
                                    exact w_L_731 C Z F rec18 hrec σ τ x3 h H locs hP hQ hS ls hl
                                  · have h := k_f c_18 h
                                    by_cases c_19 : ((xs x3.toNatClampNeg) &&& (31 : Int32)) = (16 : Int32)
                                    · have h := k_t c_19 h
                                      refine lv_tableIn (off := 757) (tgt := 790) hx hb dL_law_33 (by rw [c_19]; decide) (by rw [c_19]; decide) (by rw [c_19]; rfl) (by decide) ?_
                                      exact w_L_790 C Z F rec18 hrec σ τ x3 h H locs hP hQ hS ls hl
                                    · have h := k_f c_19 h
                                      by_cases c_20 : ((xs x3.toNatClampNeg) &&& (31 : Int32)) = (17 : Int32)
                                      · have h := k_t c_20 h
                                        refine lv_tableIn (off := 770) (tgt := 803) hx hb dL_law_33 (by rw [c_20]; decide) (by rw [c_20]; decide) (by rw [c_20]; rfl) (by decide) ?_
                                        exact w_L_803 C Z F rec18 hrec σ τ x3 h H locs hP hQ hS ls hl
                                      · have h := k_f c_20 h
                                        by_cases c_21 : ((xs x3.toNatClampNeg) &&& (31 : Int32)) = (18 : Int32)
                                        · have h := k_t c_21 h
                                          refine lv_tableIn (off := 793) (tgt := 826) hx hb dL_law_33 (by rw [c_21]; decide) (by rw [c_21]; decide) (by rw [c_21]; rfl) (by decide) ?_
                                          exact w_L_826 C Z F rec18 hrec σ τ x3 h H locs hP hQ hS ls hl
                                        · have h := k_f c_21 h
                                          by_cases c_22 : ((xs x3.toNatClampNeg) &&& (31 : Int32)) = (19 : Int32)
                                          · have h := k_t c_22 h
                                            refine lv_tableIn (off := 836) (tgt := 869) hx hb dL_law_33 (by rw [c_22]; decide) (by rw [c_22]; decide) (by rw [c_22]; rfl) (by decide) ?_
                                            exact w_L_869 C Z F rec18 hrec σ τ x3 h H locs hP hQ hS ls hl
                                          · have h := k_f c_22 h
                                            by_cases c_23 : ((xs x3.toNatClampNeg) &&& (31 : Int32)) = (20 : Int32)
                                            · have h := k_t c_23 h
                                              refine lv_tableIn (off := 859) (tgt := 892) hx hb dL_law_33 (by rw [c_23]; decide) (by rw [c_23]; decide) (by rw [c_23]; rfl) (by decide) ?_
                                              exact w_L_892 C Z F rec18 hrec σ τ x3 h H locs hP hQ hS ls hl
                                            · have h := k_f c_23 h
                                              by_cases c_24 : ((xs x3.toNatClampNeg) &&& (31 : Int32)) = (21 : Int32)
                                              · have h := k_t c_24 h
                                                refine lv_tableIn (off := 882) (tgt := 915) hx hb dL_law_33 (by rw [c_24]; decide) (by rw [c_24]; decide) (by rw [c_24]; rfl) (by decide) ?_
                                                exact w_L_915 C Z F rec18 hrec σ τ x3 h H locs hP hQ hS ls hl
                                              · have h := k_f c_24 h
                                                by_cases c_25 : ((xs x3.toNatClampNeg) &&& (31 : Int32)) = (22 : Int32)
                                                · have h := k_t c_25 h
                                                  refine lv_tableIn (off := 905) (tgt := 938) hx hb dL_law_33 (by rw [c_25]; decide) (by rw [c_25]; decide) (by rw [c_25]; rfl) (by decide) ?_
                                                  exact w_L_938 C Z F rec18 hrec σ τ x3 h H locs hP hQ hS ls hl
                                                · have h := k_f c_25 h
                                                  by_cases c_26 : ((xs x3.toNatClampNeg) &&& (31 : Int32)) = (23 : Int32)
                                                  · have h := k_t c_26 h
                                                    refine lv_tableIn (off := 978) (tgt := 1011) hx hb dL_law_33 (by rw [c_26]; decide) (by rw [c_26]; decide) (by rw [c_26]; rfl) (by decide) ?_
                                                    exact w_L_1011 C Z F rec18 hrec σ τ x3 h H locs hP hQ hS ls hl
                                                  · have h := k_f c_26 h
                                                    by_cases c_27 : ((xs x3.toNatClampNeg) &&& (31 : Int32)) = (24 : Int32)
                                                    · have h := k_t c_27 h
                                                      refine lv_tableIn (off := 1011) (tgt := 1044) hx hb dL_law_33 (by rw [c_27]; decide) (by rw [c_27]; decide) (by rw [c_27]; rfl) (by decide) ?_
                                                      exact w_L_1044 C Z F rec18 hrec σ τ x3 h H locs hP hQ hS ls hl
                                                    · have h := k_f c_27 h
                                                      by_cases c_28 : ((xs x3.toNatClampNeg) &&& (31 : Int32)) = (25 : Int32)
                                                      · have h := k_t c_28 h
                                                        refine lv_tableIn (off := 1024) (tgt := 1057) hx hb dL_law_33 (by rw [c_28]; decide) (by rw [c_28]; decide) (by rw [c_28]; rfl) (by decide) ?_
                                                        exact w_L_1057 C Z F rec18 hrec σ τ x3 h H locs hP hQ hS ls hl
                                                      · have h := k_f c_28 h
                                                        by_cases c_29 : ((xs x3.toNatClampNeg) &&& (31 : Int32)) = (26 : Int32)
                                                        · have h := k_t c_29 h
                                                          refine lv_tableIn (off := 1037) (tgt := 1070) hx hb dL_law_33 (by rw [c_29]; decide) (by rw [c_29]; decide) (by rw [c_29]; rfl) (by decide) ?_
                                                          exact w_L_1070 C Z F rec18 hrec σ τ x3 h H locs hP hQ hS ls hl
                                                        · have h := k_f c_29 h
                                                          by_cases c_30 : ((xs x3.toNatClampNeg) &&& (31 : Int32)) = (27 : Int32)
                                                          · have h := k_t c_30 h
                                                            refine lv_tableIn (off := 1060) (tgt := 1093) hx hb dL_law_33 (by rw [c_30]; decide) (by rw [c_30]; decide) (by rw [c_30]; rfl) (by decide) ?_
                                                            exact w_L_1093 C Z F rec18 hrec σ τ x3 h H locs hP hQ hS ls hl
                                                          · have h := k_f c_30 h
                                                            by_cases c_31 : ((xs x3.toNatClampNeg) &&& (31 : Int32)) = (28 : Int32)
                                                            · have h := k_t c_31 h
                                                              refine lv_tableIn (off := 1143) (tgt := 1176) hx hb dL_law_33 (by rw [c_31]; decide) (by rw [c_31]; decide) (by rw [c_31]; rfl) (by decide) ?_
                                                              exact w_L_1176 C Z F rec18 hrec σ τ x3 h H locs hP hQ hS ls hl
                                                            · have h := k_f c_31 h
                                                              by_cases c_32 : ((xs x3.toNatClampNeg) &&& (31 : Int32)) = (29 : Int32)
                                                              · have h := k_t c_32 h
                                                                refine lv_tableIn (off := 1176) (tgt := 1209) hx hb dL_law_33 (by rw [c_32]; decide) (by rw [c_32]; decide) (by rw [c_32]; rfl) (by decide) ?_
                                                                exact w_L_1209 C Z F rec18 hrec σ τ x3 h H locs hP hQ hS ls hl
                                                              · have h := k_f c_32 h
                                                                by_cases c_33 : ((xs x3.toNatClampNeg) &&& (31 : Int32)) = (30 : Int32)
                                                                · have h := k_t c_33 h
                                                                  refine lv_tableIn (off := 1189) (tgt := 1222) hx hb dL_law_33 (by rw [c_33]; decide) (by rw [c_33]; decide) (by rw [c_33]; rfl) (by decide) ?_
                                                                  exact w_L_1222 C Z F rec18 hrec σ τ x3 h H locs hP hQ hS ls hl
                                                                · have h := k_f c_33 h
                                                                  by_cases c_34 : ((xs x3.toNatClampNeg) &&& (31 : Int32)) = (31 : Int32)
                                                                  · have h := k_t c_34 h
                                                                    refine lv_tableIn (off := 1202) (tgt := 1235) hx hb dL_law_33 (by rw [c_34]; decide) (by rw [c_34]; decide) (by rw [c_34]; rfl) (by decide) ?_
                                                                    exact w_L_1235 C Z F rec18 hrec σ τ x3 h H locs hP hQ hS ls hl
                                                                  · have h := k_f c_34 h
                                                                    have tc_3 : ¬ ((xs x3.toNatClampNeg) &&& (31 : Int32)).toInt = 0 := lv_neT c_3 (by decide)
                                                                    have tc_4 : ¬ ((xs x3.toNatClampNeg) &&& (31 : Int32)).toInt = 1 := lv_neT c_4 (by decide)
                                                                    have tc_5 : ¬ ((xs x3.toNatClampNeg) &&& (31 : Int32)).toInt = 2 := lv_neT c_5 (by decide)
                                                                    have tc_6 : ¬ ((xs x3.toNatClampNeg) &&& (31 : Int32)).toInt = 3 := lv_neT c_6 (by decide)
                                                                    have tc_7 : ¬ ((xs x3.toNatClampNeg) &&& (31 : Int32)).toInt = 4 := lv_neT c_7 (by decide)
                                                                    have tc_8 : ¬ ((xs x3.toNatClampNeg) &&& (31 : Int32)).toInt = 5 := lv_neT c_8 (by decide)
                                                                    have tc_9 : ¬ ((xs x3.toNatClampNeg) &&& (31 : Int32)).toInt = 6 := lv_neT c_9 (by decide)
                                                                    have tc_10 : ¬ ((xs x3.toNatClampNeg) &&& (31 : Int32)).toInt = 7 := lv_neT c_10 (by decide)
                                                                    have tc_11 : ¬ ((xs x3.toNatClampNeg) &&& (31 : Int32)).toInt = 8 := lv_neT c_11 (by decide)
                                                                    have tc_12 : ¬ ((xs x3.toNatClampNeg) &&& (31 : Int32)).toInt = 9 := lv_neT c_12 (by decide)
                                                                    have tc_13 : ¬ ((xs x3.toNatClampNeg) &&& (31 : Int32)).toInt = 10 := lv_neT c_13 (by decide)
                                                                    have tc_14 : ¬ ((xs x3.toNatClampNeg) &&& (31 : Int32)).toInt = 11 := lv_neT c_14 (by decide)
                                                                    have tc_15 : ¬ ((xs x3.toNatClampNeg) &&& (31 : Int32)).toInt = 12 := lv_neT c_15 (by decide)
                                                                    have tc_16 : ¬ ((xs x3.toNatClampNeg) &&& (31 : Int32)).toInt = 13 := lv_neT c_16 (by decide)
                                                                    have tc_17 : ¬ ((xs x3.toNatClampNeg) &&& (31 : Int32)).toInt = 14 := lv_neT c_17 (by decide)
                                                                    have tc_18 : ¬ ((xs x3.toNatClampNeg) &&& (31 : Int32)).toInt = 15 := lv_neT c_18 (by decide)
                                                                    have tc_19 : ¬ ((xs x3.toNatClampNeg) &&& (31 : Int32)).toInt = 16 := lv_neT c_19 (by decide)
                                                                    have tc_20 : ¬ ((xs x3.toNatClampNeg) &&& (31 : Int32)).toInt = 17 := lv_neT c_20 (by decide)
                                                                    have tc_21 : ¬ ((xs x3.toNatClampNeg) &&& (31 : Int32)).toInt = 18 := lv_neT c_21 (by decide)
                                                                    have tc_22 : ¬ ((xs x3.toNatClampNeg) &&& (31 : Int32)).toInt = 19 := lv_neT c_22 (by decide)
                                                                    have tc_23 : ¬ ((xs x3.toNatClampNeg) &&& (31 : Int32)).toInt = 20 := lv_neT c_23 (by decide)
                                                                    have tc_24 : ¬ ((xs x3.toNatClampNeg) &&& (31 : Int32)).toInt = 21 := lv_neT c_24 (by decide)
                                                                    have tc_25 : ¬ ((xs x3.toNatClampNeg) &&& (31 : Int32)).toInt = 22 := lv_neT c_25 (by decide)
                                                                    have tc_26 : ¬ ((xs x3.toNatClampNeg) &&& (31 : Int32)).toInt = 23 := lv_neT c_26 (by decide)
                                                                    have tc_27 : ¬ ((xs x3.toNatClampNeg) &&& (31 : Int32)).toInt = 24 := lv_neT c_27 (by decide)
                                                                    have tc_28 : ¬ ((xs x3.toNatClampNeg) &&& (31 : Int32)).toInt = 25 := lv_neT c_28 (by decide)
                                                                    have tc_29 : ¬ ((xs x3.toNatClampNeg) &&& (31 : Int32)).toInt = 26 := lv_neT c_29 (by decide)
                                                                    have tc_30 : ¬ ((xs x3.toNatClampNeg) &&& (31 : Int32)).toInt = 27 := lv_neT c_30 (by decide)
                                                                    have tc_31 : ¬ ((xs x3.toNatClampNeg) &&& (31 : Int32)).toInt = 28 := lv_neT c_31 (by decide)
                                                                    have tc_32 : ¬ ((xs x3.toNatClampNeg) &&& (31 : Int32)).toInt = 29 := lv_neT c_32 (by decide)
                                                                    have tc_33 : ¬ ((xs x3.toNatClampNeg) &&& (31 : Int32)).toInt = 30 := lv_neT c_33 (by decide)
                                                                    have tc_34 : ¬ ((xs x3.toNatClampNeg) &&& (31 : Int32)).toInt = 31 := lv_neT c_34 (by decide)
                                                                    refine lv_tableOut (tgt := 1258) hx hb dL_law_33 (by omega) (by decide) ?_
                                                                    exact w_L_1258 C Z F rec18 hrec σ τ x3 h H locs hP hQ hS ls hl
def f_L (F L : Nat) (xs : Nat → Int32) : kS × kS × Int32 → Option Unit := itr (fun rec18 q => s_L_18 F L xs rec18 q.1 q.2.1 q.2.2) F
theorem wf_L (C : Cx E p s m #[Value.ref b] meth c cL_law 4 RL ret) (Z : lZ E s b L xs) (F : Nat) (σ τ : kS) (x3 : Int32) (h : f_L F L xs (σ, τ, x3) = some ()) (H : Heap) (locs : List Loc) (hP : cP E σ H) (hQ : mP E τ H) (hS : va_S (fun q : Nat => s.heap.size ≤ q) s.heap H locs) (ls : Array Slot) (hl : lv_has ls 4 [(0, .ref b), (1, .ref (eA E 0)), (2, .ref (eA E 27)), (3, .int x3)]) : W p l e room_1 s m #[Value.ref b] below meth c H locs 39 1190 (lw_Z below #[Value.ref b] s) (F0 m 18 ls []) :=
  itr_ok (r := ()) (G := fun q => ∀ (H : Heap) (locs : List Loc), cP E q.1 H → mP E q.2.1 H → va_S (fun q : Nat => s.heap.size ≤ q) s.heap H locs → ∀ (ls : Array Slot), lv_has ls 4 [(0, .ref b), (1, .ref (eA E 0)), (2, .ref (eA E 27)), (3, .int (q.2.2))] → W p l e room_1 s m #[Value.ref b] below meth c H locs 39 1190 (lw_Z below #[Value.ref b] s) (F0 m 18 ls [])) (fun rec18 hrec q h => w_L_18 C Z F rec18 (fun σ τ x3 => hrec (σ, τ, x3)) q.1 q.2.1 q.2.2 h) F (σ, τ, x3) h H locs hP hQ hS ls hl
end LW

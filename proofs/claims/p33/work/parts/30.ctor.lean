def eM (U : State) : Prop := va_Nw (.methodLinkNest RX7 9 yX4_init RX7) U ∧ va_Nw (.methodLinkNest RX7 28 yX3_init RX7) U
theorem eM.warm {s U : State} (hW : s.WarmedH U.vm) (h : eM s) : eM U := ⟨va_Nw.warmM hW h.1, va_Nw.warmM hW h.2⟩
theorem eM.same {s U : State} (hv : s.vm = U.vm) (h : eM s) : eM U := ⟨va_Nw.same rfl hv h.1, va_Nw.same rfl hv h.2⟩
abbrev eW (E : kE) (ad : Nat → Nat) : kE := (E.1, E.2.1, E.2.2.1, E.2.2.2.1, E.2.2.2.2.1, ad)
def kCp (E : kE) (av : List Value) (pre : va_W) (sz : Nat) : Array Value → State → Prop := va_Pc av (fun U => U.heap.size = sz ∧ va_P (eD E) vwCl pre U.heap ∧ (eK E U ∧ eM U) ∧ va_D (fun _ => True) pre)
theorem kCp_blind {E : kE} {av : List Value} {pre : va_W} {sz : Nat} : FrameBlind (kCp E av pre sz) := fun a U g mk h => ⟨h.1, h.2.1, h.2.2.1, ⟨eK.same rfl h.2.2.2.1.1, eM.same rfl h.2.2.2.1.2⟩, h.2.2.2.2⟩
abbrev kCq {S : Type} (E : kE) (post : S → va_W) (A : Nat → Prop) := va_Qv (S := S) (fun _ => True) (fun u t => va_P (eD E) vwCl (post u) t.heap ∧ va_D A (post u)) A
def kRm (f cs ss n : Nat) : Room := { frames := f, cells := cs, slots := ss, locals := n }
section CT
variable {p : Program} {l : Launch} {e : Env} {R : Room} {s : State} {m : MethodId} {args : Array Value} {below : List Frame} {meth : Method} {c : Code} {H : Heap} {locs : List Loc} {cells slots : Nat} {Q : State → Prop}
variable {cc : ByteArray} {pc : Nat} {ls : Array Slot} {rest : List Value} {E : kE} {nL : Nat} {own : String} {ret : Option FieldType} {σ : kS}
variable {y : MethodName} {bytes : ByteArray} {maxL index f1 n1 na mc ms sz : Nat} {rt : Option FieldType} {rm : Room} {As st0 : List Value} {a : Nat} {pre ws : va_W} {A z : Nat → Prop} {P : kS → Heap → Prop}
theorem kcst {av : List Value} {Qc : Array Value → State → Outcome → State → Prop} (hE : kap E) (hy : plainFor y = true) (hlen : (lg_sl av).length ≤ maxL)
    (body : ∀ (p : Program) (e : Env) (s : State) (m : MethodId) (below : List Frame) (meth : Method) (c : Code) (ls : Array Slot) (A : Nat → Prop), Cx E p s m av.toArray meth c bytes maxL y.cls none → meth.name = y.name → eM s → va_A pre sz = A → va_P (eD E) vwCl pre s.heap → va_D A pre → va_S A s.heap s.heap [] → (∀ q : Nat, s.heap.size ≤ q → A q) → lv_has ls maxL (lv_args 0 av) → W p l e rm s m av.toArray below meth c s.heap [] 0 0 (MQ below Qc av.toArray s mc ms A) (F0 m 0 ls [])) :
    Met l y (kWs y bytes maxL none) rm (kCp E av pre sz) Qc mc ms (va_A pre sz) := by
  refine kofW (bytes := bytes) (maxL := maxL) (rt := none) hy rfl ?_
  intro p e s m args below meth c s₁ B hml hv
  obtain ⟨rfl, hsz, hP, ⟨hK, hM⟩, hD0⟩ := hv
  have hts := atoms_spec (ws := kWs y bytes maxL none) B.pre
  rw [lg_entry_eq]
  exact body p e s m below meth c _ _ ⟨hE, B.exec, B.bytes, hml, findClass_of_methodNamed B.named, fun w hw => hts w (List.mem_cons_of_mem _ hw), hK, B.returns, B.notSynchronized⟩ (name_of_methodNamed B.named B.method).1 hM rfl hP hD0.self va_S.rf (fun q h => Or.inr (by rw [← hsz]; exact h)) (lv_entry av hlen)
theorem kobj (C : Cx E p s m args meth c cc nL own ret) (hsz : ls.size = nL) (hw : Cond.methodLink own index objectInit ∈ wT) (hdg : decode cc pc = .ok (.invokespecial index, 3)) (hf : 1 ≤ R.frames) (hn : (rest.map fun v => v.category).sum + 12 ≤ R.locals)
    (kk : W p l e R s m args below meth c H locs cells slots Q (F0 m (pc + 3) ls rest)) : W p l e R s m args below meth c H locs cells slots Q (F0 m pc ls (.ref a :: rest)) := by
  obtain ⟨-, hx, hb, hml, hown, hts, -, -, -⟩ := C
  exact W.objInit hx hb hown (hts _ hw) (hts _ (mem_wT 55 (by decide +kernel) (by decide +kernel) : Cond.instanceMethod objectInit ∈ wT)) (hts _ (mem_wT 56 (by decide +kernel) (by decide +kernel) : Cond.code objectInit ⟨#[0xb1]⟩ 1 none ∈ wT)) rfl (hsz.trans hml.symm) rfl hdg hf (by show 2 * 0 + _ + 12 ≤ _; omega) kk
theorem kna_byte (C : Cx E p s m args meth c cc nL own ret) (hP : va_P (eD E) vwCl ws H) (hD : va_D A ws) (hS : va_S A s.heap H locs) (hA : ∀ q : Nat, s.heap.size ≤ q → A q) {n : Int32} (N : Nat) (hn : ¬ n < 0) (hN : n.toNatClampNeg = N) (hbb : N * componentBytes .byte ≤ 536870912) (hcells : cells + 1 ≤ R.cells) (hslots : slots + N ≤ R.slots) (hdg : decode cc pc = .ok (.newarray .byte, 2))
    (kk : ∀ (q : Nat) (H1 : Heap), va_P (eD E) vwCl (ws ++ [(q, .inl (E.2.2.1, N, .inl (fun _ => 0)))]) H1 → va_D A (ws ++ [(q, .inl (E.2.2.1, N, .inl (fun _ => 0)))]) → va_S A s.heap H1 locs → W p l e R s m args below meth c H1 locs (cells + 1) (slots + N) Q (F0 m (pc + 2) ls (.ref q :: rest))) : W p l e R s m args below meth c H locs cells slots Q (F0 m pc ls (.int n :: rest)) := by
  obtain ⟨-, hx, hb, hml, hown, hts, hK, -, -⟩ := C
  refine va_newa (atype := .byte) (ty := .byte) (a0 := (N, .inl (fun _ => 0))) hx hb (hts _ (mem_wT 74 (by decide +kernel) (by decide +kernel) : Cond.arrayClass .byte ∈ wT)) rfl hK.1 hP hD hS hA (fun cA => rfl) hn hN hbb hcells hslots hdg (fun q cA H1 hK1 hP1 hD1 hS1 => ?_)
  have e1 : s.vm.findClass ("[" ++ (FieldType.byte).toString) = some cA := (hK1.2 3 (cA, .byte) rfl).2
  have e2 : s.vm.findClass ("[" ++ (FieldType.byte).toString) = some (E.2.2.1) := (hK.1.2 0 (E.2.2.1, .byte) rfl).2
  have e3 : cA = E.2.2.1 := Option.some.inj (e1.symm.trans e2)
  subst e3
  exact kk q H1 hP1 hD1 hS1
theorem kna_int (C : Cx E p s m args meth c cc nL own ret) (hP : va_P (eD E) vwCl ws H) (hD : va_D A ws) (hS : va_S A s.heap H locs) (hA : ∀ q : Nat, s.heap.size ≤ q → A q) {n : Int32} (N : Nat) (hn : ¬ n < 0) (hN : n.toNatClampNeg = N) (hbb : N * componentBytes .int ≤ 536870912) (hcells : cells + 1 ≤ R.cells) (hslots : slots + N ≤ R.slots) (hdg : decode cc pc = .ok (.newarray .int, 2))
    (kk : ∀ (q : Nat) (H1 : Heap), va_P (eD E) vwCl (ws ++ [(q, .inl (E.2.2.2.1, N, .inl (fun _ => 0)))]) H1 → va_D A (ws ++ [(q, .inl (E.2.2.2.1, N, .inl (fun _ => 0)))]) → va_S A s.heap H1 locs → W p l e R s m args below meth c H1 locs (cells + 1) (slots + N) Q (F0 m (pc + 2) ls (.ref q :: rest))) : W p l e R s m args below meth c H locs cells slots Q (F0 m pc ls (.int n :: rest)) := by
  obtain ⟨-, hx, hb, hml, hown, hts, hK, -, -⟩ := C
  refine va_newa (atype := .int) (ty := .int) (a0 := (N, .inl (fun _ => 0))) hx hb (hts _ (mem_wT 75 (by decide +kernel) (by decide +kernel) : Cond.arrayClass .int ∈ wT)) rfl hK.1 hP hD hS hA (fun cA => rfl) hn hN hbb hcells hslots hdg (fun q cA H1 hK1 hP1 hD1 hS1 => ?_)
  have e1 : s.vm.findClass ("[" ++ (FieldType.int).toString) = some cA := (hK1.2 3 (cA, .int) rfl).2
  have e2 : s.vm.findClass ("[" ++ (FieldType.int).toString) = some (E.2.2.2.1) := (hK.1.2 1 (E.2.2.2.1, .int) rfl).2
  have e3 : cA = E.2.2.2.1 := Option.some.inj (e1.symm.trans e2)
  subst e3
  exact kk q H1 hP1 hD1 hS1
theorem kna_long (C : Cx E p s m args meth c cc nL own ret) (hP : va_P (eD E) vwCl ws H) (hD : va_D A ws) (hS : va_S A s.heap H locs) (hA : ∀ q : Nat, s.heap.size ≤ q → A q) {n : Int32} (N : Nat) (hn : ¬ n < 0) (hN : n.toNatClampNeg = N) (hbb : N * componentBytes .long ≤ 536870912) (hcells : cells + 1 ≤ R.cells) (hslots : slots + N ≤ R.slots) (hdg : decode cc pc = .ok (.newarray .long, 2))
    (kk : ∀ (q : Nat) (H1 : Heap), va_P (eD E) vwCl (ws ++ [(q, .inl (E.2.2.2.2.1, N, .inr (.inl (fun _ => 0))))]) H1 → va_D A (ws ++ [(q, .inl (E.2.2.2.2.1, N, .inr (.inl (fun _ => 0))))]) → va_S A s.heap H1 locs → W p l e R s m args below meth c H1 locs (cells + 1) (slots + N) Q (F0 m (pc + 2) ls (.ref q :: rest))) : W p l e R s m args below meth c H locs cells slots Q (F0 m pc ls (.int n :: rest)) := by
  obtain ⟨-, hx, hb, hml, hown, hts, hK, -, -⟩ := C
  refine va_newa (atype := .long) (ty := .long) (a0 := (N, .inr (.inl (fun _ => 0)))) hx hb (hts _ (mem_wT 229 (by decide +kernel) (by decide +kernel) : Cond.arrayClass .long ∈ wT)) rfl hK.1 hP hD hS hA (fun cA => rfl) hn hN hbb hcells hslots hdg (fun q cA H1 hK1 hP1 hD1 hS1 => ?_)
  have e1 : s.vm.findClass ("[" ++ (FieldType.long).toString) = some cA := (hK1.2 3 (cA, .long) rfl).2
  have e2 : s.vm.findClass ("[" ++ (FieldType.long).toString) = some (E.2.2.2.2.1) := (hK.1.2 2 (E.2.2.2.2.1, .long) rfl).2
  have e3 : cA = E.2.2.2.2.1 := Option.some.inj (e1.symm.trans e2)
  subst e3
  exact kk q H1 hP1 hD1 hS1
def kI0 (y : MethodName) (bytes : ByteArray) (maxL n : Nat) : Prop := Cond.instanceMethod y ∈ wT ∧ Cond.initialized y.cls ∈ wT ∧ Cond.code y bytes maxL none ∈ wT ∧ y.name = "<init>" ∧ (y.cls ≠ "java/lang/invoke/MethodHandle" ∧ y.cls ≠ "java/lang/invoke/VarHandle" ∧ (parseMethodDescriptor y.desc).map (fun d => d.parameters.length) = some n)
theorem krunI (C : Cx E p s m args meth c cc nL own ret) (hM2 : eM s) {Qc : Array Value → State → Outcome → State → Prop} (hM : Met l y (kWs y bytes maxL none) rm (kCp E (.ref a :: As) pre H.size) Qc mc ms z) (w1 : Cond.methodLink own index y ∈ wT) (hv : kI0 y bytes maxL na) (hP : va_P (eD E) vwCl pre H) (hD : va_D A pre) (hrc : rm.cells = mc) (hrs : rm.slots = ms) (hR : rm.frames + 1 ≤ R.frames ∧ 8 + (maxL + 11) + rm.locals ≤ R.locals) (hn : As.length = na) (hsz : ls.size = nL) (hst : st0 = As.reverse ++ .ref a :: rest) (hrm : (rest.map fun v => v.category).sum ≤ 8) (hdg : decode cc pc = .ok (.invokespecial index, 3)) (hf : cells + mc ≤ R.cells ∧ slots + ms ≤ R.slots) :
    va_Run p l e R s m args below meth c H locs cells slots mc ms (F0 m pc ls st0) rest (Qc (Value.ref a :: As).toArray) z := by
  obtain ⟨-, hx, hb, hml, hown, hts, hK, -, -⟩ := C
  obtain ⟨v1, v3, v4, vn, v5⟩ := hv
  refine va_runI (n := na) (bytes := bytes) (maxL := maxL) ⟨hx, hb, hml, hown, hts⟩ hM ⟨callB_of na hts (kgood v4) rfl hrc hrs (hts _ v3) (hts _ w1) v5 hR, vn, hts _ v1⟩ ⟨kCp_blind, fun U hU hW => ⟨rfl, by rw [hU], by rw [hU]; exact hP, ⟨hK.warm hW, hM2.warm hW⟩, hD.weaken (fun _ _ _ _ => trivial)⟩⟩ rfl hn hsz hst (lv_room hrm) hdg hf
theorem krunIN (C : Cx E p s m args meth c cc nL own ret) (hM2 : eM s) {host : String} {Qc : Array Value → State → Outcome → State → Prop} (hM : Met l y (kWs y bytes maxL none) rm (kCp E (.ref a :: As) pre H.size) Qc mc ms z) (w1 : va_Nw (.methodLinkNest own index y host) s) (hv : kI0 y bytes maxL na) (hP : va_P (eD E) vwCl pre H) (hD : va_D A pre) (hrc : rm.cells = mc) (hrs : rm.slots = ms) (hR : rm.frames + 1 ≤ R.frames ∧ 8 + (maxL + 11) + rm.locals ≤ R.locals) (hn : As.length = na) (hsz : ls.size = nL) (hst : st0 = As.reverse ++ .ref a :: rest) (hrm : (rest.map fun v => v.category).sum ≤ 8) (hdg : decode cc pc = .ok (.invokespecial index, 3)) (hf : cells + mc ≤ R.cells ∧ slots + ms ≤ R.slots) :
    va_Run p l e R s m args below meth c H locs cells slots mc ms (F0 m pc ls st0) rest (Qc (Value.ref a :: As).toArray) z := by
  obtain ⟨-, hx, hb, hml, hown, hts, hK, -, -⟩ := C
  obtain ⟨v1, v3, v4, vn, v5⟩ := hv
  refine va_runIN (n := na) (bytes := bytes) (maxL := maxL) ⟨hx, hb, hml, hown, hts⟩ hM ⟨va_cnB na hts (kgood v4) rfl hrc hrs w1 (hts _ v3) v5 hR, vn, hts _ v1⟩ ⟨kCp_blind, fun U hU hW => ⟨rfl, by rw [hU], by rw [hU]; exact hP, ⟨hK.warm hW, hM2.warm hW⟩, hD.weaken (fun _ _ _ _ => trivial)⟩⟩ rfl hn hsz hst (lv_room hrm) hdg hf
/-- behind a constructor: its cells beside the others -/
theorem kcI {S : Type} {post : S → va_W} {a9 : Array Value} (hr : va_Run p l e R s m args below meth c H locs cells slots mc ms (F0 m pc ls st0) rest (kCq E post (va_A pre H.size) a9) (va_A pre H.size)) (hP : va_P (eD E) vwCl ws H) (hD : va_D A ws) (hS : va_S A s.heap H locs) (hA : ∀ q : Nat, s.heap.size ≤ q → A q) (isC isR : List Nat) {wr : va_W} (hC : isC.map (fun i => ws[i]?) = pre.map some) (hR : isR.map (fun i => ws[i]?) = wr.map some) (hn : va_nd isR = true) (hdis : ∀ i ∈ isR, i ∉ isC)
    (kk : ∀ (u : S) (H1 : Heap) (locs1 : List Loc), va_P (eD E) vwCl (wr ++ post u) H1 → va_D A (wr ++ post u) → va_S A s.heap H1 locs1 → W p l e R s m args below meth c H1 locs1 (cells + mc) (slots + ms) Q (F0 m (pc + 3) ls rest)) : W p l e R s m args below meth c H locs cells slots Q (F0 m pc ls st0) := by
  have hF := va_free (wc := pre) hD hS hA isC hC
  refine va_callv hr hS (fun q _ h => hF q h) hF (fun u t H1 locs1 ht hvm hp hB hz hk hS1 => ?_)
  obtain ⟨hP1, hD1⟩ := hB
  rw [ht] at hP1
  obtain ⟨g1, g2⟩ := va_join (wr := wr) (w1 := post u) hP hD isC isR hC hR hn hdis hk hF hP1 hD1
  exact kk u H1 locs1 g1 g2 hS1
/-- an ordinary call in any room -/
theorem krunVG (C : Cx E p s m args meth c cc nL own ret) {Qc : Array Value → State → Outcome → State → Prop} {E2 : kE} (hK2 : ∀ U : State, s.WarmedH U.vm → eK E2 U) (hP : P σ H) (hM : Met l y (kWs y bytes maxL rt) (kR f1 n1) (kPre P E2 (.ref a :: As) σ) Qc 0 0 z)
    (w1 : Cond.methodLink own index y ∈ wT) (hv : kV y bytes maxL rt na) (hR : f1 + 1 ≤ R.frames ∧ 8 + (maxL + 11) + n1 ≤ R.locals) (hrc : ∃ cell : Cell, H[a]? = some cell ∧ cell.vm.isStatics = false ∧ s.vm.findClass y.cls = some cell.cls) (hn : As.length = na) (hsz : ls.size = nL) (hst : st0 = As.reverse ++ .ref a :: rest) (hrm : (rest.map fun v => v.category).sum ≤ 8) (hdg : decode cc pc = .ok (.invokevirtual index, 3)) (hf : cells ≤ R.cells ∧ slots ≤ R.slots) :
    va_Run p l e R s m args below meth c H locs cells slots 0 0 (F0 m pc ls st0) rest (Qc (Value.ref a :: As).toArray) z := by
  obtain ⟨-, hx, hb, hml, hown, hts, hK, -, -⟩ := C
  obtain ⟨⟨v1, v2⟩, v3, v4, v5⟩ := hv
  exact va_runV (n := na) (bytes := bytes) (maxL := maxL) (ret := rt) (C := y.cls) ⟨hx, hb, hml, hown, hts⟩ hM ⟨callB_of na hts (kgood v4) rfl rfl rfl (hts _ v3) (hts _ w1) v5 hR, hts _ v1, hts _ v2⟩ ⟨kPre_blind, hrc, fun U hU hW => ⟨rfl, by rw [hU]; exact hP, hK2 U hW⟩⟩ rfl hn hsz hst (lv_room hrm) hdg hf
theorem kretI (C : Cx E p s m args meth c cc nL own none) {S : Type} {post : S → va_W} (u : S) (hP : va_P (eD E) vwCl (post u) H) (hD : va_D A (post u)) (hS : va_S A s.heap H locs) (hc : cells = mc) (hs : slots = ms) (hdg : decode cc pc = .ok (.return_, 1)) : W p l e R s m args below meth c H locs cells slots (MQ below (kCq E post A) args s mc ms A) (F0 m pc ls []) := by
  subst hc
  subst hs
  exact W.vret C.2.1 C.2.2.1 C.2.2.2.2.2.2.2.1 (fun t ht _ => ⟨⟨u, rfl, trivial, by show va_P _ _ _ t.heap; rw [ht]; exact hP, hD⟩, hS.F ht⟩) hS.2.2 hdg C.2.2.2.2.2.2.2.2
end CT
abbrev ci_X0_init_pre (E : kE) (h : Nat) : va_W := [(h, .inr (0, [.null, .null]))]
abbrev ci_X0_init_post (E : kE) (h b1 b2 : Nat) (u : Unit) : va_W := [(h, .inr (0, [.ref b1, .ref b2]))]
set_option maxRecDepth 100000 in
set_option maxHeartbeats 4000000 in
theorem ci_X0_init (l : Launch) (E : kE) (hE : kap E) (h b1 b2 sz : Nat) : Met l yX0_init (kWs yX0_init cX0_init 3 none) (kRm 1 0 0 40) (kCp E [.ref h, .ref b1, .ref b2] (ci_X0_init_pre E h) sz) (kCq E (ci_X0_init_post E h b1 b2) (va_A (ci_X0_init_pre E h) sz)) 0 0 (va_A (ci_X0_init_pre E h) sz) := by
  refine kcst hE (by decide +kernel) (Nat.le_of_ble_eq_true rfl) (fun p e s m below meth c ls A C hin hM2 hAe hP hD hS hA hl => ?_)
  obtain ⟨-, hx, hb, hml, hown, hts, hK, -, -⟩ := id C
  rw [hAe]
  have hin : meth.name = "<init>" := hin
  have hl : lv_has ls 3 [(0, .ref h), (1, .ref b1), (2, .ref b2)] := hl
  refine lv_aload_n hx hb dX0_init_0 rfl (lv_at hl 0 rfl) ?_
  refine kobj C hl.1 (mem_wT 166 (by decide +kernel) (by decide +kernel)) dX0_init_1 (Nat.le_of_ble_eq_true rfl) (Nat.le_of_ble_eq_true rfl) ?_
  refine lv_aload_n hx hb dX0_init_4 rfl (lv_at hl 0 rfl) ?_
  refine lv_aload_n hx hb dX0_init_5 rfl (lv_at hl 1 rfl) ?_
  refine va_putF (D := eD E) (ci := 0) (v := .ref b1) (ty := .object "TwoKings$Plan") (C := RX0) (T := TX0) (N := 2) hx hb hts inX0 tyX0 tyX0_ok nmX0 hown hK.1 hP hD hS 0 rfl rfl 0 (by decide) (hts (.fieldLink RX0 9 "TwoKings$Council" "plan" "LTwoKings$Plan;") (mem_wT 167 (by decide +kernel) (by decide +kernel))) (fun _ h9 => h9) rfl hin rfl (by decide +kernel) rfl rfl (Nat.le_of_ble_eq_true rfl) dX0_init_6 (fun H locs hP hD hS => ?_)
  have hP : va_P (eD E) vwCl [(h, .inr (0, [.ref b1, .null]))] H := hP
  have hD : va_D A [(h, .inr (0, [.ref b1, .null]))] := hD
  refine lv_aload_n hx hb dX0_init_9 rfl (lv_at hl 0 rfl) ?_
  refine lv_aload_n hx hb dX0_init_10 rfl (lv_at hl 2 rfl) ?_
  refine va_putF (D := eD E) (ci := 0) (v := .ref b2) (ty := .object "TwoKings$Reign") (C := RX0) (T := TX0) (N := 2) hx hb hts inX0 tyX0 tyX0_ok nmX0 hown hK.1 hP hD hS 0 rfl rfl 1 (by decide) (hts (.fieldLink RX0 15 "TwoKings$Council" "reign" "LTwoKings$Reign;") (mem_wT 168 (by decide +kernel) (by decide +kernel))) (fun _ h9 => h9) rfl hin rfl (by decide +kernel) rfl rfl (Nat.le_of_ble_eq_true rfl) dX0_init_11 (fun H locs hP hD hS => ?_)
  have hP : va_P (eD E) vwCl [(h, .inr (0, [.ref b1, .ref b2]))] H := hP
  have hD : va_D A [(h, .inr (0, [.ref b1, .ref b2]))] := hD
  exact kretI C () hP hD hS rfl rfl dX0_init_14
abbrev ci_X1_init_pre (E : kE) (h : Nat) : va_W := [(h, .inr (1, [.null, .null]))]
abbrev ci_X1_init_post (E : kE) (h b1 b2 : Nat) (u : Unit) : va_W := [(h, .inr (1, [.ref b1, .ref b2]))]
set_option maxRecDepth 100000 in
set_option maxHeartbeats 4000000 in
theorem ci_X1_init (l : Launch) (E : kE) (hE : kap E) (h b1 b2 sz : Nat) : Met l yX1_init (kWs yX1_init cX1_init 3 none) (kRm 1 0 0 40) (kCp E [.ref h, .ref b1, .ref b2] (ci_X1_init_pre E h) sz) (kCq E (ci_X1_init_post E h b1 b2) (va_A (ci_X1_init_pre E h) sz)) 0 0 (va_A (ci_X1_init_pre E h) sz) := by
  refine kcst hE (by decide +kernel) (Nat.le_of_ble_eq_true rfl) (fun p e s m below meth c ls A C hin hM2 hAe hP hD hS hA hl => ?_)
  obtain ⟨-, hx, hb, hml, hown, hts, hK, -, -⟩ := id C
  rw [hAe]
  have hin : meth.name = "<init>" := hin
  have hl : lv_has ls 3 [(0, .ref h), (1, .ref b1), (2, .ref b2)] := hl
  refine lv_aload_n hx hb dX1_init_0 rfl (lv_at hl 0 rfl) ?_
  refine kobj C hl.1 (mem_wT 153 (by decide +kernel) (by decide +kernel)) dX1_init_1 (Nat.le_of_ble_eq_true rfl) (Nat.le_of_ble_eq_true rfl) ?_
  refine lv_aload_n hx hb dX1_init_4 rfl (lv_at hl 0 rfl) ?_
  refine lv_aload_n hx hb dX1_init_5 rfl (lv_at hl 1 rfl) ?_
  refine va_putF (D := eD E) (ci := 1) (v := .ref b1) (ty := .object "TwoKings$Plan") (C := RX1) (T := TX1) (N := 2) hx hb hts inX1 tyX1 tyX1_ok nmX1 hown hK.1 hP hD hS 0 rfl rfl 0 (by decide) (hts (.fieldLink RX1 9 "TwoKings$Judge" "plan" "LTwoKings$Plan;") (mem_wT 154 (by decide +kernel) (by decide +kernel))) (fun _ h9 => h9) rfl hin rfl (by decide +kernel) rfl rfl (Nat.le_of_ble_eq_true rfl) dX1_init_6 (fun H locs hP hD hS => ?_)
  have hP : va_P (eD E) vwCl [(h, .inr (1, [.ref b1, .null]))] H := hP
  have hD : va_D A [(h, .inr (1, [.ref b1, .null]))] := hD
  refine lv_aload_n hx hb dX1_init_9 rfl (lv_at hl 0 rfl) ?_
  refine lv_aload_n hx hb dX1_init_10 rfl (lv_at hl 2 rfl) ?_
  refine va_putF (D := eD E) (ci := 1) (v := .ref b2) (ty := .object "TwoKings$Reign") (C := RX1) (T := TX1) (N := 2) hx hb hts inX1 tyX1 tyX1_ok nmX1 hown hK.1 hP hD hS 0 rfl rfl 1 (by decide) (hts (.fieldLink RX1 15 "TwoKings$Judge" "reign" "LTwoKings$Reign;") (mem_wT 155 (by decide +kernel) (by decide +kernel))) (fun _ h9 => h9) rfl hin rfl (by decide +kernel) rfl rfl (Nat.le_of_ble_eq_true rfl) dX1_init_11 (fun H locs hP hD hS => ?_)
  have hP : va_P (eD E) vwCl [(h, .inr (1, [.ref b1, .ref b2]))] H := hP
  have hD : va_D A [(h, .inr (1, [.ref b1, .ref b2]))] := hD
  exact kretI C () hP hD hS rfl rfl dX1_init_14
abbrev ci_X3_init_pre (E : kE) (h : Nat) : va_W := [(h, .inr (3, [.long 0, .int 0, .int 0, .int 0, .int 0]))]
abbrev ci_X3_init_post (E : kE) (h : Nat) (u : Unit) : va_W := [(h, .inr (3, [.long 0, .int 0, .int 0, .int 0, .int 0]))]
set_option maxRecDepth 100000 in
set_option maxHeartbeats 4000000 in
theorem ci_X3_init (l : Launch) (E : kE) (hE : kap E) (h sz : Nat) : Met l yX3_init (kWs yX3_init cX3_init 1 none) (kRm 1 0 0 40) (kCp E [.ref h] (ci_X3_init_pre E h) sz) (kCq E (ci_X3_init_post E h) (va_A (ci_X3_init_pre E h) sz)) 0 0 (va_A (ci_X3_init_pre E h) sz) := by
  refine kcst hE (by decide +kernel) (Nat.le_of_ble_eq_true rfl) (fun p e s m below meth c ls A C hin hM2 hAe hP hD hS hA hl => ?_)
  obtain ⟨-, hx, hb, hml, hown, hts, hK, -, -⟩ := id C
  rw [hAe]
  have hin : meth.name = "<init>" := hin
  have hl : lv_has ls 1 [(0, .ref h)] := hl
  refine lv_aload_n hx hb dX3_init_0 rfl (lv_at hl 0 rfl) ?_
  refine kobj C hl.1 (mem_wT 118 (by decide +kernel) (by decide +kernel)) dX3_init_1 (Nat.le_of_ble_eq_true rfl) (Nat.le_of_ble_eq_true rfl) ?_
  exact kretI C () hP hD hS rfl rfl dX3_init_4
abbrev ci_X4_init_pre (E : kE) (h : Nat) : va_W := [(h, .inr (4, [.null, .null, .int 0]))]
abbrev ci_X4_init_post (E : kE) (h : Nat) (u : Nat × Nat) : va_W := [(h, .inr (4, [.ref u.1, .ref u.2, .int 0])), (u.1, .inl (E.2.2.1, 400, .inl (fun _ => 0))), (u.2, .inl (E.2.2.2.1, 5, .inl (fun _ => 0)))]
set_option maxRecDepth 100000 in
set_option maxHeartbeats 4000000 in
theorem ci_X4_init (l : Launch) (E : kE) (hE : kap E) (h sz : Nat) : Met l yX4_init (kWs yX4_init cX4_init 1 none) (kRm 1 2 405 40) (kCp E [.ref h] (ci_X4_init_pre E h) sz) (kCq E (ci_X4_init_post E h) (va_A (ci_X4_init_pre E h) sz)) 2 405 (va_A (ci_X4_init_pre E h) sz) := by
  refine kcst hE (by decide +kernel) (Nat.le_of_ble_eq_true rfl) (fun p e s m below meth c ls A C hin hM2 hAe hP hD hS hA hl => ?_)
  obtain ⟨-, hx, hb, hml, hown, hts, hK, -, -⟩ := id C
  rw [hAe]
  have hin : meth.name = "<init>" := hin
  have hl : lv_has ls 1 [(0, .ref h)] := hl
  refine lv_aload_n hx hb dX4_init_0 rfl (lv_at hl 0 rfl) ?_
  refine kobj C hl.1 (mem_wT 62 (by decide +kernel) (by decide +kernel)) dX4_init_1 (Nat.le_of_ble_eq_true rfl) (Nat.le_of_ble_eq_true rfl) ?_
  refine lv_aload_n hx hb dX4_init_4 rfl (lv_at hl 0 rfl) ?_
  refine lv_sipush (v := (400 : Int32)) hx hb dX4_init_5 (by decide) ?_
  refine kna_byte C hP hD hS hA 400 (by decide) (by decide) (by decide) (Nat.le_of_ble_eq_true rfl) (Nat.le_of_ble_eq_true rfl) dX4_init_8 (fun q8 H hP hD hS => ?_)
  refine W.widen (k := 1) (n := 400) (Nat.le_of_ble_eq_true rfl) (Nat.le_of_ble_eq_true rfl) ?_
  have hP : va_P (eD E) vwCl [(h, .inr (4, [.null, .null, .int 0])), (q8, .inl (E.2.2.1, 400, .inl (fun _ => 0)))] H := hP
  have hD : va_D A [(h, .inr (4, [.null, .null, .int 0])), (q8, .inl (E.2.2.1, 400, .inl (fun _ => 0)))] := hD
  refine va_putF (D := eD E) (ci := 4) (v := .ref q8) (ty := .array .byte) (C := RX4) (T := TX4) (N := 3) hx hb hts inX4 tyX4 tyX4_ok nmX4 hown hK.1 hP hD hS 0 rfl rfl 0 (by decide) (hts (.fieldLink RX4 11 "TwoKings$Script" "bytes" "[B") (mem_wT 63 (by decide +kernel) (by decide +kernel))) (fun _ h9 => h9) rfl hin rfl (by decide +kernel) rfl rfl (Nat.le_of_ble_eq_true rfl) dX4_init_10 (fun H locs hP hD hS => ?_)
  have hP : va_P (eD E) vwCl [(h, .inr (4, [.ref q8, .null, .int 0])), (q8, .inl (E.2.2.1, 400, .inl (fun _ => 0)))] H := hP
  have hD : va_D A [(h, .inr (4, [.ref q8, .null, .int 0])), (q8, .inl (E.2.2.1, 400, .inl (fun _ => 0)))] := hD
  refine lv_aload_n hx hb dX4_init_13 rfl (lv_at hl 0 rfl) ?_
  refine lv_iconst (v := (5 : Int32)) hx hb dX4_init_14 (by decide) ?_
  refine kna_int C hP hD hS hA 5 (by decide) (by decide) (by decide) (Nat.le_of_ble_eq_true rfl) (Nat.le_of_ble_eq_true rfl) dX4_init_15 (fun q15 H hP hD hS => ?_)
  refine W.widen (k := 2) (n := 405) (Nat.le_of_ble_eq_true rfl) (Nat.le_of_ble_eq_true rfl) ?_
  have hP : va_P (eD E) vwCl [(h, .inr (4, [.ref q8, .null, .int 0])), (q8, .inl (E.2.2.1, 400, .inl (fun _ => 0))), (q15, .inl (E.2.2.2.1, 5, .inl (fun _ => 0)))] H := hP
  have hD : va_D A [(h, .inr (4, [.ref q8, .null, .int 0])), (q8, .inl (E.2.2.1, 400, .inl (fun _ => 0))), (q15, .inl (E.2.2.2.1, 5, .inl (fun _ => 0)))] := hD
  refine va_putF (D := eD E) (ci := 4) (v := .ref q15) (ty := .array .int) (C := RX4) (T := TX4) (N := 3) hx hb hts inX4 tyX4 tyX4_ok nmX4 hown hK.1 hP hD hS 0 rfl rfl 1 (by decide) (hts (.fieldLink RX4 17 "TwoKings$Script" "numbers" "[I") (mem_wT 64 (by decide +kernel) (by decide +kernel))) (fun _ h9 => h9) rfl hin rfl (by decide +kernel) rfl rfl (Nat.le_of_ble_eq_true rfl) dX4_init_17 (fun H locs hP hD hS => ?_)
  have hP : va_P (eD E) vwCl [(h, .inr (4, [.ref q8, .ref q15, .int 0])), (q8, .inl (E.2.2.1, 400, .inl (fun _ => 0))), (q15, .inl (E.2.2.2.1, 5, .inl (fun _ => 0)))] H := hP
  have hD : va_D A [(h, .inr (4, [.ref q8, .ref q15, .int 0])), (q8, .inl (E.2.2.1, 400, .inl (fun _ => 0))), (q15, .inl (E.2.2.2.1, 5, .inl (fun _ => 0)))] := hD
  exact kretI C (q8, q15) hP hD hS rfl rfl dX4_init_20
abbrev ci_X5_init_8_pre (E : kE) (h : Nat) : va_W := [(h, .inr (5, [.int 0, .null, .null, .null, .null, .null, .int 0, .int 0]))]
abbrev ci_X5_init_8_post (E : kE) (h : Nat) (u : Nat × Nat × Nat × Nat × Nat) : va_W := [(h, .inr (5, [.int (8 : Int32), .ref u.1, .ref u.2.1, .ref u.2.2.1, .ref u.2.2.2.1, .ref u.2.2.2.2, .int 0, .int 0])), (u.1, .inl (E.2.2.2.2.1, 8, .inr (.inl (fun _ => 0)))), (u.2.1, .inl (E.2.2.2.1, 8, .inl (fun _ => 0))), (u.2.2.1, .inl (E.2.2.2.1, 8, .inl (fun _ => 0))), (u.2.2.2.1, .inl (E.2.2.2.1, 8, .inl (fun _ => 0))), (u.2.2.2.2, .inl (E.2.2.2.1, 8, .inl (fun _ => 0)))]
set_option maxRecDepth 100000 in
set_option maxHeartbeats 4000000 in
theorem ci_X5_init_8 (l : Launch) (E : kE) (hE : kap E) (h sz : Nat) : Met l yX5_init (kWs yX5_init cX5_init 2 none) (kRm 1 5 40 40) (kCp E [.ref h, .int (8 : Int32)] (ci_X5_init_8_pre E h) sz) (kCq E (ci_X5_init_8_post E h) (va_A (ci_X5_init_8_pre E h) sz)) 5 40 (va_A (ci_X5_init_8_pre E h) sz) := by
  refine kcst hE (by decide +kernel) (Nat.le_of_ble_eq_true rfl) (fun p e s m below meth c ls A C hin hM2 hAe hP hD hS hA hl => ?_)
  obtain ⟨-, hx, hb, hml, hown, hts, hK, -, -⟩ := id C
  rw [hAe]
  have hin : meth.name = "<init>" := hin
  have hl : lv_has ls 2 [(0, .ref h), (1, .int (8 : Int32))] := hl
  refine lv_aload_n hx hb dX5_init_0 rfl (lv_at hl 0 rfl) ?_
  refine kobj C hl.1 (mem_wT 199 (by decide +kernel) (by decide +kernel)) dX5_init_1 (Nat.le_of_ble_eq_true rfl) (Nat.le_of_ble_eq_true rfl) ?_
  refine lv_aload_n hx hb dX5_init_4 rfl (lv_at hl 0 rfl) ?_
  refine lv_iconst (v := (1 : Int32)) hx hb dX5_init_5 (by decide) ?_
  refine lv_iload_n hx hb dX5_init_6 rfl (lv_at hl 1 rfl) ?_
  refine va_mmax hx hb (hml.trans hl.1.symm) hown (hts _ (mem_wT 200 (by decide +kernel) (by decide +kernel))) (hts _ (mem_wT 201 (by decide +kernel) (by decide +kernel))) (hts _ (mem_wT 46 (by decide +kernel) (by decide +kernel))) (hts _ (mem_wT 202 (by decide +kernel) (by decide +kernel))) (Nat.le_of_ble_eq_true rfl) (Nat.le_of_ble_eq_true rfl) (Nat.le_of_ble_eq_true rfl) (Nat.le_of_ble_eq_true rfl) dX5_init_7 ?_
  refine W.eq (g2 := F0 m 10 ls [.int (8 : Int32), .ref h]) rfl ?_
  refine va_putF (D := eD E) (ci := 5) (v := .int (8 : Int32)) (ty := .int) (C := RX5) (T := TX5) (N := 8) hx hb hts inX5 tyX5 tyX5_ok nmX5 hown hK.1 hP hD hS 0 rfl rfl 0 (by decide) (hts (.fieldLink RX5 13 "TwoKings$Shelf" "room" "I") (mem_wT 203 (by decide +kernel) (by decide +kernel))) (fun _ h9 => h9) rfl hin rfl (by decide +kernel) rfl rfl (Nat.le_of_ble_eq_true rfl) dX5_init_10 (fun H locs hP hD hS => ?_)
  have hP : va_P (eD E) vwCl [(h, .inr (5, [.int (8 : Int32), .null, .null, .null, .null, .null, .int 0, .int 0]))] H := hP
  have hD : va_D A [(h, .inr (5, [.int (8 : Int32), .null, .null, .null, .null, .null, .int 0, .int 0]))] := hD
  refine lv_aload_n hx hb dX5_init_13 rfl (lv_at hl 0 rfl) ?_
  refine lv_aload_n hx hb dX5_init_14 rfl (lv_at hl 0 rfl) ?_
  refine va_get (D := eD E) (ci := 5) (v := .int (8 : Int32)) (C := RX5) (T := TX5) (N := 8) hx hb hts inX5 hown hK.1 hP 0 rfl rfl 0 (by decide) (hts (.fieldLink RX5 13 "TwoKings$Shelf" "room" "I") (mem_wT 203 (by decide +kernel) (by decide +kernel))) (fun _ h9 => h9) rfl dX5_init_15 ?_
  refine kna_long C hP hD hS hA 8 (by decide) (by decide) (by decide) (Nat.le_of_ble_eq_true rfl) (Nat.le_of_ble_eq_true rfl) dX5_init_18 (fun q18 H hP hD hS => ?_)
  refine W.widen (k := 1) (n := 8) (Nat.le_of_ble_eq_true rfl) (Nat.le_of_ble_eq_true rfl) ?_
  have hP : va_P (eD E) vwCl [(h, .inr (5, [.int (8 : Int32), .null, .null, .null, .null, .null, .int 0, .int 0])), (q18, .inl (E.2.2.2.2.1, 8, .inr (.inl (fun _ => 0))))] H := hP
  have hD : va_D A [(h, .inr (5, [.int (8 : Int32), .null, .null, .null, .null, .null, .int 0, .int 0])), (q18, .inl (E.2.2.2.2.1, 8, .inr (.inl (fun _ => 0))))] := hD
  refine va_putF (D := eD E) (ci := 5) (v := .ref q18) (ty := .array .long) (C := RX5) (T := TX5) (N := 8) hx hb hts inX5 tyX5 tyX5_ok nmX5 hown hK.1 hP hD hS 0 rfl rfl 1 (by decide) (hts (.fieldLink RX5 19 "TwoKings$Shelf" "minutes" "[J") (mem_wT 204 (by decide +kernel) (by decide +kernel))) (fun _ h9 => h9) rfl hin rfl (by decide +kernel) rfl rfl (Nat.le_of_ble_eq_true rfl) dX5_init_20 (fun H locs hP hD hS => ?_)
  have hP : va_P (eD E) vwCl [(h, .inr (5, [.int (8 : Int32), .ref q18, .null, .null, .null, .null, .int 0, .int 0])), (q18, .inl (E.2.2.2.2.1, 8, .inr (.inl (fun _ => 0))))] H := hP
  have hD : va_D A [(h, .inr (5, [.int (8 : Int32), .ref q18, .null, .null, .null, .null, .int 0, .int 0])), (q18, .inl (E.2.2.2.2.1, 8, .inr (.inl (fun _ => 0))))] := hD
  refine lv_aload_n hx hb dX5_init_23 rfl (lv_at hl 0 rfl) ?_
  refine lv_aload_n hx hb dX5_init_24 rfl (lv_at hl 0 rfl) ?_
  refine va_get (D := eD E) (ci := 5) (v := .int (8 : Int32)) (C := RX5) (T := TX5) (N := 8) hx hb hts inX5 hown hK.1 hP 0 rfl rfl 0 (by decide) (hts (.fieldLink RX5 13 "TwoKings$Shelf" "room" "I") (mem_wT 203 (by decide +kernel) (by decide +kernel))) (fun _ h9 => h9) rfl dX5_init_25 ?_
  refine kna_int C hP hD hS hA 8 (by decide) (by decide) (by decide) (Nat.le_of_ble_eq_true rfl) (Nat.le_of_ble_eq_true rfl) dX5_init_28 (fun q28 H hP hD hS => ?_)
  refine W.widen (k := 2) (n := 16) (Nat.le_of_ble_eq_true rfl) (Nat.le_of_ble_eq_true rfl) ?_
  have hP : va_P (eD E) vwCl [(h, .inr (5, [.int (8 : Int32), .ref q18, .null, .null, .null, .null, .int 0, .int 0])), (q18, .inl (E.2.2.2.2.1, 8, .inr (.inl (fun _ => 0)))), (q28, .inl (E.2.2.2.1, 8, .inl (fun _ => 0)))] H := hP
  have hD : va_D A [(h, .inr (5, [.int (8 : Int32), .ref q18, .null, .null, .null, .null, .int 0, .int 0])), (q18, .inl (E.2.2.2.2.1, 8, .inr (.inl (fun _ => 0)))), (q28, .inl (E.2.2.2.1, 8, .inl (fun _ => 0)))] := hD
  refine va_putF (D := eD E) (ci := 5) (v := .ref q28) (ty := .array .int) (C := RX5) (T := TX5) (N := 8) hx hb hts inX5 tyX5 tyX5_ok nmX5 hown hK.1 hP hD hS 0 rfl rfl 2 (by decide) (hts (.fieldLink RX5 23 "TwoKings$Shelf" "years" "[I") (mem_wT 205 (by decide +kernel) (by decide +kernel))) (fun _ h9 => h9) rfl hin rfl (by decide +kernel) rfl rfl (Nat.le_of_ble_eq_true rfl) dX5_init_30 (fun H locs hP hD hS => ?_)
  have hP : va_P (eD E) vwCl [(h, .inr (5, [.int (8 : Int32), .ref q18, .ref q28, .null, .null, .null, .int 0, .int 0])), (q18, .inl (E.2.2.2.2.1, 8, .inr (.inl (fun _ => 0)))), (q28, .inl (E.2.2.2.1, 8, .inl (fun _ => 0)))] H := hP
  have hD : va_D A [(h, .inr (5, [.int (8 : Int32), .ref q18, .ref q28, .null, .null, .null, .int 0, .int 0])), (q18, .inl (E.2.2.2.2.1, 8, .inr (.inl (fun _ => 0)))), (q28, .inl (E.2.2.2.1, 8, .inl (fun _ => 0)))] := hD
  refine lv_aload_n hx hb dX5_init_33 rfl (lv_at hl 0 rfl) ?_
  refine lv_aload_n hx hb dX5_init_34 rfl (lv_at hl 0 rfl) ?_
  refine va_get (D := eD E) (ci := 5) (v := .int (8 : Int32)) (C := RX5) (T := TX5) (N := 8) hx hb hts inX5 hown hK.1 hP 0 rfl rfl 0 (by decide) (hts (.fieldLink RX5 13 "TwoKings$Shelf" "room" "I") (mem_wT 203 (by decide +kernel) (by decide +kernel))) (fun _ h9 => h9) rfl dX5_init_35 ?_
  refine kna_int C hP hD hS hA 8 (by decide) (by decide) (by decide) (Nat.le_of_ble_eq_true rfl) (Nat.le_of_ble_eq_true rfl) dX5_init_38 (fun q38 H hP hD hS => ?_)
  refine W.widen (k := 3) (n := 24) (Nat.le_of_ble_eq_true rfl) (Nat.le_of_ble_eq_true rfl) ?_
  have hP : va_P (eD E) vwCl [(h, .inr (5, [.int (8 : Int32), .ref q18, .ref q28, .null, .null, .null, .int 0, .int 0])), (q18, .inl (E.2.2.2.2.1, 8, .inr (.inl (fun _ => 0)))), (q28, .inl (E.2.2.2.1, 8, .inl (fun _ => 0))), (q38, .inl (E.2.2.2.1, 8, .inl (fun _ => 0)))] H := hP
  have hD : va_D A [(h, .inr (5, [.int (8 : Int32), .ref q18, .ref q28, .null, .null, .null, .int 0, .int 0])), (q18, .inl (E.2.2.2.2.1, 8, .inr (.inl (fun _ => 0)))), (q28, .inl (E.2.2.2.1, 8, .inl (fun _ => 0))), (q38, .inl (E.2.2.2.1, 8, .inl (fun _ => 0)))] := hD
  refine va_putF (D := eD E) (ci := 5) (v := .ref q38) (ty := .array .int) (C := RX5) (T := TX5) (N := 8) hx hb hts inX5 tyX5 tyX5_ok nmX5 hown hK.1 hP hD hS 0 rfl rfl 3 (by decide) (hts (.fieldLink RX5 27 "TwoKings$Shelf" "highWorths" "[I") (mem_wT 206 (by decide +kernel) (by decide +kernel))) (fun _ h9 => h9) rfl hin rfl (by decide +kernel) rfl rfl (Nat.le_of_ble_eq_true rfl) dX5_init_40 (fun H locs hP hD hS => ?_)
  have hP : va_P (eD E) vwCl [(h, .inr (5, [.int (8 : Int32), .ref q18, .ref q28, .ref q38, .null, .null, .int 0, .int 0])), (q18, .inl (E.2.2.2.2.1, 8, .inr (.inl (fun _ => 0)))), (q28, .inl (E.2.2.2.1, 8, .inl (fun _ => 0))), (q38, .inl (E.2.2.2.1, 8, .inl (fun _ => 0)))] H := hP
  have hD : va_D A [(h, .inr (5, [.int (8 : Int32), .ref q18, .ref q28, .ref q38, .null, .null, .int 0, .int 0])), (q18, .inl (E.2.2.2.2.1, 8, .inr (.inl (fun _ => 0)))), (q28, .inl (E.2.2.2.1, 8, .inl (fun _ => 0))), (q38, .inl (E.2.2.2.1, 8, .inl (fun _ => 0)))] := hD
  refine lv_aload_n hx hb dX5_init_43 rfl (lv_at hl 0 rfl) ?_
  refine lv_aload_n hx hb dX5_init_44 rfl (lv_at hl 0 rfl) ?_
  refine va_get (D := eD E) (ci := 5) (v := .int (8 : Int32)) (C := RX5) (T := TX5) (N := 8) hx hb hts inX5 hown hK.1 hP 0 rfl rfl 0 (by decide) (hts (.fieldLink RX5 13 "TwoKings$Shelf" "room" "I") (mem_wT 203 (by decide +kernel) (by decide +kernel))) (fun _ h9 => h9) rfl dX5_init_45 ?_
  refine kna_int C hP hD hS hA 8 (by decide) (by decide) (by decide) (Nat.le_of_ble_eq_true rfl) (Nat.le_of_ble_eq_true rfl) dX5_init_48 (fun q48 H hP hD hS => ?_)
  refine W.widen (k := 4) (n := 32) (Nat.le_of_ble_eq_true rfl) (Nat.le_of_ble_eq_true rfl) ?_
  have hP : va_P (eD E) vwCl [(h, .inr (5, [.int (8 : Int32), .ref q18, .ref q28, .ref q38, .null, .null, .int 0, .int 0])), (q18, .inl (E.2.2.2.2.1, 8, .inr (.inl (fun _ => 0)))), (q28, .inl (E.2.2.2.1, 8, .inl (fun _ => 0))), (q38, .inl (E.2.2.2.1, 8, .inl (fun _ => 0))), (q48, .inl (E.2.2.2.1, 8, .inl (fun _ => 0)))] H := hP
  have hD : va_D A [(h, .inr (5, [.int (8 : Int32), .ref q18, .ref q28, .ref q38, .null, .null, .int 0, .int 0])), (q18, .inl (E.2.2.2.2.1, 8, .inr (.inl (fun _ => 0)))), (q28, .inl (E.2.2.2.1, 8, .inl (fun _ => 0))), (q38, .inl (E.2.2.2.1, 8, .inl (fun _ => 0))), (q48, .inl (E.2.2.2.1, 8, .inl (fun _ => 0)))] := hD
  refine va_putF (D := eD E) (ci := 5) (v := .ref q48) (ty := .array .int) (C := RX5) (T := TX5) (N := 8) hx hb hts inX5 tyX5 tyX5_ok nmX5 hown hK.1 hP hD hS 0 rfl rfl 4 (by decide) (hts (.fieldLink RX5 30 "TwoKings$Shelf" "lowWorths" "[I") (mem_wT 207 (by decide +kernel) (by decide +kernel))) (fun _ h9 => h9) rfl hin rfl (by decide +kernel) rfl rfl (Nat.le_of_ble_eq_true rfl) dX5_init_50 (fun H locs hP hD hS => ?_)
  have hP : va_P (eD E) vwCl [(h, .inr (5, [.int (8 : Int32), .ref q18, .ref q28, .ref q38, .ref q48, .null, .int 0, .int 0])), (q18, .inl (E.2.2.2.2.1, 8, .inr (.inl (fun _ => 0)))), (q28, .inl (E.2.2.2.1, 8, .inl (fun _ => 0))), (q38, .inl (E.2.2.2.1, 8, .inl (fun _ => 0))), (q48, .inl (E.2.2.2.1, 8, .inl (fun _ => 0)))] H := hP
  have hD : va_D A [(h, .inr (5, [.int (8 : Int32), .ref q18, .ref q28, .ref q38, .ref q48, .null, .int 0, .int 0])), (q18, .inl (E.2.2.2.2.1, 8, .inr (.inl (fun _ => 0)))), (q28, .inl (E.2.2.2.1, 8, .inl (fun _ => 0))), (q38, .inl (E.2.2.2.1, 8, .inl (fun _ => 0))), (q48, .inl (E.2.2.2.1, 8, .inl (fun _ => 0)))] := hD
  refine lv_aload_n hx hb dX5_init_53 rfl (lv_at hl 0 rfl) ?_
  refine lv_aload_n hx hb dX5_init_54 rfl (lv_at hl 0 rfl) ?_
  refine va_get (D := eD E) (ci := 5) (v := .int (8 : Int32)) (C := RX5) (T := TX5) (N := 8) hx hb hts inX5 hown hK.1 hP 0 rfl rfl 0 (by decide) (hts (.fieldLink RX5 13 "TwoKings$Shelf" "room" "I") (mem_wT 203 (by decide +kernel) (by decide +kernel))) (fun _ h9 => h9) rfl dX5_init_55 ?_
  refine kna_int C hP hD hS hA 8 (by decide) (by decide) (by decide) (Nat.le_of_ble_eq_true rfl) (Nat.le_of_ble_eq_true rfl) dX5_init_58 (fun q58 H hP hD hS => ?_)
  refine W.widen (k := 5) (n := 40) (Nat.le_of_ble_eq_true rfl) (Nat.le_of_ble_eq_true rfl) ?_
  have hP : va_P (eD E) vwCl [(h, .inr (5, [.int (8 : Int32), .ref q18, .ref q28, .ref q38, .ref q48, .null, .int 0, .int 0])), (q18, .inl (E.2.2.2.2.1, 8, .inr (.inl (fun _ => 0)))), (q28, .inl (E.2.2.2.1, 8, .inl (fun _ => 0))), (q38, .inl (E.2.2.2.1, 8, .inl (fun _ => 0))), (q48, .inl (E.2.2.2.1, 8, .inl (fun _ => 0))), (q58, .inl (E.2.2.2.1, 8, .inl (fun _ => 0)))] H := hP
  have hD : va_D A [(h, .inr (5, [.int (8 : Int32), .ref q18, .ref q28, .ref q38, .ref q48, .null, .int 0, .int 0])), (q18, .inl (E.2.2.2.2.1, 8, .inr (.inl (fun _ => 0)))), (q28, .inl (E.2.2.2.1, 8, .inl (fun _ => 0))), (q38, .inl (E.2.2.2.1, 8, .inl (fun _ => 0))), (q48, .inl (E.2.2.2.1, 8, .inl (fun _ => 0))), (q58, .inl (E.2.2.2.1, 8, .inl (fun _ => 0)))] := hD
  refine va_putF (D := eD E) (ci := 5) (v := .ref q58) (ty := .array .int) (C := RX5) (T := TX5) (N := 8) hx hb hts inX5 tyX5 tyX5_ok nmX5 hown hK.1 hP hD hS 0 rfl rfl 5 (by decide) (hts (.fieldLink RX5 33 "TwoKings$Shelf" "laws" "[I") (mem_wT 208 (by decide +kernel) (by decide +kernel))) (fun _ h9 => h9) rfl hin rfl (by decide +kernel) rfl rfl (Nat.le_of_ble_eq_true rfl) dX5_init_60 (fun H locs hP hD hS => ?_)
  have hP : va_P (eD E) vwCl [(h, .inr (5, [.int (8 : Int32), .ref q18, .ref q28, .ref q38, .ref q48, .ref q58, .int 0, .int 0])), (q18, .inl (E.2.2.2.2.1, 8, .inr (.inl (fun _ => 0)))), (q28, .inl (E.2.2.2.1, 8, .inl (fun _ => 0))), (q38, .inl (E.2.2.2.1, 8, .inl (fun _ => 0))), (q48, .inl (E.2.2.2.1, 8, .inl (fun _ => 0))), (q58, .inl (E.2.2.2.1, 8, .inl (fun _ => 0)))] H := hP
  have hD : va_D A [(h, .inr (5, [.int (8 : Int32), .ref q18, .ref q28, .ref q38, .ref q48, .ref q58, .int 0, .int 0])), (q18, .inl (E.2.2.2.2.1, 8, .inr (.inl (fun _ => 0)))), (q28, .inl (E.2.2.2.1, 8, .inl (fun _ => 0))), (q38, .inl (E.2.2.2.1, 8, .inl (fun _ => 0))), (q48, .inl (E.2.2.2.1, 8, .inl (fun _ => 0))), (q58, .inl (E.2.2.2.1, 8, .inl (fun _ => 0)))] := hD
  exact kretI C (q18, q28, q38, q48, q58) hP hD hS rfl rfl dX5_init_63
abbrev ci_X5_init_2_pre (E : kE) (h : Nat) : va_W := [(h, .inr (5, [.int 0, .null, .null, .null, .null, .null, .int 0, .int 0]))]
abbrev ci_X5_init_2_post (E : kE) (h : Nat) (u : Nat × Nat × Nat × Nat × Nat) : va_W := [(h, .inr (5, [.int (2 : Int32), .ref u.1, .ref u.2.1, .ref u.2.2.1, .ref u.2.2.2.1, .ref u.2.2.2.2, .int 0, .int 0])), (u.1, .inl (E.2.2.2.2.1, 2, .inr (.inl (fun _ => 0)))), (u.2.1, .inl (E.2.2.2.1, 2, .inl (fun _ => 0))), (u.2.2.1, .inl (E.2.2.2.1, 2, .inl (fun _ => 0))), (u.2.2.2.1, .inl (E.2.2.2.1, 2, .inl (fun _ => 0))), (u.2.2.2.2, .inl (E.2.2.2.1, 2, .inl (fun _ => 0)))]
set_option maxRecDepth 100000 in
set_option maxHeartbeats 4000000 in
theorem ci_X5_init_2 (l : Launch) (E : kE) (hE : kap E) (h sz : Nat) : Met l yX5_init (kWs yX5_init cX5_init 2 none) (kRm 1 5 10 40) (kCp E [.ref h, .int (2 : Int32)] (ci_X5_init_2_pre E h) sz) (kCq E (ci_X5_init_2_post E h) (va_A (ci_X5_init_2_pre E h) sz)) 5 10 (va_A (ci_X5_init_2_pre E h) sz) := by
  refine kcst hE (by decide +kernel) (Nat.le_of_ble_eq_true rfl) (fun p e s m below meth c ls A C hin hM2 hAe hP hD hS hA hl => ?_)
  obtain ⟨-, hx, hb, hml, hown, hts, hK, -, -⟩ := id C
  rw [hAe]
  have hin : meth.name = "<init>" := hin
  have hl : lv_has ls 2 [(0, .ref h), (1, .int (2 : Int32))] := hl
  refine lv_aload_n hx hb dX5_init_0 rfl (lv_at hl 0 rfl) ?_
  refine kobj C hl.1 (mem_wT 199 (by decide +kernel) (by decide +kernel)) dX5_init_1 (Nat.le_of_ble_eq_true rfl) (Nat.le_of_ble_eq_true rfl) ?_
  refine lv_aload_n hx hb dX5_init_4 rfl (lv_at hl 0 rfl) ?_
  refine lv_iconst (v := (1 : Int32)) hx hb dX5_init_5 (by decide) ?_
  refine lv_iload_n hx hb dX5_init_6 rfl (lv_at hl 1 rfl) ?_
  refine va_mmax hx hb (hml.trans hl.1.symm) hown (hts _ (mem_wT 200 (by decide +kernel) (by decide +kernel))) (hts _ (mem_wT 201 (by decide +kernel) (by decide +kernel))) (hts _ (mem_wT 46 (by decide +kernel) (by decide +kernel))) (hts _ (mem_wT 202 (by decide +kernel) (by decide +kernel))) (Nat.le_of_ble_eq_true rfl) (Nat.le_of_ble_eq_true rfl) (Nat.le_of_ble_eq_true rfl) (Nat.le_of_ble_eq_true rfl) dX5_init_7 ?_
  refine W.eq (g2 := F0 m 10 ls [.int (2 : Int32), .ref h]) rfl ?_
  refine va_putF (D := eD E) (ci := 5) (v := .int (2 : Int32)) (ty := .int) (C := RX5) (T := TX5) (N := 8) hx hb hts inX5 tyX5 tyX5_ok nmX5 hown hK.1 hP hD hS 0 rfl rfl 0 (by decide) (hts (.fieldLink RX5 13 "TwoKings$Shelf" "room" "I") (mem_wT 203 (by decide +kernel) (by decide +kernel))) (fun _ h9 => h9) rfl hin rfl (by decide +kernel) rfl rfl (Nat.le_of_ble_eq_true rfl) dX5_init_10 (fun H locs hP hD hS => ?_)
  have hP : va_P (eD E) vwCl [(h, .inr (5, [.int (2 : Int32), .null, .null, .null, .null, .null, .int 0, .int 0]))] H := hP
  have hD : va_D A [(h, .inr (5, [.int (2 : Int32), .null, .null, .null, .null, .null, .int 0, .int 0]))] := hD
  refine lv_aload_n hx hb dX5_init_13 rfl (lv_at hl 0 rfl) ?_
  refine lv_aload_n hx hb dX5_init_14 rfl (lv_at hl 0 rfl) ?_
  refine va_get (D := eD E) (ci := 5) (v := .int (2 : Int32)) (C := RX5) (T := TX5) (N := 8) hx hb hts inX5 hown hK.1 hP 0 rfl rfl 0 (by decide) (hts (.fieldLink RX5 13 "TwoKings$Shelf" "room" "I") (mem_wT 203 (by decide +kernel) (by decide +kernel))) (fun _ h9 => h9) rfl dX5_init_15 ?_
  refine kna_long C hP hD hS hA 2 (by decide) (by decide) (by decide) (Nat.le_of_ble_eq_true rfl) (Nat.le_of_ble_eq_true rfl) dX5_init_18 (fun q18 H hP hD hS => ?_)
  refine W.widen (k := 1) (n := 2) (Nat.le_of_ble_eq_true rfl) (Nat.le_of_ble_eq_true rfl) ?_
  have hP : va_P (eD E) vwCl [(h, .inr (5, [.int (2 : Int32), .null, .null, .null, .null, .null, .int 0, .int 0])), (q18, .inl (E.2.2.2.2.1, 2, .inr (.inl (fun _ => 0))))] H := hP
  have hD : va_D A [(h, .inr (5, [.int (2 : Int32), .null, .null, .null, .null, .null, .int 0, .int 0])), (q18, .inl (E.2.2.2.2.1, 2, .inr (.inl (fun _ => 0))))] := hD
  refine va_putF (D := eD E) (ci := 5) (v := .ref q18) (ty := .array .long) (C := RX5) (T := TX5) (N := 8) hx hb hts inX5 tyX5 tyX5_ok nmX5 hown hK.1 hP hD hS 0 rfl rfl 1 (by decide) (hts (.fieldLink RX5 19 "TwoKings$Shelf" "minutes" "[J") (mem_wT 204 (by decide +kernel) (by decide +kernel))) (fun _ h9 => h9) rfl hin rfl (by decide +kernel) rfl rfl (Nat.le_of_ble_eq_true rfl) dX5_init_20 (fun H locs hP hD hS => ?_)
  have hP : va_P (eD E) vwCl [(h, .inr (5, [.int (2 : Int32), .ref q18, .null, .null, .null, .null, .int 0, .int 0])), (q18, .inl (E.2.2.2.2.1, 2, .inr (.inl (fun _ => 0))))] H := hP
  have hD : va_D A [(h, .inr (5, [.int (2 : Int32), .ref q18, .null, .null, .null, .null, .int 0, .int 0])), (q18, .inl (E.2.2.2.2.1, 2, .inr (.inl (fun _ => 0))))] := hD
  refine lv_aload_n hx hb dX5_init_23 rfl (lv_at hl 0 rfl) ?_
  refine lv_aload_n hx hb dX5_init_24 rfl (lv_at hl 0 rfl) ?_
  refine va_get (D := eD E) (ci := 5) (v := .int (2 : Int32)) (C := RX5) (T := TX5) (N := 8) hx hb hts inX5 hown hK.1 hP 0 rfl rfl 0 (by decide) (hts (.fieldLink RX5 13 "TwoKings$Shelf" "room" "I") (mem_wT 203 (by decide +kernel) (by decide +kernel))) (fun _ h9 => h9) rfl dX5_init_25 ?_
  refine kna_int C hP hD hS hA 2 (by decide) (by decide) (by decide) (Nat.le_of_ble_eq_true rfl) (Nat.le_of_ble_eq_true rfl) dX5_init_28 (fun q28 H hP hD hS => ?_)
  refine W.widen (k := 2) (n := 4) (Nat.le_of_ble_eq_true rfl) (Nat.le_of_ble_eq_true rfl) ?_
  have hP : va_P (eD E) vwCl [(h, .inr (5, [.int (2 : Int32), .ref q18, .null, .null, .null, .null, .int 0, .int 0])), (q18, .inl (E.2.2.2.2.1, 2, .inr (.inl (fun _ => 0)))), (q28, .inl (E.2.2.2.1, 2, .inl (fun _ => 0)))] H := hP
  have hD : va_D A [(h, .inr (5, [.int (2 : Int32), .ref q18, .null, .null, .null, .null, .int 0, .int 0])), (q18, .inl (E.2.2.2.2.1, 2, .inr (.inl (fun _ => 0)))), (q28, .inl (E.2.2.2.1, 2, .inl (fun _ => 0)))] := hD
  refine va_putF (D := eD E) (ci := 5) (v := .ref q28) (ty := .array .int) (C := RX5) (T := TX5) (N := 8) hx hb hts inX5 tyX5 tyX5_ok nmX5 hown hK.1 hP hD hS 0 rfl rfl 2 (by decide) (hts (.fieldLink RX5 23 "TwoKings$Shelf" "years" "[I") (mem_wT 205 (by decide +kernel) (by decide +kernel))) (fun _ h9 => h9) rfl hin rfl (by decide +kernel) rfl rfl (Nat.le_of_ble_eq_true rfl) dX5_init_30 (fun H locs hP hD hS => ?_)
  have hP : va_P (eD E) vwCl [(h, .inr (5, [.int (2 : Int32), .ref q18, .ref q28, .null, .null, .null, .int 0, .int 0])), (q18, .inl (E.2.2.2.2.1, 2, .inr (.inl (fun _ => 0)))), (q28, .inl (E.2.2.2.1, 2, .inl (fun _ => 0)))] H := hP
  have hD : va_D A [(h, .inr (5, [.int (2 : Int32), .ref q18, .ref q28, .null, .null, .null, .int 0, .int 0])), (q18, .inl (E.2.2.2.2.1, 2, .inr (.inl (fun _ => 0)))), (q28, .inl (E.2.2.2.1, 2, .inl (fun _ => 0)))] := hD
  refine lv_aload_n hx hb dX5_init_33 rfl (lv_at hl 0 rfl) ?_
  refine lv_aload_n hx hb dX5_init_34 rfl (lv_at hl 0 rfl) ?_
  refine va_get (D := eD E) (ci := 5) (v := .int (2 : Int32)) (C := RX5) (T := TX5) (N := 8) hx hb hts inX5 hown hK.1 hP 0 rfl rfl 0 (by decide) (hts (.fieldLink RX5 13 "TwoKings$Shelf" "room" "I") (mem_wT 203 (by decide +kernel) (by decide +kernel))) (fun _ h9 => h9) rfl dX5_init_35 ?_
  refine kna_int C hP hD hS hA 2 (by decide) (by decide) (by decide) (Nat.le_of_ble_eq_true rfl) (Nat.le_of_ble_eq_true rfl) dX5_init_38 (fun q38 H hP hD hS => ?_)
  refine W.widen (k := 3) (n := 6) (Nat.le_of_ble_eq_true rfl) (Nat.le_of_ble_eq_true rfl) ?_
  have hP : va_P (eD E) vwCl [(h, .inr (5, [.int (2 : Int32), .ref q18, .ref q28, .null, .null, .null, .int 0, .int 0])), (q18, .inl (E.2.2.2.2.1, 2, .inr (.inl (fun _ => 0)))), (q28, .inl (E.2.2.2.1, 2, .inl (fun _ => 0))), (q38, .inl (E.2.2.2.1, 2, .inl (fun _ => 0)))] H := hP
  have hD : va_D A [(h, .inr (5, [.int (2 : Int32), .ref q18, .ref q28, .null, .null, .null, .int 0, .int 0])), (q18, .inl (E.2.2.2.2.1, 2, .inr (.inl (fun _ => 0)))), (q28, .inl (E.2.2.2.1, 2, .inl (fun _ => 0))), (q38, .inl (E.2.2.2.1, 2, .inl (fun _ => 0)))] := hD
  refine va_putF (D := eD E) (ci := 5) (v := .ref q38) (ty := .array .int) (C := RX5) (T := TX5) (N := 8) hx hb hts inX5 tyX5 tyX5_ok nmX5 hown hK.1 hP hD hS 0 rfl rfl 3 (by decide) (hts (.fieldLink RX5 27 "TwoKings$Shelf" "highWorths" "[I") (mem_wT 206 (by decide +kernel) (by decide +kernel))) (fun _ h9 => h9) rfl hin rfl (by decide +kernel) rfl rfl (Nat.le_of_ble_eq_true rfl) dX5_init_40 (fun H locs hP hD hS => ?_)
  have hP : va_P (eD E) vwCl [(h, .inr (5, [.int (2 : Int32), .ref q18, .ref q28, .ref q38, .null, .null, .int 0, .int 0])), (q18, .inl (E.2.2.2.2.1, 2, .inr (.inl (fun _ => 0)))), (q28, .inl (E.2.2.2.1, 2, .inl (fun _ => 0))), (q38, .inl (E.2.2.2.1, 2, .inl (fun _ => 0)))] H := hP
  have hD : va_D A [(h, .inr (5, [.int (2 : Int32), .ref q18, .ref q28, .ref q38, .null, .null, .int 0, .int 0])), (q18, .inl (E.2.2.2.2.1, 2, .inr (.inl (fun _ => 0)))), (q28, .inl (E.2.2.2.1, 2, .inl (fun _ => 0))), (q38, .inl (E.2.2.2.1, 2, .inl (fun _ => 0)))] := hD
  refine lv_aload_n hx hb dX5_init_43 rfl (lv_at hl 0 rfl) ?_
  refine lv_aload_n hx hb dX5_init_44 rfl (lv_at hl 0 rfl) ?_
  refine va_get (D := eD E) (ci := 5) (v := .int (2 : Int32)) (C := RX5) (T := TX5) (N := 8) hx hb hts inX5 hown hK.1 hP 0 rfl rfl 0 (by decide) (hts (.fieldLink RX5 13 "TwoKings$Shelf" "room" "I") (mem_wT 203 (by decide +kernel) (by decide +kernel))) (fun _ h9 => h9) rfl dX5_init_45 ?_
  refine kna_int C hP hD hS hA 2 (by decide) (by decide) (by decide) (Nat.le_of_ble_eq_true rfl) (Nat.le_of_ble_eq_true rfl) dX5_init_48 (fun q48 H hP hD hS => ?_)
  refine W.widen (k := 4) (n := 8) (Nat.le_of_ble_eq_true rfl) (Nat.le_of_ble_eq_true rfl) ?_
  have hP : va_P (eD E) vwCl [(h, .inr (5, [.int (2 : Int32), .ref q18, .ref q28, .ref q38, .null, .null, .int 0, .int 0])), (q18, .inl (E.2.2.2.2.1, 2, .inr (.inl (fun _ => 0)))), (q28, .inl (E.2.2.2.1, 2, .inl (fun _ => 0))), (q38, .inl (E.2.2.2.1, 2, .inl (fun _ => 0))), (q48, .inl (E.2.2.2.1, 2, .inl (fun _ => 0)))] H := hP
  have hD : va_D A [(h, .inr (5, [.int (2 : Int32), .ref q18, .ref q28, .ref q38, .null, .null, .int 0, .int 0])), (q18, .inl (E.2.2.2.2.1, 2, .inr (.inl (fun _ => 0)))), (q28, .inl (E.2.2.2.1, 2, .inl (fun _ => 0))), (q38, .inl (E.2.2.2.1, 2, .inl (fun _ => 0))), (q48, .inl (E.2.2.2.1, 2, .inl (fun _ => 0)))] := hD
  refine va_putF (D := eD E) (ci := 5) (v := .ref q48) (ty := .array .int) (C := RX5) (T := TX5) (N := 8) hx hb hts inX5 tyX5 tyX5_ok nmX5 hown hK.1 hP hD hS 0 rfl rfl 4 (by decide) (hts (.fieldLink RX5 30 "TwoKings$Shelf" "lowWorths" "[I") (mem_wT 207 (by decide +kernel) (by decide +kernel))) (fun _ h9 => h9) rfl hin rfl (by decide +kernel) rfl rfl (Nat.le_of_ble_eq_true rfl) dX5_init_50 (fun H locs hP hD hS => ?_)
  have hP : va_P (eD E) vwCl [(h, .inr (5, [.int (2 : Int32), .ref q18, .ref q28, .ref q38, .ref q48, .null, .int 0, .int 0])), (q18, .inl (E.2.2.2.2.1, 2, .inr (.inl (fun _ => 0)))), (q28, .inl (E.2.2.2.1, 2, .inl (fun _ => 0))), (q38, .inl (E.2.2.2.1, 2, .inl (fun _ => 0))), (q48, .inl (E.2.2.2.1, 2, .inl (fun _ => 0)))] H := hP
  have hD : va_D A [(h, .inr (5, [.int (2 : Int32), .ref q18, .ref q28, .ref q38, .ref q48, .null, .int 0, .int 0])), (q18, .inl (E.2.2.2.2.1, 2, .inr (.inl (fun _ => 0)))), (q28, .inl (E.2.2.2.1, 2, .inl (fun _ => 0))), (q38, .inl (E.2.2.2.1, 2, .inl (fun _ => 0))), (q48, .inl (E.2.2.2.1, 2, .inl (fun _ => 0)))] := hD
  refine lv_aload_n hx hb dX5_init_53 rfl (lv_at hl 0 rfl) ?_
  refine lv_aload_n hx hb dX5_init_54 rfl (lv_at hl 0 rfl) ?_
  refine va_get (D := eD E) (ci := 5) (v := .int (2 : Int32)) (C := RX5) (T := TX5) (N := 8) hx hb hts inX5 hown hK.1 hP 0 rfl rfl 0 (by decide) (hts (.fieldLink RX5 13 "TwoKings$Shelf" "room" "I") (mem_wT 203 (by decide +kernel) (by decide +kernel))) (fun _ h9 => h9) rfl dX5_init_55 ?_
  refine kna_int C hP hD hS hA 2 (by decide) (by decide) (by decide) (Nat.le_of_ble_eq_true rfl) (Nat.le_of_ble_eq_true rfl) dX5_init_58 (fun q58 H hP hD hS => ?_)
  refine W.widen (k := 5) (n := 10) (Nat.le_of_ble_eq_true rfl) (Nat.le_of_ble_eq_true rfl) ?_
  have hP : va_P (eD E) vwCl [(h, .inr (5, [.int (2 : Int32), .ref q18, .ref q28, .ref q38, .ref q48, .null, .int 0, .int 0])), (q18, .inl (E.2.2.2.2.1, 2, .inr (.inl (fun _ => 0)))), (q28, .inl (E.2.2.2.1, 2, .inl (fun _ => 0))), (q38, .inl (E.2.2.2.1, 2, .inl (fun _ => 0))), (q48, .inl (E.2.2.2.1, 2, .inl (fun _ => 0))), (q58, .inl (E.2.2.2.1, 2, .inl (fun _ => 0)))] H := hP
  have hD : va_D A [(h, .inr (5, [.int (2 : Int32), .ref q18, .ref q28, .ref q38, .ref q48, .null, .int 0, .int 0])), (q18, .inl (E.2.2.2.2.1, 2, .inr (.inl (fun _ => 0)))), (q28, .inl (E.2.2.2.1, 2, .inl (fun _ => 0))), (q38, .inl (E.2.2.2.1, 2, .inl (fun _ => 0))), (q48, .inl (E.2.2.2.1, 2, .inl (fun _ => 0))), (q58, .inl (E.2.2.2.1, 2, .inl (fun _ => 0)))] := hD
  refine va_putF (D := eD E) (ci := 5) (v := .ref q58) (ty := .array .int) (C := RX5) (T := TX5) (N := 8) hx hb hts inX5 tyX5 tyX5_ok nmX5 hown hK.1 hP hD hS 0 rfl rfl 5 (by decide) (hts (.fieldLink RX5 33 "TwoKings$Shelf" "laws" "[I") (mem_wT 208 (by decide +kernel) (by decide +kernel))) (fun _ h9 => h9) rfl hin rfl (by decide +kernel) rfl rfl (Nat.le_of_ble_eq_true rfl) dX5_init_60 (fun H locs hP hD hS => ?_)
  have hP : va_P (eD E) vwCl [(h, .inr (5, [.int (2 : Int32), .ref q18, .ref q28, .ref q38, .ref q48, .ref q58, .int 0, .int 0])), (q18, .inl (E.2.2.2.2.1, 2, .inr (.inl (fun _ => 0)))), (q28, .inl (E.2.2.2.1, 2, .inl (fun _ => 0))), (q38, .inl (E.2.2.2.1, 2, .inl (fun _ => 0))), (q48, .inl (E.2.2.2.1, 2, .inl (fun _ => 0))), (q58, .inl (E.2.2.2.1, 2, .inl (fun _ => 0)))] H := hP
  have hD : va_D A [(h, .inr (5, [.int (2 : Int32), .ref q18, .ref q28, .ref q38, .ref q48, .ref q58, .int 0, .int 0])), (q18, .inl (E.2.2.2.2.1, 2, .inr (.inl (fun _ => 0)))), (q28, .inl (E.2.2.2.1, 2, .inl (fun _ => 0))), (q38, .inl (E.2.2.2.1, 2, .inl (fun _ => 0))), (q48, .inl (E.2.2.2.1, 2, .inl (fun _ => 0))), (q58, .inl (E.2.2.2.1, 2, .inl (fun _ => 0)))] := hD
  exact kretI C (q18, q28, q38, q48, q58) hP hD hS rfl rfl dX5_init_63
abbrev ci_X6_init_pre (E : kE) (h : Nat) : va_W := [(h, .inr (6, [.null, .null, .null, .int 0]))]
abbrev ci_X6_init_post (E : kE) (h b1 : Nat) (u : Nat × Nat) : va_W := [(h, .inr (6, [.ref b1, .ref u.1, .ref u.2, .int 0])), (u.1, .inl (E.2.2.2.1, 10, .inl (fun _ => 0))), (u.2, .inl (E.2.2.2.1, 10, .inl (fun _ => 0)))]
set_option maxRecDepth 100000 in
set_option maxHeartbeats 4000000 in
theorem ci_X6_init (l : Launch) (E : kE) (hE : kap E) (h b1 sz : Nat) : Met l yX6_init (kWs yX6_init cX6_init 2 none) (kRm 1 2 20 40) (kCp E [.ref h, .ref b1] (ci_X6_init_pre E h) sz) (kCq E (ci_X6_init_post E h b1) (va_A (ci_X6_init_pre E h) sz)) 2 20 (va_A (ci_X6_init_pre E h) sz) := by
  refine kcst hE (by decide +kernel) (Nat.le_of_ble_eq_true rfl) (fun p e s m below meth c ls A C hin hM2 hAe hP hD hS hA hl => ?_)
  obtain ⟨-, hx, hb, hml, hown, hts, hK, -, -⟩ := id C
  rw [hAe]
  have hin : meth.name = "<init>" := hin
  have hl : lv_has ls 2 [(0, .ref h), (1, .ref b1)] := hl
  refine lv_aload_n hx hb dX6_init_0 rfl (lv_at hl 0 rfl) ?_
  refine kobj C hl.1 (mem_wT 179 (by decide +kernel) (by decide +kernel)) dX6_init_1 (Nat.le_of_ble_eq_true rfl) (Nat.le_of_ble_eq_true rfl) ?_
  refine lv_aload_n hx hb dX6_init_4 rfl (lv_at hl 0 rfl) ?_
  refine lv_bipush (v := (10 : Int32)) hx hb dX6_init_5 (by decide) ?_
  refine kna_int C hP hD hS hA 10 (by decide) (by decide) (by decide) (Nat.le_of_ble_eq_true rfl) (Nat.le_of_ble_eq_true rfl) dX6_init_7 (fun q7 H hP hD hS => ?_)
  refine W.widen (k := 1) (n := 10) (Nat.le_of_ble_eq_true rfl) (Nat.le_of_ble_eq_true rfl) ?_
  have hP : va_P (eD E) vwCl [(h, .inr (6, [.null, .null, .null, .int 0])), (q7, .inl (E.2.2.2.1, 10, .inl (fun _ => 0)))] H := hP
  have hD : va_D A [(h, .inr (6, [.null, .null, .null, .int 0])), (q7, .inl (E.2.2.2.1, 10, .inl (fun _ => 0)))] := hD
  refine va_putF (D := eD E) (ci := 6) (v := .ref q7) (ty := .array .int) (C := RX6) (T := TX6) (N := 4) hx hb hts inX6 tyX6 tyX6_ok nmX6 hown hK.1 hP hD hS 0 rfl rfl 1 (by decide) (hts (.fieldLink RX6 9 "TwoKings$Table" "minutes" "[I") (mem_wT 181 (by decide +kernel) (by decide +kernel))) (fun _ h9 => h9) rfl hin rfl (by decide +kernel) rfl rfl (Nat.le_of_ble_eq_true rfl) dX6_init_9 (fun H locs hP hD hS => ?_)
  have hP : va_P (eD E) vwCl [(h, .inr (6, [.null, .ref q7, .null, .int 0])), (q7, .inl (E.2.2.2.1, 10, .inl (fun _ => 0)))] H := hP
  have hD : va_D A [(h, .inr (6, [.null, .ref q7, .null, .int 0])), (q7, .inl (E.2.2.2.1, 10, .inl (fun _ => 0)))] := hD
  refine lv_aload_n hx hb dX6_init_12 rfl (lv_at hl 0 rfl) ?_
  refine lv_bipush (v := (10 : Int32)) hx hb dX6_init_13 (by decide) ?_
  refine kna_int C hP hD hS hA 10 (by decide) (by decide) (by decide) (Nat.le_of_ble_eq_true rfl) (Nat.le_of_ble_eq_true rfl) dX6_init_15 (fun q15 H hP hD hS => ?_)
  refine W.widen (k := 2) (n := 20) (Nat.le_of_ble_eq_true rfl) (Nat.le_of_ble_eq_true rfl) ?_
  have hP : va_P (eD E) vwCl [(h, .inr (6, [.null, .ref q7, .null, .int 0])), (q7, .inl (E.2.2.2.1, 10, .inl (fun _ => 0))), (q15, .inl (E.2.2.2.1, 10, .inl (fun _ => 0)))] H := hP
  have hD : va_D A [(h, .inr (6, [.null, .ref q7, .null, .int 0])), (q7, .inl (E.2.2.2.1, 10, .inl (fun _ => 0))), (q15, .inl (E.2.2.2.1, 10, .inl (fun _ => 0)))] := hD
  refine va_putF (D := eD E) (ci := 6) (v := .ref q15) (ty := .array .int) (C := RX6) (T := TX6) (N := 4) hx hb hts inX6 tyX6 tyX6_ok nmX6 hown hK.1 hP hD hS 0 rfl rfl 2 (by decide) (hts (.fieldLink RX6 13 "TwoKings$Table" "rulers" "[I") (mem_wT 182 (by decide +kernel) (by decide +kernel))) (fun _ h9 => h9) rfl hin rfl (by decide +kernel) rfl rfl (Nat.le_of_ble_eq_true rfl) dX6_init_17 (fun H locs hP hD hS => ?_)
  have hP : va_P (eD E) vwCl [(h, .inr (6, [.null, .ref q7, .ref q15, .int 0])), (q7, .inl (E.2.2.2.1, 10, .inl (fun _ => 0))), (q15, .inl (E.2.2.2.1, 10, .inl (fun _ => 0)))] H := hP
  have hD : va_D A [(h, .inr (6, [.null, .ref q7, .ref q15, .int 0])), (q7, .inl (E.2.2.2.1, 10, .inl (fun _ => 0))), (q15, .inl (E.2.2.2.1, 10, .inl (fun _ => 0)))] := hD
  refine lv_aload_n hx hb dX6_init_20 rfl (lv_at hl 0 rfl) ?_
  refine lv_aload_n hx hb dX6_init_21 rfl (lv_at hl 1 rfl) ?_
  refine va_putF (D := eD E) (ci := 6) (v := .ref b1) (ty := .object "TwoKings$Judge") (C := RX6) (T := TX6) (N := 4) hx hb hts inX6 tyX6 tyX6_ok nmX6 hown hK.1 hP hD hS 0 rfl rfl 0 (by decide) (hts (.fieldLink RX6 16 "TwoKings$Table" "judge" "LTwoKings$Judge;") (mem_wT 180 (by decide +kernel) (by decide +kernel))) (fun _ h9 => h9) rfl hin rfl (by decide +kernel) rfl rfl (Nat.le_of_ble_eq_true rfl) dX6_init_22 (fun H locs hP hD hS => ?_)
  have hP : va_P (eD E) vwCl [(h, .inr (6, [.ref b1, .ref q7, .ref q15, .int 0])), (q7, .inl (E.2.2.2.1, 10, .inl (fun _ => 0))), (q15, .inl (E.2.2.2.1, 10, .inl (fun _ => 0)))] H := hP
  have hD : va_D A [(h, .inr (6, [.ref b1, .ref q7, .ref q15, .int 0])), (q7, .inl (E.2.2.2.1, 10, .inl (fun _ => 0))), (q15, .inl (E.2.2.2.1, 10, .inl (fun _ => 0)))] := hD
  exact kretI C (q7, q15) hP hD hS rfl rfl dX6_init_25
theorem ki_X0_init : kI0 yX0_init cX0_init 3 2 := ⟨mem_wT 164 (by decide +kernel) (by decide +kernel), mem_wT 43 (by decide +kernel) (by decide +kernel), mem_wT 165 (by decide +kernel) (by decide +kernel), rfl, by decide +kernel⟩
theorem ki_X1_init : kI0 yX1_init cX1_init 3 2 := ⟨mem_wT 151 (by decide +kernel) (by decide +kernel), mem_wT 42 (by decide +kernel) (by decide +kernel), mem_wT 152 (by decide +kernel) (by decide +kernel), rfl, by decide +kernel⟩
theorem ki_X2_init : kI0 yX2_init cX2_init 1 0 := ⟨mem_wT 79 (by decide +kernel) (by decide +kernel), mem_wT 40 (by decide +kernel) (by decide +kernel), mem_wT 80 (by decide +kernel) (by decide +kernel), rfl, by decide +kernel⟩
theorem ki_X3_init : kI0 yX3_init cX3_init 1 0 := ⟨mem_wT 116 (by decide +kernel) (by decide +kernel), mem_wT 41 (by decide +kernel) (by decide +kernel), mem_wT 117 (by decide +kernel) (by decide +kernel), rfl, by decide +kernel⟩
theorem ki_X4_init : kI0 yX4_init cX4_init 1 0 := ⟨mem_wT 60 (by decide +kernel) (by decide +kernel), mem_wT 39 (by decide +kernel) (by decide +kernel), mem_wT 61 (by decide +kernel) (by decide +kernel), rfl, by decide +kernel⟩
theorem ki_X5_init : kI0 yX5_init cX5_init 2 1 := ⟨mem_wT 197 (by decide +kernel) (by decide +kernel), mem_wT 45 (by decide +kernel) (by decide +kernel), mem_wT 198 (by decide +kernel) (by decide +kernel), rfl, by decide +kernel⟩
theorem ki_X6_init : kI0 yX6_init cX6_init 2 1 := ⟨mem_wT 177 (by decide +kernel) (by decide +kernel), mem_wT 44 (by decide +kernel) (by decide +kernel), mem_wT 178 (by decide +kernel) (by decide +kernel), rfl, by decide +kernel⟩
theorem ki_X7_init : kI0 yX7_init cX7_init 1 0 := ⟨mem_wT 52 (by decide +kernel) (by decide +kernel), mem_wT 38 (by decide +kernel) (by decide +kernel), mem_wT 53 (by decide +kernel) (by decide +kernel), rfl, by decide +kernel⟩
theorem ki_X8_init : kI0 yX8_init cX8_init 1 0 := ⟨mem_wT 664 (by decide +kernel) (by decide +kernel), mem_wT 47 (by decide +kernel) (by decide +kernel), mem_wT 665 (by decide +kernel) (by decide +kernel), rfl, by decide +kernel⟩
abbrev cl_X2_clear_pre (h b : Nat) : va_W := [(h, .inr (2, [.int 0, .int 0, .int 0, .int 0, .int 0, .int 0, .ref b, .int 0]))]
abbrev cl_X2_clear_post (h b : Nat) (_ : Unit) : va_W := [(h, .inr (2, [.int (745 : Int32), .int (1 : Int32), .int (1 : Int32), .int (2 : Int32), .int (0 : Int32), .int (0 : Int32), .ref b, .int (0 : Int32)]))]
set_option maxRecDepth 100000 in
set_option maxHeartbeats 4000000 in
theorem cl_X2_clear (l : Launch) (E : kE) (hE : kap E) (h b sz : Nat) : Met l yX2_clear (kWs yX2_clear cX2_clear 1 none) (kRm 0 0 0 0) (kCp E [.ref h] (cl_X2_clear_pre h b) sz) (kCq E (cl_X2_clear_post h b) (va_A (cl_X2_clear_pre h b) sz)) 0 0 (va_A (cl_X2_clear_pre h b) sz) := by
  refine kcst hE (by decide +kernel) (Nat.le_of_ble_eq_true rfl) (fun p e s m below meth c ls A C hin hM2 hAe hP hD hS hA hl => ?_)
  obtain ⟨-, hx, hb, hml, hown, hts, hK, -, -⟩ := id C
  rw [hAe]
  have hl : lv_has ls 1 [(0, .ref h)] := hl
  refine lv_aload_n hx hb dX2_clear_0 rfl (lv_at hl 0 rfl) ?_
  refine lv_sipush (v := (745 : Int32)) hx hb dX2_clear_1 (by decide) ?_
  refine va_put (D := eD E) (ci := 2) (v := .int (745 : Int32)) (ty := .int) (C := RX2) (T := TX2) (N := 8) hx hb hts inX2 tyX2 tyX2_ok nmX2 hown hK.1 hP hD hS 0 rfl rfl 0 (by decide) (hts (.fieldLink RX2 18 "TwoKings$Plan" "tideOver" "I") (mem_wT 86 (by decide +kernel) (by decide +kernel))) (fun _ h9 => h9) rfl (by decide +kernel) rfl rfl (Nat.le_of_ble_eq_true rfl) dX2_clear_4 (fun H locs hP hD hS => ?_)
  have hP : va_P (eD E) vwCl [(h, .inr (2, [.int (745 : Int32), .int 0, .int 0, .int 0, .int 0, .int 0, .ref b, .int 0]))] H := hP
  have hD : va_D A [(h, .inr (2, [.int (745 : Int32), .int 0, .int 0, .int 0, .int 0, .int 0, .ref b, .int 0]))] := hD
  refine lv_aload_n hx hb dX2_clear_7 rfl (lv_at hl 0 rfl) ?_
  refine lv_iconst (v := (1 : Int32)) hx hb dX2_clear_8 (by decide) ?_
  refine va_put (D := eD E) (ci := 2) (v := .int (1 : Int32)) (ty := .int) (C := RX2) (T := TX2) (N := 8) hx hb hts inX2 tyX2 tyX2_ok nmX2 hown hK.1 hP hD hS 0 rfl rfl 1 (by decide) (hts (.fieldLink RX2 22 "TwoKings$Plan" "tideUnder" "I") (mem_wT 87 (by decide +kernel) (by decide +kernel))) (fun _ h9 => h9) rfl (by decide +kernel) rfl rfl (Nat.le_of_ble_eq_true rfl) dX2_clear_9 (fun H locs hP hD hS => ?_)
  have hP : va_P (eD E) vwCl [(h, .inr (2, [.int (745 : Int32), .int (1 : Int32), .int 0, .int 0, .int 0, .int 0, .ref b, .int 0]))] H := hP
  have hD : va_D A [(h, .inr (2, [.int (745 : Int32), .int (1 : Int32), .int 0, .int 0, .int 0, .int 0, .ref b, .int 0]))] := hD
  refine lv_aload_n hx hb dX2_clear_12 rfl (lv_at hl 0 rfl) ?_
  refine lv_iconst (v := (1 : Int32)) hx hb dX2_clear_13 (by decide) ?_
  refine va_put (D := eD E) (ci := 2) (v := .int (1 : Int32)) (ty := .int) (C := RX2) (T := TX2) (N := 8) hx hb hts inX2 tyX2 tyX2_ok nmX2 hown hK.1 hP hD hS 0 rfl rfl 2 (by decide) (hts (.fieldLink RX2 25 "TwoKings$Plan" "highOver" "I") (mem_wT 88 (by decide +kernel) (by decide +kernel))) (fun _ h9 => h9) rfl (by decide +kernel) rfl rfl (Nat.le_of_ble_eq_true rfl) dX2_clear_14 (fun H locs hP hD hS => ?_)
  have hP : va_P (eD E) vwCl [(h, .inr (2, [.int (745 : Int32), .int (1 : Int32), .int (1 : Int32), .int 0, .int 0, .int 0, .ref b, .int 0]))] H := hP
  have hD : va_D A [(h, .inr (2, [.int (745 : Int32), .int (1 : Int32), .int (1 : Int32), .int 0, .int 0, .int 0, .ref b, .int 0]))] := hD
  refine lv_aload_n hx hb dX2_clear_17 rfl (lv_at hl 0 rfl) ?_
  refine lv_iconst (v := (2 : Int32)) hx hb dX2_clear_18 (by decide) ?_
  refine va_put (D := eD E) (ci := 2) (v := .int (2 : Int32)) (ty := .int) (C := RX2) (T := TX2) (N := 8) hx hb hts inX2 tyX2 tyX2_ok nmX2 hown hK.1 hP hD hS 0 rfl rfl 3 (by decide) (hts (.fieldLink RX2 28 "TwoKings$Plan" "highUnder" "I") (mem_wT 89 (by decide +kernel) (by decide +kernel))) (fun _ h9 => h9) rfl (by decide +kernel) rfl rfl (Nat.le_of_ble_eq_true rfl) dX2_clear_19 (fun H locs hP hD hS => ?_)
  have hP : va_P (eD E) vwCl [(h, .inr (2, [.int (745 : Int32), .int (1 : Int32), .int (1 : Int32), .int (2 : Int32), .int 0, .int 0, .ref b, .int 0]))] H := hP
  have hD : va_D A [(h, .inr (2, [.int (745 : Int32), .int (1 : Int32), .int (1 : Int32), .int (2 : Int32), .int 0, .int 0, .ref b, .int 0]))] := hD
  refine lv_aload_n hx hb dX2_clear_22 rfl (lv_at hl 0 rfl) ?_
  refine lv_iconst (v := (0 : Int32)) hx hb dX2_clear_23 (by decide) ?_
  refine va_put (D := eD E) (ci := 2) (v := .int (0 : Int32)) (ty := .int) (C := RX2) (T := TX2) (N := 8) hx hb hts inX2 tyX2 tyX2_ok nmX2 hown hK.1 hP hD hS 0 rfl rfl 4 (by decide) (hts (.fieldLink RX2 31 "TwoKings$Plan" "origin" "I") (mem_wT 90 (by decide +kernel) (by decide +kernel))) (fun _ h9 => h9) rfl (by decide +kernel) rfl rfl (Nat.le_of_ble_eq_true rfl) dX2_clear_24 (fun H locs hP hD hS => ?_)
  have hP : va_P (eD E) vwCl [(h, .inr (2, [.int (745 : Int32), .int (1 : Int32), .int (1 : Int32), .int (2 : Int32), .int (0 : Int32), .int 0, .ref b, .int 0]))] H := hP
  have hD : va_D A [(h, .inr (2, [.int (745 : Int32), .int (1 : Int32), .int (1 : Int32), .int (2 : Int32), .int (0 : Int32), .int 0, .ref b, .int 0]))] := hD
  refine lv_aload_n hx hb dX2_clear_27 rfl (lv_at hl 0 rfl) ?_
  refine lv_iconst (v := (0 : Int32)) hx hb dX2_clear_28 (by decide) ?_
  refine va_put (D := eD E) (ci := 2) (v := .int (0 : Int32)) (ty := .int) (C := RX2) (T := TX2) (N := 8) hx hb hts inX2 tyX2 tyX2_ok nmX2 hown hK.1 hP hD hS 0 rfl rfl 5 (by decide) (hts (.fieldLink RX2 34 "TwoKings$Plan" "silt" "I") (mem_wT 91 (by decide +kernel) (by decide +kernel))) (fun _ h9 => h9) rfl (by decide +kernel) rfl rfl (Nat.le_of_ble_eq_true rfl) dX2_clear_29 (fun H locs hP hD hS => ?_)
  have hP : va_P (eD E) vwCl [(h, .inr (2, [.int (745 : Int32), .int (1 : Int32), .int (1 : Int32), .int (2 : Int32), .int (0 : Int32), .int (0 : Int32), .ref b, .int 0]))] H := hP
  have hD : va_D A [(h, .inr (2, [.int (745 : Int32), .int (1 : Int32), .int (1 : Int32), .int (2 : Int32), .int (0 : Int32), .int (0 : Int32), .ref b, .int 0]))] := hD
  refine lv_aload_n hx hb dX2_clear_32 rfl (lv_at hl 0 rfl) ?_
  refine lv_iconst (v := (0 : Int32)) hx hb dX2_clear_33 (by decide) ?_
  refine va_put (D := eD E) (ci := 2) (v := .int (0 : Int32)) (ty := .int) (C := RX2) (T := TX2) (N := 8) hx hb hts inX2 tyX2 tyX2_ok nmX2 hown hK.1 hP hD hS 0 rfl rfl 7 (by decide) (hts (.fieldLink RX2 37 "TwoKings$Plan" "acts" "I") (mem_wT 94 (by decide +kernel) (by decide +kernel))) (fun _ h9 => h9) rfl (by decide +kernel) rfl rfl (Nat.le_of_ble_eq_true rfl) dX2_clear_34 (fun H locs hP hD hS => ?_)
  have hP : va_P (eD E) vwCl [(h, .inr (2, [.int (745 : Int32), .int (1 : Int32), .int (1 : Int32), .int (2 : Int32), .int (0 : Int32), .int (0 : Int32), .ref b, .int (0 : Int32)]))] H := hP
  have hD : va_D A [(h, .inr (2, [.int (745 : Int32), .int (1 : Int32), .int (1 : Int32), .int (2 : Int32), .int (0 : Int32), .int (0 : Int32), .ref b, .int (0 : Int32)]))] := hD
  exact kretI C () hP hD hS rfl rfl dX2_clear_37
section
variable {p : Program} {l : Launch} {e : Env} {R : Room} {s : State} {m : MethodId} {args : Array Value} {below : List Frame} {meth : Method} {c : Code} {H : Heap} {locs : List Loc} {cells slots : Nat} {Q : State → Prop}
variable {cc : ByteArray} {pc : Nat} {ls : Array Slot} {rest : List Value} {E : kE} {nL : Nat} {own : String} {ret : Option FieldType} {σ : kS}
variable {y : MethodName} {bytes : ByteArray} {maxL index na mc ms : Nat} {rm : Room} {As st0 : List Value} {a : Nat} {pre : va_W} {A z : Nat → Prop}
theorem krunVC (C : Cx E p s m args meth c cc nL own ret) (hM2 : eM s) {Qc : Array Value → State → Outcome → State → Prop} (hM : Met l y (kWs y bytes maxL none) rm (kCp E (.ref a :: As) pre H.size) Qc mc ms z) (w1 : Cond.methodLink own index y ∈ wT) (hv : kV y bytes maxL none na) (hP : va_P (eD E) vwCl pre H) (hD : va_D A pre) (hrc : rm.cells = mc) (hrs : rm.slots = ms) (hR : rm.frames + 1 ≤ R.frames ∧ 8 + (maxL + 11) + rm.locals ≤ R.locals) (hrv : ∃ cell : Cell, H[a]? = some cell ∧ cell.vm.isStatics = false ∧ s.vm.findClass y.cls = some cell.cls) (hn : As.length = na) (hsz : ls.size = nL) (hst : st0 = As.reverse ++ .ref a :: rest) (hrm : (rest.map fun v => v.category).sum ≤ 8) (hdg : decode cc pc = .ok (.invokevirtual index, 3)) (hf : cells + mc ≤ R.cells ∧ slots + ms ≤ R.slots) :
    va_Run p l e R s m args below meth c H locs cells slots mc ms (F0 m pc ls st0) rest (Qc (Value.ref a :: As).toArray) z := by
  obtain ⟨-, hx, hb, hml, hown, hts, hK, -, -⟩ := C
  obtain ⟨⟨v1, v2⟩, v3, v4, v5⟩ := hv
  exact va_runV (n := na) (bytes := bytes) (maxL := maxL) (ret := none) (C := y.cls) ⟨hx, hb, hml, hown, hts⟩ hM ⟨callB_of na hts (kgood v4) rfl hrc hrs (hts _ v3) (hts _ w1) v5 hR, hts _ v1, hts _ v2⟩ ⟨kCp_blind, hrv, fun U hU hW => ⟨rfl, by rw [hU], by rw [hU]; exact hP, ⟨hK.warm hW, hM2.warm hW⟩, hD.weaken (fun _ _ _ _ => trivial)⟩⟩ rfl hn hsz hst (lv_room hrm) hdg hf
end
abbrev ci_X2_init_pre (_ : kE) (h : Nat) : va_W := [(h, .inr (2, [.int 0, .int 0, .int 0, .int 0, .int 0, .int 0, .null, .int 0]))]
abbrev ci_X2_init_post (E : kE) (h : Nat) (u : Nat) : va_W := [(u, .inl (E.2.2.2.1, 30, .inl (fun _ => 0))), (h, .inr (2, [.int (745 : Int32), .int (1 : Int32), .int (1 : Int32), .int (2 : Int32), .int (0 : Int32), .int (0 : Int32), .ref u, .int (0 : Int32)]))]
set_option maxRecDepth 100000 in
set_option maxHeartbeats 4000000 in
theorem ci_X2_init (l : Launch) (E : kE) (hE : kap E) (h sz : Nat) : Met l yX2_init (kWs yX2_init cX2_init 1 none) (kRm 1 1 30 40) (kCp E [.ref h] (ci_X2_init_pre E h) sz) (kCq E (ci_X2_init_post E h) (va_A (ci_X2_init_pre E h) sz)) 1 30 (va_A (ci_X2_init_pre E h) sz) := by
  refine kcst hE (by decide +kernel) (Nat.le_of_ble_eq_true rfl) (fun p e s m below meth c ls A C hin hM2 hAe hP hD hS hA hl => ?_)
  obtain ⟨-, hx, hb, hml, hown, hts, hK, -, -⟩ := id C
  rw [hAe]
  have hin : meth.name = "<init>" := hin
  have hl : lv_has ls 1 [(0, .ref h)] := hl
  refine lv_aload_n hx hb dX2_init_0 rfl (lv_at hl 0 rfl) ?_
  refine kobj C hl.1 (mem_wT 81 (by decide +kernel) (by decide +kernel)) dX2_init_1 (Nat.le_of_ble_eq_true rfl) (Nat.le_of_ble_eq_true rfl) ?_
  refine lv_aload_n hx hb dX2_init_4 rfl (lv_at hl 0 rfl) ?_
  refine lv_bipush (v := (30 : Int32)) hx hb dX2_init_5 (by decide) ?_
  refine kna_int C hP hD hS hA 30 (by decide) (by decide) (by decide) (Nat.le_of_ble_eq_true rfl) (Nat.le_of_ble_eq_true rfl) dX2_init_7 (fun q7 H hP hD hS => ?_)
  refine W.widen (k := 1) (n := 30) (Nat.le_of_ble_eq_true rfl) (Nat.le_of_ble_eq_true rfl) ?_
  have hP : va_P (eD E) vwCl [(h, .inr (2, [.int 0, .int 0, .int 0, .int 0, .int 0, .int 0, .null, .int 0])), (q7, .inl (E.2.2.2.1, 30, .inl (fun _ => 0)))] H := hP
  have hD : va_D A [(h, .inr (2, [.int 0, .int 0, .int 0, .int 0, .int 0, .int 0, .null, .int 0])), (q7, .inl (E.2.2.2.1, 30, .inl (fun _ => 0)))] := hD
  refine va_putF (D := eD E) (ci := 2) (v := .ref q7) (ty := .array .int) (C := RX2) (T := TX2) (N := 8) hx hb hts inX2 tyX2 tyX2_ok nmX2 hown hK.1 hP hD hS 0 rfl rfl 6 (by decide) (hts (.fieldLink RX2 11 "TwoKings$Plan" "told" "[I") (mem_wT 92 (by decide +kernel) (by decide +kernel))) (fun _ h9 => h9) rfl hin rfl (by decide +kernel) rfl rfl (Nat.le_of_ble_eq_true rfl) dX2_init_9 (fun H locs hP hD hS => ?_)
  have hP : va_P (eD E) vwCl [(h, .inr (2, [.int 0, .int 0, .int 0, .int 0, .int 0, .int 0, .ref q7, .int 0])), (q7, .inl (E.2.2.2.1, 30, .inl (fun _ => 0)))] H := hP
  have hD : va_D A [(h, .inr (2, [.int 0, .int 0, .int 0, .int 0, .int 0, .int 0, .ref q7, .int 0])), (q7, .inl (E.2.2.2.1, 30, .inl (fun _ => 0)))] := hD
  refine lv_aload_n hx hb dX2_init_12 rfl (lv_at hl 0 rfl) ?_
  refine kcI (wr := [(q7, .inl (E.2.2.2.1, 30, .inl (fun _ => 0)))]) (krunVC (As := []) C hM2 (cl_X2_clear l E C.1 h q7 H.size) (mem_wT 82 (by decide +kernel) (by decide +kernel)) kv_X2_clear (hP.sub (ws' := cl_X2_clear_pre h q7) [0] rfl) (hD.sub (ws' := cl_X2_clear_pre h q7) [0] (by decide) rfl) rfl rfl ⟨Nat.le_of_ble_eq_true rfl, Nat.le_of_ble_eq_true rfl⟩ (va_recv hK.1 hP (ci := 2) (q0 := 0) rfl rfl) rfl hl.1 rfl (Nat.le_of_ble_eq_true rfl) dX2_init_13 ⟨Nat.le_of_ble_eq_true rfl, Nat.le_of_ble_eq_true rfl⟩) hP hD hS hA [0] [1] rfl rfl (by decide) (by decide) (fun u H locs hP hD hS => ?_)
  refine W.widen (k := 1) (n := 30) (Nat.le_of_ble_eq_true rfl) (Nat.le_of_ble_eq_true rfl) ?_
  have hP : va_P (eD E) vwCl [(q7, .inl (E.2.2.2.1, 30, .inl (fun _ => 0))), (h, .inr (2, [.int (745 : Int32), .int (1 : Int32), .int (1 : Int32), .int (2 : Int32), .int (0 : Int32), .int (0 : Int32), .ref q7, .int (0 : Int32)]))] H := hP
  have hD : va_D A [(q7, .inl (E.2.2.2.1, 30, .inl (fun _ => 0))), (h, .inr (2, [.int (745 : Int32), .int (1 : Int32), .int (1 : Int32), .int (2 : Int32), .int (0 : Int32), .int (0 : Int32), .ref q7, .int (0 : Int32)]))] := hD
  exact kretI C q7 hP hD hS rfl rfl dX2_init_16

section
variable {p : Program} {l : Launch} {e : Env} {s : State} {m : MethodId} {args : Array Value} {below : List Frame} {meth : Method} {c : Code} {E : kE} {σr : kS}
variable {r : Unit}
def s_X2_addFirstAct_0 (F : Nat) (σ : kS) : Option (Unit × kS) :=
  some ((), (jI (jA (jA (jA (jA (jA σ 3 0 (0 : Int32)) 3 1 (1 : Int32)) 3 2 (1 : Int32)) 3 3 (55 : Int32)) 3 4 (55 : Int32)) 14 (1 : Int32)))
set_option maxRecDepth 100000 in
set_option maxHeartbeats 4000000 in
theorem w_X2_addFirstAct_0 (C : Cx E p s m args meth c cX2_addFirstAct 1 RX2 none) (F : Nat) (σ : kS) (h : s_X2_addFirstAct_0 F σ = some (r, σr)) (H : Heap) (locs : List Loc) (hP : cP E σ H) (hS : va_S (inC E) s.heap H locs) (ls : Array Slot) (hl : lv_has ls 1 [(0, .ref (eA E 6))]) : W p l e (kR 0 0) s m args below meth c H locs 0 0 (MQ below (kQv (cP E) (inC E) r σr) args s 0 0 (inC E)) (F0 m 0 ls []) := by
  obtain ⟨-, hx, hb, hml, hown, hts, hK, -, -⟩ := id C
  unfold s_X2_addFirstAct_0 at h
  refine lv_aload_n hx hb dX2_addFirstAct_0 rfl (lv_at hl 0 rfl) ?_
  refine gf_6_6 C hP w_92 dX2_addFirstAct_1 ?_
  refine lv_iconst (v := (0 : Int32)) hx hb dX2_addFirstAct_4 (by decide) ?_
  refine lv_iconst (v := (0 : Int32)) hx hb dX2_addFirstAct_5 (by decide) ?_
  refine as_7 C hP hS (σ2 := (jA σ 3 0 (0 : Int32))) rfl (by unfold vp_in; decide) dX2_addFirstAct_6 (fun H locs hP hS => ?_)
  refine lv_aload_n hx hb dX2_addFirstAct_7 rfl (lv_at hl 0 rfl) ?_
  refine gf_6_6 C hP w_92 dX2_addFirstAct_8 ?_
  refine lv_iconst (v := (1 : Int32)) hx hb dX2_addFirstAct_11 (by decide) ?_
  refine lv_iconst (v := (1 : Int32)) hx hb dX2_addFirstAct_12 (by decide) ?_
  refine as_7 C hP hS (σ2 := (jA (jA σ 3 0 (0 : Int32)) 3 1 (1 : Int32))) rfl (by unfold vp_in; decide) dX2_addFirstAct_13 (fun H locs hP hS => ?_)
  refine lv_aload_n hx hb dX2_addFirstAct_14 rfl (lv_at hl 0 rfl) ?_
  refine gf_6_6 C hP w_92 dX2_addFirstAct_15 ?_
  refine lv_iconst (v := (2 : Int32)) hx hb dX2_addFirstAct_18 (by decide) ?_
  refine lv_iconst (v := (1 : Int32)) hx hb dX2_addFirstAct_19 (by decide) ?_
  refine as_7 C hP hS (σ2 := (jA (jA (jA σ 3 0 (0 : Int32)) 3 1 (1 : Int32)) 3 2 (1 : Int32))) rfl (by unfold vp_in; decide) dX2_addFirstAct_20 (fun H locs hP hS => ?_)
  refine lv_aload_n hx hb dX2_addFirstAct_21 rfl (lv_at hl 0 rfl) ?_
  refine gf_6_6 C hP w_92 dX2_addFirstAct_22 ?_
  refine lv_iconst (v := (3 : Int32)) hx hb dX2_addFirstAct_25 (by decide) ?_
  refine lv_bipush (v := (55 : Int32)) hx hb dX2_addFirstAct_26 (by decide) ?_
  refine as_7 C hP hS (σ2 := (jA (jA (jA (jA σ 3 0 (0 : Int32)) 3 1 (1 : Int32)) 3 2 (1 : Int32)) 3 3 (55 : Int32))) rfl (by unfold vp_in; decide) dX2_addFirstAct_28 (fun H locs hP hS => ?_)
  refine lv_aload_n hx hb dX2_addFirstAct_29 rfl (lv_at hl 0 rfl) ?_
  refine gf_6_6 C hP w_92 dX2_addFirstAct_30 ?_
  refine lv_iconst (v := (4 : Int32)) hx hb dX2_addFirstAct_33 (by decide) ?_
  refine lv_bipush (v := (55 : Int32)) hx hb dX2_addFirstAct_34 (by decide) ?_
  refine as_7 C hP hS (σ2 := (jA (jA (jA (jA (jA σ 3 0 (0 : Int32)) 3 1 (1 : Int32)) 3 2 (1 : Int32)) 3 3 (55 : Int32)) 3 4 (55 : Int32))) rfl (by unfold vp_in; decide) dX2_addFirstAct_36 (fun H locs hP hS => ?_)
  refine lv_aload_n hx hb dX2_addFirstAct_37 rfl (lv_at hl 0 rfl) ?_
  refine lv_iconst (v := (1 : Int32)) hx hb dX2_addFirstAct_38 (by decide) ?_
  refine pf_6_7 C hP hS w_94 dX2_addFirstAct_39 (fun H locs hP hS => ?_)
  obtain ⟨rfl, rfl⟩ := k_inj h
  exact krv C hS hP dX2_addFirstAct_42
def f_X2_addFirstAct (F : Nat) (σ : kS) : Option (Unit × kS) := s_X2_addFirstAct_0 F σ
set_option maxRecDepth 100000 in
theorem c_X2_addFirstAct (E : kE) (hE : kap E) (F : Nat) (σ : kS) (h : f_X2_addFirstAct F σ = some (r, σr)) : Met l yX2_addFirstAct (kWs yX2_addFirstAct cX2_addFirstAct 1 none) (kR 0 0) (kPre (cP E) E [.ref (eA E 6)] σ) (kQv (cP E) (inC E) r σr) 0 0 (inC E) :=
  kst hE (by decide +kernel) (Nat.le_of_ble_eq_true rfl) (fun p e s m below meth c ls C hP hl => w_X2_addFirstAct_0 C F σ h s.heap [] hP va_S.rf ls hl)
end

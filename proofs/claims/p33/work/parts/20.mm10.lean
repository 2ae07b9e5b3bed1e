section
variable {p : Program} {l : Launch} {e : Env} {s : State} {m : MethodId} {args : Array Value} {below : List Frame} {meth : Method} {c : Code} {E : kE} {σr : kS}
variable {r : Int64}
def s_X8_pass_0 (F : Nat) (σ : kS) (x1 : Int32) : Option (Int64 × kS) :=
  (kb (f_X8_in F σ x1.toInt64 (1 : Int64) (9999 : Int64)) fun v_1 σ_2 => (if v_1 = 0 then some ((-1 : Int64), σ_2) else (kb (f_X8_known F (jB σ_2 0 0 ((kB σ_2 0 0) + x1.toInt64)) (0 : Int32) x1 (0 : Int32)) fun _ σ_6 => some ((kB σ_6 0 0), σ_6))))
set_option maxRecDepth 100000 in
set_option maxHeartbeats 4000000 in
theorem w_X8_pass_0 (C : Cx E p s m args meth c cX8_pass 2 RX8 (some .long)) (F : Nat) (σ : kS) (x1 : Int32) (h : s_X8_pass_0 F σ x1 = some (r, σr)) (H : Heap) (locs : List Loc) (hP : mP E σ H) (hS : va_S (inM E) s.heap H locs) (ls : Array Slot) (hl : lv_has ls 2 [(0, .ref (eA E 27)), (1, .int x1)]) : W p l e (kR 1 25) s m args below meth c H locs 0 0 (MQ below (kQl (mP E) (inM E) r σr) args s 0 0 (inM E)) (F0 m 0 ls []) := by
  obtain ⟨-, hx, hb, hml, hown, hts, hK, -, -⟩ := id C
  unfold s_X8_pass_0 at h
  refine lv_iload_n hx hb dX8_pass_0 rfl (lv_at hl 1 rfl) ?_
  refine lv_i2l (v := x1.toInt64) hx hb dX8_pass_1 rfl ?_
  refine lv_lconst (v := (1 : Int64)) hx hb dX8_pass_2 (by decide) ?_
  refine lv_ldc2 (v := (9999 : Int64)) hx hb hown (hts _ w_849) dX8_pass_3 ?_
  obtain ⟨v_1, σ_2, hc_3, h⟩ := kb_ok h
  refine kci (krunS (As := [.long x1.toInt64, .long (1 : Int64), .long (9999 : Int64)]) C hP (c_X8_in E C.1 F σ x1.toInt64 (1 : Int64) (9999 : Int64) hc_3) w_735 kt_X8_in ⟨Nat.le_of_ble_eq_true rfl, Nat.le_of_ble_eq_true rfl⟩ rfl hl.1 rfl (Nat.le_of_ble_eq_true rfl) dX8_pass_6) hS (fun H locs hP hS => ?_)
  refine lv_if_ne (tgt := 16) hx hb dX8_pass_9 (by decide) (fun c_4 => ?_) (fun c_4 => ?_)
  · have h := k_f c_4 h
    refine lv_aload_n hx hb dX8_pass_16 rfl (lv_at hl 0 rfl) ?_
    refine gf_27_7 C hP w_682 dX8_pass_17 ?_
    refine lv_iconst (v := (0 : Int32)) hx hb dX8_pass_20 (by decide) ?_
    refine lv_dup2_11 hx hb dX8_pass_21 rfl rfl ?_
    refine al_33 C hP (v := (kB σ_2 0 0)) rfl (by unfold vp_in; decide) dX8_pass_22 ?_
    refine lv_iload_n hx hb dX8_pass_23 rfl (lv_at hl 1 rfl) ?_
    refine lv_i2l (v := x1.toInt64) hx hb dX8_pass_24 rfl ?_
    refine lv_ladd hx hb dX8_pass_25 ?_
    refine as_33 C hP hS (σ2 := (jB σ_2 0 0 ((kB σ_2 0 0) + x1.toInt64))) rfl (by unfold vp_in; decide) dX8_pass_26 (fun H locs hP hS => ?_)
    refine lv_aload_n hx hb dX8_pass_27 rfl (lv_at hl 0 rfl) ?_
    refine lv_iconst (v := (0 : Int32)) hx hb dX8_pass_28 (by decide) ?_
    refine lv_iload_n hx hb dX8_pass_29 rfl (lv_at hl 1 rfl) ?_
    refine lv_iconst (v := (0 : Int32)) hx hb dX8_pass_30 (by decide) ?_
    obtain ⟨v_5, σ_6, hc_7, h⟩ := kb_ok h
    refine kcv (krunV (As := [.int (0 : Int32), .int x1, .int (0 : Int32)]) C hP (c_X8_known E C.1 F (jB σ_2 0 0 ((kB σ_2 0 0) + x1.toInt64)) (0 : Int32) x1 (0 : Int32) hc_7) w_850 kv_X8_known ⟨Nat.le_of_ble_eq_true rfl, Nat.le_of_ble_eq_true rfl⟩ (rc_27 C hP) rfl hl.1 rfl (Nat.le_of_ble_eq_true rfl) dX8_pass_31) hS (fun H locs hP hS => ?_)
    refine lv_aload_n hx hb dX8_pass_34 rfl (lv_at hl 0 rfl) ?_
    refine gf_27_7 C hP w_682 dX8_pass_35 ?_
    refine lv_iconst (v := (0 : Int32)) hx hb dX8_pass_38 (by decide) ?_
    refine al_33 C hP (v := (kB σ_6 0 0)) rfl (by unfold vp_in; decide) dX8_pass_39 ?_
    obtain ⟨rfl, rfl⟩ := k_inj h
    exact krl C hS hP dX8_pass_40
  · have h := k_t c_4 h
    refine lv_ldc2 (v := (-1 : Int64)) hx hb hown (hts _ w_813) dX8_pass_12 ?_
    obtain ⟨rfl, rfl⟩ := k_inj h
    exact krl C hS hP dX8_pass_15
def f_X8_pass (F : Nat) (σ : kS) (x1 : Int32) : Option (Int64 × kS) := s_X8_pass_0 F σ x1
set_option maxRecDepth 100000 in
theorem c_X8_pass (E : kE) (hE : kap E) (F : Nat) (σ : kS) (x1 : Int32) (h : f_X8_pass F σ x1 = some (r, σr)) : Met l yX8_pass (kWs yX8_pass cX8_pass 2 (some .long)) (kR 1 25) (kPre (mP E) E [.ref (eA E 27), .int x1] σ) (kQl (mP E) (inM E) r σr) 0 0 (inM E) :=
  kst hE (by decide +kernel) (Nat.le_of_ble_eq_true rfl) (fun p e s m below meth c ls C hP hl => w_X8_pass_0 C F σ x1 h s.heap [] hP va_S.rf ls hl)
end

section
variable {p : Program} {l : Launch} {e : Env} {s : State} {m : MethodId} {args : Array Value} {below : List Frame} {meth : Method} {c : Code} {E : kE} {σr : kS}
variable {r : Int64}
def s_X8_doAct_0 (F : Nat) (σ : kS) (x1 : Int32) : Option (Int64 × kS) :=
  (kb (f_X8_isAct F σ x1) fun v_1 σ_2 => (if v_1 = 0 then some ((-1 : Int64), σ_2) else (kb (f_X8_isLawful F σ_2 x1 (kB σ_2 0 0)) fun v_5 σ_6 => (if v_5 = 0 then some ((-2 : Int64), σ_6) else (kb (f_X8_lasts F σ_6 x1) fun v_9 σ_10 => (if (((5 : Int32) * x1) + (3 : Int32)) < 0 ∨ 60 ≤ (((5 : Int32) * x1) + (3 : Int32)).toNatClampNeg then none else (if (((5 : Int32) * x1) + (4 : Int32)) < 0 ∨ 60 ≤ (((5 : Int32) * x1) + (4 : Int32)).toNatClampNeg then none else (kb (f_X8_known F (jB (jB (jB σ_10 0 0 ((kB σ_6 0 0) + v_9.toInt64)) 0 2 ((kB σ_10 0 2) + ((kA σ_10 3 (((5 : Int32) * x1) + (3 : Int32)).toNatClampNeg) - (50 : Int32)).toInt64)) 0 3 ((kB σ_10 0 3) + ((kA σ_10 3 (((5 : Int32) * x1) + (4 : Int32)).toNatClampNeg) - (50 : Int32)).toInt64)) (1 : Int32) x1 (0 : Int32)) fun _ σ_15 => some ((kB σ_15 0 0), σ_15)))))))))
set_option maxRecDepth 100000 in
set_option maxHeartbeats 4000000 in
theorem w_X8_doAct_0 (C : Cx E p s m args meth c cX8_doAct 2 RX8 (some .long)) (F : Nat) (σ : kS) (x1 : Int32) (h : s_X8_doAct_0 F σ x1 = some (r, σr)) (H : Heap) (locs : List Loc) (hP : mP E σ H) (hS : va_S (inM E) s.heap H locs) (ls : Array Slot) (hl : lv_has ls 2 [(0, .ref (eA E 27)), (1, .int x1)]) : W p l e (kR 3 80) s m args below meth c H locs 0 0 (MQ below (kQl (mP E) (inM E) r σr) args s 0 0 (inM E)) (F0 m 0 ls []) := by
  obtain ⟨-, hx, hb, hml, hown, hts, hK, -, -⟩ := id C
  unfold s_X8_doAct_0 at h
  refine lv_aload_n hx hb dX8_doAct_0 rfl (lv_at hl 0 rfl) ?_
  refine lv_iload_n hx hb dX8_doAct_1 rfl (lv_at hl 1 rfl) ?_
  obtain ⟨v_1, σ_2, hc_3, h⟩ := kb_ok h
  refine kci (krunV (As := [.int x1]) C hP (c_X8_isAct E C.1 F σ x1 hc_3) w_777 kv_X8_isAct ⟨Nat.le_of_ble_eq_true rfl, Nat.le_of_ble_eq_true rfl⟩ (rc_27 C hP) rfl hl.1 rfl (Nat.le_of_ble_eq_true rfl) dX8_doAct_2) hS (fun H locs hP hS => ?_)
  refine lv_if_ne (tgt := 12) hx hb dX8_doAct_5 (by decide) (fun c_4 => ?_) (fun c_4 => ?_)
  · have h := k_f c_4 h
    refine lv_aload_n hx hb dX8_doAct_12 rfl (lv_at hl 0 rfl) ?_
    refine lv_iload_n hx hb dX8_doAct_13 rfl (lv_at hl 1 rfl) ?_
    refine lv_aload_n hx hb dX8_doAct_14 rfl (lv_at hl 0 rfl) ?_
    refine gf_27_7 C hP w_682 dX8_doAct_15 ?_
    refine lv_iconst (v := (0 : Int32)) hx hb dX8_doAct_18 (by decide) ?_
    refine al_33 C hP (v := (kB σ_2 0 0)) rfl (by unfold vp_in; decide) dX8_doAct_19 ?_
    obtain ⟨v_5, σ_6, hc_7, h⟩ := kb_ok h
    refine kci (krunV (As := [.int x1, .long (kB σ_2 0 0)]) C hP (c_X8_isLawful E C.1 F σ_2 x1 (kB σ_2 0 0) hc_7) w_820 kv_X8_isLawful ⟨Nat.le_of_ble_eq_true rfl, Nat.le_of_ble_eq_true rfl⟩ (rc_27 C hP) rfl hl.1 rfl (Nat.le_of_ble_eq_true rfl) dX8_doAct_20) hS (fun H locs hP hS => ?_)
    refine lv_if_ne (tgt := 30) hx hb dX8_doAct_23 (by decide) (fun c_8 => ?_) (fun c_8 => ?_)
    · have h := k_f c_8 h
      refine lv_aload_n hx hb dX8_doAct_30 rfl (lv_at hl 0 rfl) ?_
      refine gf_27_7 C hP w_682 dX8_doAct_31 ?_
      refine lv_iconst (v := (0 : Int32)) hx hb dX8_doAct_34 (by decide) ?_
      refine lv_dup2_11 hx hb dX8_doAct_35 rfl rfl ?_
      refine al_33 C hP (v := (kB σ_6 0 0)) rfl (by unfold vp_in; decide) dX8_doAct_36 ?_
      refine lv_aload_n hx hb dX8_doAct_37 rfl (lv_at hl 0 rfl) ?_
      refine lv_iload_n hx hb dX8_doAct_38 rfl (lv_at hl 1 rfl) ?_
      obtain ⟨v_9, σ_10, hc_11, h⟩ := kb_ok h
      refine kci (krunV (As := [.int x1]) C hP (c_X8_lasts E C.1 F σ_6 x1 hc_11) w_841 kv_X8_lasts ⟨Nat.le_of_ble_eq_true rfl, Nat.le_of_ble_eq_true rfl⟩ (rc_27 C hP) rfl hl.1 rfl (Nat.le_of_ble_eq_true rfl) dX8_doAct_39) hS (fun H locs hP hS => ?_)
      refine lv_i2l (v := v_9.toInt64) hx hb dX8_doAct_42 rfl ?_
      refine lv_ladd hx hb dX8_doAct_43 ?_
      refine as_33 C hP hS (σ2 := (jB σ_10 0 0 ((kB σ_6 0 0) + v_9.toInt64))) rfl (by unfold vp_in; decide) dX8_doAct_44 (fun H locs hP hS => ?_)
      refine lv_aload_n hx hb dX8_doAct_45 rfl (lv_at hl 0 rfl) ?_
      refine gf_27_7 C hP w_682 dX8_doAct_46 ?_
      refine lv_iconst (v := (2 : Int32)) hx hb dX8_doAct_49 (by decide) ?_
      refine lv_dup2_11 hx hb dX8_doAct_50 rfl rfl ?_
      refine al_33 C hP (v := (kB σ_10 0 2)) rfl (by unfold vp_in; decide) dX8_doAct_51 ?_
      refine lv_aload_n hx hb dX8_doAct_52 rfl (lv_at hl 0 rfl) ?_
      refine gf_27_5 C hP w_680 dX8_doAct_53 ?_
      refine lv_iconst (v := (5 : Int32)) hx hb dX8_doAct_56 (by decide) ?_
      refine lv_iload_n hx hb dX8_doAct_57 rfl (lv_at hl 1 rfl) ?_
      refine lv_imul hx hb dX8_doAct_58 ?_
      refine lv_iconst (v := (3 : Int32)) hx hb dX8_doAct_59 (by decide) ?_
      refine lv_iadd hx hb dX8_doAct_60 ?_
      obtain ⟨n_12, h⟩ := k_no h
      refine al_31 C hP (v := (kA σ_10 3 (((5 : Int32) * x1) + (3 : Int32)).toNatClampNeg)) rfl n_12 dX8_doAct_61 ?_
      refine lv_bipush (v := (50 : Int32)) hx hb dX8_doAct_62 (by decide) ?_
      refine lv_isub hx hb dX8_doAct_64 ?_
      refine lv_i2l (v := ((kA σ_10 3 (((5 : Int32) * x1) + (3 : Int32)).toNatClampNeg) - (50 : Int32)).toInt64) hx hb dX8_doAct_65 rfl ?_
      refine lv_ladd hx hb dX8_doAct_66 ?_
      refine as_33 C hP hS (σ2 := (jB (jB σ_10 0 0 ((kB σ_6 0 0) + v_9.toInt64)) 0 2 ((kB σ_10 0 2) + ((kA σ_10 3 (((5 : Int32) * x1) + (3 : Int32)).toNatClampNeg) - (50 : Int32)).toInt64))) rfl (by unfold vp_in; decide) dX8_doAct_67 (fun H locs hP hS => ?_)
      refine lv_aload_n hx hb dX8_doAct_68 rfl (lv_at hl 0 rfl) ?_
      refine gf_27_7 C hP w_682 dX8_doAct_69 ?_
      refine lv_iconst (v := (3 : Int32)) hx hb dX8_doAct_72 (by decide) ?_
      refine lv_dup2_11 hx hb dX8_doAct_73 rfl rfl ?_
      refine al_33 C hP (v := (kB σ_10 0 3)) rfl (by unfold vp_in; decide) dX8_doAct_74 ?_
      refine lv_aload_n hx hb dX8_doAct_75 rfl (lv_at hl 0 rfl) ?_
      refine gf_27_5 C hP w_680 dX8_doAct_76 ?_
      refine lv_iconst (v := (5 : Int32)) hx hb dX8_doAct_79 (by decide) ?_
      refine lv_iload_n hx hb dX8_doAct_80 rfl (lv_at hl 1 rfl) ?_
      refine lv_imul hx hb dX8_doAct_81 ?_
      refine lv_iconst (v := (4 : Int32)) hx hb dX8_doAct_82 (by decide) ?_
      refine lv_iadd hx hb dX8_doAct_83 ?_
      obtain ⟨n_13, h⟩ := k_no h
      refine al_31 C hP (v := (kA σ_10 3 (((5 : Int32) * x1) + (4 : Int32)).toNatClampNeg)) rfl n_13 dX8_doAct_84 ?_
      refine lv_bipush (v := (50 : Int32)) hx hb dX8_doAct_85 (by decide) ?_
      refine lv_isub hx hb dX8_doAct_87 ?_
      refine lv_i2l (v := ((kA σ_10 3 (((5 : Int32) * x1) + (4 : Int32)).toNatClampNeg) - (50 : Int32)).toInt64) hx hb dX8_doAct_88 rfl ?_
      refine lv_ladd hx hb dX8_doAct_89 ?_
      refine as_33 C hP hS (σ2 := (jB (jB (jB σ_10 0 0 ((kB σ_6 0 0) + v_9.toInt64)) 0 2 ((kB σ_10 0 2) + ((kA σ_10 3 (((5 : Int32) * x1) + (3 : Int32)).toNatClampNeg) - (50 : Int32)).toInt64)) 0 3 ((kB σ_10 0 3) + ((kA σ_10 3 (((5 : Int32) * x1) + (4 : Int32)).toNatClampNeg) - (50 : Int32)).toInt64))) rfl (by unfold vp_in; decide) dX8_doAct_90 (fun H locs hP hS => ?_)
      refine lv_aload_n hx hb dX8_doAct_91 rfl (lv_at hl 0 rfl) ?_
      refine lv_iconst (v := (1 : Int32)) hx hb dX8_doAct_92 (by decide) ?_
      refine lv_iload_n hx hb dX8_doAct_93 rfl (lv_at hl 1 rfl) ?_
      refine lv_iconst (v := (0 : Int32)) hx hb dX8_doAct_94 (by decide) ?_
      obtain ⟨v_14, σ_15, hc_16, h⟩ := kb_ok h
      refine kcv (krunV (As := [.int (1 : Int32), .int x1, .int (0 : Int32)]) C hP (c_X8_known E C.1 F (jB (jB (jB σ_10 0 0 ((kB σ_6 0 0) + v_9.toInt64)) 0 2 ((kB σ_10 0 2) + ((kA σ_10 3 (((5 : Int32) * x1) + (3 : Int32)).toNatClampNeg) - (50 : Int32)).toInt64)) 0 3 ((kB σ_10 0 3) + ((kA σ_10 3 (((5 : Int32) * x1) + (4 : Int32)).toNatClampNeg) - (50 : Int32)).toInt64)) (1 : Int32) x1 (0 : Int32) hc_16) w_850 kv_X8_known ⟨Nat.le_of_ble_eq_true rfl, Nat.le_of_ble_eq_true rfl⟩ (rc_27 C hP) rfl hl.1 rfl (Nat.le_of_ble_eq_true rfl) dX8_doAct_95) hS (fun H locs hP hS => ?_)
      refine lv_aload_n hx hb dX8_doAct_98 rfl (lv_at hl 0 rfl) ?_
      refine gf_27_7 C hP w_682 dX8_doAct_99 ?_
      refine lv_iconst (v := (0 : Int32)) hx hb dX8_doAct_102 (by decide) ?_
      refine al_33 C hP (v := (kB σ_15 0 0)) rfl (by unfold vp_in; decide) dX8_doAct_103 ?_
      obtain ⟨rfl, rfl⟩ := k_inj h
      exact krl C hS hP dX8_doAct_104
    · have h := k_t c_8 h
      refine lv_ldc2 (v := (-2 : Int64)) hx hb hown (hts _ w_858) dX8_doAct_26 ?_
      obtain ⟨rfl, rfl⟩ := k_inj h
      exact krl C hS hP dX8_doAct_29
  · have h := k_t c_4 h
    refine lv_ldc2 (v := (-1 : Int64)) hx hb hown (hts _ w_813) dX8_doAct_8 ?_
    obtain ⟨rfl, rfl⟩ := k_inj h
    exact krl C hS hP dX8_doAct_11
def f_X8_doAct (F : Nat) (σ : kS) (x1 : Int32) : Option (Int64 × kS) := s_X8_doAct_0 F σ x1
set_option maxRecDepth 100000 in
theorem c_X8_doAct (E : kE) (hE : kap E) (F : Nat) (σ : kS) (x1 : Int32) (h : f_X8_doAct F σ x1 = some (r, σr)) : Met l yX8_doAct (kWs yX8_doAct cX8_doAct 2 (some .long)) (kR 3 80) (kPre (mP E) E [.ref (eA E 27), .int x1] σ) (kQl (mP E) (inM E) r σr) 0 0 (inM E) :=
  kst hE (by decide +kernel) (Nat.le_of_ble_eq_true rfl) (fun p e s m below meth c ls C hP hl => w_X8_doAct_0 C F σ x1 h s.heap [] hP va_S.rf ls hl)
end

section
variable {p : Program} {l : Launch} {e : Env} {s : State} {m : MethodId} {args : Array Value} {below : List Frame} {meth : Method} {c : Code} {E : kE} {σr : kS}
variable {r : Int32}
def s_X8_allow_78 (F : Nat) (σ : kS) (x4 : Int32) (y0 : Int32) (y1 : Int32) : Option (Int32 × kS) :=
  (if y1 < 0 ∨ 18 ≤ y1.toNatClampNeg then none else some (x4, (jA σ 4 y1.toNatClampNeg y0)))
set_option maxRecDepth 100000 in
set_option maxHeartbeats 4000000 in
theorem w_X8_allow_78 (C : Cx E p s m args meth c cX8_allow 5 RX8 (some .int)) (F : Nat) (σ : kS) (x4 : Int32) (y0 : Int32) (y1 : Int32) (h : s_X8_allow_78 F σ x4 y0 y1 = some (r, σr)) (H : Heap) (locs : List Loc) (hP : mP E σ H) (hS : va_S (inM E) s.heap H locs) (ls : Array Slot) (hl : lv_has ls 5 [(4, .int x4)]) : W p l e (kR 2 46) s m args below meth c H locs 0 0 (MQ below (kQi (mP E) (inM E) r σr) args s 0 0 (inM E)) (F0 m 78 ls [.int y0, .int y1, .ref (eA E 32)]) := by
  obtain ⟨-, hx, hb, hml, hown, hts, hK, -, -⟩ := id C
  unfold s_X8_allow_78 at h
  obtain ⟨n_1, h⟩ := k_no h
  refine as_32 C hP hS (σ2 := (jA σ 4 y1.toNatClampNeg y0)) rfl n_1 dX8_allow_78 (fun H locs hP hS => ?_)
  refine lv_iload hx hb dX8_allow_79 (lv_at hl 0 rfl) ?_
  obtain ⟨rfl, rfl⟩ := k_inj h
  exact kri C hS hP dX8_allow_81
def s_X8_allow_0 (F : Nat) (σ : kS) (x1 : Int32) (x2 : Int32) (x3 : Int32) : Option (Int32 × kS) :=
  (kb (f_X8_isAct F σ x1) fun v_1 σ_2 => (if v_1 = 0 then some ((-1 : Int32), σ_2) else (kb (f_X8_in F σ_2 x2.toInt64 (0 : Int64) (1 : Int64)) fun v_5 σ_6 => (if v_5 = 0 then some ((-1 : Int32), σ_6) else (if x1 < 0 ∨ 18 ≤ x1.toNatClampNeg then none else (kn (((kA σ_6 4 x1.toNatClampNeg) >>> (x2 &&& 31)) &&& (1 : Int32)) (fun x4_10 => (if x1 < 0 ∨ 18 ≤ x1.toNatClampNeg then none else (kb (f_X8_known F σ_6 (2 : Int32) x1 (kA σ_6 4 x1.toNatClampNeg)) fun _ σ_13 => (if x3 = 0 then (if x1 < 0 ∨ 18 ≤ x1.toNatClampNeg then none else s_X8_allow_78 F σ_13 x4_10 ((kA σ_13 4 x1.toNatClampNeg) &&& (((1 : Int32) <<< (x2 &&& 31)) ^^^ (-1 : Int32))) x1) else (if x1 < 0 ∨ 18 ≤ x1.toNatClampNeg then none else s_X8_allow_78 F σ_13 x4_10 ((kA σ_13 4 x1.toNatClampNeg) ||| ((1 : Int32) <<< (x2 &&& 31))) x1)))))))))))
set_option maxRecDepth 100000 in
set_option maxHeartbeats 4000000 in
theorem w_X8_allow_0 (C : Cx E p s m args meth c cX8_allow 5 RX8 (some .int)) (F : Nat) (σ : kS) (x1 : Int32) (x2 : Int32) (x3 : Int32) (h : s_X8_allow_0 F σ x1 x2 x3 = some (r, σr)) (H : Heap) (locs : List Loc) (hP : mP E σ H) (hS : va_S (inM E) s.heap H locs) (ls : Array Slot) (hl : lv_has ls 5 [(0, .ref (eA E 27)), (1, .int x1), (2, .int x2), (3, .int x3)]) : W p l e (kR 2 46) s m args below meth c H locs 0 0 (MQ below (kQi (mP E) (inM E) r σr) args s 0 0 (inM E)) (F0 m 0 ls []) := by
  obtain ⟨-, hx, hb, hml, hown, hts, hK, -, -⟩ := id C
  unfold s_X8_allow_0 at h
  refine lv_aload_n hx hb dX8_allow_0 rfl (lv_at hl 0 rfl) ?_
  refine lv_iload_n hx hb dX8_allow_1 rfl (lv_at hl 1 rfl) ?_
  obtain ⟨v_1, σ_2, hc_3, h⟩ := kb_ok h
  refine kci (krunV (As := [.int x1]) C hP (c_X8_isAct E C.1 F σ x1 hc_3) w_777 kv_X8_isAct ⟨Nat.le_of_ble_eq_true rfl, Nat.le_of_ble_eq_true rfl⟩ (rc_27 C hP) rfl hl.1 rfl (Nat.le_of_ble_eq_true rfl) dX8_allow_2) hS (fun H locs hP hS => ?_)
  refine lv_if_eq (tgt := 18) hx hb dX8_allow_5 (by decide) (fun c_4 => ?_) (fun c_4 => ?_)
  · have h := k_t c_4 h
    refine lv_iconst (v := (-1 : Int32)) hx hb dX8_allow_18 (by decide) ?_
    obtain ⟨rfl, rfl⟩ := k_inj h
    exact kri C hS hP dX8_allow_19
  · have h := k_f c_4 h
    refine lv_iload_n hx hb dX8_allow_8 rfl (lv_at hl 2 rfl) ?_
    refine lv_i2l (v := x2.toInt64) hx hb dX8_allow_9 rfl ?_
    refine lv_lconst (v := (0 : Int64)) hx hb dX8_allow_10 (by decide) ?_
    refine lv_lconst (v := (1 : Int64)) hx hb dX8_allow_11 (by decide) ?_
    obtain ⟨v_5, σ_6, hc_7, h⟩ := kb_ok h
    refine kci (krunS (As := [.long x2.toInt64, .long (0 : Int64), .long (1 : Int64)]) C hP (c_X8_in E C.1 F σ_2 x2.toInt64 (0 : Int64) (1 : Int64) hc_7) w_735 kt_X8_in ⟨Nat.le_of_ble_eq_true rfl, Nat.le_of_ble_eq_true rfl⟩ rfl hl.1 rfl (Nat.le_of_ble_eq_true rfl) dX8_allow_12) hS (fun H locs hP hS => ?_)
    refine lv_if_ne (tgt := 20) hx hb dX8_allow_15 (by decide) (fun c_8 => ?_) (fun c_8 => ?_)
    · have h := k_f c_8 h
      refine lv_aload_n hx hb dX8_allow_20 rfl (lv_at hl 0 rfl) ?_
      refine gf_27_6 C hP w_681 dX8_allow_21 ?_
      refine lv_iload_n hx hb dX8_allow_24 rfl (lv_at hl 1 rfl) ?_
      obtain ⟨n_9, h⟩ := k_no h
      refine al_32 C hP (v := (kA σ_6 4 x1.toNatClampNeg)) rfl n_9 dX8_allow_25 ?_
      refine lv_iload_n hx hb dX8_allow_26 rfl (lv_at hl 2 rfl) ?_
      refine lv_ishr hx hb dX8_allow_27 ?_
      refine lv_iconst (v := (1 : Int32)) hx hb dX8_allow_28 (by decide) ?_
      refine lv_iand hx hb dX8_allow_29 ?_
      refine lv_topi (fun x4_10 ex4_10 => ?_)
      have h := kn_to ex4_10 h
      refine lv_istore (lv' := [(4, .int x4_10), (0, .ref (eA E 27)), (1, .int x1), (2, .int x2), (3, .int x3)]) hx hb dX8_allow_30 hl (by decide) rfl (fun ls hl => ?_)
      refine lv_aload_n hx hb dX8_allow_32 rfl (lv_at hl 1 rfl) ?_
      refine lv_iconst (v := (2 : Int32)) hx hb dX8_allow_33 (by decide) ?_
      refine lv_iload_n hx hb dX8_allow_34 rfl (lv_at hl 2 rfl) ?_
      refine lv_aload_n hx hb dX8_allow_35 rfl (lv_at hl 1 rfl) ?_
      refine gf_27_6 C hP w_681 dX8_allow_36 ?_
      refine lv_iload_n hx hb dX8_allow_39 rfl (lv_at hl 2 rfl) ?_
      obtain ⟨n_11, h⟩ := k_no h
      refine al_32 C hP (v := (kA σ_6 4 x1.toNatClampNeg)) rfl n_11 dX8_allow_40 ?_
      obtain ⟨v_12, σ_13, hc_14, h⟩ := kb_ok h
      refine kcv (krunV (As := [.int (2 : Int32), .int x1, .int (kA σ_6 4 x1.toNatClampNeg)]) C hP (c_X8_known E C.1 F σ_6 (2 : Int32) x1 (kA σ_6 4 x1.toNatClampNeg) hc_14) w_850 kv_X8_known ⟨Nat.le_of_ble_eq_true rfl, Nat.le_of_ble_eq_true rfl⟩ (rc_27 C hP) rfl hl.1 rfl (Nat.le_of_ble_eq_true rfl) dX8_allow_41) hS (fun H locs hP hS => ?_)
      refine lv_aload_n hx hb dX8_allow_44 rfl (lv_at hl 1 rfl) ?_
      refine gf_27_6 C hP w_681 dX8_allow_45 ?_
      refine lv_iload_n hx hb dX8_allow_48 rfl (lv_at hl 2 rfl) ?_
      refine lv_iload_n hx hb dX8_allow_49 rfl (lv_at hl 4 rfl) ?_
      refine lv_if_eq (tgt := 66) hx hb dX8_allow_50 (by decide) (fun c_15 => ?_) (fun c_15 => ?_)
      · have h := k_t c_15 h
        refine lv_aload_n hx hb dX8_allow_66 rfl (lv_at hl 1 rfl) ?_
        refine gf_27_6 C hP w_681 dX8_allow_67 ?_
        refine lv_iload_n hx hb dX8_allow_70 rfl (lv_at hl 2 rfl) ?_
        obtain ⟨n_16, h⟩ := k_no h
        refine al_32 C hP (v := (kA σ_13 4 x1.toNatClampNeg)) rfl n_16 dX8_allow_71 ?_
        refine lv_iconst (v := (1 : Int32)) hx hb dX8_allow_72 (by decide) ?_
        refine lv_iload_n hx hb dX8_allow_73 rfl (lv_at hl 3 rfl) ?_
        refine lv_ishl hx hb dX8_allow_74 ?_
        refine lv_iconst (v := (-1 : Int32)) hx hb dX8_allow_75 (by decide) ?_
        refine lv_ixor hx hb dX8_allow_76 ?_
        refine lv_iand hx hb dX8_allow_77 ?_
        exact w_X8_allow_78 C F σ_13 x4_10 ((kA σ_13 4 x1.toNatClampNeg) &&& (((1 : Int32) <<< (x2 &&& 31)) ^^^ (-1 : Int32))) x1 h H locs hP hS ls (lv_sub hl [0] rfl)
      · have h := k_f c_15 h
        refine lv_aload_n hx hb dX8_allow_53 rfl (lv_at hl 1 rfl) ?_
        refine gf_27_6 C hP w_681 dX8_allow_54 ?_
        refine lv_iload_n hx hb dX8_allow_57 rfl (lv_at hl 2 rfl) ?_
        obtain ⟨n_17, h⟩ := k_no h
        refine al_32 C hP (v := (kA σ_13 4 x1.toNatClampNeg)) rfl n_17 dX8_allow_58 ?_
        refine lv_iconst (v := (1 : Int32)) hx hb dX8_allow_59 (by decide) ?_
        refine lv_iload_n hx hb dX8_allow_60 rfl (lv_at hl 3 rfl) ?_
        refine lv_ishl hx hb dX8_allow_61 ?_
        refine lv_ior hx hb dX8_allow_62 ?_
        refine lv_goto (tgt := 78) hx hb dX8_allow_63 (by decide) ?_
        exact w_X8_allow_78 C F σ_13 x4_10 ((kA σ_13 4 x1.toNatClampNeg) ||| ((1 : Int32) <<< (x2 &&& 31))) x1 h H locs hP hS ls (lv_sub hl [0] rfl)
    · have h := k_t c_8 h
      refine lv_iconst (v := (-1 : Int32)) hx hb dX8_allow_18 (by decide) ?_
      obtain ⟨rfl, rfl⟩ := k_inj h
      exact kri C hS hP dX8_allow_19
def f_X8_allow (F : Nat) (σ : kS) (x1 : Int32) (x2 : Int32) (x3 : Int32) : Option (Int32 × kS) := s_X8_allow_0 F σ x1 x2 x3
set_option maxRecDepth 100000 in
theorem c_X8_allow (E : kE) (hE : kap E) (F : Nat) (σ : kS) (x1 : Int32) (x2 : Int32) (x3 : Int32) (h : f_X8_allow F σ x1 x2 x3 = some (r, σr)) : Met l yX8_allow (kWs yX8_allow cX8_allow 5 (some .int)) (kR 2 46) (kPre (mP E) E [.ref (eA E 27), .int x1, .int x2, .int x3] σ) (kQi (mP E) (inM E) r σr) 0 0 (inM E) :=
  kst hE (by decide +kernel) (Nat.le_of_ble_eq_true rfl) (fun p e s m below meth c ls C hP hl => w_X8_allow_0 C F σ x1 x2 x3 h s.heap [] hP va_S.rf ls hl)
end

section
variable {p : Program} {l : Launch} {e : Env} {s : State} {m : MethodId} {args : Array Value} {below : List Frame} {meth : Method} {c : Code} {E : kE} {σr : kS}
variable {r : Int32}
def s_X8_undo_160 (F : Nat) (σ : kS) : Option (Int32 × kS) :=
  some ((kI σ 3), σ)
set_option maxRecDepth 100000 in
set_option maxHeartbeats 4000000 in
theorem w_X8_undo_160 (C : Cx E p s m args meth c cX8_undo 2 RX8 (some .int)) (F : Nat) (σ : kS) (h : s_X8_undo_160 F σ = some (r, σr)) (H : Heap) (locs : List Loc) (hP : mP E σ H) (hS : va_S (inM E) s.heap H locs) (ls : Array Slot) (hl : lv_has ls 2 [(0, .ref (eA E 27))]) : W p l e (kR 1 22) s m args below meth c H locs 0 0 (MQ below (kQi (mP E) (inM E) r σr) args s 0 0 (inM E)) (F0 m 160 ls []) := by
  obtain ⟨-, hx, hb, hml, hown, hts, hK, -, -⟩ := id C
  unfold s_X8_undo_160 at h
  refine lv_aload_n hx hb dX8_undo_160 rfl (lv_at hl 0 rfl) ?_
  refine gf_27_9 C hP (v := (kI σ 3)) rfl w_684 dX8_undo_161 ?_
  obtain ⟨rfl, rfl⟩ := k_inj h
  exact kri C hS hP dX8_undo_164
def s_X8_undo_0 (F : Nat) (σ : kS) : Option (Int32 × kS) :=
  (if (kI σ 3) = 0 then some ((-2 : Int32), σ) else (if (((3 : Int32) * ((kI σ 3) - (1 : Int32))) + (1 : Int32)) < 0 ∨ 24 ≤ (((3 : Int32) * ((kI σ 3) - (1 : Int32))) + (1 : Int32)).toNatClampNeg then none else (kn (kA σ 5 (((3 : Int32) * ((kI σ 3) - (1 : Int32))) + (1 : Int32)).toNatClampNeg) (fun x1_3 => (if ((3 : Int32) * ((kI σ 3) - (1 : Int32))) < 0 ∨ 24 ≤ ((3 : Int32) * ((kI σ 3) - (1 : Int32))).toNatClampNeg then none else (if (kA σ 5 ((3 : Int32) * ((kI σ 3) - (1 : Int32))).toNatClampNeg) = 0 then s_X8_undo_160 F (jB (jI σ 3 ((kI σ 3) - (1 : Int32))) 0 0 ((kB σ 0 0) - x1_3.toInt64)) else (if ((3 : Int32) * ((kI σ 3) - (1 : Int32))) < 0 ∨ 24 ≤ ((3 : Int32) * ((kI σ 3) - (1 : Int32))).toNatClampNeg then none else (if (kA σ 5 ((3 : Int32) * ((kI σ 3) - (1 : Int32))).toNatClampNeg) = (1 : Int32) then (kb (f_X8_lasts F (jI σ 3 ((kI σ 3) - (1 : Int32))) x1_3) fun v_10 σ_11 => (if (((5 : Int32) * x1_3) + (3 : Int32)) < 0 ∨ 60 ≤ (((5 : Int32) * x1_3) + (3 : Int32)).toNatClampNeg then none else (if (((5 : Int32) * x1_3) + (4 : Int32)) < 0 ∨ 60 ≤ (((5 : Int32) * x1_3) + (4 : Int32)).toNatClampNeg then none else s_X8_undo_160 F (jB (jB (jB σ_11 0 0 ((kB σ 0 0) - v_10.toInt64)) 0 2 ((kB σ_11 0 2) - ((kA σ_11 3 (((5 : Int32) * x1_3) + (3 : Int32)).toNatClampNeg) - (50 : Int32)).toInt64)) 0 3 ((kB σ_11 0 3) - ((kA σ_11 3 (((5 : Int32) * x1_3) + (4 : Int32)).toNatClampNeg) - (50 : Int32)).toInt64))))) else (if (((3 : Int32) * ((kI σ 3) - (1 : Int32))) + (2 : Int32)) < 0 ∨ 24 ≤ (((3 : Int32) * ((kI σ 3) - (1 : Int32))) + (2 : Int32)).toNatClampNeg then none else (if x1_3 < 0 ∨ 18 ≤ x1_3.toNatClampNeg then none else s_X8_undo_160 F (jA (jI σ 3 ((kI σ 3) - (1 : Int32))) 4 x1_3.toNatClampNeg (kA σ 5 (((3 : Int32) * ((kI σ 3) - (1 : Int32))) + (2 : Int32)).toNatClampNeg))))))))))))
set_option maxRecDepth 100000 in
set_option maxHeartbeats 4000000 in
theorem w_X8_undo_0 (C : Cx E p s m args meth c cX8_undo 2 RX8 (some .int)) (F : Nat) (σ : kS) (h : s_X8_undo_0 F σ = some (r, σr)) (H : Heap) (locs : List Loc) (hP : mP E σ H) (hS : va_S (inM E) s.heap H locs) (ls : Array Slot) (hl : lv_has ls 2 [(0, .ref (eA E 27))]) : W p l e (kR 1 22) s m args below meth c H locs 0 0 (MQ below (kQi (mP E) (inM E) r σr) args s 0 0 (inM E)) (F0 m 0 ls []) := by
  obtain ⟨-, hx, hb, hml, hown, hts, hK, -, -⟩ := id C
  unfold s_X8_undo_0 at h
  refine lv_aload_n hx hb dX8_undo_0 rfl (lv_at hl 0 rfl) ?_
  refine gf_27_9 C hP (v := (kI σ 3)) rfl w_684 dX8_undo_1 ?_
  refine lv_if_ne (tgt := 10) hx hb dX8_undo_4 (by decide) (fun c_1 => ?_) (fun c_1 => ?_)
  · have h := k_f c_1 h
    refine lv_aload_n hx hb dX8_undo_10 rfl (lv_at hl 0 rfl) ?_
    refine lv_dup hx hb dX8_undo_11 rfl ?_
    refine gf_27_9 C hP (v := (kI σ 3)) rfl w_684 dX8_undo_12 ?_
    refine lv_iconst (v := (1 : Int32)) hx hb dX8_undo_15 (by decide) ?_
    refine lv_isub hx hb dX8_undo_16 ?_
    refine pf_27_9 C hP hS w_684 dX8_undo_17 (fun H locs hP hS => ?_)
    refine lv_aload_n hx hb dX8_undo_20 rfl (lv_at hl 0 rfl) ?_
    refine gf_27_10 C hP w_685 dX8_undo_21 ?_
    refine lv_iconst (v := (3 : Int32)) hx hb dX8_undo_24 (by decide) ?_
    refine lv_aload_n hx hb dX8_undo_25 rfl (lv_at hl 0 rfl) ?_
    refine gf_27_9 C hP (v := ((kI σ 3) - (1 : Int32))) rfl w_684 dX8_undo_26 ?_
    refine lv_imul hx hb dX8_undo_29 ?_
    refine lv_iconst (v := (1 : Int32)) hx hb dX8_undo_30 (by decide) ?_
    refine lv_iadd hx hb dX8_undo_31 ?_
    obtain ⟨n_2, h⟩ := k_no h
    refine al_34 C hP (v := (kA σ 5 (((3 : Int32) * ((kI σ 3) - (1 : Int32))) + (1 : Int32)).toNatClampNeg)) rfl n_2 dX8_undo_32 ?_
    refine lv_topi (fun x1_3 ex1_3 => ?_)
    have h := kn_to ex1_3 h
    refine lv_istore_n (lv' := [(1, .int x1_3), (0, .ref (eA E 27))]) hx hb dX8_undo_33 rfl hl (by decide) rfl (fun ls hl => ?_)
    refine lv_aload_n hx hb dX8_undo_34 rfl (lv_at hl 1 rfl) ?_
    refine gf_27_10 C hP w_685 dX8_undo_35 ?_
    refine lv_iconst (v := (3 : Int32)) hx hb dX8_undo_38 (by decide) ?_
    refine lv_aload_n hx hb dX8_undo_39 rfl (lv_at hl 1 rfl) ?_
    refine gf_27_9 C hP (v := ((kI σ 3) - (1 : Int32))) rfl w_684 dX8_undo_40 ?_
    refine lv_imul hx hb dX8_undo_43 ?_
    obtain ⟨n_4, h⟩ := k_no h
    refine al_34 C hP (v := (kA σ 5 ((3 : Int32) * ((kI σ 3) - (1 : Int32))).toNatClampNeg)) rfl n_4 dX8_undo_44 ?_
    refine lv_if_ne (tgt := 62) hx hb dX8_undo_45 (by decide) (fun c_5 => ?_) (fun c_5 => ?_)
    · have h := k_f c_5 h
      refine lv_aload_n hx hb dX8_undo_62 rfl (lv_at hl 1 rfl) ?_
      refine gf_27_10 C hP w_685 dX8_undo_63 ?_
      refine lv_iconst (v := (3 : Int32)) hx hb dX8_undo_66 (by decide) ?_
      refine lv_aload_n hx hb dX8_undo_67 rfl (lv_at hl 1 rfl) ?_
      refine gf_27_9 C hP (v := ((kI σ 3) - (1 : Int32))) rfl w_684 dX8_undo_68 ?_
      refine lv_imul hx hb dX8_undo_71 ?_
      obtain ⟨n_6, h⟩ := k_no h
      refine al_34 C hP (v := (kA σ 5 ((3 : Int32) * ((kI σ 3) - (1 : Int32))).toNatClampNeg)) rfl n_6 dX8_undo_72 ?_
      refine lv_iconst (v := (1 : Int32)) hx hb dX8_undo_73 (by decide) ?_
      refine lv_icmp_ne (tgt := 141) hx hb dX8_undo_74 (by decide) (fun c_7 => ?_) (fun c_7 => ?_)
      · have h := k_f c_7 h
        refine lv_aload_n hx hb dX8_undo_141 rfl (lv_at hl 1 rfl) ?_
        refine gf_27_6 C hP w_681 dX8_undo_142 ?_
        refine lv_iload_n hx hb dX8_undo_145 rfl (lv_at hl 0 rfl) ?_
        refine lv_aload_n hx hb dX8_undo_146 rfl (lv_at hl 1 rfl) ?_
        refine gf_27_10 C hP w_685 dX8_undo_147 ?_
        refine lv_iconst (v := (3 : Int32)) hx hb dX8_undo_150 (by decide) ?_
        refine lv_aload_n hx hb dX8_undo_151 rfl (lv_at hl 1 rfl) ?_
        refine gf_27_9 C hP (v := ((kI σ 3) - (1 : Int32))) rfl w_684 dX8_undo_152 ?_
        refine lv_imul hx hb dX8_undo_155 ?_
        refine lv_iconst (v := (2 : Int32)) hx hb dX8_undo_156 (by decide) ?_
        refine lv_iadd hx hb dX8_undo_157 ?_
        obtain ⟨n_8, h⟩ := k_no h
        refine al_34 C hP (v := (kA σ 5 (((3 : Int32) * ((kI σ 3) - (1 : Int32))) + (2 : Int32)).toNatClampNeg)) rfl n_8 dX8_undo_158 ?_
        obtain ⟨n_9, h⟩ := k_no h
        refine as_32 C hP hS (σ2 := (jA (jI σ 3 ((kI σ 3) - (1 : Int32))) 4 x1_3.toNatClampNeg (kA σ 5 (((3 : Int32) * ((kI σ 3) - (1 : Int32))) + (2 : Int32)).toNatClampNeg))) rfl n_9 dX8_undo_159 (fun H locs hP hS => ?_)
        exact w_X8_undo_160 C F (jA (jI σ 3 ((kI σ 3) - (1 : Int32))) 4 x1_3.toNatClampNeg (kA σ 5 (((3 : Int32) * ((kI σ 3) - (1 : Int32))) + (2 : Int32)).toNatClampNeg)) h H locs hP hS ls (lv_sub hl [1] rfl)
      · have h := k_t c_7 h
        refine lv_aload_n hx hb dX8_undo_77 rfl (lv_at hl 1 rfl) ?_
        refine gf_27_7 C hP w_682 dX8_undo_78 ?_
        refine lv_iconst (v := (0 : Int32)) hx hb dX8_undo_81 (by decide) ?_
        refine lv_dup2_11 hx hb dX8_undo_82 rfl rfl ?_
        refine al_33 C hP (v := (kB σ 0 0)) rfl (by unfold vp_in; decide) dX8_undo_83 ?_
        refine lv_aload_n hx hb dX8_undo_84 rfl (lv_at hl 1 rfl) ?_
        refine lv_iload_n hx hb dX8_undo_85 rfl (lv_at hl 0 rfl) ?_
        obtain ⟨v_10, σ_11, hc_12, h⟩ := kb_ok h
        refine kci (krunV (As := [.int x1_3]) C hP (c_X8_lasts E C.1 F (jI σ 3 ((kI σ 3) - (1 : Int32))) x1_3 hc_12) w_841 kv_X8_lasts ⟨Nat.le_of_ble_eq_true rfl, Nat.le_of_ble_eq_true rfl⟩ (rc_27 C hP) rfl hl.1 rfl (Nat.le_of_ble_eq_true rfl) dX8_undo_86) hS (fun H locs hP hS => ?_)
        refine lv_i2l (v := v_10.toInt64) hx hb dX8_undo_89 rfl ?_
        refine lv_lsub hx hb dX8_undo_90 ?_
        refine as_33 C hP hS (σ2 := (jB σ_11 0 0 ((kB σ 0 0) - v_10.toInt64))) rfl (by unfold vp_in; decide) dX8_undo_91 (fun H locs hP hS => ?_)
        refine lv_aload_n hx hb dX8_undo_92 rfl (lv_at hl 1 rfl) ?_
        refine gf_27_7 C hP w_682 dX8_undo_93 ?_
        refine lv_iconst (v := (2 : Int32)) hx hb dX8_undo_96 (by decide) ?_
        refine lv_dup2_11 hx hb dX8_undo_97 rfl rfl ?_
        refine al_33 C hP (v := (kB σ_11 0 2)) rfl (by unfold vp_in; decide) dX8_undo_98 ?_
        refine lv_aload_n hx hb dX8_undo_99 rfl (lv_at hl 1 rfl) ?_
        refine gf_27_5 C hP w_680 dX8_undo_100 ?_
        refine lv_iconst (v := (5 : Int32)) hx hb dX8_undo_103 (by decide) ?_
        refine lv_iload_n hx hb dX8_undo_104 rfl (lv_at hl 0 rfl) ?_
        refine lv_imul hx hb dX8_undo_105 ?_
        refine lv_iconst (v := (3 : Int32)) hx hb dX8_undo_106 (by decide) ?_
        refine lv_iadd hx hb dX8_undo_107 ?_
        obtain ⟨n_13, h⟩ := k_no h
        refine al_31 C hP (v := (kA σ_11 3 (((5 : Int32) * x1_3) + (3 : Int32)).toNatClampNeg)) rfl n_13 dX8_undo_108 ?_
        refine lv_bipush (v := (50 : Int32)) hx hb dX8_undo_109 (by decide) ?_
        refine lv_isub hx hb dX8_undo_111 ?_
        refine lv_i2l (v := ((kA σ_11 3 (((5 : Int32) * x1_3) + (3 : Int32)).toNatClampNeg) - (50 : Int32)).toInt64) hx hb dX8_undo_112 rfl ?_
        refine lv_lsub hx hb dX8_undo_113 ?_
        refine as_33 C hP hS (σ2 := (jB (jB σ_11 0 0 ((kB σ 0 0) - v_10.toInt64)) 0 2 ((kB σ_11 0 2) - ((kA σ_11 3 (((5 : Int32) * x1_3) + (3 : Int32)).toNatClampNeg) - (50 : Int32)).toInt64))) rfl (by unfold vp_in; decide) dX8_undo_114 (fun H locs hP hS => ?_)
        refine lv_aload_n hx hb dX8_undo_115 rfl (lv_at hl 1 rfl) ?_
        refine gf_27_7 C hP w_682 dX8_undo_116 ?_
        refine lv_iconst (v := (3 : Int32)) hx hb dX8_undo_119 (by decide) ?_
        refine lv_dup2_11 hx hb dX8_undo_120 rfl rfl ?_
        refine al_33 C hP (v := (kB σ_11 0 3)) rfl (by unfold vp_in; decide) dX8_undo_121 ?_
        refine lv_aload_n hx hb dX8_undo_122 rfl (lv_at hl 1 rfl) ?_
        refine gf_27_5 C hP w_680 dX8_undo_123 ?_
        refine lv_iconst (v := (5 : Int32)) hx hb dX8_undo_126 (by decide) ?_
        refine lv_iload_n hx hb dX8_undo_127 rfl (lv_at hl 0 rfl) ?_
        refine lv_imul hx hb dX8_undo_128 ?_
        refine lv_iconst (v := (4 : Int32)) hx hb dX8_undo_129 (by decide) ?_
        refine lv_iadd hx hb dX8_undo_130 ?_
        obtain ⟨n_14, h⟩ := k_no h
        refine al_31 C hP (v := (kA σ_11 3 (((5 : Int32) * x1_3) + (4 : Int32)).toNatClampNeg)) rfl n_14 dX8_undo_131 ?_
        refine lv_bipush (v := (50 : Int32)) hx hb dX8_undo_132 (by decide) ?_
        refine lv_isub hx hb dX8_undo_134 ?_
        refine lv_i2l (v := ((kA σ_11 3 (((5 : Int32) * x1_3) + (4 : Int32)).toNatClampNeg) - (50 : Int32)).toInt64) hx hb dX8_undo_135 rfl ?_
        refine lv_lsub hx hb dX8_undo_136 ?_
        refine as_33 C hP hS (σ2 := (jB (jB (jB σ_11 0 0 ((kB σ 0 0) - v_10.toInt64)) 0 2 ((kB σ_11 0 2) - ((kA σ_11 3 (((5 : Int32) * x1_3) + (3 : Int32)).toNatClampNeg) - (50 : Int32)).toInt64)) 0 3 ((kB σ_11 0 3) - ((kA σ_11 3 (((5 : Int32) * x1_3) + (4 : Int32)).toNatClampNeg) - (50 : Int32)).toInt64))) rfl (by unfold vp_in; decide) dX8_undo_137 (fun H locs hP hS => ?_)
        refine lv_goto (tgt := 160) hx hb dX8_undo_138 (by decide) ?_
        exact w_X8_undo_160 C F (jB (jB (jB σ_11 0 0 ((kB σ 0 0) - v_10.toInt64)) 0 2 ((kB σ_11 0 2) - ((kA σ_11 3 (((5 : Int32) * x1_3) + (3 : Int32)).toNatClampNeg) - (50 : Int32)).toInt64)) 0 3 ((kB σ_11 0 3) - ((kA σ_11 3 (((5 : Int32) * x1_3) + (4 : Int32)).toNatClampNeg) - (50 : Int32)).toInt64)) h H locs hP hS ls (lv_sub hl [1] rfl)
    · have h := k_t c_5 h
      refine lv_aload_n hx hb dX8_undo_48 rfl (lv_at hl 1 rfl) ?_
      refine gf_27_7 C hP w_682 dX8_undo_49 ?_
      refine lv_iconst (v := (0 : Int32)) hx hb dX8_undo_52 (by decide) ?_
      refine lv_dup2_11 hx hb dX8_undo_53 rfl rfl ?_
      refine al_33 C hP (v := (kB σ 0 0)) rfl (by unfold vp_in; decide) dX8_undo_54 ?_
      refine lv_iload_n hx hb dX8_undo_55 rfl (lv_at hl 0 rfl) ?_
      refine lv_i2l (v := x1_3.toInt64) hx hb dX8_undo_56 rfl ?_
      refine lv_lsub hx hb dX8_undo_57 ?_
      refine as_33 C hP hS (σ2 := (jB (jI σ 3 ((kI σ 3) - (1 : Int32))) 0 0 ((kB σ 0 0) - x1_3.toInt64))) rfl (by unfold vp_in; decide) dX8_undo_58 (fun H locs hP hS => ?_)
      refine lv_goto (tgt := 160) hx hb dX8_undo_59 (by decide) ?_
      exact w_X8_undo_160 C F (jB (jI σ 3 ((kI σ 3) - (1 : Int32))) 0 0 ((kB σ 0 0) - x1_3.toInt64)) h H locs hP hS ls (lv_sub hl [1] rfl)
  · have h := k_t c_1 h
    refine lv_bipush (v := (-2 : Int32)) hx hb dX8_undo_7 (by decide) ?_
    obtain ⟨rfl, rfl⟩ := k_inj h
    exact kri C hS hP dX8_undo_9
def f_X8_undo (F : Nat) (σ : kS) : Option (Int32 × kS) := s_X8_undo_0 F σ
set_option maxRecDepth 100000 in
theorem c_X8_undo (E : kE) (hE : kap E) (F : Nat) (σ : kS) (h : f_X8_undo F σ = some (r, σr)) : Met l yX8_undo (kWs yX8_undo cX8_undo 2 (some .int)) (kR 1 22) (kPre (mP E) E [.ref (eA E 27)] σ) (kQi (mP E) (inM E) r σr) 0 0 (inM E) :=
  kst hE (by decide +kernel) (Nat.le_of_ble_eq_true rfl) (fun p e s m below meth c ls C hP hl => w_X8_undo_0 C F σ h s.heap [] hP va_S.rf ls hl)
end

section
variable {p : Program} {l : Launch} {e : Env} {s : State} {m : MethodId} {args : Array Value} {below : List Frame} {meth : Method} {c : Code} {E : kE} {σr : kS}
variable {r : Int32}
def s_X8_worth_0 (F : Nat) (σ : kS) (x1 : Int32) (x2 : Int32) : Option (Int32 × kS) :=
  (if ((((5 : Int32) * x1) + (3 : Int32)) + x2) < 0 ∨ 60 ≤ ((((5 : Int32) * x1) + (3 : Int32)) + x2).toNatClampNeg then none else some (((kA σ 3 ((((5 : Int32) * x1) + (3 : Int32)) + x2).toNatClampNeg) - (50 : Int32)), σ))
set_option maxRecDepth 100000 in
set_option maxHeartbeats 4000000 in
theorem w_X8_worth_0 (C : Cx E p s m args meth c cX8_worth 3 RX8 (some .int)) (F : Nat) (σ : kS) (x1 : Int32) (x2 : Int32) (h : s_X8_worth_0 F σ x1 x2 = some (r, σr)) (H : Heap) (locs : List Loc) (hP : mP E σ H) (hS : va_S (inM E) s.heap H locs) (ls : Array Slot) (hl : lv_has ls 3 [(0, .ref (eA E 27)), (1, .int x1), (2, .int x2)]) : W p l e (kR 0 0) s m args below meth c H locs 0 0 (MQ below (kQi (mP E) (inM E) r σr) args s 0 0 (inM E)) (F0 m 0 ls []) := by
  obtain ⟨-, hx, hb, hml, hown, hts, hK, -, -⟩ := id C
  unfold s_X8_worth_0 at h
  refine lv_aload_n hx hb dX8_worth_0 rfl (lv_at hl 0 rfl) ?_
  refine gf_27_5 C hP w_680 dX8_worth_1 ?_
  refine lv_iconst (v := (5 : Int32)) hx hb dX8_worth_4 (by decide) ?_
  refine lv_iload_n hx hb dX8_worth_5 rfl (lv_at hl 1 rfl) ?_
  refine lv_imul hx hb dX8_worth_6 ?_
  refine lv_iconst (v := (3 : Int32)) hx hb dX8_worth_7 (by decide) ?_
  refine lv_iadd hx hb dX8_worth_8 ?_
  refine lv_iload_n hx hb dX8_worth_9 rfl (lv_at hl 2 rfl) ?_
  refine lv_iadd hx hb dX8_worth_10 ?_
  obtain ⟨n_1, h⟩ := k_no h
  refine al_31 C hP (v := (kA σ 3 ((((5 : Int32) * x1) + (3 : Int32)) + x2).toNatClampNeg)) rfl n_1 dX8_worth_11 ?_
  refine lv_bipush (v := (50 : Int32)) hx hb dX8_worth_12 (by decide) ?_
  refine lv_isub hx hb dX8_worth_14 ?_
  obtain ⟨rfl, rfl⟩ := k_inj h
  exact kri C hS hP dX8_worth_15
def f_X8_worth (F : Nat) (σ : kS) (x1 : Int32) (x2 : Int32) : Option (Int32 × kS) := s_X8_worth_0 F σ x1 x2
set_option maxRecDepth 100000 in
theorem c_X8_worth (E : kE) (hE : kap E) (F : Nat) (σ : kS) (x1 : Int32) (x2 : Int32) (h : f_X8_worth F σ x1 x2 = some (r, σr)) : Met l yX8_worth (kWs yX8_worth cX8_worth 3 (some .int)) (kR 0 0) (kPre (mP E) E [.ref (eA E 27), .int x1, .int x2] σ) (kQi (mP E) (inM E) r σr) 0 0 (inM E) :=
  kst hE (by decide +kernel) (Nat.le_of_ble_eq_true rfl) (fun p e s m below meth c ls C hP hl => w_X8_worth_0 C F σ x1 x2 h s.heap [] hP va_S.rf ls hl)
end

section
variable {p : Program} {l : Launch} {e : Env} {s : State} {m : MethodId} {args : Array Value} {below : List Frame} {meth : Method} {c : Code} {E : kE} {σr : kS}
variable {r : Int32}
def s_X8_gains_78 (F : Nat) (rec6 : (kS × Int32 × Int32 × Int32 × Int32 × Int32 → Option (Int32 × kS))) (σ : kS) (x1 : Int32) (x2 : Int32) (x3 : Int32) (x5 : Int32) (y0 : Int32) (y1 : Int32) : Option (Int32 × kS) :=
  rec6 (σ, x1, x2, x3, (y1 + y0), (x5 + (1 : Int32)))
set_option maxRecDepth 100000 in
set_option maxHeartbeats 4000000 in
theorem w_X8_gains_78 (C : Cx E p s m args meth c cX8_gains 7 RX8 (some .int)) (F : Nat) (rec6 : (kS × Int32 × Int32 × Int32 × Int32 × Int32 → Option (Int32 × kS))) (hrec6 : ∀ (σ : kS) (x1 : Int32) (x2 : Int32) (x3 : Int32) (x4 : Int32) (x5 : Int32), rec6 (σ, x1, x2, x3, x4, x5) = some (r, σr) → ∀ (H : Heap) (locs : List Loc), mP E σ H → va_S (inM E) s.heap H locs → ∀ (ls : Array Slot), lv_has ls 7 [(0, .ref (eA E 27)), (1, .int x1), (2, .int x2), (3, .int x3), (4, .int x4), (5, .int x5)] → W p l e (kR 1 22) s m args below meth c H locs 0 0 (MQ below (kQi (mP E) (inM E) r σr) args s 0 0 (inM E)) (F0 m 6 ls [])) (σ : kS) (x1 : Int32) (x2 : Int32) (x3 : Int32) (x5 : Int32) (y0 : Int32) (y1 : Int32) (h : s_X8_gains_78 F rec6 σ x1 x2 x3 x5 y0 y1 = some (r, σr)) (H : Heap) (locs : List Loc) (hP : mP E σ H) (hS : va_S (inM E) s.heap H locs) (ls : Array Slot) (hl : lv_has ls 7 [(0, .ref (eA E 27)), (1, .int x1), (2, .int x2), (3, .int x3), (5, .int x5)]) : W p l e (kR 1 22) s m args below meth c H locs 0 0 (MQ below (kQi (mP E) (inM E) r σr) args s 0 0 (inM E)) (F0 m 78 ls [.int y0, .int y1]) := by
  obtain ⟨-, hx, hb, hml, hown, hts, hK, -, -⟩ := id C
  unfold s_X8_gains_78 at h
  refine lv_iadd hx hb dX8_gains_78 ?_
  refine lv_istore (lv' := [(4, .int (y1 + y0)), (0, .ref (eA E 27)), (1, .int x1), (2, .int x2), (3, .int x3), (5, .int x5)]) hx hb dX8_gains_79 hl (by decide) rfl (fun ls hl => ?_)
  refine lv_iinc (v := (x5 + (1 : Int32))) (lv' := [(5, .int (x5 + (1 : Int32))), (4, .int (y1 + y0)), (0, .ref (eA E 27)), (1, .int x1), (2, .int x2), (3, .int x3)]) hx hb dX8_gains_81 hl (k := 5) rfl rfl (by decide) rfl (fun ls hl => ?_)
  refine lv_goto (tgt := 6) hx hb dX8_gains_84 (by decide) ?_
  exact hrec6 σ x1 x2 x3 (y1 + y0) (x5 + (1 : Int32)) h H locs hP hS ls (lv_sub hl [2, 3, 4, 5, 1, 0] rfl)
def s_X8_gains_58 (F : Nat) (rec6 : (kS × Int32 × Int32 × Int32 × Int32 × Int32 → Option (Int32 × kS))) (σ : kS) (x1 : Int32) (x2 : Int32) (x3 : Int32) (x4 : Int32) (x5 : Int32) (y0 : Int32) : Option (Int32 × kS) :=
  (if y0 = 0 then s_X8_gains_78 F rec6 σ x1 x2 x3 x5 (0 : Int32) x4 else (kb (f_X8_worth F σ x5 x1) fun v_2 σ_3 => s_X8_gains_78 F rec6 σ_3 x1 x2 x3 x5 v_2 x4))
set_option maxRecDepth 100000 in
set_option maxHeartbeats 4000000 in
theorem w_X8_gains_58 (C : Cx E p s m args meth c cX8_gains 7 RX8 (some .int)) (F : Nat) (rec6 : (kS × Int32 × Int32 × Int32 × Int32 × Int32 → Option (Int32 × kS))) (hrec6 : ∀ (σ : kS) (x1 : Int32) (x2 : Int32) (x3 : Int32) (x4 : Int32) (x5 : Int32), rec6 (σ, x1, x2, x3, x4, x5) = some (r, σr) → ∀ (H : Heap) (locs : List Loc), mP E σ H → va_S (inM E) s.heap H locs → ∀ (ls : Array Slot), lv_has ls 7 [(0, .ref (eA E 27)), (1, .int x1), (2, .int x2), (3, .int x3), (4, .int x4), (5, .int x5)] → W p l e (kR 1 22) s m args below meth c H locs 0 0 (MQ below (kQi (mP E) (inM E) r σr) args s 0 0 (inM E)) (F0 m 6 ls [])) (σ : kS) (x1 : Int32) (x2 : Int32) (x3 : Int32) (x4 : Int32) (x5 : Int32) (y0 : Int32) (h : s_X8_gains_58 F rec6 σ x1 x2 x3 x4 x5 y0 = some (r, σr)) (H : Heap) (locs : List Loc) (hP : mP E σ H) (hS : va_S (inM E) s.heap H locs) (ls : Array Slot) (hl : lv_has ls 7 [(0, .ref (eA E 27)), (1, .int x1), (2, .int x2), (3, .int x3), (4, .int x4), (5, .int x5)]) : W p l e (kR 1 22) s m args below meth c H locs 0 0 (MQ below (kQi (mP E) (inM E) r σr) args s 0 0 (inM E)) (F0 m 58 ls [.int y0]) := by
  obtain ⟨-, hx, hb, hml, hown, hts, hK, -, -⟩ := id C
  unfold s_X8_gains_58 at h
  refine lv_istore (lv' := [(6, .int y0), (0, .ref (eA E 27)), (1, .int x1), (2, .int x2), (3, .int x3), (4, .int x4), (5, .int x5)]) hx hb dX8_gains_58 hl (by decide) rfl (fun ls hl => ?_)
  refine lv_iload hx hb dX8_gains_60 (lv_at hl 5 rfl) ?_
  refine lv_iload hx hb dX8_gains_62 (lv_at hl 0 rfl) ?_
  refine lv_if_ne (tgt := 71) hx hb dX8_gains_64 (by decide) (fun c_1 => ?_) (fun c_1 => ?_)
  · have h := k_f c_1 h
    refine lv_aload_n hx hb dX8_gains_71 rfl (lv_at hl 1 rfl) ?_
    refine lv_iload hx hb dX8_gains_72 (lv_at hl 6 rfl) ?_
    refine lv_iload_n hx hb dX8_gains_74 rfl (lv_at hl 2 rfl) ?_
    obtain ⟨v_2, σ_3, hc_4, h⟩ := kb_ok h
    refine kci (krunV (As := [.int x5, .int x1]) C hP (c_X8_worth E C.1 F σ x5 x1 hc_4) w_875 kv_X8_worth ⟨Nat.le_of_ble_eq_true rfl, Nat.le_of_ble_eq_true rfl⟩ (rc_27 C hP) rfl hl.1 rfl (Nat.le_of_ble_eq_true rfl) dX8_gains_75) hS (fun H locs hP hS => ?_)
    exact w_X8_gains_78 C F rec6 hrec6 σ_3 x1 x2 x3 x5 v_2 x4 h H locs hP hS ls (lv_sub hl [1, 2, 3, 4, 6] rfl)
  · have h := k_t c_1 h
    refine lv_iconst (v := (0 : Int32)) hx hb dX8_gains_67 (by decide) ?_
    refine lv_goto (tgt := 78) hx hb dX8_gains_68 (by decide) ?_
    exact w_X8_gains_78 C F rec6 hrec6 σ x1 x2 x3 x5 (0 : Int32) x4 h H locs hP hS ls (lv_sub hl [1, 2, 3, 4, 6] rfl)
def s_X8_gains_41 (F : Nat) (rec6 : (kS × Int32 × Int32 × Int32 × Int32 × Int32 → Option (Int32 × kS))) (σ : kS) (x1 : Int32) (x2 : Int32) (x3 : Int32) (x4 : Int32) (x5 : Int32) (y0 : Int32) : Option (Int32 × kS) :=
  (if x5 = x3 then s_X8_gains_58 F rec6 σ x1 x2 x3 x4 x5 (y0 &&& (1 : Int32)) else s_X8_gains_58 F rec6 σ x1 x2 x3 x4 x5 y0)
set_option maxRecDepth 100000 in
set_option maxHeartbeats 4000000 in
theorem w_X8_gains_41 (C : Cx E p s m args meth c cX8_gains 7 RX8 (some .int)) (F : Nat) (rec6 : (kS × Int32 × Int32 × Int32 × Int32 × Int32 → Option (Int32 × kS))) (hrec6 : ∀ (σ : kS) (x1 : Int32) (x2 : Int32) (x3 : Int32) (x4 : Int32) (x5 : Int32), rec6 (σ, x1, x2, x3, x4, x5) = some (r, σr) → ∀ (H : Heap) (locs : List Loc), mP E σ H → va_S (inM E) s.heap H locs → ∀ (ls : Array Slot), lv_has ls 7 [(0, .ref (eA E 27)), (1, .int x1), (2, .int x2), (3, .int x3), (4, .int x4), (5, .int x5)] → W p l e (kR 1 22) s m args below meth c H locs 0 0 (MQ below (kQi (mP E) (inM E) r σr) args s 0 0 (inM E)) (F0 m 6 ls [])) (σ : kS) (x1 : Int32) (x2 : Int32) (x3 : Int32) (x4 : Int32) (x5 : Int32) (y0 : Int32) (h : s_X8_gains_41 F rec6 σ x1 x2 x3 x4 x5 y0 = some (r, σr)) (H : Heap) (locs : List Loc) (hP : mP E σ H) (hS : va_S (inM E) s.heap H locs) (ls : Array Slot) (hl : lv_has ls 7 [(0, .ref (eA E 27)), (1, .int x1), (2, .int x2), (3, .int x3), (4, .int x4), (5, .int x5)]) : W p l e (kR 1 22) s m args below meth c H locs 0 0 (MQ below (kQi (mP E) (inM E) r σr) args s 0 0 (inM E)) (F0 m 41 ls [.int y0]) := by
  obtain ⟨-, hx, hb, hml, hown, hts, hK, -, -⟩ := id C
  unfold s_X8_gains_41 at h
  refine lv_istore (lv' := [(6, .int y0), (0, .ref (eA E 27)), (1, .int x1), (2, .int x2), (3, .int x3), (4, .int x4), (5, .int x5)]) hx hb dX8_gains_41 hl (by decide) rfl (fun ls hl => ?_)
  refine lv_iload hx hb dX8_gains_43 (lv_at hl 6 rfl) ?_
  refine lv_iload_n hx hb dX8_gains_45 rfl (lv_at hl 4 rfl) ?_
  refine lv_icmp_ne (tgt := 56) hx hb dX8_gains_46 (by decide) (fun c_1 => ?_) (fun c_1 => ?_)
  · have h := k_f c_1 h
    refine lv_iload hx hb dX8_gains_56 (lv_at hl 0 rfl) ?_
    exact w_X8_gains_58 C F rec6 hrec6 σ x1 x2 x3 x4 x5 y0 h H locs hP hS ls (lv_sub hl [1, 2, 3, 4, 5, 6] rfl)
  · have h := k_t c_1 h
    refine lv_iload hx hb dX8_gains_49 (lv_at hl 0 rfl) ?_
    refine lv_iconst (v := (1 : Int32)) hx hb dX8_gains_51 (by decide) ?_
    refine lv_iand hx hb dX8_gains_52 ?_
    refine lv_goto (tgt := 58) hx hb dX8_gains_53 (by decide) ?_
    exact w_X8_gains_58 C F rec6 hrec6 σ x1 x2 x3 x4 x5 (y0 &&& (1 : Int32)) h H locs hP hS ls (lv_sub hl [1, 2, 3, 4, 5, 6] rfl)
def s_X8_gains_6 (F : Nat) (rec6 : (kS × Int32 × Int32 × Int32 × Int32 × Int32 → Option (Int32 × kS))) (σ : kS) (x1 : Int32) (x2 : Int32) (x3 : Int32) (x4 : Int32) (x5 : Int32) : Option (Int32 × kS) :=
  (if (kA σ 2 0) ≤ x5 then some (x4, σ) else (if x5 < 0 ∨ 18 ≤ x5.toNatClampNeg then none else (kn (kA σ 4 x5.toNatClampNeg) (fun x6_3 => (if x5 = x2 then s_X8_gains_41 F rec6 σ x1 x2 x3 x4 x5 (x6_3 &&& (2 : Int32)) else s_X8_gains_41 F rec6 σ x1 x2 x3 x4 x5 x6_3)))))
set_option maxRecDepth 100000 in
set_option maxHeartbeats 4000000 in
theorem w_X8_gains_6 (C : Cx E p s m args meth c cX8_gains 7 RX8 (some .int)) (F : Nat) (rec6 : (kS × Int32 × Int32 × Int32 × Int32 × Int32 → Option (Int32 × kS))) (hrec6 : ∀ (σ : kS) (x1 : Int32) (x2 : Int32) (x3 : Int32) (x4 : Int32) (x5 : Int32), rec6 (σ, x1, x2, x3, x4, x5) = some (r, σr) → ∀ (H : Heap) (locs : List Loc), mP E σ H → va_S (inM E) s.heap H locs → ∀ (ls : Array Slot), lv_has ls 7 [(0, .ref (eA E 27)), (1, .int x1), (2, .int x2), (3, .int x3), (4, .int x4), (5, .int x5)] → W p l e (kR 1 22) s m args below meth c H locs 0 0 (MQ below (kQi (mP E) (inM E) r σr) args s 0 0 (inM E)) (F0 m 6 ls [])) (σ : kS) (x1 : Int32) (x2 : Int32) (x3 : Int32) (x4 : Int32) (x5 : Int32) (h : s_X8_gains_6 F rec6 σ x1 x2 x3 x4 x5 = some (r, σr)) (H : Heap) (locs : List Loc) (hP : mP E σ H) (hS : va_S (inM E) s.heap H locs) (ls : Array Slot) (hl : lv_has ls 7 [(0, .ref (eA E 27)), (1, .int x1), (2, .int x2), (3, .int x3), (4, .int x4), (5, .int x5)]) : W p l e (kR 1 22) s m args below meth c H locs 0 0 (MQ below (kQi (mP E) (inM E) r σr) args s 0 0 (inM E)) (F0 m 6 ls []) := by
  obtain ⟨-, hx, hb, hml, hown, hts, hK, -, -⟩ := id C
  unfold s_X8_gains_6 at h
  refine lv_iload hx hb dX8_gains_6 (lv_at hl 5 rfl) ?_
  refine lv_aload_n hx hb dX8_gains_8 rfl (lv_at hl 0 rfl) ?_
  refine gf_27_4 C hP w_679 dX8_gains_9 ?_
  refine lv_iconst (v := (0 : Int32)) hx hb dX8_gains_12 (by decide) ?_
  refine al_30 C hP (v := (kA σ 2 0)) rfl (by unfold vp_in; decide) dX8_gains_13 ?_
  refine lv_icmp_ge (tgt := 87) hx hb dX8_gains_14 (by decide) (fun c_1 => ?_) (fun c_1 => ?_)
  · have h := k_t c_1 h
    refine lv_iload hx hb dX8_gains_87 (lv_at hl 4 rfl) ?_
    obtain ⟨rfl, rfl⟩ := k_inj h
    exact kri C hS hP dX8_gains_89
  · have h := k_f c_1 h
    refine lv_aload_n hx hb dX8_gains_17 rfl (lv_at hl 0 rfl) ?_
    refine gf_27_6 C hP w_681 dX8_gains_18 ?_
    refine lv_iload hx hb dX8_gains_21 (lv_at hl 5 rfl) ?_
    obtain ⟨n_2, h⟩ := k_no h
    refine al_32 C hP (v := (kA σ 4 x5.toNatClampNeg)) rfl n_2 dX8_gains_23 ?_
    refine lv_topi (fun x6_3 ex6_3 => ?_)
    have h := kn_to ex6_3 h
    refine lv_istore (lv' := [(6, .int x6_3), (0, .ref (eA E 27)), (1, .int x1), (2, .int x2), (3, .int x3), (4, .int x4), (5, .int x5)]) hx hb dX8_gains_24 hl (by decide) rfl (fun ls hl => ?_)
    refine lv_iload hx hb dX8_gains_26 (lv_at hl 6 rfl) ?_
    refine lv_iload_n hx hb dX8_gains_28 rfl (lv_at hl 3 rfl) ?_
    refine lv_icmp_ne (tgt := 39) hx hb dX8_gains_29 (by decide) (fun c_4 => ?_) (fun c_4 => ?_)
    · have h := k_f c_4 h
      refine lv_iload hx hb dX8_gains_39 (lv_at hl 0 rfl) ?_
      exact w_X8_gains_41 C F rec6 hrec6 σ x1 x2 x3 x4 x5 x6_3 h H locs hP hS ls (lv_sub hl [1, 2, 3, 4, 5, 6] rfl)
    · have h := k_t c_4 h
      refine lv_iload hx hb dX8_gains_32 (lv_at hl 0 rfl) ?_
      refine lv_iconst (v := (2 : Int32)) hx hb dX8_gains_34 (by decide) ?_
      refine lv_iand hx hb dX8_gains_35 ?_
      refine lv_goto (tgt := 41) hx hb dX8_gains_36 (by decide) ?_
      exact w_X8_gains_41 C F rec6 hrec6 σ x1 x2 x3 x4 x5 (x6_3 &&& (2 : Int32)) h H locs hP hS ls (lv_sub hl [1, 2, 3, 4, 5, 6] rfl)
def f_X8_gains_6 (F : Nat) : kS × Int32 × Int32 × Int32 × Int32 × Int32 → Option (Int32 × kS) := itr (fun rec6 q => s_X8_gains_6 F rec6 q.1 q.2.1 q.2.2.1 q.2.2.2.1 q.2.2.2.2.1 q.2.2.2.2.2) F
theorem wf_X8_gains_6 (C : Cx E p s m args meth c cX8_gains 7 RX8 (some .int)) (F : Nat) (σ : kS) (x1 : Int32) (x2 : Int32) (x3 : Int32) (x4 : Int32) (x5 : Int32) (h : f_X8_gains_6 F (σ, x1, x2, x3, x4, x5) = some (r, σr)) (H : Heap) (locs : List Loc) (hP : mP E σ H) (hS : va_S (inM E) s.heap H locs) (ls : Array Slot) (hl : lv_has ls 7 [(0, .ref (eA E 27)), (1, .int x1), (2, .int x2), (3, .int x3), (4, .int x4), (5, .int x5)]) : W p l e (kR 1 22) s m args below meth c H locs 0 0 (MQ below (kQi (mP E) (inM E) r σr) args s 0 0 (inM E)) (F0 m 6 ls []) :=
  itr_ok (r := (r, σr)) (G := fun q => ∀ (H : Heap) (locs : List Loc), mP E q.1 H → va_S (inM E) s.heap H locs → ∀ (ls : Array Slot), lv_has ls 7 [(0, .ref (eA E 27)), (1, .int (q.2.1)), (2, .int (q.2.2.1)), (3, .int (q.2.2.2.1)), (4, .int (q.2.2.2.2.1)), (5, .int (q.2.2.2.2.2))] → W p l e (kR 1 22) s m args below meth c H locs 0 0 (MQ below (kQi (mP E) (inM E) r σr) args s 0 0 (inM E)) (F0 m 6 ls [])) (fun rec6 hrec6 q h => w_X8_gains_6 C F rec6 (fun σ x1 x2 x3 x4 x5 => hrec6 (σ, x1, x2, x3, x4, x5)) q.1 q.2.1 q.2.2.1 q.2.2.2.1 q.2.2.2.2.1 q.2.2.2.2.2 h) F (σ, x1, x2, x3, x4, x5) h H locs hP hS ls hl
def s_X8_gains_0 (F : Nat) (σ : kS) (x1 : Int32) (x2 : Int32) (x3 : Int32) : Option (Int32 × kS) :=
  f_X8_gains_6 F (σ, x1, x2, x3, (0 : Int32), (0 : Int32))
set_option maxRecDepth 100000 in
set_option maxHeartbeats 4000000 in
theorem w_X8_gains_0 (C : Cx E p s m args meth c cX8_gains 7 RX8 (some .int)) (F : Nat) (σ : kS) (x1 : Int32) (x2 : Int32) (x3 : Int32) (h : s_X8_gains_0 F σ x1 x2 x3 = some (r, σr)) (H : Heap) (locs : List Loc) (hP : mP E σ H) (hS : va_S (inM E) s.heap H locs) (ls : Array Slot) (hl : lv_has ls 7 [(0, .ref (eA E 27)), (1, .int x1), (2, .int x2), (3, .int x3)]) : W p l e (kR 1 22) s m args below meth c H locs 0 0 (MQ below (kQi (mP E) (inM E) r σr) args s 0 0 (inM E)) (F0 m 0 ls []) := by
  obtain ⟨-, hx, hb, hml, hown, hts, hK, -, -⟩ := id C
  unfold s_X8_gains_0 at h
  refine lv_iconst (v := (0 : Int32)) hx hb dX8_gains_0 (by decide) ?_
  refine lv_istore (lv' := [(4, .int (0 : Int32)), (0, .ref (eA E 27)), (1, .int x1), (2, .int x2), (3, .int x3)]) hx hb dX8_gains_1 hl (by decide) rfl (fun ls hl => ?_)
  refine lv_iconst (v := (0 : Int32)) hx hb dX8_gains_3 (by decide) ?_
  refine lv_istore (lv' := [(5, .int (0 : Int32)), (4, .int (0 : Int32)), (0, .ref (eA E 27)), (1, .int x1), (2, .int x2), (3, .int x3)]) hx hb dX8_gains_4 hl (by decide) rfl (fun ls hl => ?_)
  exact wf_X8_gains_6 C F σ x1 x2 x3 (0 : Int32) (0 : Int32) h H locs hP hS ls (lv_sub hl [2, 3, 4, 5, 1, 0] rfl)
def f_X8_gains (F : Nat) (σ : kS) (x1 : Int32) (x2 : Int32) (x3 : Int32) : Option (Int32 × kS) := s_X8_gains_0 F σ x1 x2 x3
set_option maxRecDepth 100000 in
theorem c_X8_gains (E : kE) (hE : kap E) (F : Nat) (σ : kS) (x1 : Int32) (x2 : Int32) (x3 : Int32) (h : f_X8_gains F σ x1 x2 x3 = some (r, σr)) : Met l yX8_gains (kWs yX8_gains cX8_gains 7 (some .int)) (kR 1 22) (kPre (mP E) E [.ref (eA E 27), .int x1, .int x2, .int x3] σ) (kQi (mP E) (inM E) r σr) 0 0 (inM E) :=
  kst hE (by decide +kernel) (Nat.le_of_ble_eq_true rfl) (fun p e s m below meth c ls C hP hl => w_X8_gains_0 C F σ x1 x2 x3 h s.heap [] hP va_S.rf ls hl)
end

section
variable {p : Program} {l : Launch} {e : Env} {s : State} {m : MethodId} {args : Array Value} {below : List Frame} {meth : Method} {c : Code} {E : kE} {σr : kS}
variable {r : Int32}
def s_X8_gain_0 (F : Nat) (σ : kS) (x1 : Int32) : Option (Int32 × kS) :=
  (kb (f_X8_in F σ x1.toInt64 (0 : Int64) (1 : Int64)) fun v_1 σ_2 => (if v_1 = 0 then some ((-1 : Int32), σ_2) else (kb (f_X8_gains F σ_2 x1 (-1 : Int32) (-1 : Int32)) fun v_5 σ_6 => some ((v_5 + (1000 : Int32)), σ_6))))
set_option maxRecDepth 100000 in
set_option maxHeartbeats 4000000 in
theorem w_X8_gain_0 (C : Cx E p s m args meth c cX8_gain 2 RX8 (some .int)) (F : Nat) (σ : kS) (x1 : Int32) (h : s_X8_gain_0 F σ x1 = some (r, σr)) (H : Heap) (locs : List Loc) (hP : mP E σ H) (hS : va_S (inM E) s.heap H locs) (ls : Array Slot) (hl : lv_has ls 2 [(0, .ref (eA E 27)), (1, .int x1)]) : W p l e (kR 2 48) s m args below meth c H locs 0 0 (MQ below (kQi (mP E) (inM E) r σr) args s 0 0 (inM E)) (F0 m 0 ls []) := by
  obtain ⟨-, hx, hb, hml, hown, hts, hK, -, -⟩ := id C
  unfold s_X8_gain_0 at h
  refine lv_iload_n hx hb dX8_gain_0 rfl (lv_at hl 1 rfl) ?_
  refine lv_i2l (v := x1.toInt64) hx hb dX8_gain_1 rfl ?_
  refine lv_lconst (v := (0 : Int64)) hx hb dX8_gain_2 (by decide) ?_
  refine lv_lconst (v := (1 : Int64)) hx hb dX8_gain_3 (by decide) ?_
  obtain ⟨v_1, σ_2, hc_3, h⟩ := kb_ok h
  refine kci (krunS (As := [.long x1.toInt64, .long (0 : Int64), .long (1 : Int64)]) C hP (c_X8_in E C.1 F σ x1.toInt64 (0 : Int64) (1 : Int64) hc_3) w_735 kt_X8_in ⟨Nat.le_of_ble_eq_true rfl, Nat.le_of_ble_eq_true rfl⟩ rfl hl.1 rfl (Nat.le_of_ble_eq_true rfl) dX8_gain_4) hS (fun H locs hP hS => ?_)
  refine lv_if_eq (tgt := 24) hx hb dX8_gain_7 (by decide) (fun c_4 => ?_) (fun c_4 => ?_)
  · have h := k_t c_4 h
    refine lv_iconst (v := (-1 : Int32)) hx hb dX8_gain_24 (by decide) ?_
    obtain ⟨rfl, rfl⟩ := k_inj h
    exact kri C hS hP dX8_gain_25
  · have h := k_f c_4 h
    refine lv_aload_n hx hb dX8_gain_10 rfl (lv_at hl 0 rfl) ?_
    refine lv_iload_n hx hb dX8_gain_11 rfl (lv_at hl 1 rfl) ?_
    refine lv_iconst (v := (-1 : Int32)) hx hb dX8_gain_12 (by decide) ?_
    refine lv_iconst (v := (-1 : Int32)) hx hb dX8_gain_13 (by decide) ?_
    obtain ⟨v_5, σ_6, hc_7, h⟩ := kb_ok h
    refine kci (krunV (As := [.int x1, .int (-1 : Int32), .int (-1 : Int32)]) C hP (c_X8_gains E C.1 F σ_2 x1 (-1 : Int32) (-1 : Int32) hc_7) w_871 kv_X8_gains ⟨Nat.le_of_ble_eq_true rfl, Nat.le_of_ble_eq_true rfl⟩ (rc_27 C hP) rfl hl.1 rfl (Nat.le_of_ble_eq_true rfl) dX8_gain_14) hS (fun H locs hP hS => ?_)
    refine lv_sipush (v := (1000 : Int32)) hx hb dX8_gain_17 (by decide) ?_
    refine lv_iadd hx hb dX8_gain_20 ?_
    refine lv_goto (tgt := 25) hx hb dX8_gain_21 (by decide) ?_
    obtain ⟨rfl, rfl⟩ := k_inj h
    exact kri C hS hP dX8_gain_25
def f_X8_gain (F : Nat) (σ : kS) (x1 : Int32) : Option (Int32 × kS) := s_X8_gain_0 F σ x1
set_option maxRecDepth 100000 in
theorem c_X8_gain (E : kE) (hE : kap E) (F : Nat) (σ : kS) (x1 : Int32) (h : f_X8_gain F σ x1 = some (r, σr)) : Met l yX8_gain (kWs yX8_gain cX8_gain 2 (some .int)) (kR 2 48) (kPre (mP E) E [.ref (eA E 27), .int x1] σ) (kQi (mP E) (inM E) r σr) 0 0 (inM E) :=
  kst hE (by decide +kernel) (Nat.le_of_ble_eq_true rfl) (fun p e s m below meth c ls C hP hl => w_X8_gain_0 C F σ x1 h s.heap [] hP va_S.rf ls hl)
end

section
variable {p : Program} {l : Launch} {e : Env} {s : State} {m : MethodId} {args : Array Value} {below : List Frame} {meth : Method} {c : Code} {E : kE} {σr : kS}
variable {r : Int32}
def s_X8_forbid_0 (F : Nat) (σ : kS) (x1 : Int32) (x2 : Int32) (x3 : Int32) : Option (Int32 × kS) :=
  (kb (f_X8_in F σ x1.toInt64 (-1 : Int64) ((kA σ 2 0) - (1 : Int32)).toInt64) fun v_1 σ_2 => (if v_1 = 0 then some ((-1 : Int32), σ_2) else (kb (f_X8_in F σ_2 x2.toInt64 (-1 : Int64) ((kA σ_2 2 0) - (1 : Int32)).toInt64) fun v_5 σ_6 => (if v_5 = 0 then some ((-1 : Int32), σ_6) else (kb (f_X8_in F σ_6 x3.toInt64 (0 : Int64) (1 : Int64)) fun v_9 σ_10 => (if v_9 = 0 then some ((-1 : Int32), σ_10) else (kb (f_X8_gains F σ_10 x3 x1 x2) fun v_13 σ_14 => some ((v_13 + (1000 : Int32)), σ_14))))))))
set_option maxRecDepth 100000 in
set_option maxHeartbeats 4000000 in
theorem w_X8_forbid_0 (C : Cx E p s m args meth c cX8_forbid 4 RX8 (some .int)) (F : Nat) (σ : kS) (x1 : Int32) (x2 : Int32) (x3 : Int32) (h : s_X8_forbid_0 F σ x1 x2 x3 = some (r, σr)) (H : Heap) (locs : List Loc) (hP : mP E σ H) (hS : va_S (inM E) s.heap H locs) (ls : Array Slot) (hl : lv_has ls 4 [(0, .ref (eA E 27)), (1, .int x1), (2, .int x2), (3, .int x3)]) : W p l e (kR 2 48) s m args below meth c H locs 0 0 (MQ below (kQi (mP E) (inM E) r σr) args s 0 0 (inM E)) (F0 m 0 ls []) := by
  obtain ⟨-, hx, hb, hml, hown, hts, hK, -, -⟩ := id C
  unfold s_X8_forbid_0 at h
  refine lv_iload_n hx hb dX8_forbid_0 rfl (lv_at hl 1 rfl) ?_
  refine lv_i2l (v := x1.toInt64) hx hb dX8_forbid_1 rfl ?_
  refine lv_ldc2 (v := (-1 : Int64)) hx hb hown (hts _ w_813) dX8_forbid_2 ?_
  refine lv_aload_n hx hb dX8_forbid_5 rfl (lv_at hl 0 rfl) ?_
  refine gf_27_4 C hP w_679 dX8_forbid_6 ?_
  refine lv_iconst (v := (0 : Int32)) hx hb dX8_forbid_9 (by decide) ?_
  refine al_30 C hP (v := (kA σ 2 0)) rfl (by unfold vp_in; decide) dX8_forbid_10 ?_
  refine lv_iconst (v := (1 : Int32)) hx hb dX8_forbid_11 (by decide) ?_
  refine lv_isub hx hb dX8_forbid_12 ?_
  refine lv_i2l (v := ((kA σ 2 0) - (1 : Int32)).toInt64) hx hb dX8_forbid_13 rfl ?_
  obtain ⟨v_1, σ_2, hc_3, h⟩ := kb_ok h
  refine kci (krunS (As := [.long x1.toInt64, .long (-1 : Int64), .long ((kA σ 2 0) - (1 : Int32)).toInt64]) C hP (c_X8_in E C.1 F σ x1.toInt64 (-1 : Int64) ((kA σ 2 0) - (1 : Int32)).toInt64 hc_3) w_735 kt_X8_in ⟨Nat.le_of_ble_eq_true rfl, Nat.le_of_ble_eq_true rfl⟩ rfl hl.1 rfl (Nat.le_of_ble_eq_true rfl) dX8_forbid_14) hS (fun H locs hP hS => ?_)
  refine lv_if_eq (tgt := 64) hx hb dX8_forbid_17 (by decide) (fun c_4 => ?_) (fun c_4 => ?_)
  · have h := k_t c_4 h
    refine lv_iconst (v := (-1 : Int32)) hx hb dX8_forbid_64 (by decide) ?_
    obtain ⟨rfl, rfl⟩ := k_inj h
    exact kri C hS hP dX8_forbid_65
  · have h := k_f c_4 h
    refine lv_iload_n hx hb dX8_forbid_20 rfl (lv_at hl 2 rfl) ?_
    refine lv_i2l (v := x2.toInt64) hx hb dX8_forbid_21 rfl ?_
    refine lv_ldc2 (v := (-1 : Int64)) hx hb hown (hts _ w_813) dX8_forbid_22 ?_
    refine lv_aload_n hx hb dX8_forbid_25 rfl (lv_at hl 0 rfl) ?_
    refine gf_27_4 C hP w_679 dX8_forbid_26 ?_
    refine lv_iconst (v := (0 : Int32)) hx hb dX8_forbid_29 (by decide) ?_
    refine al_30 C hP (v := (kA σ_2 2 0)) rfl (by unfold vp_in; decide) dX8_forbid_30 ?_
    refine lv_iconst (v := (1 : Int32)) hx hb dX8_forbid_31 (by decide) ?_
    refine lv_isub hx hb dX8_forbid_32 ?_
    refine lv_i2l (v := ((kA σ_2 2 0) - (1 : Int32)).toInt64) hx hb dX8_forbid_33 rfl ?_
    obtain ⟨v_5, σ_6, hc_7, h⟩ := kb_ok h
    refine kci (krunS (As := [.long x2.toInt64, .long (-1 : Int64), .long ((kA σ_2 2 0) - (1 : Int32)).toInt64]) C hP (c_X8_in E C.1 F σ_2 x2.toInt64 (-1 : Int64) ((kA σ_2 2 0) - (1 : Int32)).toInt64 hc_7) w_735 kt_X8_in ⟨Nat.le_of_ble_eq_true rfl, Nat.le_of_ble_eq_true rfl⟩ rfl hl.1 rfl (Nat.le_of_ble_eq_true rfl) dX8_forbid_34) hS (fun H locs hP hS => ?_)
    refine lv_if_eq (tgt := 64) hx hb dX8_forbid_37 (by decide) (fun c_8 => ?_) (fun c_8 => ?_)
    · have h := k_t c_8 h
      refine lv_iconst (v := (-1 : Int32)) hx hb dX8_forbid_64 (by decide) ?_
      obtain ⟨rfl, rfl⟩ := k_inj h
      exact kri C hS hP dX8_forbid_65
    · have h := k_f c_8 h
      refine lv_iload_n hx hb dX8_forbid_40 rfl (lv_at hl 3 rfl) ?_
      refine lv_i2l (v := x3.toInt64) hx hb dX8_forbid_41 rfl ?_
      refine lv_lconst (v := (0 : Int64)) hx hb dX8_forbid_42 (by decide) ?_
      refine lv_lconst (v := (1 : Int64)) hx hb dX8_forbid_43 (by decide) ?_
      obtain ⟨v_9, σ_10, hc_11, h⟩ := kb_ok h
      refine kci (krunS (As := [.long x3.toInt64, .long (0 : Int64), .long (1 : Int64)]) C hP (c_X8_in E C.1 F σ_6 x3.toInt64 (0 : Int64) (1 : Int64) hc_11) w_735 kt_X8_in ⟨Nat.le_of_ble_eq_true rfl, Nat.le_of_ble_eq_true rfl⟩ rfl hl.1 rfl (Nat.le_of_ble_eq_true rfl) dX8_forbid_44) hS (fun H locs hP hS => ?_)
      refine lv_if_eq (tgt := 64) hx hb dX8_forbid_47 (by decide) (fun c_12 => ?_) (fun c_12 => ?_)
      · have h := k_t c_12 h
        refine lv_iconst (v := (-1 : Int32)) hx hb dX8_forbid_64 (by decide) ?_
        obtain ⟨rfl, rfl⟩ := k_inj h
        exact kri C hS hP dX8_forbid_65
      · have h := k_f c_12 h
        refine lv_aload_n hx hb dX8_forbid_50 rfl (lv_at hl 0 rfl) ?_
        refine lv_iload_n hx hb dX8_forbid_51 rfl (lv_at hl 3 rfl) ?_
        refine lv_iload_n hx hb dX8_forbid_52 rfl (lv_at hl 1 rfl) ?_
        refine lv_iload_n hx hb dX8_forbid_53 rfl (lv_at hl 2 rfl) ?_
        obtain ⟨v_13, σ_14, hc_15, h⟩ := kb_ok h
        refine kci (krunV (As := [.int x3, .int x1, .int x2]) C hP (c_X8_gains E C.1 F σ_10 x3 x1 x2 hc_15) w_871 kv_X8_gains ⟨Nat.le_of_ble_eq_true rfl, Nat.le_of_ble_eq_true rfl⟩ (rc_27 C hP) rfl hl.1 rfl (Nat.le_of_ble_eq_true rfl) dX8_forbid_54) hS (fun H locs hP hS => ?_)
        refine lv_sipush (v := (1000 : Int32)) hx hb dX8_forbid_57 (by decide) ?_
        refine lv_iadd hx hb dX8_forbid_60 ?_
        refine lv_goto (tgt := 65) hx hb dX8_forbid_61 (by decide) ?_
        obtain ⟨rfl, rfl⟩ := k_inj h
        exact kri C hS hP dX8_forbid_65
def f_X8_forbid (F : Nat) (σ : kS) (x1 : Int32) (x2 : Int32) (x3 : Int32) : Option (Int32 × kS) := s_X8_forbid_0 F σ x1 x2 x3
set_option maxRecDepth 100000 in
theorem c_X8_forbid (E : kE) (hE : kap E) (F : Nat) (σ : kS) (x1 : Int32) (x2 : Int32) (x3 : Int32) (h : f_X8_forbid F σ x1 x2 x3 = some (r, σr)) : Met l yX8_forbid (kWs yX8_forbid cX8_forbid 4 (some .int)) (kR 2 48) (kPre (mP E) E [.ref (eA E 27), .int x1, .int x2, .int x3] σ) (kQi (mP E) (inM E) r σr) 0 0 (inM E) :=
  kst hE (by decide +kernel) (Nat.le_of_ble_eq_true rfl) (fun p e s m below meth c ls C hP hl => w_X8_forbid_0 C F σ x1 x2 x3 h s.heap [] hP va_S.rf ls hl)
end

section
variable {p : Program} {l : Launch} {e : Env} {s : State} {m : MethodId} {args : Array Value} {below : List Frame} {meth : Method} {c : Code} {E : kE} {σr : kS}
variable {r : Int32}
def s_X8_isRest_61 (F : Nat) (rec5 : (kS × Int32 × Int32 × Int32 × Int32 → Option (Int32 × kS))) (σ : kS) (x1 : Int32) (x2 : Int32) (x4 : Int32) (y0 : Int32) : Option (Int32 × kS) :=
  rec5 (σ, x1, x2, y0, (x4 + (1 : Int32)))
set_option maxRecDepth 100000 in
set_option maxHeartbeats 4000000 in
theorem w_X8_isRest_61 (C : Cx E p s m args meth c cX8_isRest 5 RX8 (some .boolean)) (F : Nat) (rec5 : (kS × Int32 × Int32 × Int32 × Int32 → Option (Int32 × kS))) (hrec5 : ∀ (σ : kS) (x1 : Int32) (x2 : Int32) (x3 : Int32) (x4 : Int32), rec5 (σ, x1, x2, x3, x4) = some (r, σr) → ∀ (H : Heap) (locs : List Loc), mP E σ H → va_S (inM E) s.heap H locs → ∀ (ls : Array Slot), lv_has ls 5 [(0, .ref (eA E 27)), (1, .int x1), (2, .int x2), (3, .int x3), (4, .int x4)] → W p l e (kR 2 48) s m args below meth c H locs 0 0 (MQ below (kQi (mP E) (inM E) r σr) args s 0 0 (inM E)) (F0 m 5 ls [])) (σ : kS) (x1 : Int32) (x2 : Int32) (x4 : Int32) (y0 : Int32) (h : s_X8_isRest_61 F rec5 σ x1 x2 x4 y0 = some (r, σr)) (H : Heap) (locs : List Loc) (hP : mP E σ H) (hS : va_S (inM E) s.heap H locs) (ls : Array Slot) (hl : lv_has ls 5 [(0, .ref (eA E 27)), (1, .int x1), (2, .int x2), (4, .int x4)]) : W p l e (kR 2 48) s m args below meth c H locs 0 0 (MQ below (kQi (mP E) (inM E) r σr) args s 0 0 (inM E)) (F0 m 61 ls [.int y0]) := by
  obtain ⟨-, hx, hb, hml, hown, hts, hK, -, -⟩ := id C
  unfold s_X8_isRest_61 at h
  refine lv_istore_n (lv' := [(3, .int y0), (0, .ref (eA E 27)), (1, .int x1), (2, .int x2), (4, .int x4)]) hx hb dX8_isRest_61 rfl hl (by decide) rfl (fun ls hl => ?_)
  refine lv_iinc (v := (x4 + (1 : Int32))) (lv' := [(4, .int (x4 + (1 : Int32))), (3, .int y0), (0, .ref (eA E 27)), (1, .int x1), (2, .int x2)]) hx hb dX8_isRest_62 hl (k := 4) rfl rfl (by decide) rfl (fun ls hl => ?_)
  refine lv_goto (tgt := 5) hx hb dX8_isRest_65 (by decide) ?_
  exact hrec5 σ x1 x2 y0 (x4 + (1 : Int32)) h H locs hP hS ls (lv_sub hl [2, 3, 4, 1, 0] rfl)
def s_X8_isRest_60 (F : Nat) (rec5 : (kS × Int32 × Int32 × Int32 × Int32 → Option (Int32 × kS))) (σ : kS) (x1 : Int32) (x2 : Int32) (x4 : Int32) : Option (Int32 × kS) :=
  s_X8_isRest_61 F rec5 σ x1 x2 x4 (0 : Int32)
set_option maxRecDepth 100000 in
set_option maxHeartbeats 4000000 in
theorem w_X8_isRest_60 (C : Cx E p s m args meth c cX8_isRest 5 RX8 (some .boolean)) (F : Nat) (rec5 : (kS × Int32 × Int32 × Int32 × Int32 → Option (Int32 × kS))) (hrec5 : ∀ (σ : kS) (x1 : Int32) (x2 : Int32) (x3 : Int32) (x4 : Int32), rec5 (σ, x1, x2, x3, x4) = some (r, σr) → ∀ (H : Heap) (locs : List Loc), mP E σ H → va_S (inM E) s.heap H locs → ∀ (ls : Array Slot), lv_has ls 5 [(0, .ref (eA E 27)), (1, .int x1), (2, .int x2), (3, .int x3), (4, .int x4)] → W p l e (kR 2 48) s m args below meth c H locs 0 0 (MQ below (kQi (mP E) (inM E) r σr) args s 0 0 (inM E)) (F0 m 5 ls [])) (σ : kS) (x1 : Int32) (x2 : Int32) (x4 : Int32) (h : s_X8_isRest_60 F rec5 σ x1 x2 x4 = some (r, σr)) (H : Heap) (locs : List Loc) (hP : mP E σ H) (hS : va_S (inM E) s.heap H locs) (ls : Array Slot) (hl : lv_has ls 5 [(0, .ref (eA E 27)), (1, .int x1), (2, .int x2), (4, .int x4)]) : W p l e (kR 2 48) s m args below meth c H locs 0 0 (MQ below (kQi (mP E) (inM E) r σr) args s 0 0 (inM E)) (F0 m 60 ls []) := by
  obtain ⟨-, hx, hb, hml, hown, hts, hK, -, -⟩ := id C
  unfold s_X8_isRest_60 at h
  refine lv_iconst (v := (0 : Int32)) hx hb dX8_isRest_60 (by decide) ?_
  exact w_X8_isRest_61 C F rec5 hrec5 σ x1 x2 x4 (0 : Int32) h H locs hP hS ls hl
def s_X8_isRest_5 (F : Nat) (rec5 : (kS × Int32 × Int32 × Int32 × Int32 → Option (Int32 × kS))) (σ : kS) (x1 : Int32) (x2 : Int32) (x3 : Int32) (x4 : Int32) : Option (Int32 × kS) :=
  (if (kA σ 2 0) ≤ x4 then (if x3 &&& 1 = x3 then some (x3, σ) else none) else (if x3 = 0 then s_X8_isRest_60 F rec5 σ x1 x2 x4 else (kb (f_X8_gains F σ (0 : Int32) x4 x2) fun v_4 σ_5 => (kb (f_X8_gains F σ_5 (0 : Int32) x1 x2) fun v_7 σ_8 => (if v_7 < v_4 then s_X8_isRest_60 F rec5 σ_8 x1 x2 x4 else (kb (f_X8_gains F σ_8 (1 : Int32) x1 x4) fun v_11 σ_12 => (kb (f_X8_gains F σ_12 (1 : Int32) x1 x2) fun v_14 σ_15 => (if v_14 < v_11 then s_X8_isRest_60 F rec5 σ_15 x1 x2 x4 else s_X8_isRest_61 F rec5 σ_15 x1 x2 x4 (1 : Int32)))))))))
set_option maxRecDepth 100000 in
set_option maxHeartbeats 4000000 in
theorem w_X8_isRest_5 (C : Cx E p s m args meth c cX8_isRest 5 RX8 (some .boolean)) (F : Nat) (rec5 : (kS × Int32 × Int32 × Int32 × Int32 → Option (Int32 × kS))) (hrec5 : ∀ (σ : kS) (x1 : Int32) (x2 : Int32) (x3 : Int32) (x4 : Int32), rec5 (σ, x1, x2, x3, x4) = some (r, σr) → ∀ (H : Heap) (locs : List Loc), mP E σ H → va_S (inM E) s.heap H locs → ∀ (ls : Array Slot), lv_has ls 5 [(0, .ref (eA E 27)), (1, .int x1), (2, .int x2), (3, .int x3), (4, .int x4)] → W p l e (kR 2 48) s m args below meth c H locs 0 0 (MQ below (kQi (mP E) (inM E) r σr) args s 0 0 (inM E)) (F0 m 5 ls [])) (σ : kS) (x1 : Int32) (x2 : Int32) (x3 : Int32) (x4 : Int32) (h : s_X8_isRest_5 F rec5 σ x1 x2 x3 x4 = some (r, σr)) (H : Heap) (locs : List Loc) (hP : mP E σ H) (hS : va_S (inM E) s.heap H locs) (ls : Array Slot) (hl : lv_has ls 5 [(0, .ref (eA E 27)), (1, .int x1), (2, .int x2), (3, .int x3), (4, .int x4)]) : W p l e (kR 2 48) s m args below meth c H locs 0 0 (MQ below (kQi (mP E) (inM E) r σr) args s 0 0 (inM E)) (F0 m 5 ls []) := by
  obtain ⟨-, hx, hb, hml, hown, hts, hK, -, -⟩ := id C
  unfold s_X8_isRest_5 at h
  refine lv_iload hx hb dX8_isRest_5 (lv_at hl 4 rfl) ?_
  refine lv_aload_n hx hb dX8_isRest_7 rfl (lv_at hl 0 rfl) ?_
  refine gf_27_4 C hP w_679 dX8_isRest_8 ?_
  refine lv_iconst (v := (0 : Int32)) hx hb dX8_isRest_11 (by decide) ?_
  refine al_30 C hP (v := (kA σ 2 0)) rfl (by unfold vp_in; decide) dX8_isRest_12 ?_
  refine lv_icmp_ge (tgt := 68) hx hb dX8_isRest_13 (by decide) (fun c_1 => ?_) (fun c_1 => ?_)
  · have h := k_t c_1 h
    refine lv_iload_n hx hb dX8_isRest_68 rfl (lv_at hl 3 rfl) ?_
    obtain ⟨n_2, h⟩ := k_yes h
    obtain ⟨rfl, rfl⟩ := k_inj h
    exact krz C hS hP n_2 dX8_isRest_69
  · have h := k_f c_1 h
    refine lv_iload_n hx hb dX8_isRest_16 rfl (lv_at hl 3 rfl) ?_
    refine lv_if_eq (tgt := 60) hx hb dX8_isRest_17 (by decide) (fun c_3 => ?_) (fun c_3 => ?_)
    · have h := k_t c_3 h
      exact w_X8_isRest_60 C F rec5 hrec5 σ x1 x2 x4 h H locs hP hS ls (lv_sub hl [0, 1, 2, 4] rfl)
    · have h := k_f c_3 h
      refine lv_aload_n hx hb dX8_isRest_20 rfl (lv_at hl 0 rfl) ?_
      refine lv_iconst (v := (0 : Int32)) hx hb dX8_isRest_21 (by decide) ?_
      refine lv_iload hx hb dX8_isRest_22 (lv_at hl 4 rfl) ?_
      refine lv_iload_n hx hb dX8_isRest_24 rfl (lv_at hl 2 rfl) ?_
      obtain ⟨v_4, σ_5, hc_6, h⟩ := kb_ok h
      refine kci (krunV (As := [.int (0 : Int32), .int x4, .int x2]) C hP (c_X8_gains E C.1 F σ (0 : Int32) x4 x2 hc_6) w_871 kv_X8_gains ⟨Nat.le_of_ble_eq_true rfl, Nat.le_of_ble_eq_true rfl⟩ (rc_27 C hP) rfl hl.1 rfl (Nat.le_of_ble_eq_true rfl) dX8_isRest_25) hS (fun H locs hP hS => ?_)
      refine lv_aload_n hx hb dX8_isRest_28 rfl (lv_at hl 0 rfl) ?_
      refine lv_iconst (v := (0 : Int32)) hx hb dX8_isRest_29 (by decide) ?_
      refine lv_iload_n hx hb dX8_isRest_30 rfl (lv_at hl 1 rfl) ?_
      refine lv_iload_n hx hb dX8_isRest_31 rfl (lv_at hl 2 rfl) ?_
      obtain ⟨v_7, σ_8, hc_9, h⟩ := kb_ok h
      refine kci (krunV (As := [.int (0 : Int32), .int x1, .int x2]) C hP (c_X8_gains E C.1 F σ_5 (0 : Int32) x1 x2 hc_9) w_871 kv_X8_gains ⟨Nat.le_of_ble_eq_true rfl, Nat.le_of_ble_eq_true rfl⟩ (rc_27 C hP) rfl hl.1 rfl (Nat.le_of_ble_eq_true rfl) dX8_isRest_32) hS (fun H locs hP hS => ?_)
      refine lv_icmp_gt (tgt := 60) hx hb dX8_isRest_35 (by decide) (fun c_10 => ?_) (fun c_10 => ?_)
      · have h := k_t c_10 h
        exact w_X8_isRest_60 C F rec5 hrec5 σ_8 x1 x2 x4 h H locs hP hS ls (lv_sub hl [0, 1, 2, 4] rfl)
      · have h := k_f c_10 h
        refine lv_aload_n hx hb dX8_isRest_38 rfl (lv_at hl 0 rfl) ?_
        refine lv_iconst (v := (1 : Int32)) hx hb dX8_isRest_39 (by decide) ?_
        refine lv_iload_n hx hb dX8_isRest_40 rfl (lv_at hl 1 rfl) ?_
        refine lv_iload hx hb dX8_isRest_41 (lv_at hl 4 rfl) ?_
        obtain ⟨v_11, σ_12, hc_13, h⟩ := kb_ok h
        refine kci (krunV (As := [.int (1 : Int32), .int x1, .int x4]) C hP (c_X8_gains E C.1 F σ_8 (1 : Int32) x1 x4 hc_13) w_871 kv_X8_gains ⟨Nat.le_of_ble_eq_true rfl, Nat.le_of_ble_eq_true rfl⟩ (rc_27 C hP) rfl hl.1 rfl (Nat.le_of_ble_eq_true rfl) dX8_isRest_43) hS (fun H locs hP hS => ?_)
        refine lv_aload_n hx hb dX8_isRest_46 rfl (lv_at hl 0 rfl) ?_
        refine lv_iconst (v := (1 : Int32)) hx hb dX8_isRest_47 (by decide) ?_
        refine lv_iload_n hx hb dX8_isRest_48 rfl (lv_at hl 1 rfl) ?_
        refine lv_iload_n hx hb dX8_isRest_49 rfl (lv_at hl 2 rfl) ?_
        obtain ⟨v_14, σ_15, hc_16, h⟩ := kb_ok h
        refine kci (krunV (As := [.int (1 : Int32), .int x1, .int x2]) C hP (c_X8_gains E C.1 F σ_12 (1 : Int32) x1 x2 hc_16) w_871 kv_X8_gains ⟨Nat.le_of_ble_eq_true rfl, Nat.le_of_ble_eq_true rfl⟩ (rc_27 C hP) rfl hl.1 rfl (Nat.le_of_ble_eq_true rfl) dX8_isRest_50) hS (fun H locs hP hS => ?_)
        refine lv_icmp_gt (tgt := 60) hx hb dX8_isRest_53 (by decide) (fun c_17 => ?_) (fun c_17 => ?_)
        · have h := k_t c_17 h
          exact w_X8_isRest_60 C F rec5 hrec5 σ_15 x1 x2 x4 h H locs hP hS ls (lv_sub hl [0, 1, 2, 4] rfl)
        · have h := k_f c_17 h
          refine lv_iconst (v := (1 : Int32)) hx hb dX8_isRest_56 (by decide) ?_
          refine lv_goto (tgt := 61) hx hb dX8_isRest_57 (by decide) ?_
          exact w_X8_isRest_61 C F rec5 hrec5 σ_15 x1 x2 x4 (1 : Int32) h H locs hP hS ls (lv_sub hl [0, 1, 2, 4] rfl)
def f_X8_isRest_5 (F : Nat) : kS × Int32 × Int32 × Int32 × Int32 → Option (Int32 × kS) := itr (fun rec5 q => s_X8_isRest_5 F rec5 q.1 q.2.1 q.2.2.1 q.2.2.2.1 q.2.2.2.2) F
theorem wf_X8_isRest_5 (C : Cx E p s m args meth c cX8_isRest 5 RX8 (some .boolean)) (F : Nat) (σ : kS) (x1 : Int32) (x2 : Int32) (x3 : Int32) (x4 : Int32) (h : f_X8_isRest_5 F (σ, x1, x2, x3, x4) = some (r, σr)) (H : Heap) (locs : List Loc) (hP : mP E σ H) (hS : va_S (inM E) s.heap H locs) (ls : Array Slot) (hl : lv_has ls 5 [(0, .ref (eA E 27)), (1, .int x1), (2, .int x2), (3, .int x3), (4, .int x4)]) : W p l e (kR 2 48) s m args below meth c H locs 0 0 (MQ below (kQi (mP E) (inM E) r σr) args s 0 0 (inM E)) (F0 m 5 ls []) :=
  itr_ok (r := (r, σr)) (G := fun q => ∀ (H : Heap) (locs : List Loc), mP E q.1 H → va_S (inM E) s.heap H locs → ∀ (ls : Array Slot), lv_has ls 5 [(0, .ref (eA E 27)), (1, .int (q.2.1)), (2, .int (q.2.2.1)), (3, .int (q.2.2.2.1)), (4, .int (q.2.2.2.2))] → W p l e (kR 2 48) s m args below meth c H locs 0 0 (MQ below (kQi (mP E) (inM E) r σr) args s 0 0 (inM E)) (F0 m 5 ls [])) (fun rec5 hrec5 q h => w_X8_isRest_5 C F rec5 (fun σ x1 x2 x3 x4 => hrec5 (σ, x1, x2, x3, x4)) q.1 q.2.1 q.2.2.1 q.2.2.2.1 q.2.2.2.2 h) F (σ, x1, x2, x3, x4) h H locs hP hS ls hl
def s_X8_isRest_0 (F : Nat) (σ : kS) (x1 : Int32) (x2 : Int32) : Option (Int32 × kS) :=
  f_X8_isRest_5 F (σ, x1, x2, (1 : Int32), (-1 : Int32))
set_option maxRecDepth 100000 in
set_option maxHeartbeats 4000000 in
theorem w_X8_isRest_0 (C : Cx E p s m args meth c cX8_isRest 5 RX8 (some .boolean)) (F : Nat) (σ : kS) (x1 : Int32) (x2 : Int32) (h : s_X8_isRest_0 F σ x1 x2 = some (r, σr)) (H : Heap) (locs : List Loc) (hP : mP E σ H) (hS : va_S (inM E) s.heap H locs) (ls : Array Slot) (hl : lv_has ls 5 [(0, .ref (eA E 27)), (1, .int x1), (2, .int x2)]) : W p l e (kR 2 48) s m args below meth c H locs 0 0 (MQ below (kQi (mP E) (inM E) r σr) args s 0 0 (inM E)) (F0 m 0 ls []) := by
  obtain ⟨-, hx, hb, hml, hown, hts, hK, -, -⟩ := id C
  unfold s_X8_isRest_0 at h
  refine lv_iconst (v := (1 : Int32)) hx hb dX8_isRest_0 (by decide) ?_
  refine lv_istore_n (lv' := [(3, .int (1 : Int32)), (0, .ref (eA E 27)), (1, .int x1), (2, .int x2)]) hx hb dX8_isRest_1 rfl hl (by decide) rfl (fun ls hl => ?_)
  refine lv_iconst (v := (-1 : Int32)) hx hb dX8_isRest_2 (by decide) ?_
  refine lv_istore (lv' := [(4, .int (-1 : Int32)), (3, .int (1 : Int32)), (0, .ref (eA E 27)), (1, .int x1), (2, .int x2)]) hx hb dX8_isRest_3 hl (by decide) rfl (fun ls hl => ?_)
  exact wf_X8_isRest_5 C F σ x1 x2 (1 : Int32) (-1 : Int32) h H locs hP hS ls (lv_sub hl [2, 3, 4, 1, 0] rfl)
def f_X8_isRest (F : Nat) (σ : kS) (x1 : Int32) (x2 : Int32) : Option (Int32 × kS) := s_X8_isRest_0 F σ x1 x2
set_option maxRecDepth 100000 in
theorem c_X8_isRest (E : kE) (hE : kap E) (F : Nat) (σ : kS) (x1 : Int32) (x2 : Int32) (h : f_X8_isRest F σ x1 x2 = some (r, σr)) : Met l yX8_isRest (kWs yX8_isRest cX8_isRest 5 (some .boolean)) (kR 2 48) (kPre (mP E) E [.ref (eA E 27), .int x1, .int x2] σ) (kQi (mP E) (inM E) r σr) 0 0 (inM E) :=
  kst hE (by decide +kernel) (Nat.le_of_ble_eq_true rfl) (fun p e s m below meth c ls C hP hl => w_X8_isRest_0 C F σ x1 x2 h s.heap [] hP va_S.rf ls hl)
end

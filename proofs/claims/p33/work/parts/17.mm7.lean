section
variable {p : Program} {l : Launch} {e : Env} {s : State} {m : MethodId} {args : Array Value} {below : List Frame} {meth : Method} {c : Code} {E : kE} {σr : kS}
variable {r : Int32}
def s_X8_in_0 (F : Nat) (σ : kS) (x0 : Int64) (x2 : Int64) (x4 : Int64) : Option (Int32 × kS) :=
  (if (lg_cmp x0 x2) < 0 then some ((0 : Int32), σ) else (if 0 < (lg_cmp x0 x4) then some ((0 : Int32), σ) else some ((1 : Int32), σ)))
set_option maxRecDepth 100000 in
set_option maxHeartbeats 4000000 in
theorem w_X8_in_0 (C : Cx E p s m args meth c cX8_in 6 RX8 (some .boolean)) (F : Nat) (σ : kS) (x0 : Int64) (x2 : Int64) (x4 : Int64) (h : s_X8_in_0 F σ x0 x2 x4 = some (r, σr)) (H : Heap) (locs : List Loc) (hP : mP E σ H) (hS : va_S (inM E) s.heap H locs) (ls : Array Slot) (hl : lv_has ls 6 [(0, .long x0), (2, .long x2), (4, .long x4)]) : W p l e (kR 0 0) s m args below meth c H locs 0 0 (MQ below (kQi (mP E) (inM E) r σr) args s 0 0 (inM E)) (F0 m 0 ls []) := by
  obtain ⟨-, hx, hb, hml, hown, hts, hK, -, -⟩ := id C
  unfold s_X8_in_0 at h
  refine lv_lload_n hx hb dX8_in_0 rfl (lv_at hl 0 rfl) ?_
  refine lv_lload_n hx hb dX8_in_1 rfl (lv_at hl 1 rfl) ?_
  refine W.lcmp hx hb dX8_in_2 ?_
  refine lv_if_lt (tgt := 17) hx hb dX8_in_3 (by decide) (fun c_1 => ?_) (fun c_1 => ?_)
  · have h := k_t c_1 h
    refine lv_iconst (v := (0 : Int32)) hx hb dX8_in_17 (by decide) ?_
    obtain ⟨rfl, rfl⟩ := k_inj h
    exact krz C hS hP (by decide) dX8_in_18
  · have h := k_f c_1 h
    refine lv_lload_n hx hb dX8_in_6 rfl (lv_at hl 0 rfl) ?_
    refine lv_lload hx hb dX8_in_7 (lv_at hl 2 rfl) ?_
    refine W.lcmp hx hb dX8_in_9 ?_
    refine lv_if_gt (tgt := 17) hx hb dX8_in_10 (by decide) (fun c_2 => ?_) (fun c_2 => ?_)
    · have h := k_t c_2 h
      refine lv_iconst (v := (0 : Int32)) hx hb dX8_in_17 (by decide) ?_
      obtain ⟨rfl, rfl⟩ := k_inj h
      exact krz C hS hP (by decide) dX8_in_18
    · have h := k_f c_2 h
      refine lv_iconst (v := (1 : Int32)) hx hb dX8_in_13 (by decide) ?_
      refine lv_goto (tgt := 18) hx hb dX8_in_14 (by decide) ?_
      obtain ⟨rfl, rfl⟩ := k_inj h
      exact krz C hS hP (by decide) dX8_in_18
def f_X8_in (F : Nat) (σ : kS) (x0 : Int64) (x2 : Int64) (x4 : Int64) : Option (Int32 × kS) := s_X8_in_0 F σ x0 x2 x4
set_option maxRecDepth 100000 in
theorem c_X8_in (E : kE) (hE : kap E) (F : Nat) (σ : kS) (x0 : Int64) (x2 : Int64) (x4 : Int64) (h : f_X8_in F σ x0 x2 x4 = some (r, σr)) : Met l yX8_in (kWs yX8_in cX8_in 6 (some .boolean)) (kR 0 0) (kPre (mP E) E [.long x0, .long x2, .long x4] σ) (kQi (mP E) (inM E) r σr) 0 0 (inM E) :=
  kst hE (by decide +kernel) (Nat.le_of_ble_eq_true rfl) (fun p e s m below meth c ls C hP hl => w_X8_in_0 C F σ x0 x2 x4 h s.heap [] hP va_S.rf ls hl)
end

section
variable {p : Program} {l : Launch} {e : Env} {s : State} {m : MethodId} {args : Array Value} {below : List Frame} {meth : Method} {c : Code} {E : kE} {σr : kS}
variable {r : Int32}
def s_X8_write_34 (F : Nat) (rec34 : (kS × Int64 × Int32 → Option (Int32 × kS))) (σ : kS) (x2 : Int64) (x4 : Int32) : Option (Int32 × kS) :=
  (if x4 < 0 then some ((kI σ 0), σ) else (if (kI σ 0) < 0 ∨ 400 ≤ (kI σ 0).toNatClampNeg then none else rec34 ((jI (jA σ 0 (kI σ 0).toNatClampNeg (x2 >>> (((8 : Int32) * x4).toInt64 &&& 63)).toInt32.toInt8.toInt32.toInt8.toInt32) 0 ((kI σ 0) + (1 : Int32))), x2, (x4 + (-1 : Int32)))))
set_option maxRecDepth 100000 in
set_option maxHeartbeats 4000000 in
theorem w_X8_write_34 (C : Cx E p s m args meth c cX8_write 5 RX8 (some .int)) (F : Nat) (rec34 : (kS × Int64 × Int32 → Option (Int32 × kS))) (hrec34 : ∀ (σ : kS) (x2 : Int64) (x4 : Int32), rec34 (σ, x2, x4) = some (r, σr) → ∀ (H : Heap) (locs : List Loc), mP E σ H → va_S (inM E) s.heap H locs → ∀ (ls : Array Slot), lv_has ls 5 [(0, .ref (eA E 27)), (2, .long x2), (4, .int x4)] → W p l e (kR 1 25) s m args below meth c H locs 0 0 (MQ below (kQi (mP E) (inM E) r σr) args s 0 0 (inM E)) (F0 m 34 ls [])) (σ : kS) (x2 : Int64) (x4 : Int32) (h : s_X8_write_34 F rec34 σ x2 x4 = some (r, σr)) (H : Heap) (locs : List Loc) (hP : mP E σ H) (hS : va_S (inM E) s.heap H locs) (ls : Array Slot) (hl : lv_has ls 5 [(0, .ref (eA E 27)), (2, .long x2), (4, .int x4)]) : W p l e (kR 1 25) s m args below meth c H locs 0 0 (MQ below (kQi (mP E) (inM E) r σr) args s 0 0 (inM E)) (F0 m 34 ls []) := by
  obtain ⟨-, hx, hb, hml, hown, hts, hK, -, -⟩ := id C
  unfold s_X8_write_34 at h
  refine lv_iload hx hb dX8_write_34 (lv_at hl 2 rfl) ?_
  refine lv_if_lt (tgt := 73) hx hb dX8_write_36 (by decide) (fun c_1 => ?_) (fun c_1 => ?_)
  · have h := k_t c_1 h
    refine lv_aload_n hx hb dX8_write_73 rfl (lv_at hl 0 rfl) ?_
    refine gf_27_0 C hP (v := (kI σ 0)) rfl w_675 dX8_write_74 ?_
    obtain ⟨rfl, rfl⟩ := k_inj h
    exact kri C hS hP dX8_write_77
  · have h := k_f c_1 h
    refine lv_aload_n hx hb dX8_write_39 rfl (lv_at hl 0 rfl) ?_
    refine gf_27_1 C hP w_676 dX8_write_40 ?_
    refine lv_aload_n hx hb dX8_write_43 rfl (lv_at hl 0 rfl) ?_
    refine gf_27_0 C hP (v := (kI σ 0)) rfl w_675 dX8_write_44 ?_
    refine lv_lload_n hx hb dX8_write_47 rfl (lv_at hl 1 rfl) ?_
    refine lv_bipush (v := (8 : Int32)) hx hb dX8_write_48 (by decide) ?_
    refine lv_iload hx hb dX8_write_50 (lv_at hl 2 rfl) ?_
    refine lv_imul hx hb dX8_write_52 ?_
    refine lv_lshr (v := (x2 >>> (((8 : Int32) * x4).toInt64 &&& 63))) hx hb dX8_write_53 rfl ?_
    refine lv_l2i (v := (x2 >>> (((8 : Int32) * x4).toInt64 &&& 63)).toInt32) hx hb dX8_write_54 rfl ?_
    refine lv_i2b (v := (x2 >>> (((8 : Int32) * x4).toInt64 &&& 63)).toInt32.toInt8.toInt32) hx hb dX8_write_55 rfl ?_
    obtain ⟨n_2, h⟩ := k_no h
    refine as_28 C hP hS (σ2 := (jA σ 0 (kI σ 0).toNatClampNeg (x2 >>> (((8 : Int32) * x4).toInt64 &&& 63)).toInt32.toInt8.toInt32.toInt8.toInt32)) rfl n_2 dX8_write_56 (fun H locs hP hS => ?_)
    refine lv_aload_n hx hb dX8_write_57 rfl (lv_at hl 0 rfl) ?_
    refine lv_dup hx hb dX8_write_58 rfl ?_
    refine gf_27_0 C hP (v := (kI σ 0)) rfl w_675 dX8_write_59 ?_
    refine lv_iconst (v := (1 : Int32)) hx hb dX8_write_62 (by decide) ?_
    refine lv_iadd hx hb dX8_write_63 ?_
    refine pf_27_0 C hP hS w_675 dX8_write_64 (fun H locs hP hS => ?_)
    refine lv_iinc (v := (x4 + (-1 : Int32))) (lv' := [(4, .int (x4 + (-1 : Int32))), (0, .ref (eA E 27)), (2, .long x2)]) hx hb dX8_write_67 hl (k := 2) rfl rfl (by decide) rfl (fun ls hl => ?_)
    refine lv_goto (tgt := 34) hx hb dX8_write_70 (by decide) ?_
    exact hrec34 (jI (jA σ 0 (kI σ 0).toNatClampNeg (x2 >>> (((8 : Int32) * x4).toInt64 &&& 63)).toInt32.toInt8.toInt32.toInt8.toInt32) 0 ((kI σ 0) + (1 : Int32))) x2 (x4 + (-1 : Int32)) h H locs hP hS ls (lv_sub hl [1, 2, 0] rfl)
def f_X8_write_34 (F : Nat) : kS × Int64 × Int32 → Option (Int32 × kS) := itr (fun rec34 q => s_X8_write_34 F rec34 q.1 q.2.1 q.2.2) F
theorem wf_X8_write_34 (C : Cx E p s m args meth c cX8_write 5 RX8 (some .int)) (F : Nat) (σ : kS) (x2 : Int64) (x4 : Int32) (h : f_X8_write_34 F (σ, x2, x4) = some (r, σr)) (H : Heap) (locs : List Loc) (hP : mP E σ H) (hS : va_S (inM E) s.heap H locs) (ls : Array Slot) (hl : lv_has ls 5 [(0, .ref (eA E 27)), (2, .long x2), (4, .int x4)]) : W p l e (kR 1 25) s m args below meth c H locs 0 0 (MQ below (kQi (mP E) (inM E) r σr) args s 0 0 (inM E)) (F0 m 34 ls []) :=
  itr_ok (r := (r, σr)) (G := fun q => ∀ (H : Heap) (locs : List Loc), mP E q.1 H → va_S (inM E) s.heap H locs → ∀ (ls : Array Slot), lv_has ls 5 [(0, .ref (eA E 27)), (2, .long (q.2.1)), (4, .int (q.2.2))] → W p l e (kR 1 25) s m args below meth c H locs 0 0 (MQ below (kQi (mP E) (inM E) r σr) args s 0 0 (inM E)) (F0 m 34 ls [])) (fun rec34 hrec34 q h => w_X8_write_34 C F rec34 (fun σ x2 x4 => hrec34 (σ, x2, x4)) q.1 q.2.1 q.2.2 h) F (σ, x2, x4) h H locs hP hS ls hl
def s_X8_write_0 (F : Nat) (σ : kS) (x1 : Int32) (x2 : Int64) : Option (Int32 × kS) :=
  (kb (f_X8_in F σ x1.toInt64 (1 : Int64) (8 : Int64)) fun v_1 σ_2 => (if v_1 = 0 then some ((-1 : Int32), σ_2) else (if ((kI σ_2 0) + x1) ≤ (400 : Int32) then f_X8_write_34 F (σ_2, x2, (x1 - (1 : Int32))) else some ((-3 : Int32), σ_2))))
set_option maxRecDepth 100000 in
set_option maxHeartbeats 4000000 in
theorem w_X8_write_0 (C : Cx E p s m args meth c cX8_write 5 RX8 (some .int)) (F : Nat) (σ : kS) (x1 : Int32) (x2 : Int64) (h : s_X8_write_0 F σ x1 x2 = some (r, σr)) (H : Heap) (locs : List Loc) (hP : mP E σ H) (hS : va_S (inM E) s.heap H locs) (ls : Array Slot) (hl : lv_has ls 5 [(0, .ref (eA E 27)), (1, .int x1), (2, .long x2)]) : W p l e (kR 1 25) s m args below meth c H locs 0 0 (MQ below (kQi (mP E) (inM E) r σr) args s 0 0 (inM E)) (F0 m 0 ls []) := by
  obtain ⟨-, hx, hb, hml, hown, hts, hK, -, -⟩ := id C
  unfold s_X8_write_0 at h
  refine lv_iload_n hx hb dX8_write_0 rfl (lv_at hl 1 rfl) ?_
  refine lv_i2l (v := x1.toInt64) hx hb dX8_write_1 rfl ?_
  refine lv_lconst (v := (1 : Int64)) hx hb dX8_write_2 (by decide) ?_
  refine lv_ldc2 (v := (8 : Int64)) hx hb hown (hts _ w_734) dX8_write_3 ?_
  obtain ⟨v_1, σ_2, hc_3, h⟩ := kb_ok h
  refine kci (krunS (As := [.long x1.toInt64, .long (1 : Int64), .long (8 : Int64)]) C hP (c_X8_in E C.1 F σ x1.toInt64 (1 : Int64) (8 : Int64) hc_3) w_735 kt_X8_in ⟨Nat.le_of_ble_eq_true rfl, Nat.le_of_ble_eq_true rfl⟩ rfl hl.1 rfl (Nat.le_of_ble_eq_true rfl) dX8_write_6) hS (fun H locs hP hS => ?_)
  refine lv_if_ne (tgt := 14) hx hb dX8_write_9 (by decide) (fun c_4 => ?_) (fun c_4 => ?_)
  · have h := k_f c_4 h
    refine lv_aload_n hx hb dX8_write_14 rfl (lv_at hl 0 rfl) ?_
    refine gf_27_0 C hP (v := (kI σ_2 0)) rfl w_675 dX8_write_15 ?_
    refine lv_iload_n hx hb dX8_write_18 rfl (lv_at hl 1 rfl) ?_
    refine lv_iadd hx hb dX8_write_19 ?_
    refine lv_sipush (v := (400 : Int32)) hx hb dX8_write_20 (by decide) ?_
    refine lv_icmp_le (tgt := 29) hx hb dX8_write_23 (by decide) (fun c_5 => ?_) (fun c_5 => ?_)
    · have h := k_t c_5 h
      refine lv_iload_n hx hb dX8_write_29 rfl (lv_at hl 1 rfl) ?_
      refine lv_iconst (v := (1 : Int32)) hx hb dX8_write_30 (by decide) ?_
      refine lv_isub hx hb dX8_write_31 ?_
      refine lv_istore (lv' := [(4, .int (x1 - (1 : Int32))), (0, .ref (eA E 27)), (1, .int x1), (2, .long x2)]) hx hb dX8_write_32 hl (by decide) rfl (fun ls hl => ?_)
      exact wf_X8_write_34 C F σ_2 x2 (x1 - (1 : Int32)) h H locs hP hS ls (lv_sub hl [1, 3, 0] rfl)
    · have h := k_f c_5 h
      refine lv_bipush (v := (-3 : Int32)) hx hb dX8_write_26 (by decide) ?_
      obtain ⟨rfl, rfl⟩ := k_inj h
      exact kri C hS hP dX8_write_28
  · have h := k_t c_4 h
    refine lv_iconst (v := (-1 : Int32)) hx hb dX8_write_12 (by decide) ?_
    obtain ⟨rfl, rfl⟩ := k_inj h
    exact kri C hS hP dX8_write_13
def f_X8_write (F : Nat) (σ : kS) (x1 : Int32) (x2 : Int64) : Option (Int32 × kS) := s_X8_write_0 F σ x1 x2
set_option maxRecDepth 100000 in
theorem c_X8_write (E : kE) (hE : kap E) (F : Nat) (σ : kS) (x1 : Int32) (x2 : Int64) (h : f_X8_write F σ x1 x2 = some (r, σr)) : Met l yX8_write (kWs yX8_write cX8_write 5 (some .int)) (kR 1 25) (kPre (mP E) E [.ref (eA E 27), .int x1, .long x2] σ) (kQi (mP E) (inM E) r σr) 0 0 (inM E) :=
  kst hE (by decide +kernel) (Nat.le_of_ble_eq_true rfl) (fun p e s m below meth c ls C hP hl => w_X8_write_0 C F σ x1 x2 h s.heap [] hP va_S.rf ls hl)
end

section
variable {p : Program} {l : Launch} {e : Env} {s : State} {m : MethodId} {args : Array Value} {below : List Frame} {meth : Method} {c : Code} {E : kE} {σr : kS}
variable {r : Int32}
def s_X8_wipe_0 (F : Nat) (σ : kS) : Option (Int32 × kS) :=
  some ((kI σ 0), (jI σ 0 (0 : Int32)))
set_option maxRecDepth 100000 in
set_option maxHeartbeats 4000000 in
theorem w_X8_wipe_0 (C : Cx E p s m args meth c cX8_wipe 2 RX8 (some .int)) (F : Nat) (σ : kS) (h : s_X8_wipe_0 F σ = some (r, σr)) (H : Heap) (locs : List Loc) (hP : mP E σ H) (hS : va_S (inM E) s.heap H locs) (ls : Array Slot) (hl : lv_has ls 2 [(0, .ref (eA E 27))]) : W p l e (kR 0 0) s m args below meth c H locs 0 0 (MQ below (kQi (mP E) (inM E) r σr) args s 0 0 (inM E)) (F0 m 0 ls []) := by
  obtain ⟨-, hx, hb, hml, hown, hts, hK, -, -⟩ := id C
  unfold s_X8_wipe_0 at h
  refine lv_aload_n hx hb dX8_wipe_0 rfl (lv_at hl 0 rfl) ?_
  refine gf_27_0 C hP (v := (kI σ 0)) rfl w_675 dX8_wipe_1 ?_
  refine lv_istore_n (lv' := [(1, .int (kI σ 0)), (0, .ref (eA E 27))]) hx hb dX8_wipe_4 rfl hl (by decide) rfl (fun ls hl => ?_)
  refine lv_aload_n hx hb dX8_wipe_5 rfl (lv_at hl 1 rfl) ?_
  refine lv_iconst (v := (0 : Int32)) hx hb dX8_wipe_6 (by decide) ?_
  refine pf_27_0 C hP hS w_675 dX8_wipe_7 (fun H locs hP hS => ?_)
  refine lv_iload_n hx hb dX8_wipe_10 rfl (lv_at hl 0 rfl) ?_
  obtain ⟨rfl, rfl⟩ := k_inj h
  exact kri C hS hP dX8_wipe_11
def f_X8_wipe (F : Nat) (σ : kS) : Option (Int32 × kS) := s_X8_wipe_0 F σ
set_option maxRecDepth 100000 in
theorem c_X8_wipe (E : kE) (hE : kap E) (F : Nat) (σ : kS) (h : f_X8_wipe F σ = some (r, σr)) : Met l yX8_wipe (kWs yX8_wipe cX8_wipe 2 (some .int)) (kR 0 0) (kPre (mP E) E [.ref (eA E 27)] σ) (kQi (mP E) (inM E) r σr) 0 0 (inM E) :=
  kst hE (by decide +kernel) (Nat.le_of_ble_eq_true rfl) (fun p e s m below meth c ls C hP hl => w_X8_wipe_0 C F σ h s.heap [] hP va_S.rf ls hl)
end

section
variable {p : Program} {l : Launch} {e : Env} {s : State} {m : MethodId} {args : Array Value} {below : List Frame} {meth : Method} {c : Code} {E : kE} {σr : kS}
variable {r : Unit}
def s_X8_begins_0 (F : Nat) (σ : kS) : Option (Unit × kS) :=
  some ((), (jA (jA (jA (jA (jA (jA (jA σ 2 1 (0 : Int32)) 1 6 (745 : Int32)) 1 7 (1 : Int32)) 1 8 (1 : Int32)) 1 9 (2 : Int32)) 1 10 (0 : Int32)) 1 11 (0 : Int32)))
set_option maxRecDepth 100000 in
set_option maxHeartbeats 4000000 in
theorem w_X8_begins_0 (C : Cx E p s m args meth c cX8_begins 1 RX8 none) (F : Nat) (σ : kS) (h : s_X8_begins_0 F σ = some (r, σr)) (H : Heap) (locs : List Loc) (hP : mP E σ H) (hS : va_S (inM E) s.heap H locs) (ls : Array Slot) (hl : lv_has ls 1 [(0, .ref (eA E 27))]) : W p l e (kR 0 0) s m args below meth c H locs 0 0 (MQ below (kQv (mP E) (inM E) r σr) args s 0 0 (inM E)) (F0 m 0 ls []) := by
  obtain ⟨-, hx, hb, hml, hown, hts, hK, -, -⟩ := id C
  unfold s_X8_begins_0 at h
  refine lv_aload_n hx hb dX8_begins_0 rfl (lv_at hl 0 rfl) ?_
  refine gf_27_4 C hP w_679 dX8_begins_1 ?_
  refine lv_iconst (v := (1 : Int32)) hx hb dX8_begins_4 (by decide) ?_
  refine lv_iconst (v := (0 : Int32)) hx hb dX8_begins_5 (by decide) ?_
  refine as_30 C hP hS (σ2 := (jA σ 2 1 (0 : Int32))) rfl (by unfold vp_in; decide) dX8_begins_6 (fun H locs hP hS => ?_)
  refine lv_aload_n hx hb dX8_begins_7 rfl (lv_at hl 0 rfl) ?_
  refine gf_27_3 C hP w_678 dX8_begins_8 ?_
  refine lv_bipush (v := (6 : Int32)) hx hb dX8_begins_11 (by decide) ?_
  refine lv_sipush (v := (745 : Int32)) hx hb dX8_begins_13 (by decide) ?_
  refine as_29 C hP hS (σ2 := (jA (jA σ 2 1 (0 : Int32)) 1 6 (745 : Int32))) rfl (by unfold vp_in; decide) dX8_begins_16 (fun H locs hP hS => ?_)
  refine lv_aload_n hx hb dX8_begins_17 rfl (lv_at hl 0 rfl) ?_
  refine gf_27_3 C hP w_678 dX8_begins_18 ?_
  refine lv_bipush (v := (7 : Int32)) hx hb dX8_begins_21 (by decide) ?_
  refine lv_iconst (v := (1 : Int32)) hx hb dX8_begins_23 (by decide) ?_
  refine as_29 C hP hS (σ2 := (jA (jA (jA σ 2 1 (0 : Int32)) 1 6 (745 : Int32)) 1 7 (1 : Int32))) rfl (by unfold vp_in; decide) dX8_begins_24 (fun H locs hP hS => ?_)
  refine lv_aload_n hx hb dX8_begins_25 rfl (lv_at hl 0 rfl) ?_
  refine gf_27_3 C hP w_678 dX8_begins_26 ?_
  refine lv_bipush (v := (8 : Int32)) hx hb dX8_begins_29 (by decide) ?_
  refine lv_iconst (v := (1 : Int32)) hx hb dX8_begins_31 (by decide) ?_
  refine as_29 C hP hS (σ2 := (jA (jA (jA (jA σ 2 1 (0 : Int32)) 1 6 (745 : Int32)) 1 7 (1 : Int32)) 1 8 (1 : Int32))) rfl (by unfold vp_in; decide) dX8_begins_32 (fun H locs hP hS => ?_)
  refine lv_aload_n hx hb dX8_begins_33 rfl (lv_at hl 0 rfl) ?_
  refine gf_27_3 C hP w_678 dX8_begins_34 ?_
  refine lv_bipush (v := (9 : Int32)) hx hb dX8_begins_37 (by decide) ?_
  refine lv_iconst (v := (2 : Int32)) hx hb dX8_begins_39 (by decide) ?_
  refine as_29 C hP hS (σ2 := (jA (jA (jA (jA (jA σ 2 1 (0 : Int32)) 1 6 (745 : Int32)) 1 7 (1 : Int32)) 1 8 (1 : Int32)) 1 9 (2 : Int32))) rfl (by unfold vp_in; decide) dX8_begins_40 (fun H locs hP hS => ?_)
  refine lv_aload_n hx hb dX8_begins_41 rfl (lv_at hl 0 rfl) ?_
  refine gf_27_3 C hP w_678 dX8_begins_42 ?_
  refine lv_bipush (v := (10 : Int32)) hx hb dX8_begins_45 (by decide) ?_
  refine lv_iconst (v := (0 : Int32)) hx hb dX8_begins_47 (by decide) ?_
  refine as_29 C hP hS (σ2 := (jA (jA (jA (jA (jA (jA σ 2 1 (0 : Int32)) 1 6 (745 : Int32)) 1 7 (1 : Int32)) 1 8 (1 : Int32)) 1 9 (2 : Int32)) 1 10 (0 : Int32))) rfl (by unfold vp_in; decide) dX8_begins_48 (fun H locs hP hS => ?_)
  refine lv_aload_n hx hb dX8_begins_49 rfl (lv_at hl 0 rfl) ?_
  refine gf_27_3 C hP w_678 dX8_begins_50 ?_
  refine lv_bipush (v := (11 : Int32)) hx hb dX8_begins_53 (by decide) ?_
  refine lv_iconst (v := (0 : Int32)) hx hb dX8_begins_55 (by decide) ?_
  refine as_29 C hP hS (σ2 := (jA (jA (jA (jA (jA (jA (jA σ 2 1 (0 : Int32)) 1 6 (745 : Int32)) 1 7 (1 : Int32)) 1 8 (1 : Int32)) 1 9 (2 : Int32)) 1 10 (0 : Int32)) 1 11 (0 : Int32))) rfl (by unfold vp_in; decide) dX8_begins_56 (fun H locs hP hS => ?_)
  obtain ⟨rfl, rfl⟩ := k_inj h
  exact krv C hS hP dX8_begins_57
def f_X8_begins (F : Nat) (σ : kS) : Option (Unit × kS) := s_X8_begins_0 F σ
set_option maxRecDepth 100000 in
theorem c_X8_begins (E : kE) (hE : kap E) (F : Nat) (σ : kS) (h : f_X8_begins F σ = some (r, σr)) : Met l yX8_begins (kWs yX8_begins cX8_begins 1 none) (kR 0 0) (kPre (mP E) E [.ref (eA E 27)] σ) (kQv (mP E) (inM E) r σr) 0 0 (inM E) :=
  kst hE (by decide +kernel) (Nat.le_of_ble_eq_true rfl) (fun p e s m below meth c ls C hP hl => w_X8_begins_0 C F σ h s.heap [] hP va_S.rf ls hl)
end

section
variable {p : Program} {l : Launch} {e : Env} {s : State} {m : MethodId} {args : Array Value} {below : List Frame} {meth : Method} {c : Code} {E : kE} {σr : kS}
variable {r : Int32}
def s_X8_parts_32 (F : Nat) (σ : kS) : Option (Int32 × kS) :=
  some ((1 : Int32), σ)
set_option maxRecDepth 100000 in
set_option maxHeartbeats 4000000 in
theorem w_X8_parts_32 (C : Cx E p s m args meth c cX8_parts 1 RX8 (some .int)) (F : Nat) (σ : kS) (h : s_X8_parts_32 F σ = some (r, σr)) (H : Heap) (locs : List Loc) (hP : mP E σ H) (hS : va_S (inM E) s.heap H locs) (ls : Array Slot) (hl : lv_has ls 1 []) : W p l e (kR 0 0) s m args below meth c H locs 0 0 (MQ below (kQi (mP E) (inM E) r σr) args s 0 0 (inM E)) (F0 m 32 ls []) := by
  obtain ⟨-, hx, hb, hml, hown, hts, hK, -, -⟩ := id C
  unfold s_X8_parts_32 at h
  refine lv_iconst (v := (1 : Int32)) hx hb dX8_parts_32 (by decide) ?_
  refine lv_goto (tgt := 37) hx hb dX8_parts_33 (by decide) ?_
  obtain ⟨rfl, rfl⟩ := k_inj h
  exact kri C hS hP dX8_parts_37
def s_X8_parts_0 (F : Nat) (σ : kS) (x0 : Int32) : Option (Int32 × kS) :=
  (if x0 = (97 : Int32) then some ((5 : Int32), σ) else (if x0 = (116 : Int32) then some ((4 : Int32), σ) else (if x0 = (111 : Int32) then s_X8_parts_32 F σ else (if x0 = (115 : Int32) then s_X8_parts_32 F σ else some ((0 : Int32), σ)))))
set_option maxRecDepth 100000 in
set_option maxHeartbeats 4000000 in
theorem w_X8_parts_0 (C : Cx E p s m args meth c cX8_parts 1 RX8 (some .int)) (F : Nat) (σ : kS) (x0 : Int32) (h : s_X8_parts_0 F σ x0 = some (r, σr)) (H : Heap) (locs : List Loc) (hP : mP E σ H) (hS : va_S (inM E) s.heap H locs) (ls : Array Slot) (hl : lv_has ls 1 [(0, .int x0)]) : W p l e (kR 0 0) s m args below meth c H locs 0 0 (MQ below (kQi (mP E) (inM E) r σr) args s 0 0 (inM E)) (F0 m 0 ls []) := by
  obtain ⟨-, hx, hb, hml, hown, hts, hK, -, -⟩ := id C
  unfold s_X8_parts_0 at h
  refine lv_iload_n hx hb dX8_parts_0 rfl (lv_at hl 0 rfl) ?_
  refine lv_bipush (v := (97 : Int32)) hx hb dX8_parts_1 (by decide) ?_
  refine lv_icmp_ne (tgt := 10) hx hb dX8_parts_3 (by decide) (fun c_1 => ?_) (fun c_1 => ?_)
  · have h := k_f c_1 h
    refine lv_iload_n hx hb dX8_parts_10 rfl (lv_at hl 0 rfl) ?_
    refine lv_bipush (v := (116 : Int32)) hx hb dX8_parts_11 (by decide) ?_
    refine lv_icmp_ne (tgt := 20) hx hb dX8_parts_13 (by decide) (fun c_2 => ?_) (fun c_2 => ?_)
    · have h := k_f c_2 h
      refine lv_iload_n hx hb dX8_parts_20 rfl (lv_at hl 0 rfl) ?_
      refine lv_bipush (v := (111 : Int32)) hx hb dX8_parts_21 (by decide) ?_
      refine lv_icmp_eq (tgt := 32) hx hb dX8_parts_23 (by decide) (fun c_3 => ?_) (fun c_3 => ?_)
      · have h := k_t c_3 h
        exact w_X8_parts_32 C F σ h H locs hP hS ls (lv_sub hl [] rfl)
      · have h := k_f c_3 h
        refine lv_iload_n hx hb dX8_parts_26 rfl (lv_at hl 0 rfl) ?_
        refine lv_bipush (v := (115 : Int32)) hx hb dX8_parts_27 (by decide) ?_
        refine lv_icmp_ne (tgt := 36) hx hb dX8_parts_29 (by decide) (fun c_4 => ?_) (fun c_4 => ?_)
        · have h := k_f c_4 h
          refine lv_iconst (v := (0 : Int32)) hx hb dX8_parts_36 (by decide) ?_
          obtain ⟨rfl, rfl⟩ := k_inj h
          exact kri C hS hP dX8_parts_37
        · have h := k_t c_4 h
          exact w_X8_parts_32 C F σ h H locs hP hS ls (lv_sub hl [] rfl)
    · have h := k_t c_2 h
      refine lv_iconst (v := (4 : Int32)) hx hb dX8_parts_16 (by decide) ?_
      refine lv_goto (tgt := 37) hx hb dX8_parts_17 (by decide) ?_
      obtain ⟨rfl, rfl⟩ := k_inj h
      exact kri C hS hP dX8_parts_37
  · have h := k_t c_1 h
    refine lv_iconst (v := (5 : Int32)) hx hb dX8_parts_6 (by decide) ?_
    refine lv_goto (tgt := 37) hx hb dX8_parts_7 (by decide) ?_
    obtain ⟨rfl, rfl⟩ := k_inj h
    exact kri C hS hP dX8_parts_37
def f_X8_parts (F : Nat) (σ : kS) (x0 : Int32) : Option (Int32 × kS) := s_X8_parts_0 F σ x0
set_option maxRecDepth 100000 in
theorem c_X8_parts (E : kE) (hE : kap E) (F : Nat) (σ : kS) (x0 : Int32) (h : f_X8_parts F σ x0 = some (r, σr)) : Met l yX8_parts (kWs yX8_parts cX8_parts 1 (some .int)) (kR 0 0) (kPre (mP E) E [.int x0] σ) (kQi (mP E) (inM E) r σr) 0 0 (inM E) :=
  kst hE (by decide +kernel) (Nat.le_of_ble_eq_true rfl) (fun p e s m below meth c ls C hP hl => w_X8_parts_0 C F σ x0 h s.heap [] hP va_S.rf ls hl)
end

section
variable {p : Program} {l : Launch} {e : Env} {s : State} {m : MethodId} {args : Array Value} {below : List Frame} {meth : Method} {c : Code} {E : kE} {σr : kS}
variable {r : Int32}
def s_X8_isIn_0 (F : Nat) (σ : kS) (x1 : Int32) (x2 : Int32) (x3 : Int32) : Option (Int32 × kS) :=
  (if x1 < 0 ∨ 5 ≤ x1.toNatClampNeg then none else (kb (f_X8_in F σ (kA σ 8 x1.toNatClampNeg).toInt64 x2.toInt64 x3.toInt64) fun v_2 σ_3 => (if v_2 &&& 1 = v_2 then some (v_2, σ_3) else none)))
set_option maxRecDepth 100000 in
set_option maxHeartbeats 4000000 in
theorem w_X8_isIn_0 (C : Cx E p s m args meth c cX8_isIn 4 RX8 (some .boolean)) (F : Nat) (σ : kS) (x1 : Int32) (x2 : Int32) (x3 : Int32) (h : s_X8_isIn_0 F σ x1 x2 x3 = some (r, σr)) (H : Heap) (locs : List Loc) (hP : mP E σ H) (hS : va_S (inM E) s.heap H locs) (ls : Array Slot) (hl : lv_has ls 4 [(0, .ref (eA E 27)), (1, .int x1), (2, .int x2), (3, .int x3)]) : W p l e (kR 1 25) s m args below meth c H locs 0 0 (MQ below (kQi (mP E) (inM E) r σr) args s 0 0 (inM E)) (F0 m 0 ls []) := by
  obtain ⟨-, hx, hb, hml, hown, hts, hK, -, -⟩ := id C
  unfold s_X8_isIn_0 at h
  refine lv_aload_n hx hb dX8_isIn_0 rfl (lv_at hl 0 rfl) ?_
  refine gf_27_17 C hP w_692 dX8_isIn_1 ?_
  refine lv_iload_n hx hb dX8_isIn_4 rfl (lv_at hl 1 rfl) ?_
  obtain ⟨n_1, h⟩ := k_no h
  refine al_38 C hP (v := (kA σ 8 x1.toNatClampNeg)) rfl n_1 dX8_isIn_5 ?_
  refine lv_i2l (v := (kA σ 8 x1.toNatClampNeg).toInt64) hx hb dX8_isIn_6 rfl ?_
  refine lv_iload_n hx hb dX8_isIn_7 rfl (lv_at hl 2 rfl) ?_
  refine lv_i2l (v := x2.toInt64) hx hb dX8_isIn_8 rfl ?_
  refine lv_iload_n hx hb dX8_isIn_9 rfl (lv_at hl 3 rfl) ?_
  refine lv_i2l (v := x3.toInt64) hx hb dX8_isIn_10 rfl ?_
  obtain ⟨v_2, σ_3, hc_4, h⟩ := kb_ok h
  refine kci (krunS (As := [.long (kA σ 8 x1.toNatClampNeg).toInt64, .long x2.toInt64, .long x3.toInt64]) C hP (c_X8_in E C.1 F σ (kA σ 8 x1.toNatClampNeg).toInt64 x2.toInt64 x3.toInt64 hc_4) w_735 kt_X8_in ⟨Nat.le_of_ble_eq_true rfl, Nat.le_of_ble_eq_true rfl⟩ rfl hl.1 rfl (Nat.le_of_ble_eq_true rfl) dX8_isIn_11) hS (fun H locs hP hS => ?_)
  obtain ⟨n_5, h⟩ := k_yes h
  obtain ⟨rfl, rfl⟩ := k_inj h
  exact krz C hS hP n_5 dX8_isIn_14
def f_X8_isIn (F : Nat) (σ : kS) (x1 : Int32) (x2 : Int32) (x3 : Int32) : Option (Int32 × kS) := s_X8_isIn_0 F σ x1 x2 x3
set_option maxRecDepth 100000 in
theorem c_X8_isIn (E : kE) (hE : kap E) (F : Nat) (σ : kS) (x1 : Int32) (x2 : Int32) (x3 : Int32) (h : f_X8_isIn F σ x1 x2 x3 = some (r, σr)) : Met l yX8_isIn (kWs yX8_isIn cX8_isIn 4 (some .boolean)) (kR 1 25) (kPre (mP E) E [.ref (eA E 27), .int x1, .int x2, .int x3] σ) (kQi (mP E) (inM E) r σr) 0 0 (inM E) :=
  kst hE (by decide +kernel) (Nat.le_of_ble_eq_true rfl) (fun p e s m below meth c ls C hP hl => w_X8_isIn_0 C F σ x1 x2 x3 h s.heap [] hP va_S.rf ls hl)
end

section
variable {p : Program} {l : Launch} {e : Env} {s : State} {m : MethodId} {args : Array Value} {below : List Frame} {meth : Method} {c : Code} {E : kE} {σr : kS}
variable {r : Int32}
def s_X8_isGood_235 (F : Nat) (rec235 : (kS × Int32 → Option (Int32 × kS))) (σ : kS) (x2 : Int32) : Option (Int32 × kS) :=
  (if (5 : Int32) ≤ x2 then some ((1 : Int32), (jA σ 2 1 ((kA σ 2 1) + (1 : Int32)))) else (if x2 < 0 ∨ 5 ≤ x2.toNatClampNeg then none else (if (((30 : Int32) + ((5 : Int32) * (kA σ 2 1))) + x2) < 0 ∨ 60 ≤ (((30 : Int32) + ((5 : Int32) * (kA σ 2 1))) + x2).toNatClampNeg then none else rec235 ((jA σ 3 (((30 : Int32) + ((5 : Int32) * (kA σ 2 1))) + x2).toNatClampNeg (kA σ 8 x2.toNatClampNeg)), (x2 + (1 : Int32))))))
set_option maxRecDepth 100000 in
set_option maxHeartbeats 4000000 in
theorem w_X8_isGood_235 (C : Cx E p s m args meth c cX8_isGood 3 RX8 (some .boolean)) (F : Nat) (rec235 : (kS × Int32 → Option (Int32 × kS))) (hrec235 : ∀ (σ : kS) (x2 : Int32), rec235 (σ, x2) = some (r, σr) → ∀ (H : Heap) (locs : List Loc), mP E σ H → va_S (inM E) s.heap H locs → ∀ (ls : Array Slot), lv_has ls 3 [(0, .ref (eA E 27)), (2, .int x2)] → W p l e (kR 2 48) s m args below meth c H locs 0 0 (MQ below (kQi (mP E) (inM E) r σr) args s 0 0 (inM E)) (F0 m 235 ls [])) (σ : kS) (x2 : Int32) (h : s_X8_isGood_235 F rec235 σ x2 = some (r, σr)) (H : Heap) (locs : List Loc) (hP : mP E σ H) (hS : va_S (inM E) s.heap H locs) (ls : Array Slot) (hl : lv_has ls 3 [(0, .ref (eA E 27)), (2, .int x2)]) : W p l e (kR 2 48) s m args below meth c H locs 0 0 (MQ below (kQi (mP E) (inM E) r σr) args s 0 0 (inM E)) (F0 m 235 ls []) := by
  obtain ⟨-, hx, hb, hml, hown, hts, hK, -, -⟩ := id C
  unfold s_X8_isGood_235 at h
  refine lv_iload_n hx hb dX8_isGood_235 rfl (lv_at hl 1 rfl) ?_
  refine lv_iconst (v := (5 : Int32)) hx hb dX8_isGood_236 (by decide) ?_
  refine lv_icmp_ge (tgt := 270) hx hb dX8_isGood_237 (by decide) (fun c_1 => ?_) (fun c_1 => ?_)
  · have h := k_t c_1 h
    refine lv_aload_n hx hb dX8_isGood_270 rfl (lv_at hl 0 rfl) ?_
    refine gf_27_4 C hP w_679 dX8_isGood_271 ?_
    refine lv_iconst (v := (1 : Int32)) hx hb dX8_isGood_274 (by decide) ?_
    refine lv_dup2_11 hx hb dX8_isGood_275 rfl rfl ?_
    refine al_30 C hP (v := (kA σ 2 1)) rfl (by unfold vp_in; decide) dX8_isGood_276 ?_
    refine lv_iconst (v := (1 : Int32)) hx hb dX8_isGood_277 (by decide) ?_
    refine lv_iadd hx hb dX8_isGood_278 ?_
    refine as_30 C hP hS (σ2 := (jA σ 2 1 ((kA σ 2 1) + (1 : Int32)))) rfl (by unfold vp_in; decide) dX8_isGood_279 (fun H locs hP hS => ?_)
    refine lv_iconst (v := (1 : Int32)) hx hb dX8_isGood_280 (by decide) ?_
    obtain ⟨rfl, rfl⟩ := k_inj h
    exact krz C hS hP (by decide) dX8_isGood_281
  · have h := k_f c_1 h
    refine lv_aload_n hx hb dX8_isGood_240 rfl (lv_at hl 0 rfl) ?_
    refine gf_27_5 C hP w_680 dX8_isGood_241 ?_
    refine lv_bipush (v := (30 : Int32)) hx hb dX8_isGood_244 (by decide) ?_
    refine lv_iconst (v := (5 : Int32)) hx hb dX8_isGood_246 (by decide) ?_
    refine lv_aload_n hx hb dX8_isGood_247 rfl (lv_at hl 0 rfl) ?_
    refine gf_27_4 C hP w_679 dX8_isGood_248 ?_
    refine lv_iconst (v := (1 : Int32)) hx hb dX8_isGood_251 (by decide) ?_
    refine al_30 C hP (v := (kA σ 2 1)) rfl (by unfold vp_in; decide) dX8_isGood_252 ?_
    refine lv_imul hx hb dX8_isGood_253 ?_
    refine lv_iadd hx hb dX8_isGood_254 ?_
    refine lv_iload_n hx hb dX8_isGood_255 rfl (lv_at hl 1 rfl) ?_
    refine lv_iadd hx hb dX8_isGood_256 ?_
    refine lv_aload_n hx hb dX8_isGood_257 rfl (lv_at hl 0 rfl) ?_
    refine gf_27_17 C hP w_692 dX8_isGood_258 ?_
    refine lv_iload_n hx hb dX8_isGood_261 rfl (lv_at hl 1 rfl) ?_
    obtain ⟨n_2, h⟩ := k_no h
    refine al_38 C hP (v := (kA σ 8 x2.toNatClampNeg)) rfl n_2 dX8_isGood_262 ?_
    obtain ⟨n_3, h⟩ := k_no h
    refine as_31 C hP hS (σ2 := (jA σ 3 (((30 : Int32) + ((5 : Int32) * (kA σ 2 1))) + x2).toNatClampNeg (kA σ 8 x2.toNatClampNeg))) rfl n_3 dX8_isGood_263 (fun H locs hP hS => ?_)
    refine lv_iinc (v := (x2 + (1 : Int32))) (lv' := [(2, .int (x2 + (1 : Int32))), (0, .ref (eA E 27))]) hx hb dX8_isGood_264 hl (k := 1) rfl rfl (by decide) rfl (fun ls hl => ?_)
    refine lv_goto (tgt := 235) hx hb dX8_isGood_267 (by decide) ?_
    exact hrec235 (jA σ 3 (((30 : Int32) + ((5 : Int32) * (kA σ 2 1))) + x2).toNatClampNeg (kA σ 8 x2.toNatClampNeg)) (x2 + (1 : Int32)) h H locs hP hS ls (lv_sub hl [1, 0] rfl)
def f_X8_isGood_235 (F : Nat) : kS × Int32 → Option (Int32 × kS) := itr (fun rec235 q => s_X8_isGood_235 F rec235 q.1 q.2) F
theorem wf_X8_isGood_235 (C : Cx E p s m args meth c cX8_isGood 3 RX8 (some .boolean)) (F : Nat) (σ : kS) (x2 : Int32) (h : f_X8_isGood_235 F (σ, x2) = some (r, σr)) (H : Heap) (locs : List Loc) (hP : mP E σ H) (hS : va_S (inM E) s.heap H locs) (ls : Array Slot) (hl : lv_has ls 3 [(0, .ref (eA E 27)), (2, .int x2)]) : W p l e (kR 2 48) s m args below meth c H locs 0 0 (MQ below (kQi (mP E) (inM E) r σr) args s 0 0 (inM E)) (F0 m 235 ls []) :=
  itr_ok (r := (r, σr)) (G := fun q => ∀ (H : Heap) (locs : List Loc), mP E q.1 H → va_S (inM E) s.heap H locs → ∀ (ls : Array Slot), lv_has ls 3 [(0, .ref (eA E 27)), (2, .int (q.2))] → W p l e (kR 2 48) s m args below meth c H locs 0 0 (MQ below (kQi (mP E) (inM E) r σr) args s 0 0 (inM E)) (F0 m 235 ls [])) (fun rec235 hrec235 q h => w_X8_isGood_235 C F rec235 (fun σ x2 => hrec235 (σ, x2)) q.1 q.2 h) F (σ, x2) h H locs hP hS ls hl
def s_X8_isGood_8 (F : Nat) (rec8 : (kS × Int32 → Option (Int32 × kS))) (σ : kS) (x2 : Int32) : Option (Int32 × kS) :=
  (if (4 : Int32) ≤ x2 then (kb (f_X8_isIn F σ (0 : Int32) (20 : Int32) (999 : Int32)) fun v_2 σ_3 => (if v_2 = 0 then some ((0 : Int32), σ_3) else (kb (f_X8_isIn F σ_3 (1 : Int32) (1 : Int32) (20 : Int32)) fun v_6 σ_7 => (if v_6 = 0 then some ((0 : Int32), σ_7) else (if (kA σ_7 8 0) < ((20 : Int32) * (kA σ_7 8 1)) then some ((0 : Int32), σ_7) else (kb (f_X8_isIn F σ_7 (3 : Int32) (2 : Int32) (20 : Int32)) fun v_11 σ_12 => (if v_11 = 0 then some ((0 : Int32), σ_12) else (kb (f_X8_isIn F σ_12 (2 : Int32) (1 : Int32) ((kA σ_12 8 3) - (1 : Int32))) fun v_15 σ_16 => (if v_15 = 0 then some ((0 : Int32), σ_16) else some ((1 : Int32), σ_16)))))))))) else (if x2 < 0 ∨ 5 ≤ x2.toNatClampNeg then none else (if ((6 : Int32) + x2) < 0 ∨ 12 ≤ ((6 : Int32) + x2).toNatClampNeg then none else rec8 ((jA σ 1 ((6 : Int32) + x2).toNatClampNeg (kA σ 8 x2.toNatClampNeg)), (x2 + (1 : Int32))))))
set_option maxRecDepth 100000 in
set_option maxHeartbeats 4000000 in
theorem w_X8_isGood_8 (C : Cx E p s m args meth c cX8_isGood 3 RX8 (some .boolean)) (F : Nat) (rec8 : (kS × Int32 → Option (Int32 × kS))) (hrec8 : ∀ (σ : kS) (x2 : Int32), rec8 (σ, x2) = some (r, σr) → ∀ (H : Heap) (locs : List Loc), mP E σ H → va_S (inM E) s.heap H locs → ∀ (ls : Array Slot), lv_has ls 3 [(0, .ref (eA E 27)), (2, .int x2)] → W p l e (kR 2 48) s m args below meth c H locs 0 0 (MQ below (kQi (mP E) (inM E) r σr) args s 0 0 (inM E)) (F0 m 8 ls [])) (σ : kS) (x2 : Int32) (h : s_X8_isGood_8 F rec8 σ x2 = some (r, σr)) (H : Heap) (locs : List Loc) (hP : mP E σ H) (hS : va_S (inM E) s.heap H locs) (ls : Array Slot) (hl : lv_has ls 3 [(0, .ref (eA E 27)), (2, .int x2)]) : W p l e (kR 2 48) s m args below meth c H locs 0 0 (MQ below (kQi (mP E) (inM E) r σr) args s 0 0 (inM E)) (F0 m 8 ls []) := by
  obtain ⟨-, hx, hb, hml, hown, hts, hK, -, -⟩ := id C
  unfold s_X8_isGood_8 at h
  refine lv_iload_n hx hb dX8_isGood_8 rfl (lv_at hl 1 rfl) ?_
  refine lv_iconst (v := (4 : Int32)) hx hb dX8_isGood_9 (by decide) ?_
  refine lv_icmp_ge (tgt := 34) hx hb dX8_isGood_10 (by decide) (fun c_1 => ?_) (fun c_1 => ?_)
  · have h := k_t c_1 h
    refine lv_aload_n hx hb dX8_isGood_34 rfl (lv_at hl 0 rfl) ?_
    refine lv_iconst (v := (0 : Int32)) hx hb dX8_isGood_35 (by decide) ?_
    refine lv_bipush (v := (20 : Int32)) hx hb dX8_isGood_36 (by decide) ?_
    refine lv_sipush (v := (999 : Int32)) hx hb dX8_isGood_38 (by decide) ?_
    obtain ⟨v_2, σ_3, hc_4, h⟩ := kb_ok h
    refine kci (krunV (As := [.int (0 : Int32), .int (20 : Int32), .int (999 : Int32)]) C hP (c_X8_isIn E C.1 F σ (0 : Int32) (20 : Int32) (999 : Int32) hc_4) w_764 kv_X8_isIn ⟨Nat.le_of_ble_eq_true rfl, Nat.le_of_ble_eq_true rfl⟩ (rc_27 C hP) rfl hl.1 rfl (Nat.le_of_ble_eq_true rfl) dX8_isGood_41) hS (fun H locs hP hS => ?_)
    refine lv_if_eq (tgt := 108) hx hb dX8_isGood_44 (by decide) (fun c_5 => ?_) (fun c_5 => ?_)
    · have h := k_t c_5 h
      refine lv_iconst (v := (0 : Int32)) hx hb dX8_isGood_108 (by decide) ?_
      obtain ⟨rfl, rfl⟩ := k_inj h
      exact krz C hS hP (by decide) dX8_isGood_109
    · have h := k_f c_5 h
      refine lv_aload_n hx hb dX8_isGood_47 rfl (lv_at hl 0 rfl) ?_
      refine lv_iconst (v := (1 : Int32)) hx hb dX8_isGood_48 (by decide) ?_
      refine lv_iconst (v := (1 : Int32)) hx hb dX8_isGood_49 (by decide) ?_
      refine lv_bipush (v := (20 : Int32)) hx hb dX8_isGood_50 (by decide) ?_
      obtain ⟨v_6, σ_7, hc_8, h⟩ := kb_ok h
      refine kci (krunV (As := [.int (1 : Int32), .int (1 : Int32), .int (20 : Int32)]) C hP (c_X8_isIn E C.1 F σ_3 (1 : Int32) (1 : Int32) (20 : Int32) hc_8) w_764 kv_X8_isIn ⟨Nat.le_of_ble_eq_true rfl, Nat.le_of_ble_eq_true rfl⟩ (rc_27 C hP) rfl hl.1 rfl (Nat.le_of_ble_eq_true rfl) dX8_isGood_52) hS (fun H locs hP hS => ?_)
      refine lv_if_eq (tgt := 108) hx hb dX8_isGood_55 (by decide) (fun c_9 => ?_) (fun c_9 => ?_)
      · have h := k_t c_9 h
        refine lv_iconst (v := (0 : Int32)) hx hb dX8_isGood_108 (by decide) ?_
        obtain ⟨rfl, rfl⟩ := k_inj h
        exact krz C hS hP (by decide) dX8_isGood_109
      · have h := k_f c_9 h
        refine lv_aload_n hx hb dX8_isGood_58 rfl (lv_at hl 0 rfl) ?_
        refine gf_27_17 C hP w_692 dX8_isGood_59 ?_
        refine lv_iconst (v := (0 : Int32)) hx hb dX8_isGood_62 (by decide) ?_
        refine al_38 C hP (v := (kA σ_7 8 0)) rfl (by unfold vp_in; decide) dX8_isGood_63 ?_
        refine lv_bipush (v := (20 : Int32)) hx hb dX8_isGood_64 (by decide) ?_
        refine lv_aload_n hx hb dX8_isGood_66 rfl (lv_at hl 0 rfl) ?_
        refine gf_27_17 C hP w_692 dX8_isGood_67 ?_
        refine lv_iconst (v := (1 : Int32)) hx hb dX8_isGood_70 (by decide) ?_
        refine al_38 C hP (v := (kA σ_7 8 1)) rfl (by unfold vp_in; decide) dX8_isGood_71 ?_
        refine lv_imul hx hb dX8_isGood_72 ?_
        refine lv_icmp_lt (tgt := 108) hx hb dX8_isGood_73 (by decide) (fun c_10 => ?_) (fun c_10 => ?_)
        · have h := k_t c_10 h
          refine lv_iconst (v := (0 : Int32)) hx hb dX8_isGood_108 (by decide) ?_
          obtain ⟨rfl, rfl⟩ := k_inj h
          exact krz C hS hP (by decide) dX8_isGood_109
        · have h := k_f c_10 h
          refine lv_aload_n hx hb dX8_isGood_76 rfl (lv_at hl 0 rfl) ?_
          refine lv_iconst (v := (3 : Int32)) hx hb dX8_isGood_77 (by decide) ?_
          refine lv_iconst (v := (2 : Int32)) hx hb dX8_isGood_78 (by decide) ?_
          refine lv_bipush (v := (20 : Int32)) hx hb dX8_isGood_79 (by decide) ?_
          obtain ⟨v_11, σ_12, hc_13, h⟩ := kb_ok h
          refine kci (krunV (As := [.int (3 : Int32), .int (2 : Int32), .int (20 : Int32)]) C hP (c_X8_isIn E C.1 F σ_7 (3 : Int32) (2 : Int32) (20 : Int32) hc_13) w_764 kv_X8_isIn ⟨Nat.le_of_ble_eq_true rfl, Nat.le_of_ble_eq_true rfl⟩ (rc_27 C hP) rfl hl.1 rfl (Nat.le_of_ble_eq_true rfl) dX8_isGood_81) hS (fun H locs hP hS => ?_)
          refine lv_if_eq (tgt := 108) hx hb dX8_isGood_84 (by decide) (fun c_14 => ?_) (fun c_14 => ?_)
          · have h := k_t c_14 h
            refine lv_iconst (v := (0 : Int32)) hx hb dX8_isGood_108 (by decide) ?_
            obtain ⟨rfl, rfl⟩ := k_inj h
            exact krz C hS hP (by decide) dX8_isGood_109
          · have h := k_f c_14 h
            refine lv_aload_n hx hb dX8_isGood_87 rfl (lv_at hl 0 rfl) ?_
            refine lv_iconst (v := (2 : Int32)) hx hb dX8_isGood_88 (by decide) ?_
            refine lv_iconst (v := (1 : Int32)) hx hb dX8_isGood_89 (by decide) ?_
            refine lv_aload_n hx hb dX8_isGood_90 rfl (lv_at hl 0 rfl) ?_
            refine gf_27_17 C hP w_692 dX8_isGood_91 ?_
            refine lv_iconst (v := (3 : Int32)) hx hb dX8_isGood_94 (by decide) ?_
            refine al_38 C hP (v := (kA σ_12 8 3)) rfl (by unfold vp_in; decide) dX8_isGood_95 ?_
            refine lv_iconst (v := (1 : Int32)) hx hb dX8_isGood_96 (by decide) ?_
            refine lv_isub hx hb dX8_isGood_97 ?_
            obtain ⟨v_15, σ_16, hc_17, h⟩ := kb_ok h
            refine kci (krunV (As := [.int (2 : Int32), .int (1 : Int32), .int ((kA σ_12 8 3) - (1 : Int32))]) C hP (c_X8_isIn E C.1 F σ_12 (2 : Int32) (1 : Int32) ((kA σ_12 8 3) - (1 : Int32)) hc_17) w_764 kv_X8_isIn ⟨Nat.le_of_ble_eq_true rfl, Nat.le_of_ble_eq_true rfl⟩ (rc_27 C hP) rfl hl.1 rfl (Nat.le_of_ble_eq_true rfl) dX8_isGood_98) hS (fun H locs hP hS => ?_)
            refine lv_if_eq (tgt := 108) hx hb dX8_isGood_101 (by decide) (fun c_18 => ?_) (fun c_18 => ?_)
            · have h := k_t c_18 h
              refine lv_iconst (v := (0 : Int32)) hx hb dX8_isGood_108 (by decide) ?_
              obtain ⟨rfl, rfl⟩ := k_inj h
              exact krz C hS hP (by decide) dX8_isGood_109
            · have h := k_f c_18 h
              refine lv_iconst (v := (1 : Int32)) hx hb dX8_isGood_104 (by decide) ?_
              refine lv_goto (tgt := 109) hx hb dX8_isGood_105 (by decide) ?_
              obtain ⟨rfl, rfl⟩ := k_inj h
              exact krz C hS hP (by decide) dX8_isGood_109
  · have h := k_f c_1 h
    refine lv_aload_n hx hb dX8_isGood_13 rfl (lv_at hl 0 rfl) ?_
    refine gf_27_3 C hP w_678 dX8_isGood_14 ?_
    refine lv_bipush (v := (6 : Int32)) hx hb dX8_isGood_17 (by decide) ?_
    refine lv_iload_n hx hb dX8_isGood_19 rfl (lv_at hl 1 rfl) ?_
    refine lv_iadd hx hb dX8_isGood_20 ?_
    refine lv_aload_n hx hb dX8_isGood_21 rfl (lv_at hl 0 rfl) ?_
    refine gf_27_17 C hP w_692 dX8_isGood_22 ?_
    refine lv_iload_n hx hb dX8_isGood_25 rfl (lv_at hl 1 rfl) ?_
    obtain ⟨n_19, h⟩ := k_no h
    refine al_38 C hP (v := (kA σ 8 x2.toNatClampNeg)) rfl n_19 dX8_isGood_26 ?_
    obtain ⟨n_20, h⟩ := k_no h
    refine as_29 C hP hS (σ2 := (jA σ 1 ((6 : Int32) + x2).toNatClampNeg (kA σ 8 x2.toNatClampNeg))) rfl n_20 dX8_isGood_27 (fun H locs hP hS => ?_)
    refine lv_iinc (v := (x2 + (1 : Int32))) (lv' := [(2, .int (x2 + (1 : Int32))), (0, .ref (eA E 27))]) hx hb dX8_isGood_28 hl (k := 1) rfl rfl (by decide) rfl (fun ls hl => ?_)
    refine lv_goto (tgt := 8) hx hb dX8_isGood_31 (by decide) ?_
    exact hrec8 (jA σ 1 ((6 : Int32) + x2).toNatClampNeg (kA σ 8 x2.toNatClampNeg)) (x2 + (1 : Int32)) h H locs hP hS ls (lv_sub hl [1, 0] rfl)
def f_X8_isGood_8 (F : Nat) : kS × Int32 → Option (Int32 × kS) := itr (fun rec8 q => s_X8_isGood_8 F rec8 q.1 q.2) F
theorem wf_X8_isGood_8 (C : Cx E p s m args meth c cX8_isGood 3 RX8 (some .boolean)) (F : Nat) (σ : kS) (x2 : Int32) (h : f_X8_isGood_8 F (σ, x2) = some (r, σr)) (H : Heap) (locs : List Loc) (hP : mP E σ H) (hS : va_S (inM E) s.heap H locs) (ls : Array Slot) (hl : lv_has ls 3 [(0, .ref (eA E 27)), (2, .int x2)]) : W p l e (kR 2 48) s m args below meth c H locs 0 0 (MQ below (kQi (mP E) (inM E) r σr) args s 0 0 (inM E)) (F0 m 8 ls []) :=
  itr_ok (r := (r, σr)) (G := fun q => ∀ (H : Heap) (locs : List Loc), mP E q.1 H → va_S (inM E) s.heap H locs → ∀ (ls : Array Slot), lv_has ls 3 [(0, .ref (eA E 27)), (2, .int (q.2))] → W p l e (kR 2 48) s m args below meth c H locs 0 0 (MQ below (kQi (mP E) (inM E) r σr) args s 0 0 (inM E)) (F0 m 8 ls [])) (fun rec8 hrec8 q h => w_X8_isGood_8 C F rec8 (fun σ x2 => hrec8 (σ, x2)) q.1 q.2 h) F (σ, x2) h H locs hP hS ls hl
def s_X8_isGood_0 (F : Nat) (σ : kS) (x1 : Int32) : Option (Int32 × kS) :=
  (if x1 = (116 : Int32) then f_X8_isGood_8 F (σ, (0 : Int32)) else (if x1 = (111 : Int32) then (kb (f_X8_isIn F (jA σ 1 10 (kA σ 8 0)) (0 : Int32) (0 : Int32) (999 : Int32)) fun v_29 σ_30 => (if v_29 &&& 1 = v_29 then some (v_29, σ_30) else none)) else (if x1 = (115 : Int32) then (kb (f_X8_isIn F (jA σ 1 11 (kA σ 8 0)) (0 : Int32) (0 : Int32) (99 : Int32)) fun v_25 σ_26 => (if v_25 &&& 1 = v_25 then some (v_25, σ_26) else none)) else (kb (f_X8_isIn F σ (0 : Int32) (0 : Int32) (4 : Int32)) fun v_4 σ_5 => (if v_4 = 0 then some ((0 : Int32), σ_5) else (kb (f_X8_isIn F σ_5 (1 : Int32) (0 : Int32) (3 : Int32)) fun v_8 σ_9 => (if v_8 = 0 then some ((0 : Int32), σ_9) else (kb (f_X8_isIn F σ_9 (2 : Int32) (1 : Int32) (99 : Int32)) fun v_12 σ_13 => (if v_12 = 0 then some ((0 : Int32), σ_13) else (kb (f_X8_isIn F σ_13 (3 : Int32) (0 : Int32) (99 : Int32)) fun v_16 σ_17 => (if v_16 = 0 then some ((0 : Int32), σ_17) else (kb (f_X8_isIn F σ_17 (4 : Int32) (0 : Int32) (99 : Int32)) fun v_20 σ_21 => (if v_20 = 0 then some ((0 : Int32), σ_21) else (if (kA σ_21 2 1) = (6 : Int32) then some ((0 : Int32), σ_21) else f_X8_isGood_235 F (σ_21, (0 : Int32))))))))))))))))
set_option maxRecDepth 100000 in
set_option maxHeartbeats 4000000 in
theorem w_X8_isGood_0 (C : Cx E p s m args meth c cX8_isGood 3 RX8 (some .boolean)) (F : Nat) (σ : kS) (x1 : Int32) (h : s_X8_isGood_0 F σ x1 = some (r, σr)) (H : Heap) (locs : List Loc) (hP : mP E σ H) (hS : va_S (inM E) s.heap H locs) (ls : Array Slot) (hl : lv_has ls 3 [(0, .ref (eA E 27)), (1, .int x1)]) : W p l e (kR 2 48) s m args below meth c H locs 0 0 (MQ below (kQi (mP E) (inM E) r σr) args s 0 0 (inM E)) (F0 m 0 ls []) := by
  obtain ⟨-, hx, hb, hml, hown, hts, hK, -, -⟩ := id C
  unfold s_X8_isGood_0 at h
  refine lv_iload_n hx hb dX8_isGood_0 rfl (lv_at hl 1 rfl) ?_
  refine lv_bipush (v := (116 : Int32)) hx hb dX8_isGood_1 (by decide) ?_
  refine lv_icmp_ne (tgt := 110) hx hb dX8_isGood_3 (by decide) (fun c_1 => ?_) (fun c_1 => ?_)
  · have h := k_f c_1 h
    refine lv_iload_n hx hb dX8_isGood_110 rfl (lv_at hl 1 rfl) ?_
    refine lv_bipush (v := (111 : Int32)) hx hb dX8_isGood_111 (by decide) ?_
    refine lv_icmp_ne (tgt := 139) hx hb dX8_isGood_113 (by decide) (fun c_2 => ?_) (fun c_2 => ?_)
    · have h := k_f c_2 h
      refine lv_iload_n hx hb dX8_isGood_139 rfl (lv_at hl 1 rfl) ?_
      refine lv_bipush (v := (115 : Int32)) hx hb dX8_isGood_140 (by decide) ?_
      refine lv_icmp_ne (tgt := 167) hx hb dX8_isGood_142 (by decide) (fun c_3 => ?_) (fun c_3 => ?_)
      · have h := k_f c_3 h
        refine lv_aload_n hx hb dX8_isGood_167 rfl (lv_at hl 0 rfl) ?_
        refine lv_iconst (v := (0 : Int32)) hx hb dX8_isGood_168 (by decide) ?_
        refine lv_iconst (v := (0 : Int32)) hx hb dX8_isGood_169 (by decide) ?_
        refine lv_iconst (v := (4 : Int32)) hx hb dX8_isGood_170 (by decide) ?_
        obtain ⟨v_4, σ_5, hc_6, h⟩ := kb_ok h
        refine kci (krunV (As := [.int (0 : Int32), .int (0 : Int32), .int (4 : Int32)]) C hP (c_X8_isIn E C.1 F σ (0 : Int32) (0 : Int32) (4 : Int32) hc_6) w_764 kv_X8_isIn ⟨Nat.le_of_ble_eq_true rfl, Nat.le_of_ble_eq_true rfl⟩ (rc_27 C hP) rfl hl.1 rfl (Nat.le_of_ble_eq_true rfl) dX8_isGood_171) hS (fun H locs hP hS => ?_)
        refine lv_if_eq (tgt := 231) hx hb dX8_isGood_174 (by decide) (fun c_7 => ?_) (fun c_7 => ?_)
        · have h := k_t c_7 h
          refine lv_iconst (v := (0 : Int32)) hx hb dX8_isGood_231 (by decide) ?_
          obtain ⟨rfl, rfl⟩ := k_inj h
          exact krz C hS hP (by decide) dX8_isGood_232
        · have h := k_f c_7 h
          refine lv_aload_n hx hb dX8_isGood_177 rfl (lv_at hl 0 rfl) ?_
          refine lv_iconst (v := (1 : Int32)) hx hb dX8_isGood_178 (by decide) ?_
          refine lv_iconst (v := (0 : Int32)) hx hb dX8_isGood_179 (by decide) ?_
          refine lv_iconst (v := (3 : Int32)) hx hb dX8_isGood_180 (by decide) ?_
          obtain ⟨v_8, σ_9, hc_10, h⟩ := kb_ok h
          refine kci (krunV (As := [.int (1 : Int32), .int (0 : Int32), .int (3 : Int32)]) C hP (c_X8_isIn E C.1 F σ_5 (1 : Int32) (0 : Int32) (3 : Int32) hc_10) w_764 kv_X8_isIn ⟨Nat.le_of_ble_eq_true rfl, Nat.le_of_ble_eq_true rfl⟩ (rc_27 C hP) rfl hl.1 rfl (Nat.le_of_ble_eq_true rfl) dX8_isGood_181) hS (fun H locs hP hS => ?_)
          refine lv_if_eq (tgt := 231) hx hb dX8_isGood_184 (by decide) (fun c_11 => ?_) (fun c_11 => ?_)
          · have h := k_t c_11 h
            refine lv_iconst (v := (0 : Int32)) hx hb dX8_isGood_231 (by decide) ?_
            obtain ⟨rfl, rfl⟩ := k_inj h
            exact krz C hS hP (by decide) dX8_isGood_232
          · have h := k_f c_11 h
            refine lv_aload_n hx hb dX8_isGood_187 rfl (lv_at hl 0 rfl) ?_
            refine lv_iconst (v := (2 : Int32)) hx hb dX8_isGood_188 (by decide) ?_
            refine lv_iconst (v := (1 : Int32)) hx hb dX8_isGood_189 (by decide) ?_
            refine lv_bipush (v := (99 : Int32)) hx hb dX8_isGood_190 (by decide) ?_
            obtain ⟨v_12, σ_13, hc_14, h⟩ := kb_ok h
            refine kci (krunV (As := [.int (2 : Int32), .int (1 : Int32), .int (99 : Int32)]) C hP (c_X8_isIn E C.1 F σ_9 (2 : Int32) (1 : Int32) (99 : Int32) hc_14) w_764 kv_X8_isIn ⟨Nat.le_of_ble_eq_true rfl, Nat.le_of_ble_eq_true rfl⟩ (rc_27 C hP) rfl hl.1 rfl (Nat.le_of_ble_eq_true rfl) dX8_isGood_192) hS (fun H locs hP hS => ?_)
            refine lv_if_eq (tgt := 231) hx hb dX8_isGood_195 (by decide) (fun c_15 => ?_) (fun c_15 => ?_)
            · have h := k_t c_15 h
              refine lv_iconst (v := (0 : Int32)) hx hb dX8_isGood_231 (by decide) ?_
              obtain ⟨rfl, rfl⟩ := k_inj h
              exact krz C hS hP (by decide) dX8_isGood_232
            · have h := k_f c_15 h
              refine lv_aload_n hx hb dX8_isGood_198 rfl (lv_at hl 0 rfl) ?_
              refine lv_iconst (v := (3 : Int32)) hx hb dX8_isGood_199 (by decide) ?_
              refine lv_iconst (v := (0 : Int32)) hx hb dX8_isGood_200 (by decide) ?_
              refine lv_bipush (v := (99 : Int32)) hx hb dX8_isGood_201 (by decide) ?_
              obtain ⟨v_16, σ_17, hc_18, h⟩ := kb_ok h
              refine kci (krunV (As := [.int (3 : Int32), .int (0 : Int32), .int (99 : Int32)]) C hP (c_X8_isIn E C.1 F σ_13 (3 : Int32) (0 : Int32) (99 : Int32) hc_18) w_764 kv_X8_isIn ⟨Nat.le_of_ble_eq_true rfl, Nat.le_of_ble_eq_true rfl⟩ (rc_27 C hP) rfl hl.1 rfl (Nat.le_of_ble_eq_true rfl) dX8_isGood_203) hS (fun H locs hP hS => ?_)
              refine lv_if_eq (tgt := 231) hx hb dX8_isGood_206 (by decide) (fun c_19 => ?_) (fun c_19 => ?_)
              · have h := k_t c_19 h
                refine lv_iconst (v := (0 : Int32)) hx hb dX8_isGood_231 (by decide) ?_
                obtain ⟨rfl, rfl⟩ := k_inj h
                exact krz C hS hP (by decide) dX8_isGood_232
              · have h := k_f c_19 h
                refine lv_aload_n hx hb dX8_isGood_209 rfl (lv_at hl 0 rfl) ?_
                refine lv_iconst (v := (4 : Int32)) hx hb dX8_isGood_210 (by decide) ?_
                refine lv_iconst (v := (0 : Int32)) hx hb dX8_isGood_211 (by decide) ?_
                refine lv_bipush (v := (99 : Int32)) hx hb dX8_isGood_212 (by decide) ?_
                obtain ⟨v_20, σ_21, hc_22, h⟩ := kb_ok h
                refine kci (krunV (As := [.int (4 : Int32), .int (0 : Int32), .int (99 : Int32)]) C hP (c_X8_isIn E C.1 F σ_17 (4 : Int32) (0 : Int32) (99 : Int32) hc_22) w_764 kv_X8_isIn ⟨Nat.le_of_ble_eq_true rfl, Nat.le_of_ble_eq_true rfl⟩ (rc_27 C hP) rfl hl.1 rfl (Nat.le_of_ble_eq_true rfl) dX8_isGood_214) hS (fun H locs hP hS => ?_)
                refine lv_if_eq (tgt := 231) hx hb dX8_isGood_217 (by decide) (fun c_23 => ?_) (fun c_23 => ?_)
                · have h := k_t c_23 h
                  refine lv_iconst (v := (0 : Int32)) hx hb dX8_isGood_231 (by decide) ?_
                  obtain ⟨rfl, rfl⟩ := k_inj h
                  exact krz C hS hP (by decide) dX8_isGood_232
                · have h := k_f c_23 h
                  refine lv_aload_n hx hb dX8_isGood_220 rfl (lv_at hl 0 rfl) ?_
                  refine gf_27_4 C hP w_679 dX8_isGood_221 ?_
                  refine lv_iconst (v := (1 : Int32)) hx hb dX8_isGood_224 (by decide) ?_
                  refine al_30 C hP (v := (kA σ_21 2 1)) rfl (by unfold vp_in; decide) dX8_isGood_225 ?_
                  refine lv_bipush (v := (6 : Int32)) hx hb dX8_isGood_226 (by decide) ?_
                  refine lv_icmp_ne (tgt := 233) hx hb dX8_isGood_228 (by decide) (fun c_24 => ?_) (fun c_24 => ?_)
                  · have h := k_f c_24 h
                    refine lv_iconst (v := (0 : Int32)) hx hb dX8_isGood_233 (by decide) ?_
                    refine lv_istore_n (lv' := [(2, .int (0 : Int32)), (0, .ref (eA E 27)), (1, .int x1)]) hx hb dX8_isGood_234 rfl hl (by decide) rfl (fun ls hl => ?_)
                    exact wf_X8_isGood_235 C F σ_21 (0 : Int32) h H locs hP hS ls (lv_sub hl [1, 0] rfl)
                  · have h := k_t c_24 h
                    refine lv_iconst (v := (0 : Int32)) hx hb dX8_isGood_231 (by decide) ?_
                    obtain ⟨rfl, rfl⟩ := k_inj h
                    exact krz C hS hP (by decide) dX8_isGood_232
      · have h := k_t c_3 h
        refine lv_aload_n hx hb dX8_isGood_145 rfl (lv_at hl 0 rfl) ?_
        refine gf_27_3 C hP w_678 dX8_isGood_146 ?_
        refine lv_bipush (v := (11 : Int32)) hx hb dX8_isGood_149 (by decide) ?_
        refine lv_aload_n hx hb dX8_isGood_151 rfl (lv_at hl 0 rfl) ?_
        refine gf_27_17 C hP w_692 dX8_isGood_152 ?_
        refine lv_iconst (v := (0 : Int32)) hx hb dX8_isGood_155 (by decide) ?_
        refine al_38 C hP (v := (kA σ 8 0)) rfl (by unfold vp_in; decide) dX8_isGood_156 ?_
        refine as_29 C hP hS (σ2 := (jA σ 1 11 (kA σ 8 0))) rfl (by unfold vp_in; decide) dX8_isGood_157 (fun H locs hP hS => ?_)
        refine lv_aload_n hx hb dX8_isGood_158 rfl (lv_at hl 0 rfl) ?_
        refine lv_iconst (v := (0 : Int32)) hx hb dX8_isGood_159 (by decide) ?_
        refine lv_iconst (v := (0 : Int32)) hx hb dX8_isGood_160 (by decide) ?_
        refine lv_bipush (v := (99 : Int32)) hx hb dX8_isGood_161 (by decide) ?_
        obtain ⟨v_25, σ_26, hc_27, h⟩ := kb_ok h
        refine kci (krunV (As := [.int (0 : Int32), .int (0 : Int32), .int (99 : Int32)]) C hP (c_X8_isIn E C.1 F (jA σ 1 11 (kA σ 8 0)) (0 : Int32) (0 : Int32) (99 : Int32) hc_27) w_764 kv_X8_isIn ⟨Nat.le_of_ble_eq_true rfl, Nat.le_of_ble_eq_true rfl⟩ (rc_27 C hP) rfl hl.1 rfl (Nat.le_of_ble_eq_true rfl) dX8_isGood_163) hS (fun H locs hP hS => ?_)
        obtain ⟨n_28, h⟩ := k_yes h
        obtain ⟨rfl, rfl⟩ := k_inj h
        exact krz C hS hP n_28 dX8_isGood_166
    · have h := k_t c_2 h
      refine lv_aload_n hx hb dX8_isGood_116 rfl (lv_at hl 0 rfl) ?_
      refine gf_27_3 C hP w_678 dX8_isGood_117 ?_
      refine lv_bipush (v := (10 : Int32)) hx hb dX8_isGood_120 (by decide) ?_
      refine lv_aload_n hx hb dX8_isGood_122 rfl (lv_at hl 0 rfl) ?_
      refine gf_27_17 C hP w_692 dX8_isGood_123 ?_
      refine lv_iconst (v := (0 : Int32)) hx hb dX8_isGood_126 (by decide) ?_
      refine al_38 C hP (v := (kA σ 8 0)) rfl (by unfold vp_in; decide) dX8_isGood_127 ?_
      refine as_29 C hP hS (σ2 := (jA σ 1 10 (kA σ 8 0))) rfl (by unfold vp_in; decide) dX8_isGood_128 (fun H locs hP hS => ?_)
      refine lv_aload_n hx hb dX8_isGood_129 rfl (lv_at hl 0 rfl) ?_
      refine lv_iconst (v := (0 : Int32)) hx hb dX8_isGood_130 (by decide) ?_
      refine lv_iconst (v := (0 : Int32)) hx hb dX8_isGood_131 (by decide) ?_
      refine lv_sipush (v := (999 : Int32)) hx hb dX8_isGood_132 (by decide) ?_
      obtain ⟨v_29, σ_30, hc_31, h⟩ := kb_ok h
      refine kci (krunV (As := [.int (0 : Int32), .int (0 : Int32), .int (999 : Int32)]) C hP (c_X8_isIn E C.1 F (jA σ 1 10 (kA σ 8 0)) (0 : Int32) (0 : Int32) (999 : Int32) hc_31) w_764 kv_X8_isIn ⟨Nat.le_of_ble_eq_true rfl, Nat.le_of_ble_eq_true rfl⟩ (rc_27 C hP) rfl hl.1 rfl (Nat.le_of_ble_eq_true rfl) dX8_isGood_135) hS (fun H locs hP hS => ?_)
      obtain ⟨n_32, h⟩ := k_yes h
      obtain ⟨rfl, rfl⟩ := k_inj h
      exact krz C hS hP n_32 dX8_isGood_138
  · have h := k_t c_1 h
    refine lv_iconst (v := (0 : Int32)) hx hb dX8_isGood_6 (by decide) ?_
    refine lv_istore_n (lv' := [(2, .int (0 : Int32)), (0, .ref (eA E 27)), (1, .int x1)]) hx hb dX8_isGood_7 rfl hl (by decide) rfl (fun ls hl => ?_)
    exact wf_X8_isGood_8 C F σ (0 : Int32) h H locs hP hS ls (lv_sub hl [1, 0] rfl)
def f_X8_isGood (F : Nat) (σ : kS) (x1 : Int32) : Option (Int32 × kS) := s_X8_isGood_0 F σ x1
set_option maxRecDepth 100000 in
theorem c_X8_isGood (E : kE) (hE : kap E) (F : Nat) (σ : kS) (x1 : Int32) (h : f_X8_isGood F σ x1 = some (r, σr)) : Met l yX8_isGood (kWs yX8_isGood cX8_isGood 3 (some .boolean)) (kR 2 48) (kPre (mP E) E [.ref (eA E 27), .int x1] σ) (kQi (mP E) (inM E) r σr) 0 0 (inM E) :=
  kst hE (by decide +kernel) (Nat.le_of_ble_eq_true rfl) (fun p e s m below meth c ls C hP hl => w_X8_isGood_0 C F σ x1 h s.heap [] hP va_S.rf ls hl)
end

section
variable {p : Program} {l : Launch} {e : Env} {s : State} {m : MethodId} {args : Array Value} {below : List Frame} {meth : Method} {c : Code} {E : kE} {σr : kS}
variable {r : Int32}
def s_X8_number_80 (F : Nat) (σ : kS) (x1 : Int32) (x2 : Int32) : Option (Int32 × kS) :=
  (kb (f_X8_in F σ x2.toInt64 (1 : Int64) (3 : Int64)) fun v_1 σ_2 => (if v_1 = 0 then some ((-1 : Int32), σ_2) else some (x1, σ_2)))
set_option maxRecDepth 100000 in
set_option maxHeartbeats 4000000 in
theorem w_X8_number_80 (C : Cx E p s m args meth c cX8_number 3 RX8 (some .int)) (F : Nat) (σ : kS) (x1 : Int32) (x2 : Int32) (h : s_X8_number_80 F σ x1 x2 = some (r, σr)) (H : Heap) (locs : List Loc) (hP : mP E σ H) (hS : va_S (inM E) s.heap H locs) (ls : Array Slot) (hl : lv_has ls 3 [(1, .int x1), (2, .int x2)]) : W p l e (kR 1 25) s m args below meth c H locs 0 0 (MQ below (kQi (mP E) (inM E) r σr) args s 0 0 (inM E)) (F0 m 80 ls []) := by
  obtain ⟨-, hx, hb, hml, hown, hts, hK, -, -⟩ := id C
  unfold s_X8_number_80 at h
  refine lv_iload_n hx hb dX8_number_80 rfl (lv_at hl 1 rfl) ?_
  refine lv_i2l (v := x2.toInt64) hx hb dX8_number_81 rfl ?_
  refine lv_lconst (v := (1 : Int64)) hx hb dX8_number_82 (by decide) ?_
  refine lv_ldc2 (v := (3 : Int64)) hx hb hown (hts _ w_759) dX8_number_83 ?_
  obtain ⟨v_1, σ_2, hc_3, h⟩ := kb_ok h
  refine kci (krunS (As := [.long x2.toInt64, .long (1 : Int64), .long (3 : Int64)]) C hP (c_X8_in E C.1 F σ x2.toInt64 (1 : Int64) (3 : Int64) hc_3) w_735 kt_X8_in ⟨Nat.le_of_ble_eq_true rfl, Nat.le_of_ble_eq_true rfl⟩ rfl hl.1 rfl (Nat.le_of_ble_eq_true rfl) dX8_number_86) hS (fun H locs hP hS => ?_)
  refine lv_if_eq (tgt := 96) hx hb dX8_number_89 (by decide) (fun c_4 => ?_) (fun c_4 => ?_)
  · have h := k_t c_4 h
    refine lv_iconst (v := (-1 : Int32)) hx hb dX8_number_96 (by decide) ?_
    obtain ⟨rfl, rfl⟩ := k_inj h
    exact kri C hS hP dX8_number_97
  · have h := k_f c_4 h
    refine lv_iload_n hx hb dX8_number_92 rfl (lv_at hl 0 rfl) ?_
    refine lv_goto (tgt := 97) hx hb dX8_number_93 (by decide) ?_
    obtain ⟨rfl, rfl⟩ := k_inj h
    exact kri C hS hP dX8_number_97
def s_X8_number_63 (F : Nat) (rec4 : (kS × Int32 × Int32 → Option (Int32 × kS))) (σ : kS) (x2 : Int32) (y0 : Int32) : Option (Int32 × kS) :=
  rec4 ((jI σ 1 ((kI σ 1) + (1 : Int32))), y0, (x2 + (1 : Int32)))
set_option maxRecDepth 100000 in
set_option maxHeartbeats 4000000 in
theorem w_X8_number_63 (C : Cx E p s m args meth c cX8_number 3 RX8 (some .int)) (F : Nat) (rec4 : (kS × Int32 × Int32 → Option (Int32 × kS))) (hrec4 : ∀ (σ : kS) (x1 : Int32) (x2 : Int32), rec4 (σ, x1, x2) = some (r, σr) → ∀ (H : Heap) (locs : List Loc), mP E σ H → va_S (inM E) s.heap H locs → ∀ (ls : Array Slot), lv_has ls 3 [(0, .ref (eA E 27)), (1, .int x1), (2, .int x2)] → W p l e (kR 1 25) s m args below meth c H locs 0 0 (MQ below (kQi (mP E) (inM E) r σr) args s 0 0 (inM E)) (F0 m 4 ls [])) (σ : kS) (x2 : Int32) (y0 : Int32) (h : s_X8_number_63 F rec4 σ x2 y0 = some (r, σr)) (H : Heap) (locs : List Loc) (hP : mP E σ H) (hS : va_S (inM E) s.heap H locs) (ls : Array Slot) (hl : lv_has ls 3 [(0, .ref (eA E 27)), (2, .int x2)]) : W p l e (kR 1 25) s m args below meth c H locs 0 0 (MQ below (kQi (mP E) (inM E) r σr) args s 0 0 (inM E)) (F0 m 63 ls [.int y0]) := by
  obtain ⟨-, hx, hb, hml, hown, hts, hK, -, -⟩ := id C
  unfold s_X8_number_63 at h
  refine lv_istore_n (lv' := [(1, .int y0), (0, .ref (eA E 27)), (2, .int x2)]) hx hb dX8_number_63 rfl hl (by decide) rfl (fun ls hl => ?_)
  refine lv_iinc (v := (x2 + (1 : Int32))) (lv' := [(2, .int (x2 + (1 : Int32))), (1, .int y0), (0, .ref (eA E 27))]) hx hb dX8_number_64 hl (k := 2) rfl rfl (by decide) rfl (fun ls hl => ?_)
  refine lv_aload_n hx hb dX8_number_67 rfl (lv_at hl 2 rfl) ?_
  refine lv_dup hx hb dX8_number_68 rfl ?_
  refine gf_27_2 C hP (v := (kI σ 1)) rfl w_677 dX8_number_69 ?_
  refine lv_iconst (v := (1 : Int32)) hx hb dX8_number_72 (by decide) ?_
  refine lv_iadd hx hb dX8_number_73 ?_
  refine pf_27_2 C hP hS w_677 dX8_number_74 (fun H locs hP hS => ?_)
  refine lv_goto (tgt := 4) hx hb dX8_number_77 (by decide) ?_
  exact hrec4 (jI σ 1 ((kI σ 1) + (1 : Int32))) y0 (x2 + (1 : Int32)) h H locs hP hS ls (lv_sub hl [2, 1, 0] rfl)
def s_X8_number_4 (F : Nat) (rec4 : (kS × Int32 × Int32 → Option (Int32 × kS))) (σ : kS) (x1 : Int32) (x2 : Int32) : Option (Int32 × kS) :=
  (if (kI σ 0) ≤ (kI σ 1) then s_X8_number_80 F σ x1 x2 else (if (kI σ 1) < 0 ∨ 400 ≤ (kI σ 1).toNatClampNeg then none else (kb (f_X8_in F σ (kA σ 0 (kI σ 1).toNatClampNeg).toInt64 (48 : Int64) (57 : Int64)) fun v_3 σ_4 => (if v_3 = 0 then s_X8_number_80 F σ_4 x1 x2 else (if (3 : Int32) ≤ x2 then s_X8_number_63 F rec4 σ_4 x2 x1 else (if (kI σ_4 1) < 0 ∨ 400 ≤ (kI σ_4 1).toNatClampNeg then none else s_X8_number_63 F rec4 σ_4 x2 ((((10 : Int32) * x1) + (kA σ_4 0 (kI σ_4 1).toNatClampNeg)) - (48 : Int32))))))))
set_option maxRecDepth 100000 in
set_option maxHeartbeats 4000000 in
theorem w_X8_number_4 (C : Cx E p s m args meth c cX8_number 3 RX8 (some .int)) (F : Nat) (rec4 : (kS × Int32 × Int32 → Option (Int32 × kS))) (hrec4 : ∀ (σ : kS) (x1 : Int32) (x2 : Int32), rec4 (σ, x1, x2) = some (r, σr) → ∀ (H : Heap) (locs : List Loc), mP E σ H → va_S (inM E) s.heap H locs → ∀ (ls : Array Slot), lv_has ls 3 [(0, .ref (eA E 27)), (1, .int x1), (2, .int x2)] → W p l e (kR 1 25) s m args below meth c H locs 0 0 (MQ below (kQi (mP E) (inM E) r σr) args s 0 0 (inM E)) (F0 m 4 ls [])) (σ : kS) (x1 : Int32) (x2 : Int32) (h : s_X8_number_4 F rec4 σ x1 x2 = some (r, σr)) (H : Heap) (locs : List Loc) (hP : mP E σ H) (hS : va_S (inM E) s.heap H locs) (ls : Array Slot) (hl : lv_has ls 3 [(0, .ref (eA E 27)), (1, .int x1), (2, .int x2)]) : W p l e (kR 1 25) s m args below meth c H locs 0 0 (MQ below (kQi (mP E) (inM E) r σr) args s 0 0 (inM E)) (F0 m 4 ls []) := by
  obtain ⟨-, hx, hb, hml, hown, hts, hK, -, -⟩ := id C
  unfold s_X8_number_4 at h
  refine lv_aload_n hx hb dX8_number_4 rfl (lv_at hl 0 rfl) ?_
  refine gf_27_2 C hP (v := (kI σ 1)) rfl w_677 dX8_number_5 ?_
  refine lv_aload_n hx hb dX8_number_8 rfl (lv_at hl 0 rfl) ?_
  refine gf_27_0 C hP (v := (kI σ 0)) rfl w_675 dX8_number_9 ?_
  refine lv_icmp_ge (tgt := 80) hx hb dX8_number_12 (by decide) (fun c_1 => ?_) (fun c_1 => ?_)
  · have h := k_t c_1 h
    exact w_X8_number_80 C F σ x1 x2 h H locs hP hS ls (lv_sub hl [1, 2] rfl)
  · have h := k_f c_1 h
    refine lv_aload_n hx hb dX8_number_15 rfl (lv_at hl 0 rfl) ?_
    refine gf_27_1 C hP w_676 dX8_number_16 ?_
    refine lv_aload_n hx hb dX8_number_19 rfl (lv_at hl 0 rfl) ?_
    refine gf_27_2 C hP (v := (kI σ 1)) rfl w_677 dX8_number_20 ?_
    obtain ⟨n_2, h⟩ := k_no h
    refine al_28 C hP (v := (kA σ 0 (kI σ 1).toNatClampNeg)) rfl n_2 dX8_number_23 ?_
    refine lv_i2l (v := (kA σ 0 (kI σ 1).toNatClampNeg).toInt64) hx hb dX8_number_24 rfl ?_
    refine lv_ldc2 (v := (48 : Int64)) hx hb hown (hts _ w_757) dX8_number_25 ?_
    refine lv_ldc2 (v := (57 : Int64)) hx hb hown (hts _ w_758) dX8_number_28 ?_
    obtain ⟨v_3, σ_4, hc_5, h⟩ := kb_ok h
    refine kci (krunS (As := [.long (kA σ 0 (kI σ 1).toNatClampNeg).toInt64, .long (48 : Int64), .long (57 : Int64)]) C hP (c_X8_in E C.1 F σ (kA σ 0 (kI σ 1).toNatClampNeg).toInt64 (48 : Int64) (57 : Int64) hc_5) w_735 kt_X8_in ⟨Nat.le_of_ble_eq_true rfl, Nat.le_of_ble_eq_true rfl⟩ rfl hl.1 rfl (Nat.le_of_ble_eq_true rfl) dX8_number_31) hS (fun H locs hP hS => ?_)
    refine lv_if_eq (tgt := 80) hx hb dX8_number_34 (by decide) (fun c_6 => ?_) (fun c_6 => ?_)
    · have h := k_t c_6 h
      exact w_X8_number_80 C F σ_4 x1 x2 h H locs hP hS ls (lv_sub hl [1, 2] rfl)
    · have h := k_f c_6 h
      refine lv_iload_n hx hb dX8_number_37 rfl (lv_at hl 2 rfl) ?_
      refine lv_iconst (v := (3 : Int32)) hx hb dX8_number_38 (by decide) ?_
      refine lv_icmp_ge (tgt := 62) hx hb dX8_number_39 (by decide) (fun c_7 => ?_) (fun c_7 => ?_)
      · have h := k_t c_7 h
        refine lv_iload_n hx hb dX8_number_62 rfl (lv_at hl 1 rfl) ?_
        exact w_X8_number_63 C F rec4 hrec4 σ_4 x2 x1 h H locs hP hS ls (lv_sub hl [0, 2] rfl)
      · have h := k_f c_7 h
        refine lv_bipush (v := (10 : Int32)) hx hb dX8_number_42 (by decide) ?_
        refine lv_iload_n hx hb dX8_number_44 rfl (lv_at hl 1 rfl) ?_
        refine lv_imul hx hb dX8_number_45 ?_
        refine lv_aload_n hx hb dX8_number_46 rfl (lv_at hl 0 rfl) ?_
        refine gf_27_1 C hP w_676 dX8_number_47 ?_
        refine lv_aload_n hx hb dX8_number_50 rfl (lv_at hl 0 rfl) ?_
        refine gf_27_2 C hP (v := (kI σ_4 1)) rfl w_677 dX8_number_51 ?_
        obtain ⟨n_8, h⟩ := k_no h
        refine al_28 C hP (v := (kA σ_4 0 (kI σ_4 1).toNatClampNeg)) rfl n_8 dX8_number_54 ?_
        refine lv_iadd hx hb dX8_number_55 ?_
        refine lv_bipush (v := (48 : Int32)) hx hb dX8_number_56 (by decide) ?_
        refine lv_isub hx hb dX8_number_58 ?_
        refine lv_goto (tgt := 63) hx hb dX8_number_59 (by decide) ?_
        exact w_X8_number_63 C F rec4 hrec4 σ_4 x2 ((((10 : Int32) * x1) + (kA σ_4 0 (kI σ_4 1).toNatClampNeg)) - (48 : Int32)) h H locs hP hS ls (lv_sub hl [0, 2] rfl)
def f_X8_number_4 (F : Nat) : kS × Int32 × Int32 → Option (Int32 × kS) := itr (fun rec4 q => s_X8_number_4 F rec4 q.1 q.2.1 q.2.2) F
theorem wf_X8_number_4 (C : Cx E p s m args meth c cX8_number 3 RX8 (some .int)) (F : Nat) (σ : kS) (x1 : Int32) (x2 : Int32) (h : f_X8_number_4 F (σ, x1, x2) = some (r, σr)) (H : Heap) (locs : List Loc) (hP : mP E σ H) (hS : va_S (inM E) s.heap H locs) (ls : Array Slot) (hl : lv_has ls 3 [(0, .ref (eA E 27)), (1, .int x1), (2, .int x2)]) : W p l e (kR 1 25) s m args below meth c H locs 0 0 (MQ below (kQi (mP E) (inM E) r σr) args s 0 0 (inM E)) (F0 m 4 ls []) :=
  itr_ok (r := (r, σr)) (G := fun q => ∀ (H : Heap) (locs : List Loc), mP E q.1 H → va_S (inM E) s.heap H locs → ∀ (ls : Array Slot), lv_has ls 3 [(0, .ref (eA E 27)), (1, .int (q.2.1)), (2, .int (q.2.2))] → W p l e (kR 1 25) s m args below meth c H locs 0 0 (MQ below (kQi (mP E) (inM E) r σr) args s 0 0 (inM E)) (F0 m 4 ls [])) (fun rec4 hrec4 q h => w_X8_number_4 C F rec4 (fun σ x1 x2 => hrec4 (σ, x1, x2)) q.1 q.2.1 q.2.2 h) F (σ, x1, x2) h H locs hP hS ls hl
def s_X8_number_0 (F : Nat) (σ : kS) : Option (Int32 × kS) :=
  f_X8_number_4 F (σ, (0 : Int32), (0 : Int32))
set_option maxRecDepth 100000 in
set_option maxHeartbeats 4000000 in
theorem w_X8_number_0 (C : Cx E p s m args meth c cX8_number 3 RX8 (some .int)) (F : Nat) (σ : kS) (h : s_X8_number_0 F σ = some (r, σr)) (H : Heap) (locs : List Loc) (hP : mP E σ H) (hS : va_S (inM E) s.heap H locs) (ls : Array Slot) (hl : lv_has ls 3 [(0, .ref (eA E 27))]) : W p l e (kR 1 25) s m args below meth c H locs 0 0 (MQ below (kQi (mP E) (inM E) r σr) args s 0 0 (inM E)) (F0 m 0 ls []) := by
  obtain ⟨-, hx, hb, hml, hown, hts, hK, -, -⟩ := id C
  unfold s_X8_number_0 at h
  refine lv_iconst (v := (0 : Int32)) hx hb dX8_number_0 (by decide) ?_
  refine lv_istore_n (lv' := [(1, .int (0 : Int32)), (0, .ref (eA E 27))]) hx hb dX8_number_1 rfl hl (by decide) rfl (fun ls hl => ?_)
  refine lv_iconst (v := (0 : Int32)) hx hb dX8_number_2 (by decide) ?_
  refine lv_istore_n (lv' := [(2, .int (0 : Int32)), (1, .int (0 : Int32)), (0, .ref (eA E 27))]) hx hb dX8_number_3 rfl hl (by decide) rfl (fun ls hl => ?_)
  exact wf_X8_number_4 C F σ (0 : Int32) (0 : Int32) h H locs hP hS ls (lv_sub hl [2, 1, 0] rfl)
def f_X8_number (F : Nat) (σ : kS) : Option (Int32 × kS) := s_X8_number_0 F σ
set_option maxRecDepth 100000 in
theorem c_X8_number (E : kE) (hE : kap E) (F : Nat) (σ : kS) (h : f_X8_number F σ = some (r, σr)) : Met l yX8_number (kWs yX8_number cX8_number 3 (some .int)) (kR 1 25) (kPre (mP E) E [.ref (eA E 27)] σ) (kQi (mP E) (inM E) r σr) 0 0 (inM E) :=
  kst hE (by decide +kernel) (Nat.le_of_ble_eq_true rfl) (fun p e s m below meth c ls C hP hl => w_X8_number_0 C F σ h s.heap [] hP va_S.rf ls hl)
end

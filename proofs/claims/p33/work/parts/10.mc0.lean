section
variable {p : Program} {l : Launch} {e : Env} {s : State} {m : MethodId} {args : Array Value} {below : List Frame} {meth : Method} {c : Code} {E : kE} {σr : kS}
variable {r : Int32}
def s_X4_append_21 (F : Nat) (rec21 : (kS × Int64 × Int32 → Option (Int32 × kS))) (σ : kS) (x2 : Int64) (x4 : Int32) : Option (Int32 × kS) :=
  (if x4 < 0 then some ((1 : Int32), σ) else (if (kI σ 0) < 0 ∨ 400 ≤ (kI σ 0).toNatClampNeg then none else rec21 ((jI (jA σ 0 (kI σ 0).toNatClampNeg ((x2.toUInt64 >>> (((8 : Int32) * x4).toInt64.toUInt64 &&& Int64.toUInt64 63)).toInt64).toInt32.toInt8.toInt32.toInt8.toInt32) 0 ((kI σ 0) + (1 : Int32))), x2, (x4 + (-1 : Int32)))))
set_option maxRecDepth 100000 in
set_option maxHeartbeats 4000000 in
theorem w_X4_append_21 (C : Cx E p s m args meth c cX4_append 5 RX4 (some .boolean)) (F : Nat) (rec21 : (kS × Int64 × Int32 → Option (Int32 × kS))) (hrec21 : ∀ (σ : kS) (x2 : Int64) (x4 : Int32), rec21 (σ, x2, x4) = some (r, σr) → ∀ (H : Heap) (locs : List Loc), cP E σ H → va_S (inC E) s.heap H locs → ∀ (ls : Array Slot), lv_has ls 5 [(0, .ref (eA E 1)), (2, .long x2), (4, .int x4)] → W p l e (kR 0 0) s m args below meth c H locs 0 0 (MQ below (kQi (cP E) (inC E) r σr) args s 0 0 (inC E)) (F0 m 21 ls [])) (σ : kS) (x2 : Int64) (x4 : Int32) (h : s_X4_append_21 F rec21 σ x2 x4 = some (r, σr)) (H : Heap) (locs : List Loc) (hP : cP E σ H) (hS : va_S (inC E) s.heap H locs) (ls : Array Slot) (hl : lv_has ls 5 [(0, .ref (eA E 1)), (2, .long x2), (4, .int x4)]) : W p l e (kR 0 0) s m args below meth c H locs 0 0 (MQ below (kQi (cP E) (inC E) r σr) args s 0 0 (inC E)) (F0 m 21 ls []) := by
  obtain ⟨-, hx, hb, hml, hown, hts, hK, -, -⟩ := id C
  unfold s_X4_append_21 at h
  refine lv_iload hx hb dX4_append_21 (lv_at hl 2 rfl) ?_
  refine lv_if_lt (tgt := 60) hx hb dX4_append_23 (by decide) (fun c_1 => ?_) (fun c_1 => ?_)
  · have h := k_t c_1 h
    refine lv_iconst (v := (1 : Int32)) hx hb dX4_append_60 (by decide) ?_
    obtain ⟨rfl, rfl⟩ := k_inj h
    exact krz C hS hP (by decide) dX4_append_61
  · have h := k_f c_1 h
    refine lv_aload_n hx hb dX4_append_26 rfl (lv_at hl 0 rfl) ?_
    refine gf_1_0 C hP w_63 dX4_append_27 ?_
    refine lv_aload_n hx hb dX4_append_30 rfl (lv_at hl 0 rfl) ?_
    refine gf_1_2 C hP (v := (kI σ 0)) rfl w_65 dX4_append_31 ?_
    refine lv_lload_n hx hb dX4_append_34 rfl (lv_at hl 1 rfl) ?_
    refine lv_bipush (v := (8 : Int32)) hx hb dX4_append_35 (by decide) ?_
    refine lv_iload hx hb dX4_append_37 (lv_at hl 2 rfl) ?_
    refine lv_imul hx hb dX4_append_39 ?_
    refine lv_lushr (v := ((x2.toUInt64 >>> (((8 : Int32) * x4).toInt64.toUInt64 &&& Int64.toUInt64 63)).toInt64)) hx hb dX4_append_40 rfl ?_
    refine lv_l2i (v := ((x2.toUInt64 >>> (((8 : Int32) * x4).toInt64.toUInt64 &&& Int64.toUInt64 63)).toInt64).toInt32) hx hb dX4_append_41 rfl ?_
    refine lv_i2b (v := ((x2.toUInt64 >>> (((8 : Int32) * x4).toInt64.toUInt64 &&& Int64.toUInt64 63)).toInt64).toInt32.toInt8.toInt32) hx hb dX4_append_42 rfl ?_
    obtain ⟨n_2, h⟩ := k_no h
    refine as_2 C hP hS (σ2 := (jA σ 0 (kI σ 0).toNatClampNeg ((x2.toUInt64 >>> (((8 : Int32) * x4).toInt64.toUInt64 &&& Int64.toUInt64 63)).toInt64).toInt32.toInt8.toInt32.toInt8.toInt32)) rfl n_2 dX4_append_43 (fun H locs hP hS => ?_)
    refine lv_aload_n hx hb dX4_append_44 rfl (lv_at hl 0 rfl) ?_
    refine lv_dup hx hb dX4_append_45 rfl ?_
    refine gf_1_2 C hP (v := (kI σ 0)) rfl w_65 dX4_append_46 ?_
    refine lv_iconst (v := (1 : Int32)) hx hb dX4_append_49 (by decide) ?_
    refine lv_iadd hx hb dX4_append_50 ?_
    refine pf_1_2 C hP hS w_65 dX4_append_51 (fun H locs hP hS => ?_)
    refine lv_iinc (v := (x4 + (-1 : Int32))) (lv' := [(4, .int (x4 + (-1 : Int32))), (0, .ref (eA E 1)), (2, .long x2)]) hx hb dX4_append_54 hl (k := 2) rfl rfl (by decide) rfl (fun ls hl => ?_)
    refine lv_goto (tgt := 21) hx hb dX4_append_57 (by decide) ?_
    exact hrec21 (jI (jA σ 0 (kI σ 0).toNatClampNeg ((x2.toUInt64 >>> (((8 : Int32) * x4).toInt64.toUInt64 &&& Int64.toUInt64 63)).toInt64).toInt32.toInt8.toInt32.toInt8.toInt32) 0 ((kI σ 0) + (1 : Int32))) x2 (x4 + (-1 : Int32)) h H locs hP hS ls (lv_sub hl [1, 2, 0] rfl)
def f_X4_append_21 (F : Nat) : kS × Int64 × Int32 → Option (Int32 × kS) := itr (fun rec21 q => s_X4_append_21 F rec21 q.1 q.2.1 q.2.2) F
theorem wf_X4_append_21 (C : Cx E p s m args meth c cX4_append 5 RX4 (some .boolean)) (F : Nat) (σ : kS) (x2 : Int64) (x4 : Int32) (h : f_X4_append_21 F (σ, x2, x4) = some (r, σr)) (H : Heap) (locs : List Loc) (hP : cP E σ H) (hS : va_S (inC E) s.heap H locs) (ls : Array Slot) (hl : lv_has ls 5 [(0, .ref (eA E 1)), (2, .long x2), (4, .int x4)]) : W p l e (kR 0 0) s m args below meth c H locs 0 0 (MQ below (kQi (cP E) (inC E) r σr) args s 0 0 (inC E)) (F0 m 21 ls []) :=
  itr_ok (r := (r, σr)) (G := fun q => ∀ (H : Heap) (locs : List Loc), cP E q.1 H → va_S (inC E) s.heap H locs → ∀ (ls : Array Slot), lv_has ls 5 [(0, .ref (eA E 1)), (2, .long (q.2.1)), (4, .int (q.2.2))] → W p l e (kR 0 0) s m args below meth c H locs 0 0 (MQ below (kQi (cP E) (inC E) r σr) args s 0 0 (inC E)) (F0 m 21 ls [])) (fun rec21 hrec21 q h => w_X4_append_21 C F rec21 (fun σ x2 x4 => hrec21 (σ, x2, x4)) q.1 q.2.1 q.2.2 h) F (σ, x2, x4) h H locs hP hS ls hl
def s_X4_append_0 (F : Nat) (σ : kS) (x1 : Int32) (x2 : Int64) : Option (Int32 × kS) :=
  (if ((kI σ 0) + x1) ≤ (400 : Int32) then f_X4_append_21 F (σ, x2, (x1 - (1 : Int32))) else some ((0 : Int32), σ))
set_option maxRecDepth 100000 in
set_option maxHeartbeats 4000000 in
theorem w_X4_append_0 (C : Cx E p s m args meth c cX4_append 5 RX4 (some .boolean)) (F : Nat) (σ : kS) (x1 : Int32) (x2 : Int64) (h : s_X4_append_0 F σ x1 x2 = some (r, σr)) (H : Heap) (locs : List Loc) (hP : cP E σ H) (hS : va_S (inC E) s.heap H locs) (ls : Array Slot) (hl : lv_has ls 5 [(0, .ref (eA E 1)), (1, .int x1), (2, .long x2)]) : W p l e (kR 0 0) s m args below meth c H locs 0 0 (MQ below (kQi (cP E) (inC E) r σr) args s 0 0 (inC E)) (F0 m 0 ls []) := by
  obtain ⟨-, hx, hb, hml, hown, hts, hK, -, -⟩ := id C
  unfold s_X4_append_0 at h
  refine lv_aload_n hx hb dX4_append_0 rfl (lv_at hl 0 rfl) ?_
  refine gf_1_2 C hP (v := (kI σ 0)) rfl w_65 dX4_append_1 ?_
  refine lv_iload_n hx hb dX4_append_4 rfl (lv_at hl 1 rfl) ?_
  refine lv_iadd hx hb dX4_append_5 ?_
  refine lv_aload_n hx hb dX4_append_6 rfl (lv_at hl 0 rfl) ?_
  refine gf_1_0 C hP w_63 dX4_append_7 ?_
  refine an_2 C hP dX4_append_10 ?_
  refine lv_icmp_le (tgt := 16) hx hb dX4_append_11 (by decide) (fun c_1 => ?_) (fun c_1 => ?_)
  · have h := k_t c_1 h
    refine lv_iload_n hx hb dX4_append_16 rfl (lv_at hl 1 rfl) ?_
    refine lv_iconst (v := (1 : Int32)) hx hb dX4_append_17 (by decide) ?_
    refine lv_isub hx hb dX4_append_18 ?_
    refine lv_istore (lv' := [(4, .int (x1 - (1 : Int32))), (0, .ref (eA E 1)), (1, .int x1), (2, .long x2)]) hx hb dX4_append_19 hl (by decide) rfl (fun ls hl => ?_)
    exact wf_X4_append_21 C F σ x2 (x1 - (1 : Int32)) h H locs hP hS ls (lv_sub hl [1, 3, 0] rfl)
  · have h := k_f c_1 h
    refine lv_iconst (v := (0 : Int32)) hx hb dX4_append_14 (by decide) ?_
    obtain ⟨rfl, rfl⟩ := k_inj h
    exact krz C hS hP (by decide) dX4_append_15
def f_X4_append (F : Nat) (σ : kS) (x1 : Int32) (x2 : Int64) : Option (Int32 × kS) := s_X4_append_0 F σ x1 x2
set_option maxRecDepth 100000 in
theorem c_X4_append (E : kE) (hE : kap E) (F : Nat) (σ : kS) (x1 : Int32) (x2 : Int64) (h : f_X4_append F σ x1 x2 = some (r, σr)) : Met l yX4_append (kWs yX4_append cX4_append 5 (some .boolean)) (kR 0 0) (kPre (cP E) E [.ref (eA E 1), .int x1, .long x2] σ) (kQi (cP E) (inC E) r σr) 0 0 (inC E) :=
  kst hE (by decide +kernel) (Nat.le_of_ble_eq_true rfl) (fun p e s m below meth c ls C hP hl => w_X4_append_0 C F σ x1 x2 h s.heap [] hP va_S.rf ls hl)
end

section
variable {p : Program} {l : Launch} {e : Env} {s : State} {m : MethodId} {args : Array Value} {below : List Frame} {meth : Method} {c : Code} {E : kE} {σr : kS}
variable {r : Int32}
def s_X7_write_0 (F : Nat) (σ : kS) (x1 : Int32) (x2 : Int64) : Option (Int32 × kS) :=
  (if x1 < (1 : Int32) then some ((-1 : Int32), σ) else (if x1 ≤ (8 : Int32) then (kb (f_X4_append F σ x1 x2) fun v_3 σ_4 => (if v_3 = 0 then some ((-3 : Int32), σ_4) else some ((kI σ_4 0), σ_4))) else some ((-1 : Int32), σ)))
set_option maxRecDepth 100000 in
set_option maxHeartbeats 4000000 in
theorem w_X7_write_0 (C : Cx E p s m args meth c cX7_write 4 RX7 (some .int)) (F : Nat) (σ : kS) (x1 : Int32) (x2 : Int64) (h : s_X7_write_0 F σ x1 x2 = some (r, σr)) (H : Heap) (locs : List Loc) (hP : cP E σ H) (hS : va_S (inC E) s.heap H locs) (ls : Array Slot) (hl : lv_has ls 4 [(0, .ref (eA E 0)), (1, .int x1), (2, .long x2)]) : W p l e (kR 1 24) s m args below meth c H locs 0 0 (MQ below (kQi (cP E) (inC E) r σr) args s 0 0 (inC E)) (F0 m 0 ls []) := by
  obtain ⟨-, hx, hb, hml, hown, hts, hK, -, -⟩ := id C
  unfold s_X7_write_0 at h
  refine lv_iload_n hx hb dX7_write_0 rfl (lv_at hl 1 rfl) ?_
  refine lv_iconst (v := (1 : Int32)) hx hb dX7_write_1 (by decide) ?_
  refine lv_icmp_lt (tgt := 11) hx hb dX7_write_2 (by decide) (fun c_1 => ?_) (fun c_1 => ?_)
  · have h := k_t c_1 h
    refine lv_iconst (v := (-1 : Int32)) hx hb dX7_write_11 (by decide) ?_
    obtain ⟨rfl, rfl⟩ := k_inj h
    exact kri C hS hP dX7_write_12
  · have h := k_f c_1 h
    refine lv_iload_n hx hb dX7_write_5 rfl (lv_at hl 1 rfl) ?_
    refine lv_bipush (v := (8 : Int32)) hx hb dX7_write_6 (by decide) ?_
    refine lv_icmp_le (tgt := 13) hx hb dX7_write_8 (by decide) (fun c_2 => ?_) (fun c_2 => ?_)
    · have h := k_t c_2 h
      refine lv_aload_n hx hb dX7_write_13 rfl (lv_at hl 0 rfl) ?_
      refine gf_0_0 C hP w_249 dX7_write_14 ?_
      refine lv_iload_n hx hb dX7_write_17 rfl (lv_at hl 1 rfl) ?_
      refine lv_lload_n hx hb dX7_write_18 rfl (lv_at hl 2 rfl) ?_
      obtain ⟨v_3, σ_4, hc_5, h⟩ := kb_ok h
      refine kci (krunV (As := [.int x1, .long x2]) C hP (c_X4_append E C.1 F σ x1 x2 hc_5) w_287 kv_X4_append ⟨Nat.le_of_ble_eq_true rfl, Nat.le_of_ble_eq_true rfl⟩ (rc_1 C hP) rfl hl.1 rfl (Nat.le_of_ble_eq_true rfl) dX7_write_19) hS (fun H locs hP hS => ?_)
      refine lv_if_eq (tgt := 35) hx hb dX7_write_22 (by decide) (fun c_6 => ?_) (fun c_6 => ?_)
      · have h := k_t c_6 h
        refine lv_bipush (v := (-3 : Int32)) hx hb dX7_write_35 (by decide) ?_
        obtain ⟨rfl, rfl⟩ := k_inj h
        exact kri C hS hP dX7_write_37
      · have h := k_f c_6 h
        refine lv_aload_n hx hb dX7_write_25 rfl (lv_at hl 0 rfl) ?_
        refine gf_0_0 C hP w_249 dX7_write_26 ?_
        refine gf_1_2 C hP (v := (kI σ_4 0)) rfl w_66 dX7_write_29 ?_
        refine lv_goto (tgt := 37) hx hb dX7_write_32 (by decide) ?_
        obtain ⟨rfl, rfl⟩ := k_inj h
        exact kri C hS hP dX7_write_37
    · have h := k_f c_2 h
      refine lv_iconst (v := (-1 : Int32)) hx hb dX7_write_11 (by decide) ?_
      obtain ⟨rfl, rfl⟩ := k_inj h
      exact kri C hS hP dX7_write_12
def f_X7_write (F : Nat) (σ : kS) (x1 : Int32) (x2 : Int64) : Option (Int32 × kS) := s_X7_write_0 F σ x1 x2
set_option maxRecDepth 100000 in
theorem c_X7_write (E : kE) (hE : kap E) (F : Nat) (σ : kS) (x1 : Int32) (x2 : Int64) (h : f_X7_write F σ x1 x2 = some (r, σr)) : Met l yX7_write (kWs yX7_write cX7_write 4 (some .int)) (kR 1 24) (kPre (cP E) E [.ref (eA E 0), .int x1, .long x2] σ) (kQi (cP E) (inC E) r σr) 0 0 (inC E) :=
  kst hE (by decide +kernel) (Nat.le_of_ble_eq_true rfl) (fun p e s m below meth c ls C hP hl => w_X7_write_0 C F σ x1 x2 h s.heap [] hP va_S.rf ls hl)
end

section
variable {p : Program} {l : Launch} {e : Env} {s : State} {m : MethodId} {args : Array Value} {below : List Frame} {meth : Method} {c : Code} {E : kE} {σr : kS}
variable {r : Int32}
def s_X7_wipe_0 (F : Nat) (σ : kS) : Option (Int32 × kS) :=
  some ((kI σ 0), (jI σ 0 (0 : Int32)))
set_option maxRecDepth 100000 in
set_option maxHeartbeats 4000000 in
theorem w_X7_wipe_0 (C : Cx E p s m args meth c cX7_wipe 2 RX7 (some .int)) (F : Nat) (σ : kS) (h : s_X7_wipe_0 F σ = some (r, σr)) (H : Heap) (locs : List Loc) (hP : cP E σ H) (hS : va_S (inC E) s.heap H locs) (ls : Array Slot) (hl : lv_has ls 2 [(0, .ref (eA E 0))]) : W p l e (kR 0 0) s m args below meth c H locs 0 0 (MQ below (kQi (cP E) (inC E) r σr) args s 0 0 (inC E)) (F0 m 0 ls []) := by
  obtain ⟨-, hx, hb, hml, hown, hts, hK, -, -⟩ := id C
  unfold s_X7_wipe_0 at h
  refine lv_aload_n hx hb dX7_wipe_0 rfl (lv_at hl 0 rfl) ?_
  refine gf_0_0 C hP w_249 dX7_wipe_1 ?_
  refine gf_1_2 C hP (v := (kI σ 0)) rfl w_66 dX7_wipe_4 ?_
  refine lv_istore_n (lv' := [(1, .int (kI σ 0)), (0, .ref (eA E 0))]) hx hb dX7_wipe_7 rfl hl (by decide) rfl (fun ls hl => ?_)
  refine lv_aload_n hx hb dX7_wipe_8 rfl (lv_at hl 1 rfl) ?_
  refine gf_0_0 C hP w_249 dX7_wipe_9 ?_
  refine lv_iconst (v := (0 : Int32)) hx hb dX7_wipe_12 (by decide) ?_
  refine pf_1_2 C hP hS w_66 dX7_wipe_13 (fun H locs hP hS => ?_)
  refine lv_iload_n hx hb dX7_wipe_16 rfl (lv_at hl 0 rfl) ?_
  obtain ⟨rfl, rfl⟩ := k_inj h
  exact kri C hS hP dX7_wipe_17
def f_X7_wipe (F : Nat) (σ : kS) : Option (Int32 × kS) := s_X7_wipe_0 F σ
set_option maxRecDepth 100000 in
theorem c_X7_wipe (E : kE) (hE : kap E) (F : Nat) (σ : kS) (h : f_X7_wipe F σ = some (r, σr)) : Met l yX7_wipe (kWs yX7_wipe cX7_wipe 2 (some .int)) (kR 0 0) (kPre (cP E) E [.ref (eA E 0)] σ) (kQi (cP E) (inC E) r σr) 0 0 (inC E) :=
  kst hE (by decide +kernel) (Nat.le_of_ble_eq_true rfl) (fun p e s m below meth c ls C hP hl => w_X7_wipe_0 C F σ h s.heap [] hP va_S.rf ls hl)
end

section
variable {p : Program} {l : Launch} {e : Env} {s : State} {m : MethodId} {args : Array Value} {below : List Frame} {meth : Method} {c : Code} {E : kE} {σr : kS}
variable {r : Unit}
def s_X2_clear_0 (F : Nat) (σ : kS) : Option (Unit × kS) :=
  some ((), (jI (jI (jI (jI (jI (jI (jI σ 1 (745 : Int32)) 2 (1 : Int32)) 3 (1 : Int32)) 4 (2 : Int32)) 5 (0 : Int32)) 6 (0 : Int32)) 7 (0 : Int32)))
set_option maxRecDepth 100000 in
set_option maxHeartbeats 4000000 in
theorem w_X2_clear_0 (C : Cx E p s m args meth c cX2_clear 1 RX2 none) (F : Nat) (σ : kS) (h : s_X2_clear_0 F σ = some (r, σr)) (H : Heap) (locs : List Loc) (hP : cP E σ H) (hS : va_S (inC E) s.heap H locs) (ls : Array Slot) (hl : lv_has ls 1 [(0, .ref (eA E 4))]) : W p l e (kR 0 0) s m args below meth c H locs 0 0 (MQ below (kQv (cP E) (inC E) r σr) args s 0 0 (inC E)) (F0 m 0 ls []) := by
  obtain ⟨-, hx, hb, hml, hown, hts, hK, -, -⟩ := id C
  unfold s_X2_clear_0 at h
  refine lv_aload_n hx hb dX2_clear_0 rfl (lv_at hl 0 rfl) ?_
  refine lv_sipush (v := (745 : Int32)) hx hb dX2_clear_1 (by decide) ?_
  refine pf_4_0 C hP hS w_86 dX2_clear_4 (fun H locs hP hS => ?_)
  refine lv_aload_n hx hb dX2_clear_7 rfl (lv_at hl 0 rfl) ?_
  refine lv_iconst (v := (1 : Int32)) hx hb dX2_clear_8 (by decide) ?_
  refine pf_4_1 C hP hS w_87 dX2_clear_9 (fun H locs hP hS => ?_)
  refine lv_aload_n hx hb dX2_clear_12 rfl (lv_at hl 0 rfl) ?_
  refine lv_iconst (v := (1 : Int32)) hx hb dX2_clear_13 (by decide) ?_
  refine pf_4_2 C hP hS w_88 dX2_clear_14 (fun H locs hP hS => ?_)
  refine lv_aload_n hx hb dX2_clear_17 rfl (lv_at hl 0 rfl) ?_
  refine lv_iconst (v := (2 : Int32)) hx hb dX2_clear_18 (by decide) ?_
  refine pf_4_3 C hP hS w_89 dX2_clear_19 (fun H locs hP hS => ?_)
  refine lv_aload_n hx hb dX2_clear_22 rfl (lv_at hl 0 rfl) ?_
  refine lv_iconst (v := (0 : Int32)) hx hb dX2_clear_23 (by decide) ?_
  refine pf_4_4 C hP hS w_90 dX2_clear_24 (fun H locs hP hS => ?_)
  refine lv_aload_n hx hb dX2_clear_27 rfl (lv_at hl 0 rfl) ?_
  refine lv_iconst (v := (0 : Int32)) hx hb dX2_clear_28 (by decide) ?_
  refine pf_4_5 C hP hS w_91 dX2_clear_29 (fun H locs hP hS => ?_)
  refine lv_aload_n hx hb dX2_clear_32 rfl (lv_at hl 0 rfl) ?_
  refine lv_iconst (v := (0 : Int32)) hx hb dX2_clear_33 (by decide) ?_
  refine pf_4_7 C hP hS w_94 dX2_clear_34 (fun H locs hP hS => ?_)
  obtain ⟨rfl, rfl⟩ := k_inj h
  exact krv C hS hP dX2_clear_37
def f_X2_clear (F : Nat) (σ : kS) : Option (Unit × kS) := s_X2_clear_0 F σ
set_option maxRecDepth 100000 in
theorem c_X2_clear (E : kE) (hE : kap E) (F : Nat) (σ : kS) (h : f_X2_clear F σ = some (r, σr)) : Met l yX2_clear (kWs yX2_clear cX2_clear 1 none) (kR 0 0) (kPre (cP E) E [.ref (eA E 4)] σ) (kQv (cP E) (inC E) r σr) 0 0 (inC E) :=
  kst hE (by decide +kernel) (Nat.le_of_ble_eq_true rfl) (fun p e s m below meth c ls C hP hl => w_X2_clear_0 C F σ h s.heap [] hP va_S.rf ls hl)
end

section
variable {p : Program} {l : Launch} {e : Env} {s : State} {m : MethodId} {args : Array Value} {below : List Frame} {meth : Method} {c : Code} {E : kE} {σr : kS}
variable {r : Int32}
def s_X4_byteAt_0 (F : Nat) (σ : kS) (x1 : Int32) : Option (Int32 × kS) :=
  (if x1 < 0 then some ((-1 : Int32), σ) else (if (kI σ 0) ≤ x1 then some ((-1 : Int32), σ) else (if (400 : Int32) ≤ x1 then some ((-1 : Int32), σ) else (if x1 < 0 ∨ 400 ≤ x1.toNatClampNeg then none else some (((kA σ 0 x1.toNatClampNeg) &&& (255 : Int32)), σ)))))
set_option maxRecDepth 100000 in
set_option maxHeartbeats 4000000 in
theorem w_X4_byteAt_0 (C : Cx E p s m args meth c cX4_byteAt 2 RX4 (some .int)) (F : Nat) (σ : kS) (x1 : Int32) (h : s_X4_byteAt_0 F σ x1 = some (r, σr)) (H : Heap) (locs : List Loc) (hP : cP E σ H) (hS : va_S (inC E) s.heap H locs) (ls : Array Slot) (hl : lv_has ls 2 [(0, .ref (eA E 1)), (1, .int x1)]) : W p l e (kR 0 0) s m args below meth c H locs 0 0 (MQ below (kQi (cP E) (inC E) r σr) args s 0 0 (inC E)) (F0 m 0 ls []) := by
  obtain ⟨-, hx, hb, hml, hown, hts, hK, -, -⟩ := id C
  unfold s_X4_byteAt_0 at h
  refine lv_iload_n hx hb dX4_byteAt_0 rfl (lv_at hl 1 rfl) ?_
  refine lv_if_lt (tgt := 34) hx hb dX4_byteAt_1 (by decide) (fun c_1 => ?_) (fun c_1 => ?_)
  · have h := k_t c_1 h
    refine lv_iconst (v := (-1 : Int32)) hx hb dX4_byteAt_34 (by decide) ?_
    obtain ⟨rfl, rfl⟩ := k_inj h
    exact kri C hS hP dX4_byteAt_35
  · have h := k_f c_1 h
    refine lv_iload_n hx hb dX4_byteAt_4 rfl (lv_at hl 1 rfl) ?_
    refine lv_aload_n hx hb dX4_byteAt_5 rfl (lv_at hl 0 rfl) ?_
    refine gf_1_2 C hP (v := (kI σ 0)) rfl w_65 dX4_byteAt_6 ?_
    refine lv_icmp_ge (tgt := 34) hx hb dX4_byteAt_9 (by decide) (fun c_2 => ?_) (fun c_2 => ?_)
    · have h := k_t c_2 h
      refine lv_iconst (v := (-1 : Int32)) hx hb dX4_byteAt_34 (by decide) ?_
      obtain ⟨rfl, rfl⟩ := k_inj h
      exact kri C hS hP dX4_byteAt_35
    · have h := k_f c_2 h
      refine lv_iload_n hx hb dX4_byteAt_12 rfl (lv_at hl 1 rfl) ?_
      refine lv_aload_n hx hb dX4_byteAt_13 rfl (lv_at hl 0 rfl) ?_
      refine gf_1_0 C hP w_63 dX4_byteAt_14 ?_
      refine an_2 C hP dX4_byteAt_17 ?_
      refine lv_icmp_ge (tgt := 34) hx hb dX4_byteAt_18 (by decide) (fun c_3 => ?_) (fun c_3 => ?_)
      · have h := k_t c_3 h
        refine lv_iconst (v := (-1 : Int32)) hx hb dX4_byteAt_34 (by decide) ?_
        obtain ⟨rfl, rfl⟩ := k_inj h
        exact kri C hS hP dX4_byteAt_35
      · have h := k_f c_3 h
        refine lv_aload_n hx hb dX4_byteAt_21 rfl (lv_at hl 0 rfl) ?_
        refine gf_1_0 C hP w_63 dX4_byteAt_22 ?_
        refine lv_iload_n hx hb dX4_byteAt_25 rfl (lv_at hl 1 rfl) ?_
        obtain ⟨n_4, h⟩ := k_no h
        refine al_2 C hP (v := (kA σ 0 x1.toNatClampNeg)) rfl n_4 dX4_byteAt_26 ?_
        refine lv_sipush (v := (255 : Int32)) hx hb dX4_byteAt_27 (by decide) ?_
        refine lv_iand hx hb dX4_byteAt_30 ?_
        refine lv_goto (tgt := 35) hx hb dX4_byteAt_31 (by decide) ?_
        obtain ⟨rfl, rfl⟩ := k_inj h
        exact kri C hS hP dX4_byteAt_35
def f_X4_byteAt (F : Nat) (σ : kS) (x1 : Int32) : Option (Int32 × kS) := s_X4_byteAt_0 F σ x1
set_option maxRecDepth 100000 in
theorem c_X4_byteAt (E : kE) (hE : kap E) (F : Nat) (σ : kS) (x1 : Int32) (h : f_X4_byteAt F σ x1 = some (r, σr)) : Met l yX4_byteAt (kWs yX4_byteAt cX4_byteAt 2 (some .int)) (kR 0 0) (kPre (cP E) E [.ref (eA E 1), .int x1] σ) (kQi (cP E) (inC E) r σr) 0 0 (inC E) :=
  kst hE (by decide +kernel) (Nat.le_of_ble_eq_true rfl) (fun p e s m below meth c ls C hP hl => w_X4_byteAt_0 C F σ x1 h s.heap [] hP va_S.rf ls hl)
end

section
variable {p : Program} {l : Launch} {e : Env} {s : State} {m : MethodId} {args : Array Value} {below : List Frame} {meth : Method} {c : Code} {E : kE} {σr : kS}
variable {r : Int32}
def s_X2_numbersBehind_0 (F : Nat) (σ : kS) (x0 : Int32) : Option (Int32 × kS) :=
  (if x0 = (97 : Int32) then some ((5 : Int32), σ) else (if x0 = (111 : Int32) then some ((1 : Int32), σ) else (if x0 = (115 : Int32) then some ((1 : Int32), σ) else (if x0 = (116 : Int32) then some ((4 : Int32), σ) else some ((0 : Int32), σ)))))
set_option maxRecDepth 100000 in
set_option maxHeartbeats 4000000 in
theorem w_X2_numbersBehind_0 (C : Cx E p s m args meth c cX2_numbersBehind 1 RX2 (some .int)) (F : Nat) (σ : kS) (x0 : Int32) (h : s_X2_numbersBehind_0 F σ x0 = some (r, σr)) (H : Heap) (locs : List Loc) (hP : cP E σ H) (hS : va_S (inC E) s.heap H locs) (ls : Array Slot) (hl : lv_has ls 1 [(0, .int x0)]) : W p l e (kR 0 0) s m args below meth c H locs 0 0 (MQ below (kQi (cP E) (inC E) r σr) args s 0 0 (inC E)) (F0 m 0 ls []) := by
  obtain ⟨-, hx, hb, hml, hown, hts, hK, -, -⟩ := id C
  unfold s_X2_numbersBehind_0 at h
  refine lv_iload_n hx hb dX2_numbersBehind_0 rfl (lv_at hl 0 rfl) ?_
  by_cases c_1 : x0 = (97 : Int32)
  · have h := k_t c_1 h
    refine lv_lookup (off := 49) (tgt := 50) hx hb dX2_numbersBehind_1 (by decide) (by rw [c_1]; decide) (by decide) ?_
    refine lv_iconst (v := (5 : Int32)) hx hb dX2_numbersBehind_50 (by decide) ?_
    obtain ⟨rfl, rfl⟩ := k_inj h
    exact kri C hS hP dX2_numbersBehind_51
  · have h := k_f c_1 h
    by_cases c_2 : x0 = (111 : Int32)
    · have h := k_t c_2 h
      refine lv_lookup (off := 45) (tgt := 46) hx hb dX2_numbersBehind_1 (by decide) (by rw [c_2]; decide) (by decide) ?_
      refine lv_iconst (v := (1 : Int32)) hx hb dX2_numbersBehind_46 (by decide) ?_
      obtain ⟨rfl, rfl⟩ := k_inj h
      exact kri C hS hP dX2_numbersBehind_47
    · have h := k_f c_2 h
      by_cases c_3 : x0 = (115 : Int32)
      · have h := k_t c_3 h
        refine lv_lookup (off := 47) (tgt := 48) hx hb dX2_numbersBehind_1 (by decide) (by rw [c_3]; decide) (by decide) ?_
        refine lv_iconst (v := (1 : Int32)) hx hb dX2_numbersBehind_48 (by decide) ?_
        obtain ⟨rfl, rfl⟩ := k_inj h
        exact kri C hS hP dX2_numbersBehind_49
      · have h := k_f c_3 h
        by_cases c_4 : x0 = (116 : Int32)
        · have h := k_t c_4 h
          refine lv_lookup (off := 43) (tgt := 44) hx hb dX2_numbersBehind_1 (by decide) (by rw [c_4]; decide) (by decide) ?_
          refine lv_iconst (v := (4 : Int32)) hx hb dX2_numbersBehind_44 (by decide) ?_
          obtain ⟨rfl, rfl⟩ := k_inj h
          exact kri C hS hP dX2_numbersBehind_45
        · have h := k_f c_4 h
          refine lv_lookup (off := 51) (tgt := 52) hx hb dX2_numbersBehind_1 (by decide) ((lv_osw c_1 (by decide)).trans ((lv_osw c_2 (by decide)).trans ((lv_osw c_3 (by decide)).trans ((lv_osw c_4 (by decide)).trans rfl)))) (by decide) ?_
          refine lv_iconst (v := (0 : Int32)) hx hb dX2_numbersBehind_52 (by decide) ?_
          obtain ⟨rfl, rfl⟩ := k_inj h
          exact kri C hS hP dX2_numbersBehind_53
def f_X2_numbersBehind (F : Nat) (σ : kS) (x0 : Int32) : Option (Int32 × kS) := s_X2_numbersBehind_0 F σ x0
set_option maxRecDepth 100000 in
theorem c_X2_numbersBehind (E : kE) (hE : kap E) (F : Nat) (σ : kS) (x0 : Int32) (h : f_X2_numbersBehind F σ x0 = some (r, σr)) : Met l yX2_numbersBehind (kWs yX2_numbersBehind cX2_numbersBehind 1 (some .int)) (kR 0 0) (kPre (cP E) E [.int x0] σ) (kQi (cP E) (inC E) r σr) 0 0 (inC E) :=
  kst hE (by decide +kernel) (Nat.le_of_ble_eq_true rfl) (fun p e s m below meth c ls C hP hl => w_X2_numbersBehind_0 C F σ x0 h s.heap [] hP va_S.rf ls hl)
end

section
variable {p : Program} {l : Launch} {e : Env} {s : State} {m : MethodId} {args : Array Value} {below : List Frame} {meth : Method} {c : Code} {E : kE} {σr : kS}
variable {r : Int32}
def s_X4_isFigure_0 (F : Nat) (σ : kS) (x0 : Int32) : Option (Int32 × kS) :=
  (if x0 < (48 : Int32) then some ((0 : Int32), σ) else (if (57 : Int32) < x0 then some ((0 : Int32), σ) else some ((1 : Int32), σ)))
set_option maxRecDepth 100000 in
set_option maxHeartbeats 4000000 in
theorem w_X4_isFigure_0 (C : Cx E p s m args meth c cX4_isFigure 1 RX4 (some .boolean)) (F : Nat) (σ : kS) (x0 : Int32) (h : s_X4_isFigure_0 F σ x0 = some (r, σr)) (H : Heap) (locs : List Loc) (hP : cP E σ H) (hS : va_S (inC E) s.heap H locs) (ls : Array Slot) (hl : lv_has ls 1 [(0, .int x0)]) : W p l e (kR 0 0) s m args below meth c H locs 0 0 (MQ below (kQi (cP E) (inC E) r σr) args s 0 0 (inC E)) (F0 m 0 ls []) := by
  obtain ⟨-, hx, hb, hml, hown, hts, hK, -, -⟩ := id C
  unfold s_X4_isFigure_0 at h
  refine lv_iload_n hx hb dX4_isFigure_0 rfl (lv_at hl 0 rfl) ?_
  refine lv_bipush (v := (48 : Int32)) hx hb dX4_isFigure_1 (by decide) ?_
  refine lv_icmp_lt (tgt := 16) hx hb dX4_isFigure_3 (by decide) (fun c_1 => ?_) (fun c_1 => ?_)
  · have h := k_t c_1 h
    refine lv_iconst (v := (0 : Int32)) hx hb dX4_isFigure_16 (by decide) ?_
    obtain ⟨rfl, rfl⟩ := k_inj h
    exact krz C hS hP (by decide) dX4_isFigure_17
  · have h := k_f c_1 h
    refine lv_iload_n hx hb dX4_isFigure_6 rfl (lv_at hl 0 rfl) ?_
    refine lv_bipush (v := (57 : Int32)) hx hb dX4_isFigure_7 (by decide) ?_
    refine lv_icmp_gt (tgt := 16) hx hb dX4_isFigure_9 (by decide) (fun c_2 => ?_) (fun c_2 => ?_)
    · have h := k_t c_2 h
      refine lv_iconst (v := (0 : Int32)) hx hb dX4_isFigure_16 (by decide) ?_
      obtain ⟨rfl, rfl⟩ := k_inj h
      exact krz C hS hP (by decide) dX4_isFigure_17
    · have h := k_f c_2 h
      refine lv_iconst (v := (1 : Int32)) hx hb dX4_isFigure_12 (by decide) ?_
      refine lv_goto (tgt := 17) hx hb dX4_isFigure_13 (by decide) ?_
      obtain ⟨rfl, rfl⟩ := k_inj h
      exact krz C hS hP (by decide) dX4_isFigure_17
def f_X4_isFigure (F : Nat) (σ : kS) (x0 : Int32) : Option (Int32 × kS) := s_X4_isFigure_0 F σ x0
set_option maxRecDepth 100000 in
theorem c_X4_isFigure (E : kE) (hE : kap E) (F : Nat) (σ : kS) (x0 : Int32) (h : f_X4_isFigure F σ x0 = some (r, σr)) : Met l yX4_isFigure (kWs yX4_isFigure cX4_isFigure 1 (some .boolean)) (kR 0 0) (kPre (cP E) E [.int x0] σ) (kQi (cP E) (inC E) r σr) 0 0 (inC E) :=
  kst hE (by decide +kernel) (Nat.le_of_ble_eq_true rfl) (fun p e s m below meth c ls C hP hl => w_X4_isFigure_0 C F σ x0 h s.heap [] hP va_S.rf ls hl)
end

section
variable {p : Program} {l : Launch} {e : Env} {s : State} {m : MethodId} {args : Array Value} {below : List Frame} {meth : Method} {c : Code} {E : kE} {σr : kS}
variable {r : Int32}
def s_X4_readNumber_48 (F : Nat) (σ : kS) (x1 : Int32) (x2 : Int32) (x3 : Int32) (x4 : Int32) : Option (Int32 × kS) :=
  (if x4 = 0 then some ((-4 : Int32), σ) else (if x2 < 0 then some ((-4 : Int32), σ) else (if x2 < (5 : Int32) then (if x2 < 0 ∨ 5 ≤ x2.toNatClampNeg then none else some ((x1 + x4), (jA σ 1 x2.toNatClampNeg x3))) else some ((-4 : Int32), σ))))
set_option maxRecDepth 100000 in
set_option maxHeartbeats 4000000 in
theorem w_X4_readNumber_48 (C : Cx E p s m args meth c cX4_readNumber 5 RX4 (some .int)) (F : Nat) (σ : kS) (x1 : Int32) (x2 : Int32) (x3 : Int32) (x4 : Int32) (h : s_X4_readNumber_48 F σ x1 x2 x3 x4 = some (r, σr)) (H : Heap) (locs : List Loc) (hP : cP E σ H) (hS : va_S (inC E) s.heap H locs) (ls : Array Slot) (hl : lv_has ls 5 [(0, .ref (eA E 1)), (1, .int x1), (2, .int x2), (3, .int x3), (4, .int x4)]) : W p l e (kR 1 21) s m args below meth c H locs 0 0 (MQ below (kQi (cP E) (inC E) r σr) args s 0 0 (inC E)) (F0 m 48 ls []) := by
  obtain ⟨-, hx, hb, hml, hown, hts, hK, -, -⟩ := id C
  unfold s_X4_readNumber_48 at h
  refine lv_iload hx hb dX4_readNumber_48 (lv_at hl 4 rfl) ?_
  refine lv_if_eq (tgt := 66) hx hb dX4_readNumber_50 (by decide) (fun c_1 => ?_) (fun c_1 => ?_)
  · have h := k_t c_1 h
    refine lv_bipush (v := (-4 : Int32)) hx hb dX4_readNumber_66 (by decide) ?_
    obtain ⟨rfl, rfl⟩ := k_inj h
    exact kri C hS hP dX4_readNumber_68
  · have h := k_f c_1 h
    refine lv_iload_n hx hb dX4_readNumber_53 rfl (lv_at hl 2 rfl) ?_
    refine lv_if_lt (tgt := 66) hx hb dX4_readNumber_54 (by decide) (fun c_2 => ?_) (fun c_2 => ?_)
    · have h := k_t c_2 h
      refine lv_bipush (v := (-4 : Int32)) hx hb dX4_readNumber_66 (by decide) ?_
      obtain ⟨rfl, rfl⟩ := k_inj h
      exact kri C hS hP dX4_readNumber_68
    · have h := k_f c_2 h
      refine lv_iload_n hx hb dX4_readNumber_57 rfl (lv_at hl 2 rfl) ?_
      refine lv_aload_n hx hb dX4_readNumber_58 rfl (lv_at hl 0 rfl) ?_
      refine gf_1_1 C hP w_64 dX4_readNumber_59 ?_
      refine an_3 C hP dX4_readNumber_62 ?_
      refine lv_icmp_lt (tgt := 69) hx hb dX4_readNumber_63 (by decide) (fun c_3 => ?_) (fun c_3 => ?_)
      · have h := k_t c_3 h
        refine lv_aload_n hx hb dX4_readNumber_69 rfl (lv_at hl 0 rfl) ?_
        refine gf_1_1 C hP w_64 dX4_readNumber_70 ?_
        refine lv_iload_n hx hb dX4_readNumber_73 rfl (lv_at hl 2 rfl) ?_
        refine lv_iload_n hx hb dX4_readNumber_74 rfl (lv_at hl 3 rfl) ?_
        obtain ⟨n_4, h⟩ := k_no h
        refine as_3 C hP hS (σ2 := (jA σ 1 x2.toNatClampNeg x3)) rfl n_4 dX4_readNumber_75 (fun H locs hP hS => ?_)
        refine lv_iload_n hx hb dX4_readNumber_76 rfl (lv_at hl 1 rfl) ?_
        refine lv_iload hx hb dX4_readNumber_77 (lv_at hl 4 rfl) ?_
        refine lv_iadd hx hb dX4_readNumber_79 ?_
        obtain ⟨rfl, rfl⟩ := k_inj h
        exact kri C hS hP dX4_readNumber_80
      · have h := k_f c_3 h
        refine lv_bipush (v := (-4 : Int32)) hx hb dX4_readNumber_66 (by decide) ?_
        obtain ⟨rfl, rfl⟩ := k_inj h
        exact kri C hS hP dX4_readNumber_68
def s_X4_readNumber_5 (F : Nat) (rec5 : (kS × Int32 × Int32 × Int32 × Int32 → Option (Int32 × kS))) (σ : kS) (x1 : Int32) (x2 : Int32) (x3 : Int32) (x4 : Int32) : Option (Int32 × kS) :=
  (if (3 : Int32) ≤ x4 then s_X4_readNumber_48 F σ x1 x2 x3 x4 else (kb (f_X4_byteAt F σ (x1 + x4)) fun v_2 σ_3 => (kb (f_X4_isFigure F σ_3 v_2) fun v_5 σ_6 => (if v_5 = 0 then s_X4_readNumber_48 F σ_6 x1 x2 x3 x4 else (kb (f_X4_byteAt F σ_6 (x1 + x4)) fun v_9 σ_10 => (kn (((x3 * (10 : Int32)) + v_9) - (48 : Int32)) (fun x3_12 => rec5 (σ_10, x1, x2, x3_12, (x4 + (1 : Int32))))))))))
set_option maxRecDepth 100000 in
set_option maxHeartbeats 4000000 in
theorem w_X4_readNumber_5 (C : Cx E p s m args meth c cX4_readNumber 5 RX4 (some .int)) (F : Nat) (rec5 : (kS × Int32 × Int32 × Int32 × Int32 → Option (Int32 × kS))) (hrec5 : ∀ (σ : kS) (x1 : Int32) (x2 : Int32) (x3 : Int32) (x4 : Int32), rec5 (σ, x1, x2, x3, x4) = some (r, σr) → ∀ (H : Heap) (locs : List Loc), cP E σ H → va_S (inC E) s.heap H locs → ∀ (ls : Array Slot), lv_has ls 5 [(0, .ref (eA E 1)), (1, .int x1), (2, .int x2), (3, .int x3), (4, .int x4)] → W p l e (kR 1 21) s m args below meth c H locs 0 0 (MQ below (kQi (cP E) (inC E) r σr) args s 0 0 (inC E)) (F0 m 5 ls [])) (σ : kS) (x1 : Int32) (x2 : Int32) (x3 : Int32) (x4 : Int32) (h : s_X4_readNumber_5 F rec5 σ x1 x2 x3 x4 = some (r, σr)) (H : Heap) (locs : List Loc) (hP : cP E σ H) (hS : va_S (inC E) s.heap H locs) (ls : Array Slot) (hl : lv_has ls 5 [(0, .ref (eA E 1)), (1, .int x1), (2, .int x2), (3, .int x3), (4, .int x4)]) : W p l e (kR 1 21) s m args below meth c H locs 0 0 (MQ below (kQi (cP E) (inC E) r σr) args s 0 0 (inC E)) (F0 m 5 ls []) := by
  obtain ⟨-, hx, hb, hml, hown, hts, hK, -, -⟩ := id C
  unfold s_X4_readNumber_5 at h
  refine lv_iload hx hb dX4_readNumber_5 (lv_at hl 4 rfl) ?_
  refine lv_iconst (v := (3 : Int32)) hx hb dX4_readNumber_7 (by decide) ?_
  refine lv_icmp_ge (tgt := 48) hx hb dX4_readNumber_8 (by decide) (fun c_1 => ?_) (fun c_1 => ?_)
  · have h := k_t c_1 h
    exact w_X4_readNumber_48 C F σ x1 x2 x3 x4 h H locs hP hS ls hl
  · have h := k_f c_1 h
    refine lv_aload_n hx hb dX4_readNumber_11 rfl (lv_at hl 0 rfl) ?_
    refine lv_iload_n hx hb dX4_readNumber_12 rfl (lv_at hl 1 rfl) ?_
    refine lv_iload hx hb dX4_readNumber_13 (lv_at hl 4 rfl) ?_
    refine lv_iadd hx hb dX4_readNumber_15 ?_
    obtain ⟨v_2, σ_3, hc_4, h⟩ := kb_ok h
    refine kci (krunV (As := [.int (x1 + x4)]) C hP (c_X4_byteAt E C.1 F σ (x1 + x4) hc_4) w_308 kv_X4_byteAt ⟨Nat.le_of_ble_eq_true rfl, Nat.le_of_ble_eq_true rfl⟩ (rc_1 C hP) rfl hl.1 rfl (Nat.le_of_ble_eq_true rfl) dX4_readNumber_16) hS (fun H locs hP hS => ?_)
    obtain ⟨v_5, σ_6, hc_7, h⟩ := kb_ok h
    refine kci (krunS (As := [.int v_2]) C hP (c_X4_isFigure E C.1 F σ_3 v_2 hc_7) w_319 kt_X4_isFigure ⟨Nat.le_of_ble_eq_true rfl, Nat.le_of_ble_eq_true rfl⟩ rfl hl.1 rfl (Nat.le_of_ble_eq_true rfl) dX4_readNumber_19) hS (fun H locs hP hS => ?_)
    refine lv_if_eq (tgt := 48) hx hb dX4_readNumber_22 (by decide) (fun c_8 => ?_) (fun c_8 => ?_)
    · have h := k_t c_8 h
      exact w_X4_readNumber_48 C F σ_6 x1 x2 x3 x4 h H locs hP hS ls hl
    · have h := k_f c_8 h
      refine lv_iload_n hx hb dX4_readNumber_25 rfl (lv_at hl 3 rfl) ?_
      refine lv_bipush (v := (10 : Int32)) hx hb dX4_readNumber_26 (by decide) ?_
      refine lv_imul hx hb dX4_readNumber_28 ?_
      refine lv_aload_n hx hb dX4_readNumber_29 rfl (lv_at hl 0 rfl) ?_
      refine lv_iload_n hx hb dX4_readNumber_30 rfl (lv_at hl 1 rfl) ?_
      refine lv_iload hx hb dX4_readNumber_31 (lv_at hl 4 rfl) ?_
      refine lv_iadd hx hb dX4_readNumber_33 ?_
      obtain ⟨v_9, σ_10, hc_11, h⟩ := kb_ok h
      refine kci (krunV (As := [.int (x1 + x4)]) C hP (c_X4_byteAt E C.1 F σ_6 (x1 + x4) hc_11) w_308 kv_X4_byteAt ⟨Nat.le_of_ble_eq_true rfl, Nat.le_of_ble_eq_true rfl⟩ (rc_1 C hP) rfl hl.1 rfl (Nat.le_of_ble_eq_true rfl) dX4_readNumber_34) hS (fun H locs hP hS => ?_)
      refine lv_iadd hx hb dX4_readNumber_37 ?_
      refine lv_bipush (v := (48 : Int32)) hx hb dX4_readNumber_38 (by decide) ?_
      refine lv_isub hx hb dX4_readNumber_40 ?_
      refine lv_topi (fun x3_12 ex3_12 => ?_)
      have h := kn_to ex3_12 h
      refine lv_istore_n (lv' := [(3, .int x3_12), (0, .ref (eA E 1)), (1, .int x1), (2, .int x2), (4, .int x4)]) hx hb dX4_readNumber_41 rfl hl (by decide) rfl (fun ls hl => ?_)
      refine lv_iinc (v := (x4 + (1 : Int32))) (lv' := [(4, .int (x4 + (1 : Int32))), (3, .int x3_12), (0, .ref (eA E 1)), (1, .int x1), (2, .int x2)]) hx hb dX4_readNumber_42 hl (k := 4) rfl rfl (by decide) rfl (fun ls hl => ?_)
      refine lv_goto (tgt := 5) hx hb dX4_readNumber_45 (by decide) ?_
      exact hrec5 σ_10 x1 x2 x3_12 (x4 + (1 : Int32)) h H locs hP hS ls (lv_sub hl [2, 3, 4, 1, 0] rfl)
def f_X4_readNumber_5 (F : Nat) : kS × Int32 × Int32 × Int32 × Int32 → Option (Int32 × kS) := itr (fun rec5 q => s_X4_readNumber_5 F rec5 q.1 q.2.1 q.2.2.1 q.2.2.2.1 q.2.2.2.2) F
theorem wf_X4_readNumber_5 (C : Cx E p s m args meth c cX4_readNumber 5 RX4 (some .int)) (F : Nat) (σ : kS) (x1 : Int32) (x2 : Int32) (x3 : Int32) (x4 : Int32) (h : f_X4_readNumber_5 F (σ, x1, x2, x3, x4) = some (r, σr)) (H : Heap) (locs : List Loc) (hP : cP E σ H) (hS : va_S (inC E) s.heap H locs) (ls : Array Slot) (hl : lv_has ls 5 [(0, .ref (eA E 1)), (1, .int x1), (2, .int x2), (3, .int x3), (4, .int x4)]) : W p l e (kR 1 21) s m args below meth c H locs 0 0 (MQ below (kQi (cP E) (inC E) r σr) args s 0 0 (inC E)) (F0 m 5 ls []) :=
  itr_ok (r := (r, σr)) (G := fun q => ∀ (H : Heap) (locs : List Loc), cP E q.1 H → va_S (inC E) s.heap H locs → ∀ (ls : Array Slot), lv_has ls 5 [(0, .ref (eA E 1)), (1, .int (q.2.1)), (2, .int (q.2.2.1)), (3, .int (q.2.2.2.1)), (4, .int (q.2.2.2.2))] → W p l e (kR 1 21) s m args below meth c H locs 0 0 (MQ below (kQi (cP E) (inC E) r σr) args s 0 0 (inC E)) (F0 m 5 ls [])) (fun rec5 hrec5 q h => w_X4_readNumber_5 C F rec5 (fun σ x1 x2 x3 x4 => hrec5 (σ, x1, x2, x3, x4)) q.1 q.2.1 q.2.2.1 q.2.2.2.1 q.2.2.2.2 h) F (σ, x1, x2, x3, x4) h H locs hP hS ls hl
def s_X4_readNumber_0 (F : Nat) (σ : kS) (x1 : Int32) (x2 : Int32) : Option (Int32 × kS) :=
  f_X4_readNumber_5 F (σ, x1, x2, (0 : Int32), (0 : Int32))
set_option maxRecDepth 100000 in
set_option maxHeartbeats 4000000 in
theorem w_X4_readNumber_0 (C : Cx E p s m args meth c cX4_readNumber 5 RX4 (some .int)) (F : Nat) (σ : kS) (x1 : Int32) (x2 : Int32) (h : s_X4_readNumber_0 F σ x1 x2 = some (r, σr)) (H : Heap) (locs : List Loc) (hP : cP E σ H) (hS : va_S (inC E) s.heap H locs) (ls : Array Slot) (hl : lv_has ls 5 [(0, .ref (eA E 1)), (1, .int x1), (2, .int x2)]) : W p l e (kR 1 21) s m args below meth c H locs 0 0 (MQ below (kQi (cP E) (inC E) r σr) args s 0 0 (inC E)) (F0 m 0 ls []) := by
  obtain ⟨-, hx, hb, hml, hown, hts, hK, -, -⟩ := id C
  unfold s_X4_readNumber_0 at h
  refine lv_iconst (v := (0 : Int32)) hx hb dX4_readNumber_0 (by decide) ?_
  refine lv_istore_n (lv' := [(3, .int (0 : Int32)), (0, .ref (eA E 1)), (1, .int x1), (2, .int x2)]) hx hb dX4_readNumber_1 rfl hl (by decide) rfl (fun ls hl => ?_)
  refine lv_iconst (v := (0 : Int32)) hx hb dX4_readNumber_2 (by decide) ?_
  refine lv_istore (lv' := [(4, .int (0 : Int32)), (3, .int (0 : Int32)), (0, .ref (eA E 1)), (1, .int x1), (2, .int x2)]) hx hb dX4_readNumber_3 hl (by decide) rfl (fun ls hl => ?_)
  exact wf_X4_readNumber_5 C F σ x1 x2 (0 : Int32) (0 : Int32) h H locs hP hS ls (lv_sub hl [2, 3, 4, 1, 0] rfl)
def f_X4_readNumber (F : Nat) (σ : kS) (x1 : Int32) (x2 : Int32) : Option (Int32 × kS) := s_X4_readNumber_0 F σ x1 x2
set_option maxRecDepth 100000 in
theorem c_X4_readNumber (E : kE) (hE : kap E) (F : Nat) (σ : kS) (x1 : Int32) (x2 : Int32) (h : f_X4_readNumber F σ x1 x2 = some (r, σr)) : Met l yX4_readNumber (kWs yX4_readNumber cX4_readNumber 5 (some .int)) (kR 1 21) (kPre (cP E) E [.ref (eA E 1), .int x1, .int x2] σ) (kQi (cP E) (inC E) r σr) 0 0 (inC E) :=
  kst hE (by decide +kernel) (Nat.le_of_ble_eq_true rfl) (fun p e s m below meth c ls C hP hl => w_X4_readNumber_0 C F σ x1 x2 h s.heap [] hP va_S.rf ls hl)
end

section
variable {p : Program} {l : Launch} {e : Env} {s : State} {m : MethodId} {args : Array Value} {below : List Frame} {meth : Method} {c : Code} {E : kE} {σr : kS}
variable {r : Int32}
def s_X4_readItem_52 (F : Nat) (rec23 : (kS × Int32 × Int32 × Int32 → Option (Int32 × kS))) (σ : kS) (x2 : Int32) (x3 : Int32) (x4 : Int32) (y0 : Int32) : Option (Int32 × kS) :=
  (if x3 = (-4 : Int32) then some ((-4 : Int32), σ) else (kb (f_X4_byteAt F σ x3) fun v_2 σ_3 => (if v_2 = y0 then rec23 (σ_3, x2, (x3 + (1 : Int32)), (x4 + (1 : Int32))) else some ((-4 : Int32), σ_3))))
set_option maxRecDepth 100000 in
set_option maxHeartbeats 4000000 in
theorem w_X4_readItem_52 (C : Cx E p s m args meth c cX4_readItem 6 RX4 (some .int)) (F : Nat) (rec23 : (kS × Int32 × Int32 × Int32 → Option (Int32 × kS))) (hrec23 : ∀ (σ : kS) (x2 : Int32) (x3 : Int32) (x4 : Int32), rec23 (σ, x2, x3, x4) = some (r, σr) → ∀ (H : Heap) (locs : List Loc), cP E σ H → va_S (inC E) s.heap H locs → ∀ (ls : Array Slot), lv_has ls 6 [(0, .ref (eA E 1)), (2, .int x2), (3, .int x3), (4, .int x4)] → W p l e (kR 2 45) s m args below meth c H locs 0 0 (MQ below (kQi (cP E) (inC E) r σr) args s 0 0 (inC E)) (F0 m 23 ls [])) (σ : kS) (x2 : Int32) (x3 : Int32) (x4 : Int32) (y0 : Int32) (h : s_X4_readItem_52 F rec23 σ x2 x3 x4 y0 = some (r, σr)) (H : Heap) (locs : List Loc) (hP : cP E σ H) (hS : va_S (inC E) s.heap H locs) (ls : Array Slot) (hl : lv_has ls 6 [(0, .ref (eA E 1)), (2, .int x2), (3, .int x3), (4, .int x4)]) : W p l e (kR 2 45) s m args below meth c H locs 0 0 (MQ below (kQi (cP E) (inC E) r σr) args s 0 0 (inC E)) (F0 m 52 ls [.int y0]) := by
  obtain ⟨-, hx, hb, hml, hown, hts, hK, -, -⟩ := id C
  unfold s_X4_readItem_52 at h
  refine lv_istore (lv' := [(5, .int y0), (0, .ref (eA E 1)), (2, .int x2), (3, .int x3), (4, .int x4)]) hx hb dX4_readItem_52 hl (by decide) rfl (fun ls hl => ?_)
  refine lv_iload_n hx hb dX4_readItem_54 rfl (lv_at hl 3 rfl) ?_
  refine lv_bipush (v := (-4 : Int32)) hx hb dX4_readItem_55 (by decide) ?_
  refine lv_icmp_eq (tgt := 70) hx hb dX4_readItem_57 (by decide) (fun c_1 => ?_) (fun c_1 => ?_)
  · have h := k_t c_1 h
    refine lv_bipush (v := (-4 : Int32)) hx hb dX4_readItem_70 (by decide) ?_
    obtain ⟨rfl, rfl⟩ := k_inj h
    exact kri C hS hP dX4_readItem_72
  · have h := k_f c_1 h
    refine lv_aload_n hx hb dX4_readItem_60 rfl (lv_at hl 1 rfl) ?_
    refine lv_iload_n hx hb dX4_readItem_61 rfl (lv_at hl 3 rfl) ?_
    obtain ⟨v_2, σ_3, hc_4, h⟩ := kb_ok h
    refine kci (krunV (As := [.int x3]) C hP (c_X4_byteAt E C.1 F σ x3 hc_4) w_308 kv_X4_byteAt ⟨Nat.le_of_ble_eq_true rfl, Nat.le_of_ble_eq_true rfl⟩ (rc_1 C hP) rfl hl.1 rfl (Nat.le_of_ble_eq_true rfl) dX4_readItem_62) hS (fun H locs hP hS => ?_)
    refine lv_iload hx hb dX4_readItem_65 (lv_at hl 0 rfl) ?_
    refine lv_icmp_eq (tgt := 73) hx hb dX4_readItem_67 (by decide) (fun c_5 => ?_) (fun c_5 => ?_)
    · have h := k_t c_5 h
      refine lv_iinc (v := (x3 + (1 : Int32))) (lv' := [(3, .int (x3 + (1 : Int32))), (5, .int y0), (0, .ref (eA E 1)), (2, .int x2), (4, .int x4)]) hx hb dX4_readItem_73 hl (k := 3) rfl rfl (by decide) rfl (fun ls hl => ?_)
      refine lv_iinc (v := (x4 + (1 : Int32))) (lv' := [(4, .int (x4 + (1 : Int32))), (3, .int (x3 + (1 : Int32))), (5, .int y0), (0, .ref (eA E 1)), (2, .int x2)]) hx hb dX4_readItem_76 hl (k := 4) rfl rfl (by decide) rfl (fun ls hl => ?_)
      refine lv_goto (tgt := 23) hx hb dX4_readItem_79 (by decide) ?_
      exact hrec23 σ_3 x2 (x3 + (1 : Int32)) (x4 + (1 : Int32)) h H locs hP hS ls (lv_sub hl [3, 4, 1, 0] rfl)
    · have h := k_f c_5 h
      refine lv_bipush (v := (-4 : Int32)) hx hb dX4_readItem_70 (by decide) ?_
      obtain ⟨rfl, rfl⟩ := k_inj h
      exact kri C hS hP dX4_readItem_72
def s_X4_readItem_23 (F : Nat) (rec23 : (kS × Int32 × Int32 × Int32 → Option (Int32 × kS))) (σ : kS) (x2 : Int32) (x3 : Int32) (x4 : Int32) : Option (Int32 × kS) :=
  (if x2 ≤ x4 then some (x3, σ) else (kb (f_X4_readNumber F σ x3 x4) fun v_2 σ_3 => (if x2 ≤ (x4 + (1 : Int32)) then s_X4_readItem_52 F rec23 σ_3 x2 v_2 x4 (59 : Int32) else s_X4_readItem_52 F rec23 σ_3 x2 v_2 x4 (44 : Int32))))
set_option maxRecDepth 100000 in
set_option maxHeartbeats 4000000 in
theorem w_X4_readItem_23 (C : Cx E p s m args meth c cX4_readItem 6 RX4 (some .int)) (F : Nat) (rec23 : (kS × Int32 × Int32 × Int32 → Option (Int32 × kS))) (hrec23 : ∀ (σ : kS) (x2 : Int32) (x3 : Int32) (x4 : Int32), rec23 (σ, x2, x3, x4) = some (r, σr) → ∀ (H : Heap) (locs : List Loc), cP E σ H → va_S (inC E) s.heap H locs → ∀ (ls : Array Slot), lv_has ls 6 [(0, .ref (eA E 1)), (2, .int x2), (3, .int x3), (4, .int x4)] → W p l e (kR 2 45) s m args below meth c H locs 0 0 (MQ below (kQi (cP E) (inC E) r σr) args s 0 0 (inC E)) (F0 m 23 ls [])) (σ : kS) (x2 : Int32) (x3 : Int32) (x4 : Int32) (h : s_X4_readItem_23 F rec23 σ x2 x3 x4 = some (r, σr)) (H : Heap) (locs : List Loc) (hP : cP E σ H) (hS : va_S (inC E) s.heap H locs) (ls : Array Slot) (hl : lv_has ls 6 [(0, .ref (eA E 1)), (2, .int x2), (3, .int x3), (4, .int x4)]) : W p l e (kR 2 45) s m args below meth c H locs 0 0 (MQ below (kQi (cP E) (inC E) r σr) args s 0 0 (inC E)) (F0 m 23 ls []) := by
  obtain ⟨-, hx, hb, hml, hown, hts, hK, -, -⟩ := id C
  unfold s_X4_readItem_23 at h
  refine lv_iload hx hb dX4_readItem_23 (lv_at hl 3 rfl) ?_
  refine lv_iload_n hx hb dX4_readItem_25 rfl (lv_at hl 1 rfl) ?_
  refine lv_icmp_ge (tgt := 82) hx hb dX4_readItem_26 (by decide) (fun c_1 => ?_) (fun c_1 => ?_)
  · have h := k_t c_1 h
    refine lv_iload_n hx hb dX4_readItem_82 rfl (lv_at hl 2 rfl) ?_
    obtain ⟨rfl, rfl⟩ := k_inj h
    exact kri C hS hP dX4_readItem_83
  · have h := k_f c_1 h
    refine lv_aload_n hx hb dX4_readItem_29 rfl (lv_at hl 0 rfl) ?_
    refine lv_iload_n hx hb dX4_readItem_30 rfl (lv_at hl 2 rfl) ?_
    refine lv_iload hx hb dX4_readItem_31 (lv_at hl 3 rfl) ?_
    obtain ⟨v_2, σ_3, hc_4, h⟩ := kb_ok h
    refine kci (krunV (As := [.int x3, .int x4]) C hP (c_X4_readNumber E C.1 F σ x3 x4 hc_4) w_315 kv_X4_readNumber ⟨Nat.le_of_ble_eq_true rfl, Nat.le_of_ble_eq_true rfl⟩ (rc_1 C hP) rfl hl.1 rfl (Nat.le_of_ble_eq_true rfl) dX4_readItem_33) hS (fun H locs hP hS => ?_)
    refine lv_istore_n (lv' := [(3, .int v_2), (0, .ref (eA E 1)), (2, .int x2), (4, .int x4)]) hx hb dX4_readItem_36 rfl hl (by decide) rfl (fun ls hl => ?_)
    refine lv_iload hx hb dX4_readItem_37 (lv_at hl 3 rfl) ?_
    refine lv_iconst (v := (1 : Int32)) hx hb dX4_readItem_39 (by decide) ?_
    refine lv_iadd hx hb dX4_readItem_40 ?_
    refine lv_iload_n hx hb dX4_readItem_41 rfl (lv_at hl 2 rfl) ?_
    refine lv_icmp_ge (tgt := 50) hx hb dX4_readItem_42 (by decide) (fun c_5 => ?_) (fun c_5 => ?_)
    · have h := k_t c_5 h
      refine lv_bipush (v := (59 : Int32)) hx hb dX4_readItem_50 (by decide) ?_
      exact w_X4_readItem_52 C F rec23 hrec23 σ_3 x2 v_2 x4 (59 : Int32) h H locs hP hS ls (lv_sub hl [1, 2, 0, 3] rfl)
    · have h := k_f c_5 h
      refine lv_bipush (v := (44 : Int32)) hx hb dX4_readItem_45 (by decide) ?_
      refine lv_goto (tgt := 52) hx hb dX4_readItem_47 (by decide) ?_
      exact w_X4_readItem_52 C F rec23 hrec23 σ_3 x2 v_2 x4 (44 : Int32) h H locs hP hS ls (lv_sub hl [1, 2, 0, 3] rfl)
def f_X4_readItem_23 (F : Nat) : kS × Int32 × Int32 × Int32 → Option (Int32 × kS) := itr (fun rec23 q => s_X4_readItem_23 F rec23 q.1 q.2.1 q.2.2.1 q.2.2.2) F
theorem wf_X4_readItem_23 (C : Cx E p s m args meth c cX4_readItem 6 RX4 (some .int)) (F : Nat) (σ : kS) (x2 : Int32) (x3 : Int32) (x4 : Int32) (h : f_X4_readItem_23 F (σ, x2, x3, x4) = some (r, σr)) (H : Heap) (locs : List Loc) (hP : cP E σ H) (hS : va_S (inC E) s.heap H locs) (ls : Array Slot) (hl : lv_has ls 6 [(0, .ref (eA E 1)), (2, .int x2), (3, .int x3), (4, .int x4)]) : W p l e (kR 2 45) s m args below meth c H locs 0 0 (MQ below (kQi (cP E) (inC E) r σr) args s 0 0 (inC E)) (F0 m 23 ls []) :=
  itr_ok (r := (r, σr)) (G := fun q => ∀ (H : Heap) (locs : List Loc), cP E q.1 H → va_S (inC E) s.heap H locs → ∀ (ls : Array Slot), lv_has ls 6 [(0, .ref (eA E 1)), (2, .int (q.2.1)), (3, .int (q.2.2.1)), (4, .int (q.2.2.2))] → W p l e (kR 2 45) s m args below meth c H locs 0 0 (MQ below (kQi (cP E) (inC E) r σr) args s 0 0 (inC E)) (F0 m 23 ls [])) (fun rec23 hrec23 q h => w_X4_readItem_23 C F rec23 (fun σ x2 x3 x4 => hrec23 (σ, x2, x3, x4)) q.1 q.2.1 q.2.2.1 q.2.2.2 h) F (σ, x2, x3, x4) h H locs hP hS ls hl
def s_X4_readItem_0 (F : Nat) (σ : kS) (x1 : Int32) : Option (Int32 × kS) :=
  (kb (f_X4_byteAt F σ x1) fun v_1 σ_2 => (kb (f_X2_numbersBehind F σ_2 v_1) fun v_4 σ_5 => (if v_4 = 0 then some ((-4 : Int32), σ_5) else f_X4_readItem_23 F (σ_5, v_4, (x1 + (1 : Int32)), (0 : Int32)))))
set_option maxRecDepth 100000 in
set_option maxHeartbeats 4000000 in
theorem w_X4_readItem_0 (C : Cx E p s m args meth c cX4_readItem 6 RX4 (some .int)) (F : Nat) (σ : kS) (x1 : Int32) (h : s_X4_readItem_0 F σ x1 = some (r, σr)) (H : Heap) (locs : List Loc) (hP : cP E σ H) (hS : va_S (inC E) s.heap H locs) (ls : Array Slot) (hl : lv_has ls 6 [(0, .ref (eA E 1)), (1, .int x1)]) : W p l e (kR 2 45) s m args below meth c H locs 0 0 (MQ below (kQi (cP E) (inC E) r σr) args s 0 0 (inC E)) (F0 m 0 ls []) := by
  obtain ⟨-, hx, hb, hml, hown, hts, hK, -, -⟩ := id C
  unfold s_X4_readItem_0 at h
  refine lv_aload_n hx hb dX4_readItem_0 rfl (lv_at hl 0 rfl) ?_
  refine lv_iload_n hx hb dX4_readItem_1 rfl (lv_at hl 1 rfl) ?_
  obtain ⟨v_1, σ_2, hc_3, h⟩ := kb_ok h
  refine kci (krunV (As := [.int x1]) C hP (c_X4_byteAt E C.1 F σ x1 hc_3) w_308 kv_X4_byteAt ⟨Nat.le_of_ble_eq_true rfl, Nat.le_of_ble_eq_true rfl⟩ (rc_1 C hP) rfl hl.1 rfl (Nat.le_of_ble_eq_true rfl) dX4_readItem_2) hS (fun H locs hP hS => ?_)
  obtain ⟨v_4, σ_5, hc_6, h⟩ := kb_ok h
  refine kci (krunS (As := [.int v_1]) C hP (c_X2_numbersBehind E C.1 F σ_2 v_1 hc_6) w_312 kt_X2_numbersBehind ⟨Nat.le_of_ble_eq_true rfl, Nat.le_of_ble_eq_true rfl⟩ rfl hl.1 rfl (Nat.le_of_ble_eq_true rfl) dX4_readItem_5) hS (fun H locs hP hS => ?_)
  refine lv_istore_n (lv' := [(2, .int v_4), (0, .ref (eA E 1)), (1, .int x1)]) hx hb dX4_readItem_8 rfl hl (by decide) rfl (fun ls hl => ?_)
  refine lv_iload_n hx hb dX4_readItem_9 rfl (lv_at hl 0 rfl) ?_
  refine lv_if_ne (tgt := 16) hx hb dX4_readItem_10 (by decide) (fun c_7 => ?_) (fun c_7 => ?_)
  · have h := k_f c_7 h
    refine lv_iload_n hx hb dX4_readItem_16 rfl (lv_at hl 2 rfl) ?_
    refine lv_iconst (v := (1 : Int32)) hx hb dX4_readItem_17 (by decide) ?_
    refine lv_iadd hx hb dX4_readItem_18 ?_
    refine lv_istore_n (lv' := [(3, .int (x1 + (1 : Int32))), (2, .int v_4), (0, .ref (eA E 1)), (1, .int x1)]) hx hb dX4_readItem_19 rfl hl (by decide) rfl (fun ls hl => ?_)
    refine lv_iconst (v := (0 : Int32)) hx hb dX4_readItem_20 (by decide) ?_
    refine lv_istore (lv' := [(4, .int (0 : Int32)), (3, .int (x1 + (1 : Int32))), (2, .int v_4), (0, .ref (eA E 1)), (1, .int x1)]) hx hb dX4_readItem_21 hl (by decide) rfl (fun ls hl => ?_)
    exact wf_X4_readItem_23 C F σ_5 v_4 (x1 + (1 : Int32)) (0 : Int32) h H locs hP hS ls (lv_sub hl [3, 2, 1, 0] rfl)
  · have h := k_t c_7 h
    refine lv_bipush (v := (-4 : Int32)) hx hb dX4_readItem_13 (by decide) ?_
    obtain ⟨rfl, rfl⟩ := k_inj h
    exact kri C hS hP dX4_readItem_15
def f_X4_readItem (F : Nat) (σ : kS) (x1 : Int32) : Option (Int32 × kS) := s_X4_readItem_0 F σ x1
set_option maxRecDepth 100000 in
theorem c_X4_readItem (E : kE) (hE : kap E) (F : Nat) (σ : kS) (x1 : Int32) (h : f_X4_readItem F σ x1 = some (r, σr)) : Met l yX4_readItem (kWs yX4_readItem cX4_readItem 6 (some .int)) (kR 2 45) (kPre (cP E) E [.ref (eA E 1), .int x1] σ) (kQi (cP E) (inC E) r σr) 0 0 (inC E) :=
  kst hE (by decide +kernel) (Nat.le_of_ble_eq_true rfl) (fun p e s m below meth c ls C hP hl => w_X4_readItem_0 C F σ x1 h s.heap [] hP va_S.rf ls hl)
end

section
variable {p : Program} {l : Launch} {e : Env} {s : State} {m : MethodId} {args : Array Value} {below : List Frame} {meth : Method} {c : Code} {E : kE} {σr : kS}
variable {r : Int32}
def s_X2_takeAct_0 (F : Nat) (σ : kS) : Option (Int32 × kS) :=
  (if (kI σ 7) < 0 then some ((0 : Int32), σ) else (if (6 : Int32) ≤ (kI σ 7) then some ((0 : Int32), σ) else (if (5 : Int32) ≤ (5 : Int32) then (if (4 : Int32) < (kA σ 1 0) then some ((0 : Int32), σ) else (if (3 : Int32) < (kA σ 1 1) then some ((0 : Int32), σ) else (if (kA σ 1 2) < (1 : Int32) then some ((0 : Int32), σ) else (if (kA σ 1 2) ≤ (99 : Int32) then (if (99 : Int32) < (kA σ 1 3) then some ((0 : Int32), σ) else (if (kA σ 1 4) ≤ (99 : Int32) then (if (0 : Int32) < 0 ∨ ((kI σ 7) * (5 : Int32)) < 0 ∨ (5 : Int32) < 0 ∨ 5 < (0 : Int32).toNatClampNeg + (5 : Int32).toNatClampNeg ∨ 30 < ((kI σ 7) * (5 : Int32)).toNatClampNeg + (5 : Int32).toNatClampNeg then none else some ((1 : Int32), (jI (jC σ 1 2 0 ((kI σ 7) * (5 : Int32)).toNatClampNeg 5) 7 ((kI σ 7) + (1 : Int32))))) else some ((0 : Int32), σ))) else some ((0 : Int32), σ))))) else some ((0 : Int32), σ))))
set_option maxRecDepth 100000 in
set_option maxHeartbeats 4000000 in
theorem w_X2_takeAct_0 (C : Cx E p s m args meth c cX2_takeAct 2 RX2 (some .boolean)) (F : Nat) (σ : kS) (h : s_X2_takeAct_0 F σ = some (r, σr)) (H : Heap) (locs : List Loc) (hP : cP E σ H) (hS : va_S (inC E) s.heap H locs) (ls : Array Slot) (hl : lv_has ls 2 [(0, .ref (eA E 4)), (1, .ref (eA E 3))]) : W p l e (kR 1 60) s m args below meth c H locs 0 0 (MQ below (kQi (cP E) (inC E) r σr) args s 0 0 (inC E)) (F0 m 0 ls []) := by
  obtain ⟨-, hx, hb, hml, hown, hts, hK, -, -⟩ := id C
  unfold s_X2_takeAct_0 at h
  refine lv_aload_n hx hb dX2_takeAct_0 rfl (lv_at hl 0 rfl) ?_
  refine gf_4_7 C hP (v := (kI σ 7)) rfl w_94 dX2_takeAct_1 ?_
  refine lv_if_lt (tgt := 22) hx hb dX2_takeAct_4 (by decide) (fun c_1 => ?_) (fun c_1 => ?_)
  · have h := k_t c_1 h
    refine lv_iconst (v := (0 : Int32)) hx hb dX2_takeAct_22 (by decide) ?_
    obtain ⟨rfl, rfl⟩ := k_inj h
    exact krz C hS hP (by decide) dX2_takeAct_23
  · have h := k_f c_1 h
    refine lv_aload_n hx hb dX2_takeAct_7 rfl (lv_at hl 0 rfl) ?_
    refine gf_4_7 C hP (v := (kI σ 7)) rfl w_94 dX2_takeAct_8 ?_
    refine lv_bipush (v := (6 : Int32)) hx hb dX2_takeAct_11 (by decide) ?_
    refine lv_icmp_ge (tgt := 22) hx hb dX2_takeAct_13 (by decide) (fun c_2 => ?_) (fun c_2 => ?_)
    · have h := k_t c_2 h
      refine lv_iconst (v := (0 : Int32)) hx hb dX2_takeAct_22 (by decide) ?_
      obtain ⟨rfl, rfl⟩ := k_inj h
      exact krz C hS hP (by decide) dX2_takeAct_23
    · have h := k_f c_2 h
      refine lv_aload_n hx hb dX2_takeAct_16 rfl (lv_at hl 1 rfl) ?_
      refine an_3 C hP dX2_takeAct_17 ?_
      refine lv_iconst (v := (5 : Int32)) hx hb dX2_takeAct_18 (by decide) ?_
      refine lv_icmp_ge (tgt := 24) hx hb dX2_takeAct_19 (by decide) (fun c_3 => ?_) (fun c_3 => ?_)
      · have h := k_t c_3 h
        refine lv_aload_n hx hb dX2_takeAct_24 rfl (lv_at hl 1 rfl) ?_
        refine lv_iconst (v := (0 : Int32)) hx hb dX2_takeAct_25 (by decide) ?_
        refine al_3 C hP (v := (kA σ 1 0)) rfl (by unfold vp_in; decide) dX2_takeAct_26 ?_
        refine lv_iconst (v := (4 : Int32)) hx hb dX2_takeAct_27 (by decide) ?_
        refine lv_icmp_gt (tgt := 53) hx hb dX2_takeAct_28 (by decide) (fun c_4 => ?_) (fun c_4 => ?_)
        · have h := k_t c_4 h
          refine lv_iconst (v := (0 : Int32)) hx hb dX2_takeAct_53 (by decide) ?_
          obtain ⟨rfl, rfl⟩ := k_inj h
          exact krz C hS hP (by decide) dX2_takeAct_54
        · have h := k_f c_4 h
          refine lv_aload_n hx hb dX2_takeAct_31 rfl (lv_at hl 1 rfl) ?_
          refine lv_iconst (v := (1 : Int32)) hx hb dX2_takeAct_32 (by decide) ?_
          refine al_3 C hP (v := (kA σ 1 1)) rfl (by unfold vp_in; decide) dX2_takeAct_33 ?_
          refine lv_iconst (v := (3 : Int32)) hx hb dX2_takeAct_34 (by decide) ?_
          refine lv_icmp_gt (tgt := 53) hx hb dX2_takeAct_35 (by decide) (fun c_5 => ?_) (fun c_5 => ?_)
          · have h := k_t c_5 h
            refine lv_iconst (v := (0 : Int32)) hx hb dX2_takeAct_53 (by decide) ?_
            obtain ⟨rfl, rfl⟩ := k_inj h
            exact krz C hS hP (by decide) dX2_takeAct_54
          · have h := k_f c_5 h
            refine lv_aload_n hx hb dX2_takeAct_38 rfl (lv_at hl 1 rfl) ?_
            refine lv_iconst (v := (2 : Int32)) hx hb dX2_takeAct_39 (by decide) ?_
            refine al_3 C hP (v := (kA σ 1 2)) rfl (by unfold vp_in; decide) dX2_takeAct_40 ?_
            refine lv_iconst (v := (1 : Int32)) hx hb dX2_takeAct_41 (by decide) ?_
            refine lv_icmp_lt (tgt := 53) hx hb dX2_takeAct_42 (by decide) (fun c_6 => ?_) (fun c_6 => ?_)
            · have h := k_t c_6 h
              refine lv_iconst (v := (0 : Int32)) hx hb dX2_takeAct_53 (by decide) ?_
              obtain ⟨rfl, rfl⟩ := k_inj h
              exact krz C hS hP (by decide) dX2_takeAct_54
            · have h := k_f c_6 h
              refine lv_aload_n hx hb dX2_takeAct_45 rfl (lv_at hl 1 rfl) ?_
              refine lv_iconst (v := (2 : Int32)) hx hb dX2_takeAct_46 (by decide) ?_
              refine al_3 C hP (v := (kA σ 1 2)) rfl (by unfold vp_in; decide) dX2_takeAct_47 ?_
              refine lv_bipush (v := (99 : Int32)) hx hb dX2_takeAct_48 (by decide) ?_
              refine lv_icmp_le (tgt := 55) hx hb dX2_takeAct_50 (by decide) (fun c_7 => ?_) (fun c_7 => ?_)
              · have h := k_t c_7 h
                refine lv_aload_n hx hb dX2_takeAct_55 rfl (lv_at hl 1 rfl) ?_
                refine lv_iconst (v := (3 : Int32)) hx hb dX2_takeAct_56 (by decide) ?_
                refine al_3 C hP (v := (kA σ 1 3)) rfl (by unfold vp_in; decide) dX2_takeAct_57 ?_
                refine lv_bipush (v := (99 : Int32)) hx hb dX2_takeAct_58 (by decide) ?_
                refine lv_icmp_gt (tgt := 71) hx hb dX2_takeAct_60 (by decide) (fun c_8 => ?_) (fun c_8 => ?_)
                · have h := k_t c_8 h
                  refine lv_iconst (v := (0 : Int32)) hx hb dX2_takeAct_71 (by decide) ?_
                  obtain ⟨rfl, rfl⟩ := k_inj h
                  exact krz C hS hP (by decide) dX2_takeAct_72
                · have h := k_f c_8 h
                  refine lv_aload_n hx hb dX2_takeAct_63 rfl (lv_at hl 1 rfl) ?_
                  refine lv_iconst (v := (4 : Int32)) hx hb dX2_takeAct_64 (by decide) ?_
                  refine al_3 C hP (v := (kA σ 1 4)) rfl (by unfold vp_in; decide) dX2_takeAct_65 ?_
                  refine lv_bipush (v := (99 : Int32)) hx hb dX2_takeAct_66 (by decide) ?_
                  refine lv_icmp_le (tgt := 73) hx hb dX2_takeAct_68 (by decide) (fun c_9 => ?_) (fun c_9 => ?_)
                  · have h := k_t c_9 h
                    refine lv_aload_n hx hb dX2_takeAct_73 rfl (lv_at hl 1 rfl) ?_
                    refine lv_iconst (v := (0 : Int32)) hx hb dX2_takeAct_74 (by decide) ?_
                    refine lv_aload_n hx hb dX2_takeAct_75 rfl (lv_at hl 0 rfl) ?_
                    refine gf_4_6 C hP w_92 dX2_takeAct_76 ?_
                    refine lv_aload_n hx hb dX2_takeAct_79 rfl (lv_at hl 0 rfl) ?_
                    refine gf_4_7 C hP (v := (kI σ 7)) rfl w_94 dX2_takeAct_80 ?_
                    refine lv_iconst (v := (5 : Int32)) hx hb dX2_takeAct_83 (by decide) ?_
                    refine lv_imul hx hb dX2_takeAct_84 ?_
                    refine lv_iconst (v := (5 : Int32)) hx hb dX2_takeAct_85 (by decide) ?_
                    obtain ⟨n_10, h⟩ := k_no h
                    refine ac_3_5 C hl.1 hP hS (σ2 := (jC σ 1 2 0 ((kI σ 7) * (5 : Int32)).toNatClampNeg 5)) rfl n_10 w_342 (Nat.le_of_ble_eq_true rfl) (Nat.le_of_ble_eq_true rfl) dX2_takeAct_86 (fun H locs hP hS => ?_)
                    refine lv_aload_n hx hb dX2_takeAct_89 rfl (lv_at hl 0 rfl) ?_
                    refine lv_dup hx hb dX2_takeAct_90 rfl ?_
                    refine gf_4_7 C hP (v := (kI σ 7)) rfl w_94 dX2_takeAct_91 ?_
                    refine lv_iconst (v := (1 : Int32)) hx hb dX2_takeAct_94 (by decide) ?_
                    refine lv_iadd hx hb dX2_takeAct_95 ?_
                    refine pf_4_7 C hP hS w_94 dX2_takeAct_96 (fun H locs hP hS => ?_)
                    refine lv_iconst (v := (1 : Int32)) hx hb dX2_takeAct_99 (by decide) ?_
                    obtain ⟨rfl, rfl⟩ := k_inj h
                    exact krz C hS hP (by decide) dX2_takeAct_100
                  · have h := k_f c_9 h
                    refine lv_iconst (v := (0 : Int32)) hx hb dX2_takeAct_71 (by decide) ?_
                    obtain ⟨rfl, rfl⟩ := k_inj h
                    exact krz C hS hP (by decide) dX2_takeAct_72
              · have h := k_f c_7 h
                refine lv_iconst (v := (0 : Int32)) hx hb dX2_takeAct_53 (by decide) ?_
                obtain ⟨rfl, rfl⟩ := k_inj h
                exact krz C hS hP (by decide) dX2_takeAct_54
      · have h := k_f c_3 h
        refine lv_iconst (v := (0 : Int32)) hx hb dX2_takeAct_22 (by decide) ?_
        obtain ⟨rfl, rfl⟩ := k_inj h
        exact krz C hS hP (by decide) dX2_takeAct_23
def f_X2_takeAct (F : Nat) (σ : kS) : Option (Int32 × kS) := s_X2_takeAct_0 F σ
set_option maxRecDepth 100000 in
theorem c_X2_takeAct (E : kE) (hE : kap E) (F : Nat) (σ : kS) (h : f_X2_takeAct F σ = some (r, σr)) : Met l yX2_takeAct (kWs yX2_takeAct cX2_takeAct 2 (some .boolean)) (kR 1 60) (kPre (cP E) E [.ref (eA E 4), .ref (eA E 3)] σ) (kQi (cP E) (inC E) r σr) 0 0 (inC E) :=
  kst hE (by decide +kernel) (Nat.le_of_ble_eq_true rfl) (fun p e s m below meth c ls C hP hl => w_X2_takeAct_0 C F σ h s.heap [] hP va_S.rf ls hl)
end

section
variable {p : Program} {l : Launch} {e : Env} {s : State} {m : MethodId} {args : Array Value} {below : List Frame} {meth : Method} {c : Code} {E : kE} {σr : kS}
variable {r : Int32}
def s_X2_takeOrigin_0 (F : Nat) (σ : kS) (x1 : Int32) : Option (Int32 × kS) :=
  (if x1 < 0 then some ((0 : Int32), σ) else (if x1 ≤ (999 : Int32) then some ((1 : Int32), (jI σ 5 x1)) else some ((0 : Int32), σ)))
set_option maxRecDepth 100000 in
set_option maxHeartbeats 4000000 in
theorem w_X2_takeOrigin_0 (C : Cx E p s m args meth c cX2_takeOrigin 2 RX2 (some .boolean)) (F : Nat) (σ : kS) (x1 : Int32) (h : s_X2_takeOrigin_0 F σ x1 = some (r, σr)) (H : Heap) (locs : List Loc) (hP : cP E σ H) (hS : va_S (inC E) s.heap H locs) (ls : Array Slot) (hl : lv_has ls 2 [(0, .ref (eA E 4)), (1, .int x1)]) : W p l e (kR 0 0) s m args below meth c H locs 0 0 (MQ below (kQi (cP E) (inC E) r σr) args s 0 0 (inC E)) (F0 m 0 ls []) := by
  obtain ⟨-, hx, hb, hml, hown, hts, hK, -, -⟩ := id C
  unfold s_X2_takeOrigin_0 at h
  refine lv_iload_n hx hb dX2_takeOrigin_0 rfl (lv_at hl 1 rfl) ?_
  refine lv_if_lt (tgt := 11) hx hb dX2_takeOrigin_1 (by decide) (fun c_1 => ?_) (fun c_1 => ?_)
  · have h := k_t c_1 h
    refine lv_iconst (v := (0 : Int32)) hx hb dX2_takeOrigin_11 (by decide) ?_
    obtain ⟨rfl, rfl⟩ := k_inj h
    exact krz C hS hP (by decide) dX2_takeOrigin_12
  · have h := k_f c_1 h
    refine lv_iload_n hx hb dX2_takeOrigin_4 rfl (lv_at hl 1 rfl) ?_
    refine lv_sipush (v := (999 : Int32)) hx hb dX2_takeOrigin_5 (by decide) ?_
    refine lv_icmp_le (tgt := 13) hx hb dX2_takeOrigin_8 (by decide) (fun c_2 => ?_) (fun c_2 => ?_)
    · have h := k_t c_2 h
      refine lv_aload_n hx hb dX2_takeOrigin_13 rfl (lv_at hl 0 rfl) ?_
      refine lv_iload_n hx hb dX2_takeOrigin_14 rfl (lv_at hl 1 rfl) ?_
      refine pf_4_4 C hP hS w_90 dX2_takeOrigin_15 (fun H locs hP hS => ?_)
      refine lv_iconst (v := (1 : Int32)) hx hb dX2_takeOrigin_18 (by decide) ?_
      obtain ⟨rfl, rfl⟩ := k_inj h
      exact krz C hS hP (by decide) dX2_takeOrigin_19
    · have h := k_f c_2 h
      refine lv_iconst (v := (0 : Int32)) hx hb dX2_takeOrigin_11 (by decide) ?_
      obtain ⟨rfl, rfl⟩ := k_inj h
      exact krz C hS hP (by decide) dX2_takeOrigin_12
def f_X2_takeOrigin (F : Nat) (σ : kS) (x1 : Int32) : Option (Int32 × kS) := s_X2_takeOrigin_0 F σ x1
set_option maxRecDepth 100000 in
theorem c_X2_takeOrigin (E : kE) (hE : kap E) (F : Nat) (σ : kS) (x1 : Int32) (h : f_X2_takeOrigin F σ x1 = some (r, σr)) : Met l yX2_takeOrigin (kWs yX2_takeOrigin cX2_takeOrigin 2 (some .boolean)) (kR 0 0) (kPre (cP E) E [.ref (eA E 4), .int x1] σ) (kQi (cP E) (inC E) r σr) 0 0 (inC E) :=
  kst hE (by decide +kernel) (Nat.le_of_ble_eq_true rfl) (fun p e s m below meth c ls C hP hl => w_X2_takeOrigin_0 C F σ x1 h s.heap [] hP va_S.rf ls hl)
end

section
variable {p : Program} {l : Launch} {e : Env} {s : State} {m : MethodId} {args : Array Value} {below : List Frame} {meth : Method} {c : Code} {E : kE} {σr : kS}
variable {r : Int32}
def s_X2_takeSilt_0 (F : Nat) (σ : kS) (x1 : Int32) : Option (Int32 × kS) :=
  (if x1 < 0 then some ((0 : Int32), σ) else (if x1 ≤ (99 : Int32) then some ((1 : Int32), (jI σ 6 x1)) else some ((0 : Int32), σ)))
set_option maxRecDepth 100000 in
set_option maxHeartbeats 4000000 in
theorem w_X2_takeSilt_0 (C : Cx E p s m args meth c cX2_takeSilt 2 RX2 (some .boolean)) (F : Nat) (σ : kS) (x1 : Int32) (h : s_X2_takeSilt_0 F σ x1 = some (r, σr)) (H : Heap) (locs : List Loc) (hP : cP E σ H) (hS : va_S (inC E) s.heap H locs) (ls : Array Slot) (hl : lv_has ls 2 [(0, .ref (eA E 4)), (1, .int x1)]) : W p l e (kR 0 0) s m args below meth c H locs 0 0 (MQ below (kQi (cP E) (inC E) r σr) args s 0 0 (inC E)) (F0 m 0 ls []) := by
  obtain ⟨-, hx, hb, hml, hown, hts, hK, -, -⟩ := id C
  unfold s_X2_takeSilt_0 at h
  refine lv_iload_n hx hb dX2_takeSilt_0 rfl (lv_at hl 1 rfl) ?_
  refine lv_if_lt (tgt := 10) hx hb dX2_takeSilt_1 (by decide) (fun c_1 => ?_) (fun c_1 => ?_)
  · have h := k_t c_1 h
    refine lv_iconst (v := (0 : Int32)) hx hb dX2_takeSilt_10 (by decide) ?_
    obtain ⟨rfl, rfl⟩ := k_inj h
    exact krz C hS hP (by decide) dX2_takeSilt_11
  · have h := k_f c_1 h
    refine lv_iload_n hx hb dX2_takeSilt_4 rfl (lv_at hl 1 rfl) ?_
    refine lv_bipush (v := (99 : Int32)) hx hb dX2_takeSilt_5 (by decide) ?_
    refine lv_icmp_le (tgt := 12) hx hb dX2_takeSilt_7 (by decide) (fun c_2 => ?_) (fun c_2 => ?_)
    · have h := k_t c_2 h
      refine lv_aload_n hx hb dX2_takeSilt_12 rfl (lv_at hl 0 rfl) ?_
      refine lv_iload_n hx hb dX2_takeSilt_13 rfl (lv_at hl 1 rfl) ?_
      refine pf_4_5 C hP hS w_91 dX2_takeSilt_14 (fun H locs hP hS => ?_)
      refine lv_iconst (v := (1 : Int32)) hx hb dX2_takeSilt_17 (by decide) ?_
      obtain ⟨rfl, rfl⟩ := k_inj h
      exact krz C hS hP (by decide) dX2_takeSilt_18
    · have h := k_f c_2 h
      refine lv_iconst (v := (0 : Int32)) hx hb dX2_takeSilt_10 (by decide) ?_
      obtain ⟨rfl, rfl⟩ := k_inj h
      exact krz C hS hP (by decide) dX2_takeSilt_11
def f_X2_takeSilt (F : Nat) (σ : kS) (x1 : Int32) : Option (Int32 × kS) := s_X2_takeSilt_0 F σ x1
set_option maxRecDepth 100000 in
theorem c_X2_takeSilt (E : kE) (hE : kap E) (F : Nat) (σ : kS) (x1 : Int32) (h : f_X2_takeSilt F σ x1 = some (r, σr)) : Met l yX2_takeSilt (kWs yX2_takeSilt cX2_takeSilt 2 (some .boolean)) (kR 0 0) (kPre (cP E) E [.ref (eA E 4), .int x1] σ) (kQi (cP E) (inC E) r σr) 0 0 (inC E) :=
  kst hE (by decide +kernel) (Nat.le_of_ble_eq_true rfl) (fun p e s m below meth c ls C hP hl => w_X2_takeSilt_0 C F σ x1 h s.heap [] hP va_S.rf ls hl)
end

section
variable {p : Program} {l : Launch} {e : Env} {s : State} {m : MethodId} {args : Array Value} {below : List Frame} {meth : Method} {c : Code} {E : kE} {σr : kS}
variable {r : Int32}
def s_X2_takeTide_0 (F : Nat) (σ : kS) (x1 : Int32) (x2 : Int32) (x3 : Int32) (x4 : Int32) : Option (Int32 × kS) :=
  (if x1 < (20 : Int32) then some ((0 : Int32), σ) else (if (999 : Int32) < x1 then some ((0 : Int32), σ) else (if x2 < (1 : Int32) then some ((0 : Int32), σ) else (if (20 : Int32) < x2 then some ((0 : Int32), σ) else (if ((20 : Int32) * x2) ≤ x1 then (if x4 < (2 : Int32) then some ((0 : Int32), σ) else (if (20 : Int32) < x4 then some ((0 : Int32), σ) else (if x3 < (1 : Int32) then some ((0 : Int32), σ) else (if x3 ≤ (x4 - (1 : Int32)) then some ((1 : Int32), (jI (jI (jI (jI σ 1 x1) 2 x2) 3 x3) 4 x4)) else some ((0 : Int32), σ))))) else some ((0 : Int32), σ))))))
set_option maxRecDepth 100000 in
set_option maxHeartbeats 4000000 in
theorem w_X2_takeTide_0 (C : Cx E p s m args meth c cX2_takeTide 5 RX2 (some .boolean)) (F : Nat) (σ : kS) (x1 : Int32) (x2 : Int32) (x3 : Int32) (x4 : Int32) (h : s_X2_takeTide_0 F σ x1 x2 x3 x4 = some (r, σr)) (H : Heap) (locs : List Loc) (hP : cP E σ H) (hS : va_S (inC E) s.heap H locs) (ls : Array Slot) (hl : lv_has ls 5 [(0, .ref (eA E 4)), (1, .int x1), (2, .int x2), (3, .int x3), (4, .int x4)]) : W p l e (kR 0 0) s m args below meth c H locs 0 0 (MQ below (kQi (cP E) (inC E) r σr) args s 0 0 (inC E)) (F0 m 0 ls []) := by
  obtain ⟨-, hx, hb, hml, hown, hts, hK, -, -⟩ := id C
  unfold s_X2_takeTide_0 at h
  refine lv_iload_n hx hb dX2_takeTide_0 rfl (lv_at hl 1 rfl) ?_
  refine lv_bipush (v := (20 : Int32)) hx hb dX2_takeTide_1 (by decide) ?_
  refine lv_icmp_lt (tgt := 32) hx hb dX2_takeTide_3 (by decide) (fun c_1 => ?_) (fun c_1 => ?_)
  · have h := k_t c_1 h
    refine lv_iconst (v := (0 : Int32)) hx hb dX2_takeTide_32 (by decide) ?_
    obtain ⟨rfl, rfl⟩ := k_inj h
    exact krz C hS hP (by decide) dX2_takeTide_33
  · have h := k_f c_1 h
    refine lv_iload_n hx hb dX2_takeTide_6 rfl (lv_at hl 1 rfl) ?_
    refine lv_sipush (v := (999 : Int32)) hx hb dX2_takeTide_7 (by decide) ?_
    refine lv_icmp_gt (tgt := 32) hx hb dX2_takeTide_10 (by decide) (fun c_2 => ?_) (fun c_2 => ?_)
    · have h := k_t c_2 h
      refine lv_iconst (v := (0 : Int32)) hx hb dX2_takeTide_32 (by decide) ?_
      obtain ⟨rfl, rfl⟩ := k_inj h
      exact krz C hS hP (by decide) dX2_takeTide_33
    · have h := k_f c_2 h
      refine lv_iload_n hx hb dX2_takeTide_13 rfl (lv_at hl 2 rfl) ?_
      refine lv_iconst (v := (1 : Int32)) hx hb dX2_takeTide_14 (by decide) ?_
      refine lv_icmp_lt (tgt := 32) hx hb dX2_takeTide_15 (by decide) (fun c_3 => ?_) (fun c_3 => ?_)
      · have h := k_t c_3 h
        refine lv_iconst (v := (0 : Int32)) hx hb dX2_takeTide_32 (by decide) ?_
        obtain ⟨rfl, rfl⟩ := k_inj h
        exact krz C hS hP (by decide) dX2_takeTide_33
      · have h := k_f c_3 h
        refine lv_iload_n hx hb dX2_takeTide_18 rfl (lv_at hl 2 rfl) ?_
        refine lv_bipush (v := (20 : Int32)) hx hb dX2_takeTide_19 (by decide) ?_
        refine lv_icmp_gt (tgt := 32) hx hb dX2_takeTide_21 (by decide) (fun c_4 => ?_) (fun c_4 => ?_)
        · have h := k_t c_4 h
          refine lv_iconst (v := (0 : Int32)) hx hb dX2_takeTide_32 (by decide) ?_
          obtain ⟨rfl, rfl⟩ := k_inj h
          exact krz C hS hP (by decide) dX2_takeTide_33
        · have h := k_f c_4 h
          refine lv_iload_n hx hb dX2_takeTide_24 rfl (lv_at hl 1 rfl) ?_
          refine lv_bipush (v := (20 : Int32)) hx hb dX2_takeTide_25 (by decide) ?_
          refine lv_iload_n hx hb dX2_takeTide_27 rfl (lv_at hl 2 rfl) ?_
          refine lv_imul hx hb dX2_takeTide_28 ?_
          refine lv_icmp_ge (tgt := 34) hx hb dX2_takeTide_29 (by decide) (fun c_5 => ?_) (fun c_5 => ?_)
          · have h := k_t c_5 h
            refine lv_iload hx hb dX2_takeTide_34 (lv_at hl 4 rfl) ?_
            refine lv_iconst (v := (2 : Int32)) hx hb dX2_takeTide_36 (by decide) ?_
            refine lv_icmp_lt (tgt := 60) hx hb dX2_takeTide_37 (by decide) (fun c_6 => ?_) (fun c_6 => ?_)
            · have h := k_t c_6 h
              refine lv_iconst (v := (0 : Int32)) hx hb dX2_takeTide_60 (by decide) ?_
              obtain ⟨rfl, rfl⟩ := k_inj h
              exact krz C hS hP (by decide) dX2_takeTide_61
            · have h := k_f c_6 h
              refine lv_iload hx hb dX2_takeTide_40 (lv_at hl 4 rfl) ?_
              refine lv_bipush (v := (20 : Int32)) hx hb dX2_takeTide_42 (by decide) ?_
              refine lv_icmp_gt (tgt := 60) hx hb dX2_takeTide_44 (by decide) (fun c_7 => ?_) (fun c_7 => ?_)
              · have h := k_t c_7 h
                refine lv_iconst (v := (0 : Int32)) hx hb dX2_takeTide_60 (by decide) ?_
                obtain ⟨rfl, rfl⟩ := k_inj h
                exact krz C hS hP (by decide) dX2_takeTide_61
              · have h := k_f c_7 h
                refine lv_iload_n hx hb dX2_takeTide_47 rfl (lv_at hl 3 rfl) ?_
                refine lv_iconst (v := (1 : Int32)) hx hb dX2_takeTide_48 (by decide) ?_
                refine lv_icmp_lt (tgt := 60) hx hb dX2_takeTide_49 (by decide) (fun c_8 => ?_) (fun c_8 => ?_)
                · have h := k_t c_8 h
                  refine lv_iconst (v := (0 : Int32)) hx hb dX2_takeTide_60 (by decide) ?_
                  obtain ⟨rfl, rfl⟩ := k_inj h
                  exact krz C hS hP (by decide) dX2_takeTide_61
                · have h := k_f c_8 h
                  refine lv_iload_n hx hb dX2_takeTide_52 rfl (lv_at hl 3 rfl) ?_
                  refine lv_iload hx hb dX2_takeTide_53 (lv_at hl 4 rfl) ?_
                  refine lv_iconst (v := (1 : Int32)) hx hb dX2_takeTide_55 (by decide) ?_
                  refine lv_isub hx hb dX2_takeTide_56 ?_
                  refine lv_icmp_le (tgt := 62) hx hb dX2_takeTide_57 (by decide) (fun c_9 => ?_) (fun c_9 => ?_)
                  · have h := k_t c_9 h
                    refine lv_aload_n hx hb dX2_takeTide_62 rfl (lv_at hl 0 rfl) ?_
                    refine lv_iload_n hx hb dX2_takeTide_63 rfl (lv_at hl 1 rfl) ?_
                    refine pf_4_0 C hP hS w_86 dX2_takeTide_64 (fun H locs hP hS => ?_)
                    refine lv_aload_n hx hb dX2_takeTide_67 rfl (lv_at hl 0 rfl) ?_
                    refine lv_iload_n hx hb dX2_takeTide_68 rfl (lv_at hl 2 rfl) ?_
                    refine pf_4_1 C hP hS w_87 dX2_takeTide_69 (fun H locs hP hS => ?_)
                    refine lv_aload_n hx hb dX2_takeTide_72 rfl (lv_at hl 0 rfl) ?_
                    refine lv_iload_n hx hb dX2_takeTide_73 rfl (lv_at hl 3 rfl) ?_
                    refine pf_4_2 C hP hS w_88 dX2_takeTide_74 (fun H locs hP hS => ?_)
                    refine lv_aload_n hx hb dX2_takeTide_77 rfl (lv_at hl 0 rfl) ?_
                    refine lv_iload hx hb dX2_takeTide_78 (lv_at hl 4 rfl) ?_
                    refine pf_4_3 C hP hS w_89 dX2_takeTide_80 (fun H locs hP hS => ?_)
                    refine lv_iconst (v := (1 : Int32)) hx hb dX2_takeTide_83 (by decide) ?_
                    obtain ⟨rfl, rfl⟩ := k_inj h
                    exact krz C hS hP (by decide) dX2_takeTide_84
                  · have h := k_f c_9 h
                    refine lv_iconst (v := (0 : Int32)) hx hb dX2_takeTide_60 (by decide) ?_
                    obtain ⟨rfl, rfl⟩ := k_inj h
                    exact krz C hS hP (by decide) dX2_takeTide_61
          · have h := k_f c_5 h
            refine lv_iconst (v := (0 : Int32)) hx hb dX2_takeTide_32 (by decide) ?_
            obtain ⟨rfl, rfl⟩ := k_inj h
            exact krz C hS hP (by decide) dX2_takeTide_33
def f_X2_takeTide (F : Nat) (σ : kS) (x1 : Int32) (x2 : Int32) (x3 : Int32) (x4 : Int32) : Option (Int32 × kS) := s_X2_takeTide_0 F σ x1 x2 x3 x4
set_option maxRecDepth 100000 in
theorem c_X2_takeTide (E : kE) (hE : kap E) (F : Nat) (σ : kS) (x1 : Int32) (x2 : Int32) (x3 : Int32) (x4 : Int32) (h : f_X2_takeTide F σ x1 x2 x3 x4 = some (r, σr)) : Met l yX2_takeTide (kWs yX2_takeTide cX2_takeTide 5 (some .boolean)) (kR 0 0) (kPre (cP E) E [.ref (eA E 4), .int x1, .int x2, .int x3, .int x4] σ) (kQi (cP E) (inC E) r σr) 0 0 (inC E) :=
  kst hE (by decide +kernel) (Nat.le_of_ble_eq_true rfl) (fun p e s m below meth c ls C hP hl => w_X2_takeTide_0 C F σ x1 x2 x3 x4 h s.heap [] hP va_S.rf ls hl)
end

section
variable {p : Program} {l : Launch} {e : Env} {s : State} {m : MethodId} {args : Array Value} {below : List Frame} {meth : Method} {c : Code} {E : kE} {σr : kS}
variable {r : Int32}
def s_X2_takeItem_0 (F : Nat) (σ : kS) (x1 : Int32) : Option (Int32 × kS) :=
  (if (5 : Int32) ≤ (5 : Int32) then (if x1 = (97 : Int32) then (kb (f_X2_takeAct F σ) fun v_3 σ_4 => (if v_3 &&& 1 = v_3 then some (v_3, σ_4) else none)) else (if x1 = (111 : Int32) then (kb (f_X2_takeOrigin F σ (kA σ 1 0)) fun v_8 σ_9 => (if v_8 &&& 1 = v_8 then some (v_8, σ_9) else none)) else (if x1 = (115 : Int32) then (kb (f_X2_takeSilt F σ (kA σ 1 0)) fun v_13 σ_14 => (if v_13 &&& 1 = v_13 then some (v_13, σ_14) else none)) else (if x1 = (116 : Int32) then (kb (f_X2_takeTide F σ (kA σ 1 0) (kA σ 1 1) (kA σ 1 2) (kA σ 1 3)) fun v_18 σ_19 => (if v_18 &&& 1 = v_18 then some (v_18, σ_19) else none)) else some ((0 : Int32), σ))))) else some ((0 : Int32), σ))
set_option maxRecDepth 100000 in
set_option maxHeartbeats 4000000 in
theorem w_X2_takeItem_0 (C : Cx E p s m args meth c cX2_takeItem 3 RX2 (some .boolean)) (F : Nat) (σ : kS) (x1 : Int32) (h : s_X2_takeItem_0 F σ x1 = some (r, σr)) (H : Heap) (locs : List Loc) (hP : cP E σ H) (hS : va_S (inC E) s.heap H locs) (ls : Array Slot) (hl : lv_has ls 3 [(0, .ref (eA E 4)), (1, .int x1), (2, .ref (eA E 3))]) : W p l e (kR 2 81) s m args below meth c H locs 0 0 (MQ below (kQi (cP E) (inC E) r σr) args s 0 0 (inC E)) (F0 m 0 ls []) := by
  obtain ⟨-, hx, hb, hml, hown, hts, hK, -, -⟩ := id C
  unfold s_X2_takeItem_0 at h
  refine lv_aload_n hx hb dX2_takeItem_0 rfl (lv_at hl 2 rfl) ?_
  refine an_3 C hP dX2_takeItem_1 ?_
  refine lv_iconst (v := (5 : Int32)) hx hb dX2_takeItem_2 (by decide) ?_
  refine lv_icmp_ge (tgt := 8) hx hb dX2_takeItem_3 (by decide) (fun c_1 => ?_) (fun c_1 => ?_)
  · have h := k_t c_1 h
    refine lv_iload_n hx hb dX2_takeItem_8 rfl (lv_at hl 1 rfl) ?_
    by_cases c_2 : x1 = (97 : Int32)
    · have h := k_t c_2 h
      refine lv_lookup (off := 76) (tgt := 85) hx hb dX2_takeItem_9 (by decide) (by rw [c_2]; decide) (by decide) ?_
      refine lv_aload_n hx hb dX2_takeItem_85 rfl (lv_at hl 0 rfl) ?_
      refine lv_aload_n hx hb dX2_takeItem_86 rfl (lv_at hl 2 rfl) ?_
      obtain ⟨v_3, σ_4, hc_5, h⟩ := kb_ok h
      refine kci (krunV (As := [.ref (eA E 3)]) C hP (c_X2_takeAct E C.1 F σ hc_5) w_338 kv_X2_takeAct ⟨Nat.le_of_ble_eq_true rfl, Nat.le_of_ble_eq_true rfl⟩ (rc_4 C hP) rfl hl.1 rfl (Nat.le_of_ble_eq_true rfl) dX2_takeItem_87) hS (fun H locs hP hS => ?_)
      obtain ⟨n_6, h⟩ := k_yes h
      obtain ⟨rfl, rfl⟩ := k_inj h
      exact krz C hS hP n_6 dX2_takeItem_90
    · have h := k_f c_2 h
      by_cases c_7 : x1 = (111 : Int32)
      · have h := k_t c_7 h
        refine lv_lookup (off := 60) (tgt := 69) hx hb dX2_takeItem_9 (by decide) (by rw [c_7]; decide) (by decide) ?_
        refine lv_aload_n hx hb dX2_takeItem_69 rfl (lv_at hl 0 rfl) ?_
        refine lv_aload_n hx hb dX2_takeItem_70 rfl (lv_at hl 2 rfl) ?_
        refine lv_iconst (v := (0 : Int32)) hx hb dX2_takeItem_71 (by decide) ?_
        refine al_3 C hP (v := (kA σ 1 0)) rfl (by unfold vp_in; decide) dX2_takeItem_72 ?_
        obtain ⟨v_8, σ_9, hc_10, h⟩ := kb_ok h
        refine kci (krunV (As := [.int (kA σ 1 0)]) C hP (c_X2_takeOrigin E C.1 F σ (kA σ 1 0) hc_10) w_330 kv_X2_takeOrigin ⟨Nat.le_of_ble_eq_true rfl, Nat.le_of_ble_eq_true rfl⟩ (rc_4 C hP) rfl hl.1 rfl (Nat.le_of_ble_eq_true rfl) dX2_takeItem_73) hS (fun H locs hP hS => ?_)
        obtain ⟨n_11, h⟩ := k_yes h
        obtain ⟨rfl, rfl⟩ := k_inj h
        exact krz C hS hP n_11 dX2_takeItem_76
      · have h := k_f c_7 h
        by_cases c_12 : x1 = (115 : Int32)
        · have h := k_t c_12 h
          refine lv_lookup (off := 68) (tgt := 77) hx hb dX2_takeItem_9 (by decide) (by rw [c_12]; decide) (by decide) ?_
          refine lv_aload_n hx hb dX2_takeItem_77 rfl (lv_at hl 0 rfl) ?_
          refine lv_aload_n hx hb dX2_takeItem_78 rfl (lv_at hl 2 rfl) ?_
          refine lv_iconst (v := (0 : Int32)) hx hb dX2_takeItem_79 (by decide) ?_
          refine al_3 C hP (v := (kA σ 1 0)) rfl (by unfold vp_in; decide) dX2_takeItem_80 ?_
          obtain ⟨v_13, σ_14, hc_15, h⟩ := kb_ok h
          refine kci (krunV (As := [.int (kA σ 1 0)]) C hP (c_X2_takeSilt E C.1 F σ (kA σ 1 0) hc_15) w_334 kv_X2_takeSilt ⟨Nat.le_of_ble_eq_true rfl, Nat.le_of_ble_eq_true rfl⟩ (rc_4 C hP) rfl hl.1 rfl (Nat.le_of_ble_eq_true rfl) dX2_takeItem_81) hS (fun H locs hP hS => ?_)
          obtain ⟨n_16, h⟩ := k_yes h
          obtain ⟨rfl, rfl⟩ := k_inj h
          exact krz C hS hP n_16 dX2_takeItem_84
        · have h := k_f c_12 h
          by_cases c_17 : x1 = (116 : Int32)
          · have h := k_t c_17 h
            refine lv_lookup (off := 43) (tgt := 52) hx hb dX2_takeItem_9 (by decide) (by rw [c_17]; decide) (by decide) ?_
            refine lv_aload_n hx hb dX2_takeItem_52 rfl (lv_at hl 0 rfl) ?_
            refine lv_aload_n hx hb dX2_takeItem_53 rfl (lv_at hl 2 rfl) ?_
            refine lv_iconst (v := (0 : Int32)) hx hb dX2_takeItem_54 (by decide) ?_
            refine al_3 C hP (v := (kA σ 1 0)) rfl (by unfold vp_in; decide) dX2_takeItem_55 ?_
            refine lv_aload_n hx hb dX2_takeItem_56 rfl (lv_at hl 2 rfl) ?_
            refine lv_iconst (v := (1 : Int32)) hx hb dX2_takeItem_57 (by decide) ?_
            refine al_3 C hP (v := (kA σ 1 1)) rfl (by unfold vp_in; decide) dX2_takeItem_58 ?_
            refine lv_aload_n hx hb dX2_takeItem_59 rfl (lv_at hl 2 rfl) ?_
            refine lv_iconst (v := (2 : Int32)) hx hb dX2_takeItem_60 (by decide) ?_
            refine al_3 C hP (v := (kA σ 1 2)) rfl (by unfold vp_in; decide) dX2_takeItem_61 ?_
            refine lv_aload_n hx hb dX2_takeItem_62 rfl (lv_at hl 2 rfl) ?_
            refine lv_iconst (v := (3 : Int32)) hx hb dX2_takeItem_63 (by decide) ?_
            refine al_3 C hP (v := (kA σ 1 3)) rfl (by unfold vp_in; decide) dX2_takeItem_64 ?_
            obtain ⟨v_18, σ_19, hc_20, h⟩ := kb_ok h
            refine kci (krunV (As := [.int (kA σ 1 0), .int (kA σ 1 1), .int (kA σ 1 2), .int (kA σ 1 3)]) C hP (c_X2_takeTide E C.1 F σ (kA σ 1 0) (kA σ 1 1) (kA σ 1 2) (kA σ 1 3) hc_20) w_326 kv_X2_takeTide ⟨Nat.le_of_ble_eq_true rfl, Nat.le_of_ble_eq_true rfl⟩ (rc_4 C hP) rfl hl.1 rfl (Nat.le_of_ble_eq_true rfl) dX2_takeItem_65) hS (fun H locs hP hS => ?_)
            obtain ⟨n_21, h⟩ := k_yes h
            obtain ⟨rfl, rfl⟩ := k_inj h
            exact krz C hS hP n_21 dX2_takeItem_68
          · have h := k_f c_17 h
            refine lv_lookup (off := 82) (tgt := 91) hx hb dX2_takeItem_9 (by decide) ((lv_osw c_2 (by decide)).trans ((lv_osw c_7 (by decide)).trans ((lv_osw c_12 (by decide)).trans ((lv_osw c_17 (by decide)).trans rfl)))) (by decide) ?_
            refine lv_iconst (v := (0 : Int32)) hx hb dX2_takeItem_91 (by decide) ?_
            obtain ⟨rfl, rfl⟩ := k_inj h
            exact krz C hS hP (by decide) dX2_takeItem_92
  · have h := k_f c_1 h
    refine lv_iconst (v := (0 : Int32)) hx hb dX2_takeItem_6 (by decide) ?_
    obtain ⟨rfl, rfl⟩ := k_inj h
    exact krz C hS hP (by decide) dX2_takeItem_7
def f_X2_takeItem (F : Nat) (σ : kS) (x1 : Int32) : Option (Int32 × kS) := s_X2_takeItem_0 F σ x1
set_option maxRecDepth 100000 in
theorem c_X2_takeItem (E : kE) (hE : kap E) (F : Nat) (σ : kS) (x1 : Int32) (h : f_X2_takeItem F σ x1 = some (r, σr)) : Met l yX2_takeItem (kWs yX2_takeItem cX2_takeItem 3 (some .boolean)) (kR 2 81) (kPre (cP E) E [.ref (eA E 4), .int x1, .ref (eA E 3)] σ) (kQi (cP E) (inC E) r σr) 0 0 (inC E) :=
  kst hE (by decide +kernel) (Nat.le_of_ble_eq_true rfl) (fun p e s m below meth c ls C hP hl => w_X2_takeItem_0 C F σ x1 h s.heap [] hP va_S.rf ls hl)
end

section
variable {p : Program} {l : Launch} {e : Env} {s : State} {m : MethodId} {args : Array Value} {below : List Frame} {meth : Method} {c : Code} {E : kE} {σr : kS}
variable {r : Int32}
def s_X8_counted_33 (F : Nat) (rec6 : (kS × Int64 × Int32 × Int32 × Int32 × Int32 → Option (Int32 × kS))) (σ : kS) (x1 : Int64) (x3 : Int32) (x4 : Int32) (x6 : Int32) (y0 : Int32) (y1 : Int32) : Option (Int32 × kS) :=
  rec6 (σ, x1, x3, x4, (y1 + y0), (x6 + (1 : Int32)))
set_option maxRecDepth 100000 in
set_option maxHeartbeats 4000000 in
theorem w_X8_counted_33 (C : Cx E p s m args meth c cX8_counted 7 RX8 (some .int)) (F : Nat) (rec6 : (kS × Int64 × Int32 × Int32 × Int32 × Int32 → Option (Int32 × kS))) (hrec6 : ∀ (σ : kS) (x1 : Int64) (x3 : Int32) (x4 : Int32) (x5 : Int32) (x6 : Int32), rec6 (σ, x1, x3, x4, x5, x6) = some (r, σr) → ∀ (H : Heap) (locs : List Loc), mP E σ H → va_S (inM E) s.heap H locs → ∀ (ls : Array Slot), lv_has ls 7 [(0, .ref (eA E 27)), (1, .long x1), (3, .int x3), (4, .int x4), (5, .int x5), (6, .int x6)] → W p l e (kR 1 30) s m args below meth c H locs 0 0 (MQ below (kQi (mP E) (inM E) r σr) args s 0 0 (inM E)) (F0 m 6 ls [])) (σ : kS) (x1 : Int64) (x3 : Int32) (x4 : Int32) (x6 : Int32) (y0 : Int32) (y1 : Int32) (h : s_X8_counted_33 F rec6 σ x1 x3 x4 x6 y0 y1 = some (r, σr)) (H : Heap) (locs : List Loc) (hP : mP E σ H) (hS : va_S (inM E) s.heap H locs) (ls : Array Slot) (hl : lv_has ls 7 [(0, .ref (eA E 27)), (1, .long x1), (3, .int x3), (4, .int x4), (6, .int x6)]) : W p l e (kR 1 30) s m args below meth c H locs 0 0 (MQ below (kQi (mP E) (inM E) r σr) args s 0 0 (inM E)) (F0 m 33 ls [.int y0, .int y1]) := by
  obtain ⟨-, hx, hb, hml, hown, hts, hK, -, -⟩ := id C
  unfold s_X8_counted_33 at h
  refine lv_iadd hx hb dX8_counted_33 ?_
  refine lv_istore (lv' := [(5, .int (y1 + y0)), (0, .ref (eA E 27)), (1, .long x1), (3, .int x3), (4, .int x4), (6, .int x6)]) hx hb dX8_counted_34 hl (by decide) rfl (fun ls hl => ?_)
  refine lv_iinc (v := (x6 + (1 : Int32))) (lv' := [(6, .int (x6 + (1 : Int32))), (5, .int (y1 + y0)), (0, .ref (eA E 27)), (1, .long x1), (3, .int x3), (4, .int x4)]) hx hb dX8_counted_36 hl (k := 5) rfl rfl (by decide) rfl (fun ls hl => ?_)
  refine lv_goto (tgt := 6) hx hb dX8_counted_39 (by decide) ?_
  exact hrec6 σ x1 x3 x4 (y1 + y0) (x6 + (1 : Int32)) h H locs hP hS ls (lv_sub hl [2, 3, 4, 5, 1, 0] rfl)
def s_X8_counted_6 (F : Nat) (rec6 : (kS × Int64 × Int32 × Int32 × Int32 × Int32 → Option (Int32 × kS))) (σ : kS) (x1 : Int64) (x3 : Int32) (x4 : Int32) (x5 : Int32) (x6 : Int32) : Option (Int32 × kS) :=
  (if x3 ≤ x6 then some (x5, σ) else (kb (f_X8_ruler F σ (x1 + x6.toInt64)) fun v_2 σ_3 => (if v_2 = x4 then s_X8_counted_33 F rec6 σ_3 x1 x3 x4 x6 (1 : Int32) x5 else s_X8_counted_33 F rec6 σ_3 x1 x3 x4 x6 (0 : Int32) x5)))
set_option maxRecDepth 100000 in
set_option maxHeartbeats 4000000 in
theorem w_X8_counted_6 (C : Cx E p s m args meth c cX8_counted 7 RX8 (some .int)) (F : Nat) (rec6 : (kS × Int64 × Int32 × Int32 × Int32 × Int32 → Option (Int32 × kS))) (hrec6 : ∀ (σ : kS) (x1 : Int64) (x3 : Int32) (x4 : Int32) (x5 : Int32) (x6 : Int32), rec6 (σ, x1, x3, x4, x5, x6) = some (r, σr) → ∀ (H : Heap) (locs : List Loc), mP E σ H → va_S (inM E) s.heap H locs → ∀ (ls : Array Slot), lv_has ls 7 [(0, .ref (eA E 27)), (1, .long x1), (3, .int x3), (4, .int x4), (5, .int x5), (6, .int x6)] → W p l e (kR 1 30) s m args below meth c H locs 0 0 (MQ below (kQi (mP E) (inM E) r σr) args s 0 0 (inM E)) (F0 m 6 ls [])) (σ : kS) (x1 : Int64) (x3 : Int32) (x4 : Int32) (x5 : Int32) (x6 : Int32) (h : s_X8_counted_6 F rec6 σ x1 x3 x4 x5 x6 = some (r, σr)) (H : Heap) (locs : List Loc) (hP : mP E σ H) (hS : va_S (inM E) s.heap H locs) (ls : Array Slot) (hl : lv_has ls 7 [(0, .ref (eA E 27)), (1, .long x1), (3, .int x3), (4, .int x4), (5, .int x5), (6, .int x6)]) : W p l e (kR 1 30) s m args below meth c H locs 0 0 (MQ below (kQi (mP E) (inM E) r σr) args s 0 0 (inM E)) (F0 m 6 ls []) := by
  obtain ⟨-, hx, hb, hml, hown, hts, hK, -, -⟩ := id C
  unfold s_X8_counted_6 at h
  refine lv_iload hx hb dX8_counted_6 (lv_at hl 5 rfl) ?_
  refine lv_iload_n hx hb dX8_counted_8 rfl (lv_at hl 2 rfl) ?_
  refine lv_icmp_ge (tgt := 42) hx hb dX8_counted_9 (by decide) (fun c_1 => ?_) (fun c_1 => ?_)
  · have h := k_t c_1 h
    refine lv_iload hx hb dX8_counted_42 (lv_at hl 4 rfl) ?_
    obtain ⟨rfl, rfl⟩ := k_inj h
    exact kri C hS hP dX8_counted_44
  · have h := k_f c_1 h
    refine lv_iload hx hb dX8_counted_12 (lv_at hl 4 rfl) ?_
    refine lv_aload_n hx hb dX8_counted_14 rfl (lv_at hl 0 rfl) ?_
    refine lv_lload_n hx hb dX8_counted_15 rfl (lv_at hl 1 rfl) ?_
    refine lv_iload hx hb dX8_counted_16 (lv_at hl 5 rfl) ?_
    refine lv_i2l (v := x6.toInt64) hx hb dX8_counted_18 rfl ?_
    refine lv_ladd hx hb dX8_counted_19 ?_
    obtain ⟨v_2, σ_3, hc_4, h⟩ := kb_ok h
    refine kci (krunV (As := [.long (x1 + x6.toInt64)]) C hP (c_X8_ruler E C.1 F σ (x1 + x6.toInt64) hc_4) w_795 kv_X8_ruler ⟨Nat.le_of_ble_eq_true rfl, Nat.le_of_ble_eq_true rfl⟩ (rc_27 C hP) rfl hl.1 rfl (Nat.le_of_ble_eq_true rfl) dX8_counted_20) hS (fun H locs hP hS => ?_)
    refine lv_iload hx hb dX8_counted_23 (lv_at hl 3 rfl) ?_
    refine lv_icmp_ne (tgt := 32) hx hb dX8_counted_25 (by decide) (fun c_5 => ?_) (fun c_5 => ?_)
    · have h := k_f c_5 h
      refine lv_iconst (v := (0 : Int32)) hx hb dX8_counted_32 (by decide) ?_
      exact w_X8_counted_33 C F rec6 hrec6 σ_3 x1 x3 x4 x6 (0 : Int32) x5 h H locs hP hS ls (lv_sub hl [0, 1, 2, 3, 5] rfl)
    · have h := k_t c_5 h
      refine lv_iconst (v := (1 : Int32)) hx hb dX8_counted_28 (by decide) ?_
      refine lv_goto (tgt := 33) hx hb dX8_counted_29 (by decide) ?_
      exact w_X8_counted_33 C F rec6 hrec6 σ_3 x1 x3 x4 x6 (1 : Int32) x5 h H locs hP hS ls (lv_sub hl [0, 1, 2, 3, 5] rfl)
def f_X8_counted_6 (F : Nat) : kS × Int64 × Int32 × Int32 × Int32 × Int32 → Option (Int32 × kS) := itr (fun rec6 q => s_X8_counted_6 F rec6 q.1 q.2.1 q.2.2.1 q.2.2.2.1 q.2.2.2.2.1 q.2.2.2.2.2) F
theorem wf_X8_counted_6 (C : Cx E p s m args meth c cX8_counted 7 RX8 (some .int)) (F : Nat) (σ : kS) (x1 : Int64) (x3 : Int32) (x4 : Int32) (x5 : Int32) (x6 : Int32) (h : f_X8_counted_6 F (σ, x1, x3, x4, x5, x6) = some (r, σr)) (H : Heap) (locs : List Loc) (hP : mP E σ H) (hS : va_S (inM E) s.heap H locs) (ls : Array Slot) (hl : lv_has ls 7 [(0, .ref (eA E 27)), (1, .long x1), (3, .int x3), (4, .int x4), (5, .int x5), (6, .int x6)]) : W p l e (kR 1 30) s m args below meth c H locs 0 0 (MQ below (kQi (mP E) (inM E) r σr) args s 0 0 (inM E)) (F0 m 6 ls []) :=
  itr_ok (r := (r, σr)) (G := fun q => ∀ (H : Heap) (locs : List Loc), mP E q.1 H → va_S (inM E) s.heap H locs → ∀ (ls : Array Slot), lv_has ls 7 [(0, .ref (eA E 27)), (1, .long (q.2.1)), (3, .int (q.2.2.1)), (4, .int (q.2.2.2.1)), (5, .int (q.2.2.2.2.1)), (6, .int (q.2.2.2.2.2))] → W p l e (kR 1 30) s m args below meth c H locs 0 0 (MQ below (kQi (mP E) (inM E) r σr) args s 0 0 (inM E)) (F0 m 6 ls [])) (fun rec6 hrec6 q h => w_X8_counted_6 C F rec6 (fun σ x1 x3 x4 x5 x6 => hrec6 (σ, x1, x3, x4, x5, x6)) q.1 q.2.1 q.2.2.1 q.2.2.2.1 q.2.2.2.2.1 q.2.2.2.2.2 h) F (σ, x1, x3, x4, x5, x6) h H locs hP hS ls hl
def s_X8_counted_0 (F : Nat) (σ : kS) (x1 : Int64) (x3 : Int32) (x4 : Int32) : Option (Int32 × kS) :=
  f_X8_counted_6 F (σ, x1, x3, x4, (0 : Int32), (0 : Int32))
set_option maxRecDepth 100000 in
set_option maxHeartbeats 4000000 in
theorem w_X8_counted_0 (C : Cx E p s m args meth c cX8_counted 7 RX8 (some .int)) (F : Nat) (σ : kS) (x1 : Int64) (x3 : Int32) (x4 : Int32) (h : s_X8_counted_0 F σ x1 x3 x4 = some (r, σr)) (H : Heap) (locs : List Loc) (hP : mP E σ H) (hS : va_S (inM E) s.heap H locs) (ls : Array Slot) (hl : lv_has ls 7 [(0, .ref (eA E 27)), (1, .long x1), (3, .int x3), (4, .int x4)]) : W p l e (kR 1 30) s m args below meth c H locs 0 0 (MQ below (kQi (mP E) (inM E) r σr) args s 0 0 (inM E)) (F0 m 0 ls []) := by
  obtain ⟨-, hx, hb, hml, hown, hts, hK, -, -⟩ := id C
  unfold s_X8_counted_0 at h
  refine lv_iconst (v := (0 : Int32)) hx hb dX8_counted_0 (by decide) ?_
  refine lv_istore (lv' := [(5, .int (0 : Int32)), (0, .ref (eA E 27)), (1, .long x1), (3, .int x3), (4, .int x4)]) hx hb dX8_counted_1 hl (by decide) rfl (fun ls hl => ?_)
  refine lv_iconst (v := (0 : Int32)) hx hb dX8_counted_3 (by decide) ?_
  refine lv_istore (lv' := [(6, .int (0 : Int32)), (5, .int (0 : Int32)), (0, .ref (eA E 27)), (1, .long x1), (3, .int x3), (4, .int x4)]) hx hb dX8_counted_4 hl (by decide) rfl (fun ls hl => ?_)
  exact wf_X8_counted_6 C F σ x1 x3 x4 (0 : Int32) (0 : Int32) h H locs hP hS ls (lv_sub hl [2, 3, 4, 5, 1, 0] rfl)
def f_X8_counted (F : Nat) (σ : kS) (x1 : Int64) (x3 : Int32) (x4 : Int32) : Option (Int32 × kS) := s_X8_counted_0 F σ x1 x3 x4
set_option maxRecDepth 100000 in
theorem c_X8_counted (E : kE) (hE : kap E) (F : Nat) (σ : kS) (x1 : Int64) (x3 : Int32) (x4 : Int32) (h : f_X8_counted F σ x1 x3 x4 = some (r, σr)) : Met l yX8_counted (kWs yX8_counted cX8_counted 7 (some .int)) (kR 1 30) (kPre (mP E) E [.ref (eA E 27), .long x1, .int x3, .int x4] σ) (kQi (mP E) (inM E) r σr) 0 0 (inM E) :=
  kst hE (by decide +kernel) (Nat.le_of_ble_eq_true rfl) (fun p e s m below meth c ls C hP hl => w_X8_counted_0 C F σ x1 x3 x4 h s.heap [] hP va_S.rf ls hl)
end

section
variable {p : Program} {l : Launch} {e : Env} {s : State} {m : MethodId} {args : Array Value} {below : List Frame} {meth : Method} {c : Code} {E : kE} {σr : kS}
variable {r : Int32}
def s_X8_minutes_0 (F : Nat) (σ : kS) (x1 : Int64) (x3 : Int32) (x4 : Int32) : Option (Int32 × kS) :=
  (kb (f_X8_isMinute F σ x1) fun v_1 σ_2 => (if v_1 = 0 then some ((-1 : Int32), σ_2) else (kb (f_X8_in F σ_2 x3.toInt64 (0 : Int64) (100000 : Int64)) fun v_5 σ_6 => (if v_5 = 0 then some ((-1 : Int32), σ_6) else (kb (f_X8_in F σ_6 x4.toInt64 (0 : Int64) (2 : Int64)) fun v_9 σ_10 => (if v_9 = 0 then some ((-1 : Int32), σ_10) else (kb (f_X8_counted F σ_10 x1 x3 x4) fun v_13 σ_14 => some (v_13, σ_14))))))))
set_option maxRecDepth 100000 in
set_option maxHeartbeats 4000000 in
theorem w_X8_minutes_0 (C : Cx E p s m args meth c cX8_minutes 5 RX8 (some .int)) (F : Nat) (σ : kS) (x1 : Int64) (x3 : Int32) (x4 : Int32) (h : s_X8_minutes_0 F σ x1 x3 x4 = some (r, σr)) (H : Heap) (locs : List Loc) (hP : mP E σ H) (hS : va_S (inM E) s.heap H locs) (ls : Array Slot) (hl : lv_has ls 5 [(0, .ref (eA E 27)), (1, .long x1), (3, .int x3), (4, .int x4)]) : W p l e (kR 2 56) s m args below meth c H locs 0 0 (MQ below (kQi (mP E) (inM E) r σr) args s 0 0 (inM E)) (F0 m 0 ls []) := by
  obtain ⟨-, hx, hb, hml, hown, hts, hK, -, -⟩ := id C
  unfold s_X8_minutes_0 at h
  refine lv_lload_n hx hb dX8_minutes_0 rfl (lv_at hl 1 rfl) ?_
  obtain ⟨v_1, σ_2, hc_3, h⟩ := kb_ok h
  refine kci (krunS (As := [.long x1]) C hP (c_X8_isMinute E C.1 F σ x1 hc_3) w_791 kt_X8_isMinute ⟨Nat.le_of_ble_eq_true rfl, Nat.le_of_ble_eq_true rfl⟩ rfl hl.1 rfl (Nat.le_of_ble_eq_true rfl) dX8_minutes_1) hS (fun H locs hP hS => ?_)
  refine lv_if_eq (tgt := 43) hx hb dX8_minutes_4 (by decide) (fun c_4 => ?_) (fun c_4 => ?_)
  · have h := k_t c_4 h
    refine lv_iconst (v := (-1 : Int32)) hx hb dX8_minutes_43 (by decide) ?_
    obtain ⟨rfl, rfl⟩ := k_inj h
    exact kri C hS hP dX8_minutes_44
  · have h := k_f c_4 h
    refine lv_iload_n hx hb dX8_minutes_7 rfl (lv_at hl 2 rfl) ?_
    refine lv_i2l (v := x3.toInt64) hx hb dX8_minutes_8 rfl ?_
    refine lv_lconst (v := (0 : Int64)) hx hb dX8_minutes_9 (by decide) ?_
    refine lv_ldc2 (v := (100000 : Int64)) hx hb hown (hts _ w_803) dX8_minutes_10 ?_
    obtain ⟨v_5, σ_6, hc_7, h⟩ := kb_ok h
    refine kci (krunS (As := [.long x3.toInt64, .long (0 : Int64), .long (100000 : Int64)]) C hP (c_X8_in E C.1 F σ_2 x3.toInt64 (0 : Int64) (100000 : Int64) hc_7) w_735 kt_X8_in ⟨Nat.le_of_ble_eq_true rfl, Nat.le_of_ble_eq_true rfl⟩ rfl hl.1 rfl (Nat.le_of_ble_eq_true rfl) dX8_minutes_13) hS (fun H locs hP hS => ?_)
    refine lv_if_eq (tgt := 43) hx hb dX8_minutes_16 (by decide) (fun c_8 => ?_) (fun c_8 => ?_)
    · have h := k_t c_8 h
      refine lv_iconst (v := (-1 : Int32)) hx hb dX8_minutes_43 (by decide) ?_
      obtain ⟨rfl, rfl⟩ := k_inj h
      exact kri C hS hP dX8_minutes_44
    · have h := k_f c_8 h
      refine lv_iload hx hb dX8_minutes_19 (lv_at hl 3 rfl) ?_
      refine lv_i2l (v := x4.toInt64) hx hb dX8_minutes_21 rfl ?_
      refine lv_lconst (v := (0 : Int64)) hx hb dX8_minutes_22 (by decide) ?_
      refine lv_ldc2 (v := (2 : Int64)) hx hb hown (hts _ w_804) dX8_minutes_23 ?_
      obtain ⟨v_9, σ_10, hc_11, h⟩ := kb_ok h
      refine kci (krunS (As := [.long x4.toInt64, .long (0 : Int64), .long (2 : Int64)]) C hP (c_X8_in E C.1 F σ_6 x4.toInt64 (0 : Int64) (2 : Int64) hc_11) w_735 kt_X8_in ⟨Nat.le_of_ble_eq_true rfl, Nat.le_of_ble_eq_true rfl⟩ rfl hl.1 rfl (Nat.le_of_ble_eq_true rfl) dX8_minutes_26) hS (fun H locs hP hS => ?_)
      refine lv_if_eq (tgt := 43) hx hb dX8_minutes_29 (by decide) (fun c_12 => ?_) (fun c_12 => ?_)
      · have h := k_t c_12 h
        refine lv_iconst (v := (-1 : Int32)) hx hb dX8_minutes_43 (by decide) ?_
        obtain ⟨rfl, rfl⟩ := k_inj h
        exact kri C hS hP dX8_minutes_44
      · have h := k_f c_12 h
        refine lv_aload_n hx hb dX8_minutes_32 rfl (lv_at hl 0 rfl) ?_
        refine lv_lload_n hx hb dX8_minutes_33 rfl (lv_at hl 1 rfl) ?_
        refine lv_iload_n hx hb dX8_minutes_34 rfl (lv_at hl 2 rfl) ?_
        refine lv_iload hx hb dX8_minutes_35 (lv_at hl 3 rfl) ?_
        obtain ⟨v_13, σ_14, hc_15, h⟩ := kb_ok h
        refine kci (krunV (As := [.long x1, .int x3, .int x4]) C hP (c_X8_counted E C.1 F σ_10 x1 x3 x4 hc_15) w_805 kv_X8_counted ⟨Nat.le_of_ble_eq_true rfl, Nat.le_of_ble_eq_true rfl⟩ (rc_27 C hP) rfl hl.1 rfl (Nat.le_of_ble_eq_true rfl) dX8_minutes_37) hS (fun H locs hP hS => ?_)
        refine lv_goto (tgt := 44) hx hb dX8_minutes_40 (by decide) ?_
        obtain ⟨rfl, rfl⟩ := k_inj h
        exact kri C hS hP dX8_minutes_44
def f_X8_minutes (F : Nat) (σ : kS) (x1 : Int64) (x3 : Int32) (x4 : Int32) : Option (Int32 × kS) := s_X8_minutes_0 F σ x1 x3 x4
set_option maxRecDepth 100000 in
theorem c_X8_minutes (E : kE) (hE : kap E) (F : Nat) (σ : kS) (x1 : Int64) (x3 : Int32) (x4 : Int32) (h : f_X8_minutes F σ x1 x3 x4 = some (r, σr)) : Met l yX8_minutes (kWs yX8_minutes cX8_minutes 5 (some .int)) (kR 2 56) (kPre (mP E) E [.ref (eA E 27), .long x1, .int x3, .int x4] σ) (kQi (mP E) (inM E) r σr) 0 0 (inM E) :=
  kst hE (by decide +kernel) (Nat.le_of_ble_eq_true rfl) (fun p e s m below meth c ls C hP hl => w_X8_minutes_0 C F σ x1 x3 x4 h s.heap [] hP va_S.rf ls hl)
end

section
variable {p : Program} {l : Launch} {e : Env} {s : State} {m : MethodId} {args : Array Value} {below : List Frame} {meth : Method} {c : Code} {E : kE} {σr : kS}
variable {r : Int64}
def s_X8_next_19 (F : Nat) (σ : kS) : Option (Int64 × kS) :=
  some ((-1 : Int64), σ)
set_option maxRecDepth 100000 in
set_option maxHeartbeats 4000000 in
theorem w_X8_next_19 (C : Cx E p s m args meth c cX8_next 6 RX8 (some .long)) (F : Nat) (σ : kS) (h : s_X8_next_19 F σ = some (r, σr)) (H : Heap) (locs : List Loc) (hP : mP E σ H) (hS : va_S (inM E) s.heap H locs) (ls : Array Slot) (hl : lv_has ls 6 []) : W p l e (kR 2 46) s m args below meth c H locs 0 0 (MQ below (kQl (mP E) (inM E) r σr) args s 0 0 (inM E)) (F0 m 19 ls []) := by
  obtain ⟨-, hx, hb, hml, hown, hts, hK, -, -⟩ := id C
  unfold s_X8_next_19 at h
  refine lv_ldc2 (v := (-1 : Int64)) hx hb hown (hts _ w_813) dX8_next_19 ?_
  obtain ⟨rfl, rfl⟩ := k_inj h
  exact krl C hS hP dX8_next_22
def s_X8_next_26 (F : Nat) (rec26 : (kS × Int64 × Int32 × Int64 → Option (Int64 × kS))) (σ : kS) (x1 : Int64) (x3 : Int32) (x4 : Int64) : Option (Int64 × kS) :=
  (if 0 < (lg_cmp x4 (x1 + (2000 : Int64))) then some ((-4 : Int64), σ) else (kb (f_X8_ruler F σ x4) fun v_2 σ_3 => (if v_2 = x3 then some (x4, σ_3) else rec26 (σ_3, x1, x3, (x4 + (1 : Int64))))))
set_option maxRecDepth 100000 in
set_option maxHeartbeats 4000000 in
theorem w_X8_next_26 (C : Cx E p s m args meth c cX8_next 6 RX8 (some .long)) (F : Nat) (rec26 : (kS × Int64 × Int32 × Int64 → Option (Int64 × kS))) (hrec26 : ∀ (σ : kS) (x1 : Int64) (x3 : Int32) (x4 : Int64), rec26 (σ, x1, x3, x4) = some (r, σr) → ∀ (H : Heap) (locs : List Loc), mP E σ H → va_S (inM E) s.heap H locs → ∀ (ls : Array Slot), lv_has ls 6 [(0, .ref (eA E 27)), (1, .long x1), (3, .int x3), (4, .long x4)] → W p l e (kR 2 46) s m args below meth c H locs 0 0 (MQ below (kQl (mP E) (inM E) r σr) args s 0 0 (inM E)) (F0 m 26 ls [])) (σ : kS) (x1 : Int64) (x3 : Int32) (x4 : Int64) (h : s_X8_next_26 F rec26 σ x1 x3 x4 = some (r, σr)) (H : Heap) (locs : List Loc) (hP : mP E σ H) (hS : va_S (inM E) s.heap H locs) (ls : Array Slot) (hl : lv_has ls 6 [(0, .ref (eA E 27)), (1, .long x1), (3, .int x3), (4, .long x4)]) : W p l e (kR 2 46) s m args below meth c H locs 0 0 (MQ below (kQl (mP E) (inM E) r σr) args s 0 0 (inM E)) (F0 m 26 ls []) := by
  obtain ⟨-, hx, hb, hml, hown, hts, hK, -, -⟩ := id C
  unfold s_X8_next_26 at h
  refine lv_lload hx hb dX8_next_26 (lv_at hl 3 rfl) ?_
  refine lv_lload_n hx hb dX8_next_28 rfl (lv_at hl 1 rfl) ?_
  refine lv_ldc2 (v := (2000 : Int64)) hx hb hown (hts _ w_814) dX8_next_29 ?_
  refine lv_ladd hx hb dX8_next_32 ?_
  refine W.lcmp hx hb dX8_next_33 ?_
  refine lv_if_gt (tgt := 59) hx hb dX8_next_34 (by decide) (fun c_1 => ?_) (fun c_1 => ?_)
  · have h := k_t c_1 h
    refine lv_ldc2 (v := (-4 : Int64)) hx hb hown (hts _ w_815) dX8_next_59 ?_
    obtain ⟨rfl, rfl⟩ := k_inj h
    exact krl C hS hP dX8_next_62
  · have h := k_f c_1 h
    refine lv_aload_n hx hb dX8_next_37 rfl (lv_at hl 0 rfl) ?_
    refine lv_lload hx hb dX8_next_38 (lv_at hl 3 rfl) ?_
    obtain ⟨v_2, σ_3, hc_4, h⟩ := kb_ok h
    refine kci (krunV (As := [.long x4]) C hP (c_X8_ruler E C.1 F σ x4 hc_4) w_795 kv_X8_ruler ⟨Nat.le_of_ble_eq_true rfl, Nat.le_of_ble_eq_true rfl⟩ (rc_27 C hP) rfl hl.1 rfl (Nat.le_of_ble_eq_true rfl) dX8_next_40) hS (fun H locs hP hS => ?_)
    refine lv_iload_n hx hb dX8_next_43 rfl (lv_at hl 2 rfl) ?_
    refine lv_icmp_ne (tgt := 50) hx hb dX8_next_44 (by decide) (fun c_5 => ?_) (fun c_5 => ?_)
    · have h := k_f c_5 h
      refine lv_lload hx hb dX8_next_50 (lv_at hl 3 rfl) ?_
      refine lv_lconst (v := (1 : Int64)) hx hb dX8_next_52 (by decide) ?_
      refine lv_ladd hx hb dX8_next_53 ?_
      refine lv_lstore (lv' := [(4, .long (x4 + (1 : Int64))), (0, .ref (eA E 27)), (1, .long x1), (3, .int x3)]) hx hb dX8_next_54 hl (by decide) rfl (fun ls hl => ?_)
      refine lv_goto (tgt := 26) hx hb dX8_next_56 (by decide) ?_
      exact hrec26 σ_3 x1 x3 (x4 + (1 : Int64)) h H locs hP hS ls (lv_sub hl [1, 2, 3, 0] rfl)
    · have h := k_t c_5 h
      refine lv_lload hx hb dX8_next_47 (lv_at hl 3 rfl) ?_
      obtain ⟨rfl, rfl⟩ := k_inj h
      exact krl C hS hP dX8_next_49
def f_X8_next_26 (F : Nat) : kS × Int64 × Int32 × Int64 → Option (Int64 × kS) := itr (fun rec26 q => s_X8_next_26 F rec26 q.1 q.2.1 q.2.2.1 q.2.2.2) F
theorem wf_X8_next_26 (C : Cx E p s m args meth c cX8_next 6 RX8 (some .long)) (F : Nat) (σ : kS) (x1 : Int64) (x3 : Int32) (x4 : Int64) (h : f_X8_next_26 F (σ, x1, x3, x4) = some (r, σr)) (H : Heap) (locs : List Loc) (hP : mP E σ H) (hS : va_S (inM E) s.heap H locs) (ls : Array Slot) (hl : lv_has ls 6 [(0, .ref (eA E 27)), (1, .long x1), (3, .int x3), (4, .long x4)]) : W p l e (kR 2 46) s m args below meth c H locs 0 0 (MQ below (kQl (mP E) (inM E) r σr) args s 0 0 (inM E)) (F0 m 26 ls []) :=
  itr_ok (r := (r, σr)) (G := fun q => ∀ (H : Heap) (locs : List Loc), mP E q.1 H → va_S (inM E) s.heap H locs → ∀ (ls : Array Slot), lv_has ls 6 [(0, .ref (eA E 27)), (1, .long (q.2.1)), (3, .int (q.2.2.1)), (4, .long (q.2.2.2))] → W p l e (kR 2 46) s m args below meth c H locs 0 0 (MQ below (kQl (mP E) (inM E) r σr) args s 0 0 (inM E)) (F0 m 26 ls [])) (fun rec26 hrec26 q h => w_X8_next_26 C F rec26 (fun σ x1 x3 x4 => hrec26 (σ, x1, x3, x4)) q.1 q.2.1 q.2.2.1 q.2.2.2 h) F (σ, x1, x3, x4) h H locs hP hS ls hl
def s_X8_next_0 (F : Nat) (σ : kS) (x1 : Int64) (x3 : Int32) : Option (Int64 × kS) :=
  (kb (f_X8_isMinute F σ x1) fun v_1 σ_2 => (if v_1 = 0 then s_X8_next_19 F σ_2 else (kb (f_X8_in F σ_2 x3.toInt64 (0 : Int64) (2 : Int64)) fun v_5 σ_6 => (if v_5 = 0 then s_X8_next_19 F σ_6 else f_X8_next_26 F (σ_6, x1, x3, x1)))))
set_option maxRecDepth 100000 in
set_option maxHeartbeats 4000000 in
theorem w_X8_next_0 (C : Cx E p s m args meth c cX8_next 6 RX8 (some .long)) (F : Nat) (σ : kS) (x1 : Int64) (x3 : Int32) (h : s_X8_next_0 F σ x1 x3 = some (r, σr)) (H : Heap) (locs : List Loc) (hP : mP E σ H) (hS : va_S (inM E) s.heap H locs) (ls : Array Slot) (hl : lv_has ls 6 [(0, .ref (eA E 27)), (1, .long x1), (3, .int x3)]) : W p l e (kR 2 46) s m args below meth c H locs 0 0 (MQ below (kQl (mP E) (inM E) r σr) args s 0 0 (inM E)) (F0 m 0 ls []) := by
  obtain ⟨-, hx, hb, hml, hown, hts, hK, -, -⟩ := id C
  unfold s_X8_next_0 at h
  refine lv_lload_n hx hb dX8_next_0 rfl (lv_at hl 1 rfl) ?_
  obtain ⟨v_1, σ_2, hc_3, h⟩ := kb_ok h
  refine kci (krunS (As := [.long x1]) C hP (c_X8_isMinute E C.1 F σ x1 hc_3) w_791 kt_X8_isMinute ⟨Nat.le_of_ble_eq_true rfl, Nat.le_of_ble_eq_true rfl⟩ rfl hl.1 rfl (Nat.le_of_ble_eq_true rfl) dX8_next_1) hS (fun H locs hP hS => ?_)
  refine lv_if_eq (tgt := 19) hx hb dX8_next_4 (by decide) (fun c_4 => ?_) (fun c_4 => ?_)
  · have h := k_t c_4 h
    exact w_X8_next_19 C F σ_2 h H locs hP hS ls (lv_sub hl [] rfl)
  · have h := k_f c_4 h
    refine lv_iload_n hx hb dX8_next_7 rfl (lv_at hl 2 rfl) ?_
    refine lv_i2l (v := x3.toInt64) hx hb dX8_next_8 rfl ?_
    refine lv_lconst (v := (0 : Int64)) hx hb dX8_next_9 (by decide) ?_
    refine lv_ldc2 (v := (2 : Int64)) hx hb hown (hts _ w_804) dX8_next_10 ?_
    obtain ⟨v_5, σ_6, hc_7, h⟩ := kb_ok h
    refine kci (krunS (As := [.long x3.toInt64, .long (0 : Int64), .long (2 : Int64)]) C hP (c_X8_in E C.1 F σ_2 x3.toInt64 (0 : Int64) (2 : Int64) hc_7) w_735 kt_X8_in ⟨Nat.le_of_ble_eq_true rfl, Nat.le_of_ble_eq_true rfl⟩ rfl hl.1 rfl (Nat.le_of_ble_eq_true rfl) dX8_next_13) hS (fun H locs hP hS => ?_)
    refine lv_if_ne (tgt := 23) hx hb dX8_next_16 (by decide) (fun c_8 => ?_) (fun c_8 => ?_)
    · have h := k_f c_8 h
      refine lv_lload_n hx hb dX8_next_23 rfl (lv_at hl 1 rfl) ?_
      refine lv_lstore (lv' := [(4, .long x1), (0, .ref (eA E 27)), (1, .long x1), (3, .int x3)]) hx hb dX8_next_24 hl (by decide) rfl (fun ls hl => ?_)
      exact wf_X8_next_26 C F σ_6 x1 x3 x1 h H locs hP hS ls (lv_sub hl [1, 2, 3, 0] rfl)
    · have h := k_t c_8 h
      exact w_X8_next_19 C F σ_6 h H locs hP hS ls (lv_sub hl [] rfl)
def f_X8_next (F : Nat) (σ : kS) (x1 : Int64) (x3 : Int32) : Option (Int64 × kS) := s_X8_next_0 F σ x1 x3
set_option maxRecDepth 100000 in
theorem c_X8_next (E : kE) (hE : kap E) (F : Nat) (σ : kS) (x1 : Int64) (x3 : Int32) (h : f_X8_next F σ x1 x3 = some (r, σr)) : Met l yX8_next (kWs yX8_next cX8_next 6 (some .long)) (kR 2 46) (kPre (mP E) E [.ref (eA E 27), .long x1, .int x3] σ) (kQl (mP E) (inM E) r σr) 0 0 (inM E) :=
  kst hE (by decide +kernel) (Nat.le_of_ble_eq_true rfl) (fun p e s m below meth c ls C hP hl => w_X8_next_0 C F σ x1 x3 h s.heap [] hP va_S.rf ls hl)
end

section
variable {p : Program} {l : Launch} {e : Env} {s : State} {m : MethodId} {args : Array Value} {below : List Frame} {meth : Method} {c : Code} {E : kE} {σr : kS}
variable {r : Int32}
def s_X8_isKings_0 (F : Nat) (σ : kS) (x1 : Int32) (x2 : Int64) : Option (Int32 × kS) :=
  (kb (f_X8_ruler F σ x2) fun v_1 σ_2 => (if (2 : Int32) ≤ v_1 then some ((0 : Int32), σ_2) else (if x1 < 0 ∨ 18 ≤ x1.toNatClampNeg then none else (if (((kA σ_2 4 x1.toNatClampNeg) >>> (v_1 &&& 31)) &&& (1 : Int32)) = (1 : Int32) then some ((1 : Int32), σ_2) else some ((0 : Int32), σ_2)))))
set_option maxRecDepth 100000 in
set_option maxHeartbeats 4000000 in
theorem w_X8_isKings_0 (C : Cx E p s m args meth c cX8_isKings 5 RX8 (some .boolean)) (F : Nat) (σ : kS) (x1 : Int32) (x2 : Int64) (h : s_X8_isKings_0 F σ x1 x2 = some (r, σr)) (H : Heap) (locs : List Loc) (hP : mP E σ H) (hS : va_S (inM E) s.heap H locs) (ls : Array Slot) (hl : lv_has ls 5 [(0, .ref (eA E 27)), (1, .int x1), (2, .long x2)]) : W p l e (kR 1 30) s m args below meth c H locs 0 0 (MQ below (kQi (mP E) (inM E) r σr) args s 0 0 (inM E)) (F0 m 0 ls []) := by
  obtain ⟨-, hx, hb, hml, hown, hts, hK, -, -⟩ := id C
  unfold s_X8_isKings_0 at h
  refine lv_aload_n hx hb dX8_isKings_0 rfl (lv_at hl 0 rfl) ?_
  refine lv_lload_n hx hb dX8_isKings_1 rfl (lv_at hl 2 rfl) ?_
  obtain ⟨v_1, σ_2, hc_3, h⟩ := kb_ok h
  refine kci (krunV (As := [.long x2]) C hP (c_X8_ruler E C.1 F σ x2 hc_3) w_795 kv_X8_ruler ⟨Nat.le_of_ble_eq_true rfl, Nat.le_of_ble_eq_true rfl⟩ (rc_27 C hP) rfl hl.1 rfl (Nat.le_of_ble_eq_true rfl) dX8_isKings_2) hS (fun H locs hP hS => ?_)
  refine lv_istore (lv' := [(4, .int v_1), (0, .ref (eA E 27)), (1, .int x1), (2, .long x2)]) hx hb dX8_isKings_5 hl (by decide) rfl (fun ls hl => ?_)
  refine lv_iload hx hb dX8_isKings_7 (lv_at hl 0 rfl) ?_
  refine lv_iconst (v := (2 : Int32)) hx hb dX8_isKings_9 (by decide) ?_
  refine lv_icmp_ge (tgt := 32) hx hb dX8_isKings_10 (by decide) (fun c_4 => ?_) (fun c_4 => ?_)
  · have h := k_t c_4 h
    refine lv_iconst (v := (0 : Int32)) hx hb dX8_isKings_32 (by decide) ?_
    obtain ⟨rfl, rfl⟩ := k_inj h
    exact krz C hS hP (by decide) dX8_isKings_33
  · have h := k_f c_4 h
    refine lv_aload_n hx hb dX8_isKings_13 rfl (lv_at hl 1 rfl) ?_
    refine gf_27_6 C hP w_681 dX8_isKings_14 ?_
    refine lv_iload_n hx hb dX8_isKings_17 rfl (lv_at hl 2 rfl) ?_
    obtain ⟨n_5, h⟩ := k_no h
    refine al_32 C hP (v := (kA σ_2 4 x1.toNatClampNeg)) rfl n_5 dX8_isKings_18 ?_
    refine lv_iload hx hb dX8_isKings_19 (lv_at hl 0 rfl) ?_
    refine lv_ishr hx hb dX8_isKings_21 ?_
    refine lv_iconst (v := (1 : Int32)) hx hb dX8_isKings_22 (by decide) ?_
    refine lv_iand hx hb dX8_isKings_23 ?_
    refine lv_iconst (v := (1 : Int32)) hx hb dX8_isKings_24 (by decide) ?_
    refine lv_icmp_ne (tgt := 32) hx hb dX8_isKings_25 (by decide) (fun c_6 => ?_) (fun c_6 => ?_)
    · have h := k_f c_6 h
      refine lv_iconst (v := (0 : Int32)) hx hb dX8_isKings_32 (by decide) ?_
      obtain ⟨rfl, rfl⟩ := k_inj h
      exact krz C hS hP (by decide) dX8_isKings_33
    · have h := k_t c_6 h
      refine lv_iconst (v := (1 : Int32)) hx hb dX8_isKings_28 (by decide) ?_
      refine lv_goto (tgt := 33) hx hb dX8_isKings_29 (by decide) ?_
      obtain ⟨rfl, rfl⟩ := k_inj h
      exact krz C hS hP (by decide) dX8_isKings_33
def f_X8_isKings (F : Nat) (σ : kS) (x1 : Int32) (x2 : Int64) : Option (Int32 × kS) := s_X8_isKings_0 F σ x1 x2
set_option maxRecDepth 100000 in
theorem c_X8_isKings (E : kE) (hE : kap E) (F : Nat) (σ : kS) (x1 : Int32) (x2 : Int64) (h : f_X8_isKings F σ x1 x2 = some (r, σr)) : Met l yX8_isKings (kWs yX8_isKings cX8_isKings 5 (some .boolean)) (kR 1 30) (kPre (mP E) E [.ref (eA E 27), .int x1, .long x2] σ) (kQi (mP E) (inM E) r σr) 0 0 (inM E) :=
  kst hE (by decide +kernel) (Nat.le_of_ble_eq_true rfl) (fun p e s m below meth c ls C hP hl => w_X8_isKings_0 C F σ x1 x2 h s.heap [] hP va_S.rf ls hl)
end

section
variable {p : Program} {l : Launch} {e : Env} {s : State} {m : MethodId} {args : Array Value} {below : List Frame} {meth : Method} {c : Code} {E : kE} {σr : kS}
variable {r : Int32}
def s_X8_isLawful_101 (F : Nat) (rec79 : (kS × Int32 × Int64 × Int32 × Int32 × Int32 → Option (Int32 × kS))) (σ : kS) (x1 : Int32) (x2 : Int64) (x4 : Int32) (x5 : Int32) (x6 : Int32) (y0 : Int32) (y1 : Int32) : Option (Int32 × kS) :=
  (if y0 ≤ y1 then (if x5 &&& 1 = x5 then some (x5, σ) else none) else (if x5 = 0 then (if x5 &&& 1 = x5 then some (x5, σ) else none) else (kb (f_X8_isKings F σ x1 (x2 + x6.toInt64)) fun v_5 σ_6 => rec79 (σ_6, x1, x2, x4, v_5, (x6 + (1 : Int32))))))
set_option maxRecDepth 100000 in
set_option maxHeartbeats 4000000 in
theorem w_X8_isLawful_101 (C : Cx E p s m args meth c cX8_isLawful 7 RX8 (some .boolean)) (F : Nat) (rec79 : (kS × Int32 × Int64 × Int32 × Int32 × Int32 → Option (Int32 × kS))) (hrec79 : ∀ (σ : kS) (x1 : Int32) (x2 : Int64) (x4 : Int32) (x5 : Int32) (x6 : Int32), rec79 (σ, x1, x2, x4, x5, x6) = some (r, σr) → ∀ (H : Heap) (locs : List Loc), mP E σ H → va_S (inM E) s.heap H locs → ∀ (ls : Array Slot), lv_has ls 7 [(0, .ref (eA E 27)), (1, .int x1), (2, .long x2), (4, .int x4), (5, .int x5), (6, .int x6)] → W p l e (kR 2 54) s m args below meth c H locs 0 0 (MQ below (kQi (mP E) (inM E) r σr) args s 0 0 (inM E)) (F0 m 79 ls [])) (σ : kS) (x1 : Int32) (x2 : Int64) (x4 : Int32) (x5 : Int32) (x6 : Int32) (y0 : Int32) (y1 : Int32) (h : s_X8_isLawful_101 F rec79 σ x1 x2 x4 x5 x6 y0 y1 = some (r, σr)) (H : Heap) (locs : List Loc) (hP : mP E σ H) (hS : va_S (inM E) s.heap H locs) (ls : Array Slot) (hl : lv_has ls 7 [(0, .ref (eA E 27)), (1, .int x1), (2, .long x2), (4, .int x4), (5, .int x5), (6, .int x6)]) : W p l e (kR 2 54) s m args below meth c H locs 0 0 (MQ below (kQi (mP E) (inM E) r σr) args s 0 0 (inM E)) (F0 m 101 ls [.int y0, .int y1]) := by
  obtain ⟨-, hx, hb, hml, hown, hts, hK, -, -⟩ := id C
  unfold s_X8_isLawful_101 at h
  refine lv_icmp_ge (tgt := 127) hx hb dX8_isLawful_101 (by decide) (fun c_1 => ?_) (fun c_1 => ?_)
  · have h := k_t c_1 h
    refine lv_iload hx hb dX8_isLawful_127 (lv_at hl 4 rfl) ?_
    obtain ⟨n_2, h⟩ := k_yes h
    obtain ⟨rfl, rfl⟩ := k_inj h
    exact krz C hS hP n_2 dX8_isLawful_129
  · have h := k_f c_1 h
    refine lv_iload hx hb dX8_isLawful_104 (lv_at hl 4 rfl) ?_
    refine lv_if_eq (tgt := 127) hx hb dX8_isLawful_106 (by decide) (fun c_3 => ?_) (fun c_3 => ?_)
    · have h := k_t c_3 h
      refine lv_iload hx hb dX8_isLawful_127 (lv_at hl 4 rfl) ?_
      obtain ⟨n_4, h⟩ := k_yes h
      obtain ⟨rfl, rfl⟩ := k_inj h
      exact krz C hS hP n_4 dX8_isLawful_129
    · have h := k_f c_3 h
      refine lv_aload_n hx hb dX8_isLawful_109 rfl (lv_at hl 0 rfl) ?_
      refine lv_iload_n hx hb dX8_isLawful_110 rfl (lv_at hl 1 rfl) ?_
      refine lv_lload_n hx hb dX8_isLawful_111 rfl (lv_at hl 2 rfl) ?_
      refine lv_iload hx hb dX8_isLawful_112 (lv_at hl 5 rfl) ?_
      refine lv_i2l (v := x6.toInt64) hx hb dX8_isLawful_114 rfl ?_
      refine lv_ladd hx hb dX8_isLawful_115 ?_
      obtain ⟨v_5, σ_6, hc_7, h⟩ := kb_ok h
      refine kci (krunV (As := [.int x1, .long (x2 + x6.toInt64)]) C hP (c_X8_isKings E C.1 F σ x1 (x2 + x6.toInt64) hc_7) w_824 kv_X8_isKings ⟨Nat.le_of_ble_eq_true rfl, Nat.le_of_ble_eq_true rfl⟩ (rc_27 C hP) rfl hl.1 rfl (Nat.le_of_ble_eq_true rfl) dX8_isLawful_116) hS (fun H locs hP hS => ?_)
      refine lv_istore (lv' := [(5, .int v_5), (0, .ref (eA E 27)), (1, .int x1), (2, .long x2), (4, .int x4), (6, .int x6)]) hx hb dX8_isLawful_119 hl (by decide) rfl (fun ls hl => ?_)
      refine lv_iinc (v := (x6 + (1 : Int32))) (lv' := [(6, .int (x6 + (1 : Int32))), (5, .int v_5), (0, .ref (eA E 27)), (1, .int x1), (2, .long x2), (4, .int x4)]) hx hb dX8_isLawful_121 hl (k := 5) rfl rfl (by decide) rfl (fun ls hl => ?_)
      refine lv_goto (tgt := 79) hx hb dX8_isLawful_124 (by decide) ?_
      exact hrec79 σ_6 x1 x2 x4 v_5 (x6 + (1 : Int32)) h H locs hP hS ls (lv_sub hl [2, 3, 4, 5, 1, 0] rfl)
def s_X8_isLawful_79 (F : Nat) (rec79 : (kS × Int32 × Int64 × Int32 × Int32 × Int32 → Option (Int32 × kS))) (σ : kS) (x1 : Int32) (x2 : Int64) (x4 : Int32) (x5 : Int32) (x6 : Int32) : Option (Int32 × kS) :=
  (if x4 = (1 : Int32) then (if (((5 : Int32) * x1) + (2 : Int32)) < 0 ∨ 60 ≤ (((5 : Int32) * x1) + (2 : Int32)).toNatClampNeg then none else s_X8_isLawful_101 F rec79 σ x1 x2 x4 x5 x6 (kA σ 3 (((5 : Int32) * x1) + (2 : Int32)).toNatClampNeg) x6) else s_X8_isLawful_101 F rec79 σ x1 x2 x4 x5 x6 (1 : Int32) x6)
set_option maxRecDepth 100000 in
set_option maxHeartbeats 4000000 in
theorem w_X8_isLawful_79 (C : Cx E p s m args meth c cX8_isLawful 7 RX8 (some .boolean)) (F : Nat) (rec79 : (kS × Int32 × Int64 × Int32 × Int32 × Int32 → Option (Int32 × kS))) (hrec79 : ∀ (σ : kS) (x1 : Int32) (x2 : Int64) (x4 : Int32) (x5 : Int32) (x6 : Int32), rec79 (σ, x1, x2, x4, x5, x6) = some (r, σr) → ∀ (H : Heap) (locs : List Loc), mP E σ H → va_S (inM E) s.heap H locs → ∀ (ls : Array Slot), lv_has ls 7 [(0, .ref (eA E 27)), (1, .int x1), (2, .long x2), (4, .int x4), (5, .int x5), (6, .int x6)] → W p l e (kR 2 54) s m args below meth c H locs 0 0 (MQ below (kQi (mP E) (inM E) r σr) args s 0 0 (inM E)) (F0 m 79 ls [])) (σ : kS) (x1 : Int32) (x2 : Int64) (x4 : Int32) (x5 : Int32) (x6 : Int32) (h : s_X8_isLawful_79 F rec79 σ x1 x2 x4 x5 x6 = some (r, σr)) (H : Heap) (locs : List Loc) (hP : mP E σ H) (hS : va_S (inM E) s.heap H locs) (ls : Array Slot) (hl : lv_has ls 7 [(0, .ref (eA E 27)), (1, .int x1), (2, .long x2), (4, .int x4), (5, .int x5), (6, .int x6)]) : W p l e (kR 2 54) s m args below meth c H locs 0 0 (MQ below (kQi (mP E) (inM E) r σr) args s 0 0 (inM E)) (F0 m 79 ls []) := by
  obtain ⟨-, hx, hb, hml, hown, hts, hK, -, -⟩ := id C
  unfold s_X8_isLawful_79 at h
  refine lv_iload hx hb dX8_isLawful_79 (lv_at hl 5 rfl) ?_
  refine lv_iload hx hb dX8_isLawful_81 (lv_at hl 3 rfl) ?_
  refine lv_iconst (v := (1 : Int32)) hx hb dX8_isLawful_83 (by decide) ?_
  refine lv_icmp_ne (tgt := 100) hx hb dX8_isLawful_84 (by decide) (fun c_1 => ?_) (fun c_1 => ?_)
  · have h := k_f c_1 h
    refine lv_iconst (v := (1 : Int32)) hx hb dX8_isLawful_100 (by decide) ?_
    exact w_X8_isLawful_101 C F rec79 hrec79 σ x1 x2 x4 x5 x6 (1 : Int32) x6 h H locs hP hS ls hl
  · have h := k_t c_1 h
    refine lv_aload_n hx hb dX8_isLawful_87 rfl (lv_at hl 0 rfl) ?_
    refine gf_27_5 C hP w_680 dX8_isLawful_88 ?_
    refine lv_iconst (v := (5 : Int32)) hx hb dX8_isLawful_91 (by decide) ?_
    refine lv_iload_n hx hb dX8_isLawful_92 rfl (lv_at hl 1 rfl) ?_
    refine lv_imul hx hb dX8_isLawful_93 ?_
    refine lv_iconst (v := (2 : Int32)) hx hb dX8_isLawful_94 (by decide) ?_
    refine lv_iadd hx hb dX8_isLawful_95 ?_
    obtain ⟨n_2, h⟩ := k_no h
    refine al_31 C hP (v := (kA σ 3 (((5 : Int32) * x1) + (2 : Int32)).toNatClampNeg)) rfl n_2 dX8_isLawful_96 ?_
    refine lv_goto (tgt := 101) hx hb dX8_isLawful_97 (by decide) ?_
    exact w_X8_isLawful_101 C F rec79 hrec79 σ x1 x2 x4 x5 x6 (kA σ 3 (((5 : Int32) * x1) + (2 : Int32)).toNatClampNeg) x6 h H locs hP hS ls hl
def f_X8_isLawful_79 (F : Nat) : kS × Int32 × Int64 × Int32 × Int32 × Int32 → Option (Int32 × kS) := itr (fun rec79 q => s_X8_isLawful_79 F rec79 q.1 q.2.1 q.2.2.1 q.2.2.2.1 q.2.2.2.2.1 q.2.2.2.2.2) F
theorem wf_X8_isLawful_79 (C : Cx E p s m args meth c cX8_isLawful 7 RX8 (some .boolean)) (F : Nat) (σ : kS) (x1 : Int32) (x2 : Int64) (x4 : Int32) (x5 : Int32) (x6 : Int32) (h : f_X8_isLawful_79 F (σ, x1, x2, x4, x5, x6) = some (r, σr)) (H : Heap) (locs : List Loc) (hP : mP E σ H) (hS : va_S (inM E) s.heap H locs) (ls : Array Slot) (hl : lv_has ls 7 [(0, .ref (eA E 27)), (1, .int x1), (2, .long x2), (4, .int x4), (5, .int x5), (6, .int x6)]) : W p l e (kR 2 54) s m args below meth c H locs 0 0 (MQ below (kQi (mP E) (inM E) r σr) args s 0 0 (inM E)) (F0 m 79 ls []) :=
  itr_ok (r := (r, σr)) (G := fun q => ∀ (H : Heap) (locs : List Loc), mP E q.1 H → va_S (inM E) s.heap H locs → ∀ (ls : Array Slot), lv_has ls 7 [(0, .ref (eA E 27)), (1, .int (q.2.1)), (2, .long (q.2.2.1)), (4, .int (q.2.2.2.1)), (5, .int (q.2.2.2.2.1)), (6, .int (q.2.2.2.2.2))] → W p l e (kR 2 54) s m args below meth c H locs 0 0 (MQ below (kQi (mP E) (inM E) r σr) args s 0 0 (inM E)) (F0 m 79 ls [])) (fun rec79 hrec79 q h => w_X8_isLawful_79 C F rec79 (fun σ x1 x2 x4 x5 x6 => hrec79 (σ, x1, x2, x4, x5, x6)) q.1 q.2.1 q.2.2.1 q.2.2.2.1 q.2.2.2.2.1 q.2.2.2.2.2 h) F (σ, x1, x2, x4, x5, x6) h H locs hP hS ls hl
def s_X8_isLawful_0 (F : Nat) (σ : kS) (x1 : Int32) (x2 : Int64) : Option (Int32 × kS) :=
  (if (((5 : Int32) * x1) + (0 : Int32)) < 0 ∨ 60 ≤ (((5 : Int32) * x1) + (0 : Int32)).toNatClampNeg then none else (kn (kA σ 3 (((5 : Int32) * x1) + (0 : Int32)).toNatClampNeg) (fun x4_2 => (if x4_2 = (3 : Int32) then (if x1 < 0 ∨ 18 ≤ x1.toNatClampNeg then none else (if (kA σ 4 x1.toNatClampNeg) = (3 : Int32) then (kb (f_X8_ruler F σ x2) fun v_13 σ_14 => (if (2 : Int32) ≤ v_13 then some ((0 : Int32), σ_14) else some ((1 : Int32), σ_14))) else some ((0 : Int32), σ))) else (if x4_2 = (4 : Int32) then (if x1 < 0 ∨ 18 ≤ x1.toNatClampNeg then none else (if (kA σ 4 x1.toNatClampNeg) ≤ 0 then some ((0 : Int32), σ) else (kb (f_X8_ruler F σ x2) fun v_7 σ_8 => (if v_7 = (2 : Int32) then some ((1 : Int32), σ_8) else some ((0 : Int32), σ_8))))) else f_X8_isLawful_79 F (σ, x1, x2, x4_2, (1 : Int32), (0 : Int32)))))))
set_option maxRecDepth 100000 in
set_option maxHeartbeats 4000000 in
theorem w_X8_isLawful_0 (C : Cx E p s m args meth c cX8_isLawful 7 RX8 (some .boolean)) (F : Nat) (σ : kS) (x1 : Int32) (x2 : Int64) (h : s_X8_isLawful_0 F σ x1 x2 = some (r, σr)) (H : Heap) (locs : List Loc) (hP : mP E σ H) (hS : va_S (inM E) s.heap H locs) (ls : Array Slot) (hl : lv_has ls 7 [(0, .ref (eA E 27)), (1, .int x1), (2, .long x2)]) : W p l e (kR 2 54) s m args below meth c H locs 0 0 (MQ below (kQi (mP E) (inM E) r σr) args s 0 0 (inM E)) (F0 m 0 ls []) := by
  obtain ⟨-, hx, hb, hml, hown, hts, hK, -, -⟩ := id C
  unfold s_X8_isLawful_0 at h
  refine lv_aload_n hx hb dX8_isLawful_0 rfl (lv_at hl 0 rfl) ?_
  refine gf_27_5 C hP w_680 dX8_isLawful_1 ?_
  refine lv_iconst (v := (5 : Int32)) hx hb dX8_isLawful_4 (by decide) ?_
  refine lv_iload_n hx hb dX8_isLawful_5 rfl (lv_at hl 1 rfl) ?_
  refine lv_imul hx hb dX8_isLawful_6 ?_
  refine lv_iconst (v := (0 : Int32)) hx hb dX8_isLawful_7 (by decide) ?_
  refine lv_iadd hx hb dX8_isLawful_8 ?_
  obtain ⟨n_1, h⟩ := k_no h
  refine al_31 C hP (v := (kA σ 3 (((5 : Int32) * x1) + (0 : Int32)).toNatClampNeg)) rfl n_1 dX8_isLawful_9 ?_
  refine lv_topi (fun x4_2 ex4_2 => ?_)
  have h := kn_to ex4_2 h
  refine lv_istore (lv' := [(4, .int x4_2), (0, .ref (eA E 27)), (1, .int x1), (2, .long x2)]) hx hb dX8_isLawful_10 hl (by decide) rfl (fun ls hl => ?_)
  refine lv_iload hx hb dX8_isLawful_12 (lv_at hl 0 rfl) ?_
  refine lv_iconst (v := (3 : Int32)) hx hb dX8_isLawful_14 (by decide) ?_
  refine lv_icmp_ne (tgt := 43) hx hb dX8_isLawful_15 (by decide) (fun c_3 => ?_) (fun c_3 => ?_)
  · have h := k_f c_3 h
    refine lv_iload hx hb dX8_isLawful_43 (lv_at hl 0 rfl) ?_
    refine lv_iconst (v := (4 : Int32)) hx hb dX8_isLawful_45 (by decide) ?_
    refine lv_icmp_ne (tgt := 73) hx hb dX8_isLawful_46 (by decide) (fun c_4 => ?_) (fun c_4 => ?_)
    · have h := k_f c_4 h
      refine lv_iconst (v := (1 : Int32)) hx hb dX8_isLawful_73 (by decide) ?_
      refine lv_istore (lv' := [(5, .int (1 : Int32)), (4, .int x4_2), (0, .ref (eA E 27)), (1, .int x1), (2, .long x2)]) hx hb dX8_isLawful_74 hl (by decide) rfl (fun ls hl => ?_)
      refine lv_iconst (v := (0 : Int32)) hx hb dX8_isLawful_76 (by decide) ?_
      refine lv_istore (lv' := [(6, .int (0 : Int32)), (5, .int (1 : Int32)), (4, .int x4_2), (0, .ref (eA E 27)), (1, .int x1), (2, .long x2)]) hx hb dX8_isLawful_77 hl (by decide) rfl (fun ls hl => ?_)
      exact wf_X8_isLawful_79 C F σ x1 x2 x4_2 (1 : Int32) (0 : Int32) h H locs hP hS ls (lv_sub hl [3, 4, 5, 2, 1, 0] rfl)
    · have h := k_t c_4 h
      refine lv_aload_n hx hb dX8_isLawful_49 rfl (lv_at hl 1 rfl) ?_
      refine gf_27_6 C hP w_681 dX8_isLawful_50 ?_
      refine lv_iload_n hx hb dX8_isLawful_53 rfl (lv_at hl 2 rfl) ?_
      obtain ⟨n_5, h⟩ := k_no h
      refine al_32 C hP (v := (kA σ 4 x1.toNatClampNeg)) rfl n_5 dX8_isLawful_54 ?_
      refine lv_if_le (tgt := 71) hx hb dX8_isLawful_55 (by decide) (fun c_6 => ?_) (fun c_6 => ?_)
      · have h := k_t c_6 h
        refine lv_iconst (v := (0 : Int32)) hx hb dX8_isLawful_71 (by decide) ?_
        obtain ⟨rfl, rfl⟩ := k_inj h
        exact krz C hS hP (by decide) dX8_isLawful_72
      · have h := k_f c_6 h
        refine lv_aload_n hx hb dX8_isLawful_58 rfl (lv_at hl 1 rfl) ?_
        refine lv_lload_n hx hb dX8_isLawful_59 rfl (lv_at hl 3 rfl) ?_
        obtain ⟨v_7, σ_8, hc_9, h⟩ := kb_ok h
        refine kci (krunV (As := [.long x2]) C hP (c_X8_ruler E C.1 F σ x2 hc_9) w_795 kv_X8_ruler ⟨Nat.le_of_ble_eq_true rfl, Nat.le_of_ble_eq_true rfl⟩ (rc_27 C hP) rfl hl.1 rfl (Nat.le_of_ble_eq_true rfl) dX8_isLawful_60) hS (fun H locs hP hS => ?_)
        refine lv_iconst (v := (2 : Int32)) hx hb dX8_isLawful_63 (by decide) ?_
        refine lv_icmp_ne (tgt := 71) hx hb dX8_isLawful_64 (by decide) (fun c_10 => ?_) (fun c_10 => ?_)
        · have h := k_f c_10 h
          refine lv_iconst (v := (0 : Int32)) hx hb dX8_isLawful_71 (by decide) ?_
          obtain ⟨rfl, rfl⟩ := k_inj h
          exact krz C hS hP (by decide) dX8_isLawful_72
        · have h := k_t c_10 h
          refine lv_iconst (v := (1 : Int32)) hx hb dX8_isLawful_67 (by decide) ?_
          refine lv_goto (tgt := 72) hx hb dX8_isLawful_68 (by decide) ?_
          obtain ⟨rfl, rfl⟩ := k_inj h
          exact krz C hS hP (by decide) dX8_isLawful_72
  · have h := k_t c_3 h
    refine lv_aload_n hx hb dX8_isLawful_18 rfl (lv_at hl 1 rfl) ?_
    refine gf_27_6 C hP w_681 dX8_isLawful_19 ?_
    refine lv_iload_n hx hb dX8_isLawful_22 rfl (lv_at hl 2 rfl) ?_
    obtain ⟨n_11, h⟩ := k_no h
    refine al_32 C hP (v := (kA σ 4 x1.toNatClampNeg)) rfl n_11 dX8_isLawful_23 ?_
    refine lv_iconst (v := (3 : Int32)) hx hb dX8_isLawful_24 (by decide) ?_
    refine lv_icmp_ne (tgt := 41) hx hb dX8_isLawful_25 (by decide) (fun c_12 => ?_) (fun c_12 => ?_)
    · have h := k_f c_12 h
      refine lv_iconst (v := (0 : Int32)) hx hb dX8_isLawful_41 (by decide) ?_
      obtain ⟨rfl, rfl⟩ := k_inj h
      exact krz C hS hP (by decide) dX8_isLawful_42
    · have h := k_t c_12 h
      refine lv_aload_n hx hb dX8_isLawful_28 rfl (lv_at hl 1 rfl) ?_
      refine lv_lload_n hx hb dX8_isLawful_29 rfl (lv_at hl 3 rfl) ?_
      obtain ⟨v_13, σ_14, hc_15, h⟩ := kb_ok h
      refine kci (krunV (As := [.long x2]) C hP (c_X8_ruler E C.1 F σ x2 hc_15) w_795 kv_X8_ruler ⟨Nat.le_of_ble_eq_true rfl, Nat.le_of_ble_eq_true rfl⟩ (rc_27 C hP) rfl hl.1 rfl (Nat.le_of_ble_eq_true rfl) dX8_isLawful_30) hS (fun H locs hP hS => ?_)
      refine lv_iconst (v := (2 : Int32)) hx hb dX8_isLawful_33 (by decide) ?_
      refine lv_icmp_ge (tgt := 41) hx hb dX8_isLawful_34 (by decide) (fun c_16 => ?_) (fun c_16 => ?_)
      · have h := k_t c_16 h
        refine lv_iconst (v := (0 : Int32)) hx hb dX8_isLawful_41 (by decide) ?_
        obtain ⟨rfl, rfl⟩ := k_inj h
        exact krz C hS hP (by decide) dX8_isLawful_42
      · have h := k_f c_16 h
        refine lv_iconst (v := (1 : Int32)) hx hb dX8_isLawful_37 (by decide) ?_
        refine lv_goto (tgt := 42) hx hb dX8_isLawful_38 (by decide) ?_
        obtain ⟨rfl, rfl⟩ := k_inj h
        exact krz C hS hP (by decide) dX8_isLawful_42
def f_X8_isLawful (F : Nat) (σ : kS) (x1 : Int32) (x2 : Int64) : Option (Int32 × kS) := s_X8_isLawful_0 F σ x1 x2
set_option maxRecDepth 100000 in
theorem c_X8_isLawful (E : kE) (hE : kap E) (F : Nat) (σ : kS) (x1 : Int32) (x2 : Int64) (h : f_X8_isLawful F σ x1 x2 = some (r, σr)) : Met l yX8_isLawful (kWs yX8_isLawful cX8_isLawful 7 (some .boolean)) (kR 2 54) (kPre (mP E) E [.ref (eA E 27), .int x1, .long x2] σ) (kQi (mP E) (inM E) r σr) 0 0 (inM E) :=
  kst hE (by decide +kernel) (Nat.le_of_ble_eq_true rfl) (fun p e s m below meth c ls C hP hl => w_X8_isLawful_0 C F σ x1 x2 h s.heap [] hP va_S.rf ls hl)
end

section
variable {p : Program} {l : Launch} {e : Env} {s : State} {m : MethodId} {args : Array Value} {below : List Frame} {meth : Method} {c : Code} {E : kE} {σr : kS}
variable {r : Int32}
def s_X8_lawful_15 (F : Nat) (σ : kS) : Option (Int32 × kS) :=
  some ((-1 : Int32), σ)
set_option maxRecDepth 100000 in
set_option maxHeartbeats 4000000 in
theorem w_X8_lawful_15 (C : Cx E p s m args meth c cX8_lawful 4 RX8 (some .int)) (F : Nat) (σ : kS) (h : s_X8_lawful_15 F σ = some (r, σr)) (H : Heap) (locs : List Loc) (hP : mP E σ H) (hS : va_S (inM E) s.heap H locs) (ls : Array Slot) (hl : lv_has ls 4 []) : W p l e (kR 3 80) s m args below meth c H locs 0 0 (MQ below (kQi (mP E) (inM E) r σr) args s 0 0 (inM E)) (F0 m 15 ls []) := by
  obtain ⟨-, hx, hb, hml, hown, hts, hK, -, -⟩ := id C
  unfold s_X8_lawful_15 at h
  refine lv_iconst (v := (-1 : Int32)) hx hb dX8_lawful_15 (by decide) ?_
  refine lv_goto (tgt := 33) hx hb dX8_lawful_16 (by decide) ?_
  obtain ⟨rfl, rfl⟩ := k_inj h
  exact kri C hS hP dX8_lawful_33
def s_X8_lawful_0 (F : Nat) (σ : kS) (x1 : Int32) (x2 : Int64) : Option (Int32 × kS) :=
  (kb (f_X8_isAct F σ x1) fun v_1 σ_2 => (if v_1 = 0 then s_X8_lawful_15 F σ_2 else (kb (f_X8_isMinute F σ_2 x2) fun v_5 σ_6 => (if v_5 = 0 then s_X8_lawful_15 F σ_6 else (kb (f_X8_isLawful F σ_6 x1 x2) fun v_9 σ_10 => (if v_9 = 0 then some ((0 : Int32), σ_10) else some ((1 : Int32), σ_10)))))))
set_option maxRecDepth 100000 in
set_option maxHeartbeats 4000000 in
theorem w_X8_lawful_0 (C : Cx E p s m args meth c cX8_lawful 4 RX8 (some .int)) (F : Nat) (σ : kS) (x1 : Int32) (x2 : Int64) (h : s_X8_lawful_0 F σ x1 x2 = some (r, σr)) (H : Heap) (locs : List Loc) (hP : mP E σ H) (hS : va_S (inM E) s.heap H locs) (ls : Array Slot) (hl : lv_has ls 4 [(0, .ref (eA E 27)), (1, .int x1), (2, .long x2)]) : W p l e (kR 3 80) s m args below meth c H locs 0 0 (MQ below (kQi (mP E) (inM E) r σr) args s 0 0 (inM E)) (F0 m 0 ls []) := by
  obtain ⟨-, hx, hb, hml, hown, hts, hK, -, -⟩ := id C
  unfold s_X8_lawful_0 at h
  refine lv_aload_n hx hb dX8_lawful_0 rfl (lv_at hl 0 rfl) ?_
  refine lv_iload_n hx hb dX8_lawful_1 rfl (lv_at hl 1 rfl) ?_
  obtain ⟨v_1, σ_2, hc_3, h⟩ := kb_ok h
  refine kci (krunV (As := [.int x1]) C hP (c_X8_isAct E C.1 F σ x1 hc_3) w_777 kv_X8_isAct ⟨Nat.le_of_ble_eq_true rfl, Nat.le_of_ble_eq_true rfl⟩ (rc_27 C hP) rfl hl.1 rfl (Nat.le_of_ble_eq_true rfl) dX8_lawful_2) hS (fun H locs hP hS => ?_)
  refine lv_if_eq (tgt := 15) hx hb dX8_lawful_5 (by decide) (fun c_4 => ?_) (fun c_4 => ?_)
  · have h := k_t c_4 h
    exact w_X8_lawful_15 C F σ_2 h H locs hP hS ls (lv_sub hl [] rfl)
  · have h := k_f c_4 h
    refine lv_lload_n hx hb dX8_lawful_8 rfl (lv_at hl 2 rfl) ?_
    obtain ⟨v_5, σ_6, hc_7, h⟩ := kb_ok h
    refine kci (krunS (As := [.long x2]) C hP (c_X8_isMinute E C.1 F σ_2 x2 hc_7) w_791 kt_X8_isMinute ⟨Nat.le_of_ble_eq_true rfl, Nat.le_of_ble_eq_true rfl⟩ rfl hl.1 rfl (Nat.le_of_ble_eq_true rfl) dX8_lawful_9) hS (fun H locs hP hS => ?_)
    refine lv_if_ne (tgt := 19) hx hb dX8_lawful_12 (by decide) (fun c_8 => ?_) (fun c_8 => ?_)
    · have h := k_f c_8 h
      refine lv_aload_n hx hb dX8_lawful_19 rfl (lv_at hl 0 rfl) ?_
      refine lv_iload_n hx hb dX8_lawful_20 rfl (lv_at hl 1 rfl) ?_
      refine lv_lload_n hx hb dX8_lawful_21 rfl (lv_at hl 2 rfl) ?_
      obtain ⟨v_9, σ_10, hc_11, h⟩ := kb_ok h
      refine kci (krunV (As := [.int x1, .long x2]) C hP (c_X8_isLawful E C.1 F σ_6 x1 x2 hc_11) w_820 kv_X8_isLawful ⟨Nat.le_of_ble_eq_true rfl, Nat.le_of_ble_eq_true rfl⟩ (rc_27 C hP) rfl hl.1 rfl (Nat.le_of_ble_eq_true rfl) dX8_lawful_22) hS (fun H locs hP hS => ?_)
      refine lv_if_eq (tgt := 32) hx hb dX8_lawful_25 (by decide) (fun c_12 => ?_) (fun c_12 => ?_)
      · have h := k_t c_12 h
        refine lv_iconst (v := (0 : Int32)) hx hb dX8_lawful_32 (by decide) ?_
        obtain ⟨rfl, rfl⟩ := k_inj h
        exact kri C hS hP dX8_lawful_33
      · have h := k_f c_12 h
        refine lv_iconst (v := (1 : Int32)) hx hb dX8_lawful_28 (by decide) ?_
        refine lv_goto (tgt := 33) hx hb dX8_lawful_29 (by decide) ?_
        obtain ⟨rfl, rfl⟩ := k_inj h
        exact kri C hS hP dX8_lawful_33
    · have h := k_t c_8 h
      exact w_X8_lawful_15 C F σ_6 h H locs hP hS ls (lv_sub hl [] rfl)
def f_X8_lawful (F : Nat) (σ : kS) (x1 : Int32) (x2 : Int64) : Option (Int32 × kS) := s_X8_lawful_0 F σ x1 x2
set_option maxRecDepth 100000 in
theorem c_X8_lawful (E : kE) (hE : kap E) (F : Nat) (σ : kS) (x1 : Int32) (x2 : Int64) (h : f_X8_lawful F σ x1 x2 = some (r, σr)) : Met l yX8_lawful (kWs yX8_lawful cX8_lawful 4 (some .int)) (kR 3 80) (kPre (mP E) E [.ref (eA E 27), .int x1, .long x2] σ) (kQi (mP E) (inM E) r σr) 0 0 (inM E) :=
  kst hE (by decide +kernel) (Nat.le_of_ble_eq_true rfl) (fun p e s m below meth c ls C hP hl => w_X8_lawful_0 C F σ x1 x2 h s.heap [] hP va_S.rf ls hl)
end

section
variable {p : Program} {l : Launch} {e : Env} {s : State} {m : MethodId} {args : Array Value} {below : List Frame} {meth : Method} {c : Code} {E : kE} {σr : kS}
variable {r : Int32}
def s_X8_tell_0 (F : Nat) (σ : kS) (x1 : Int32) : Option (Int32 × kS) :=
  (kb (f_X8_isAct F σ x1) fun v_1 σ_2 => (if v_1 = 0 then some ((-1 : Int32), σ_2) else (if (kI σ_2 4) = (8 : Int32) then some ((-3 : Int32), σ_2) else (if (kI σ_2 4) < 0 ∨ 8 ≤ (kI σ_2 4).toNatClampNeg then none else some (((kI σ_2 4) + (1 : Int32)), (jI (jA σ_2 6 (kI σ_2 4).toNatClampNeg x1) 4 ((kI σ_2 4) + (1 : Int32))))))))
set_option maxRecDepth 100000 in
set_option maxHeartbeats 4000000 in
theorem w_X8_tell_0 (C : Cx E p s m args meth c cX8_tell 2 RX8 (some .int)) (F : Nat) (σ : kS) (x1 : Int32) (h : s_X8_tell_0 F σ x1 = some (r, σr)) (H : Heap) (locs : List Loc) (hP : mP E σ H) (hS : va_S (inM E) s.heap H locs) (ls : Array Slot) (hl : lv_has ls 2 [(0, .ref (eA E 27)), (1, .int x1)]) : W p l e (kR 2 46) s m args below meth c H locs 0 0 (MQ below (kQi (mP E) (inM E) r σr) args s 0 0 (inM E)) (F0 m 0 ls []) := by
  obtain ⟨-, hx, hb, hml, hown, hts, hK, -, -⟩ := id C
  unfold s_X8_tell_0 at h
  refine lv_aload_n hx hb dX8_tell_0 rfl (lv_at hl 0 rfl) ?_
  refine lv_iload_n hx hb dX8_tell_1 rfl (lv_at hl 1 rfl) ?_
  obtain ⟨v_1, σ_2, hc_3, h⟩ := kb_ok h
  refine kci (krunV (As := [.int x1]) C hP (c_X8_isAct E C.1 F σ x1 hc_3) w_777 kv_X8_isAct ⟨Nat.le_of_ble_eq_true rfl, Nat.le_of_ble_eq_true rfl⟩ (rc_27 C hP) rfl hl.1 rfl (Nat.le_of_ble_eq_true rfl) dX8_tell_2) hS (fun H locs hP hS => ?_)
  refine lv_if_ne (tgt := 10) hx hb dX8_tell_5 (by decide) (fun c_4 => ?_) (fun c_4 => ?_)
  · have h := k_f c_4 h
    refine lv_aload_n hx hb dX8_tell_10 rfl (lv_at hl 0 rfl) ?_
    refine gf_27_11 C hP (v := (kI σ_2 4)) rfl w_686 dX8_tell_11 ?_
    refine lv_bipush (v := (8 : Int32)) hx hb dX8_tell_14 (by decide) ?_
    refine lv_icmp_ne (tgt := 22) hx hb dX8_tell_16 (by decide) (fun c_5 => ?_) (fun c_5 => ?_)
    · have h := k_f c_5 h
      refine lv_aload_n hx hb dX8_tell_22 rfl (lv_at hl 0 rfl) ?_
      refine gf_27_12 C hP w_687 dX8_tell_23 ?_
      refine lv_aload_n hx hb dX8_tell_26 rfl (lv_at hl 0 rfl) ?_
      refine gf_27_11 C hP (v := (kI σ_2 4)) rfl w_686 dX8_tell_27 ?_
      refine lv_iload_n hx hb dX8_tell_30 rfl (lv_at hl 1 rfl) ?_
      obtain ⟨n_6, h⟩ := k_no h
      refine as_35 C hP hS (σ2 := (jA σ_2 6 (kI σ_2 4).toNatClampNeg x1)) rfl n_6 dX8_tell_31 (fun H locs hP hS => ?_)
      refine lv_aload_n hx hb dX8_tell_32 rfl (lv_at hl 0 rfl) ?_
      refine lv_dup hx hb dX8_tell_33 rfl ?_
      refine gf_27_11 C hP (v := (kI σ_2 4)) rfl w_686 dX8_tell_34 ?_
      refine lv_iconst (v := (1 : Int32)) hx hb dX8_tell_37 (by decide) ?_
      refine lv_iadd hx hb dX8_tell_38 ?_
      refine pf_27_11 C hP hS w_686 dX8_tell_39 (fun H locs hP hS => ?_)
      refine lv_aload_n hx hb dX8_tell_42 rfl (lv_at hl 0 rfl) ?_
      refine gf_27_11 C hP (v := ((kI σ_2 4) + (1 : Int32))) rfl w_686 dX8_tell_43 ?_
      obtain ⟨rfl, rfl⟩ := k_inj h
      exact kri C hS hP dX8_tell_46
    · have h := k_t c_5 h
      refine lv_bipush (v := (-3 : Int32)) hx hb dX8_tell_19 (by decide) ?_
      obtain ⟨rfl, rfl⟩ := k_inj h
      exact kri C hS hP dX8_tell_21
  · have h := k_t c_4 h
    refine lv_iconst (v := (-1 : Int32)) hx hb dX8_tell_8 (by decide) ?_
    obtain ⟨rfl, rfl⟩ := k_inj h
    exact kri C hS hP dX8_tell_9
def f_X8_tell (F : Nat) (σ : kS) (x1 : Int32) : Option (Int32 × kS) := s_X8_tell_0 F σ x1
set_option maxRecDepth 100000 in
theorem c_X8_tell (E : kE) (hE : kap E) (F : Nat) (σ : kS) (x1 : Int32) (h : f_X8_tell F σ x1 = some (r, σr)) : Met l yX8_tell (kWs yX8_tell cX8_tell 2 (some .int)) (kR 2 46) (kPre (mP E) E [.ref (eA E 27), .int x1] σ) (kQi (mP E) (inM E) r σr) 0 0 (inM E) :=
  kst hE (by decide +kernel) (Nat.le_of_ble_eq_true rfl) (fun p e s m below meth c ls C hP hl => w_X8_tell_0 C F σ x1 h s.heap [] hP va_S.rf ls hl)
end

section
variable {p : Program} {l : Launch} {e : Env} {s : State} {m : MethodId} {args : Array Value} {below : List Frame} {meth : Method} {c : Code} {E : kE} {σr : kS}
variable {r : Int32}
def s_X8_noRow_0 (F : Nat) (σ : kS) : Option (Int32 × kS) :=
  some ((kI σ 4), (jI σ 4 (0 : Int32)))
set_option maxRecDepth 100000 in
set_option maxHeartbeats 4000000 in
theorem w_X8_noRow_0 (C : Cx E p s m args meth c cX8_noRow 2 RX8 (some .int)) (F : Nat) (σ : kS) (h : s_X8_noRow_0 F σ = some (r, σr)) (H : Heap) (locs : List Loc) (hP : mP E σ H) (hS : va_S (inM E) s.heap H locs) (ls : Array Slot) (hl : lv_has ls 2 [(0, .ref (eA E 27))]) : W p l e (kR 0 0) s m args below meth c H locs 0 0 (MQ below (kQi (mP E) (inM E) r σr) args s 0 0 (inM E)) (F0 m 0 ls []) := by
  obtain ⟨-, hx, hb, hml, hown, hts, hK, -, -⟩ := id C
  unfold s_X8_noRow_0 at h
  refine lv_aload_n hx hb dX8_noRow_0 rfl (lv_at hl 0 rfl) ?_
  refine gf_27_11 C hP (v := (kI σ 4)) rfl w_686 dX8_noRow_1 ?_
  refine lv_istore_n (lv' := [(1, .int (kI σ 4)), (0, .ref (eA E 27))]) hx hb dX8_noRow_4 rfl hl (by decide) rfl (fun ls hl => ?_)
  refine lv_aload_n hx hb dX8_noRow_5 rfl (lv_at hl 1 rfl) ?_
  refine lv_iconst (v := (0 : Int32)) hx hb dX8_noRow_6 (by decide) ?_
  refine pf_27_11 C hP hS w_686 dX8_noRow_7 (fun H locs hP hS => ?_)
  refine lv_iload_n hx hb dX8_noRow_10 rfl (lv_at hl 0 rfl) ?_
  obtain ⟨rfl, rfl⟩ := k_inj h
  exact kri C hS hP dX8_noRow_11
def f_X8_noRow (F : Nat) (σ : kS) : Option (Int32 × kS) := s_X8_noRow_0 F σ
set_option maxRecDepth 100000 in
theorem c_X8_noRow (E : kE) (hE : kap E) (F : Nat) (σ : kS) (h : f_X8_noRow F σ = some (r, σr)) : Met l yX8_noRow (kWs yX8_noRow cX8_noRow 2 (some .int)) (kR 0 0) (kPre (mP E) E [.ref (eA E 27)] σ) (kQi (mP E) (inM E) r σr) 0 0 (inM E) :=
  kst hE (by decide +kernel) (Nat.le_of_ble_eq_true rfl) (fun p e s m below meth c ls C hP hl => w_X8_noRow_0 C F σ h s.heap [] hP va_S.rf ls hl)
end

section
variable {p : Program} {l : Launch} {e : Env} {s : State} {m : MethodId} {args : Array Value} {below : List Frame} {meth : Method} {c : Code} {E : kE} {σr : kS}
variable {r : Int32}
def s_X8_lasts_21 (F : Nat) (σ : kS) (x1 : Int32) : Option (Int32 × kS) :=
  (if (((5 : Int32) * x1) + (2 : Int32)) < 0 ∨ 60 ≤ (((5 : Int32) * x1) + (2 : Int32)).toNatClampNeg then none else some ((kA σ 3 (((5 : Int32) * x1) + (2 : Int32)).toNatClampNeg), σ))
set_option maxRecDepth 100000 in
set_option maxHeartbeats 4000000 in
theorem w_X8_lasts_21 (C : Cx E p s m args meth c cX8_lasts 3 RX8 (some .int)) (F : Nat) (σ : kS) (x1 : Int32) (h : s_X8_lasts_21 F σ x1 = some (r, σr)) (H : Heap) (locs : List Loc) (hP : mP E σ H) (hS : va_S (inM E) s.heap H locs) (ls : Array Slot) (hl : lv_has ls 3 [(0, .ref (eA E 27)), (1, .int x1)]) : W p l e (kR 0 0) s m args below meth c H locs 0 0 (MQ below (kQi (mP E) (inM E) r σr) args s 0 0 (inM E)) (F0 m 21 ls []) := by
  obtain ⟨-, hx, hb, hml, hown, hts, hK, -, -⟩ := id C
  unfold s_X8_lasts_21 at h
  refine lv_aload_n hx hb dX8_lasts_21 rfl (lv_at hl 0 rfl) ?_
  refine gf_27_5 C hP w_680 dX8_lasts_22 ?_
  refine lv_iconst (v := (5 : Int32)) hx hb dX8_lasts_25 (by decide) ?_
  refine lv_iload_n hx hb dX8_lasts_26 rfl (lv_at hl 1 rfl) ?_
  refine lv_imul hx hb dX8_lasts_27 ?_
  refine lv_iconst (v := (2 : Int32)) hx hb dX8_lasts_28 (by decide) ?_
  refine lv_iadd hx hb dX8_lasts_29 ?_
  obtain ⟨n_1, h⟩ := k_no h
  refine al_31 C hP (v := (kA σ 3 (((5 : Int32) * x1) + (2 : Int32)).toNatClampNeg)) rfl n_1 dX8_lasts_30 ?_
  refine lv_goto (tgt := 35) hx hb dX8_lasts_31 (by decide) ?_
  obtain ⟨rfl, rfl⟩ := k_inj h
  exact kri C hS hP dX8_lasts_35
def s_X8_lasts_0 (F : Nat) (σ : kS) (x1 : Int32) : Option (Int32 × kS) :=
  (if (((5 : Int32) * x1) + (0 : Int32)) < 0 ∨ 60 ≤ (((5 : Int32) * x1) + (0 : Int32)).toNatClampNeg then none else (kn (kA σ 3 (((5 : Int32) * x1) + (0 : Int32)).toNatClampNeg) (fun x2_2 => (if x2_2 = (1 : Int32) then s_X8_lasts_21 F σ x1 else (if x2_2 = (2 : Int32) then s_X8_lasts_21 F σ x1 else some ((1 : Int32), σ))))))
set_option maxRecDepth 100000 in
set_option maxHeartbeats 4000000 in
theorem w_X8_lasts_0 (C : Cx E p s m args meth c cX8_lasts 3 RX8 (some .int)) (F : Nat) (σ : kS) (x1 : Int32) (h : s_X8_lasts_0 F σ x1 = some (r, σr)) (H : Heap) (locs : List Loc) (hP : mP E σ H) (hS : va_S (inM E) s.heap H locs) (ls : Array Slot) (hl : lv_has ls 3 [(0, .ref (eA E 27)), (1, .int x1)]) : W p l e (kR 0 0) s m args below meth c H locs 0 0 (MQ below (kQi (mP E) (inM E) r σr) args s 0 0 (inM E)) (F0 m 0 ls []) := by
  obtain ⟨-, hx, hb, hml, hown, hts, hK, -, -⟩ := id C
  unfold s_X8_lasts_0 at h
  refine lv_aload_n hx hb dX8_lasts_0 rfl (lv_at hl 0 rfl) ?_
  refine gf_27_5 C hP w_680 dX8_lasts_1 ?_
  refine lv_iconst (v := (5 : Int32)) hx hb dX8_lasts_4 (by decide) ?_
  refine lv_iload_n hx hb dX8_lasts_5 rfl (lv_at hl 1 rfl) ?_
  refine lv_imul hx hb dX8_lasts_6 ?_
  refine lv_iconst (v := (0 : Int32)) hx hb dX8_lasts_7 (by decide) ?_
  refine lv_iadd hx hb dX8_lasts_8 ?_
  obtain ⟨n_1, h⟩ := k_no h
  refine al_31 C hP (v := (kA σ 3 (((5 : Int32) * x1) + (0 : Int32)).toNatClampNeg)) rfl n_1 dX8_lasts_9 ?_
  refine lv_topi (fun x2_2 ex2_2 => ?_)
  have h := kn_to ex2_2 h
  refine lv_istore_n (lv' := [(2, .int x2_2), (0, .ref (eA E 27)), (1, .int x1)]) hx hb dX8_lasts_10 rfl hl (by decide) rfl (fun ls hl => ?_)
  refine lv_iload_n hx hb dX8_lasts_11 rfl (lv_at hl 0 rfl) ?_
  refine lv_iconst (v := (1 : Int32)) hx hb dX8_lasts_12 (by decide) ?_
  refine lv_icmp_eq (tgt := 21) hx hb dX8_lasts_13 (by decide) (fun c_3 => ?_) (fun c_3 => ?_)
  · have h := k_t c_3 h
    exact w_X8_lasts_21 C F σ x1 h H locs hP hS ls (lv_sub hl [1, 2] rfl)
  · have h := k_f c_3 h
    refine lv_iload_n hx hb dX8_lasts_16 rfl (lv_at hl 0 rfl) ?_
    refine lv_iconst (v := (2 : Int32)) hx hb dX8_lasts_17 (by decide) ?_
    refine lv_icmp_ne (tgt := 34) hx hb dX8_lasts_18 (by decide) (fun c_4 => ?_) (fun c_4 => ?_)
    · have h := k_f c_4 h
      refine lv_iconst (v := (1 : Int32)) hx hb dX8_lasts_34 (by decide) ?_
      obtain ⟨rfl, rfl⟩ := k_inj h
      exact kri C hS hP dX8_lasts_35
    · have h := k_t c_4 h
      exact w_X8_lasts_21 C F σ x1 h H locs hP hS ls (lv_sub hl [1, 2] rfl)
def f_X8_lasts (F : Nat) (σ : kS) (x1 : Int32) : Option (Int32 × kS) := s_X8_lasts_0 F σ x1
set_option maxRecDepth 100000 in
theorem c_X8_lasts (E : kE) (hE : kap E) (F : Nat) (σ : kS) (x1 : Int32) (h : f_X8_lasts F σ x1 = some (r, σr)) : Met l yX8_lasts (kWs yX8_lasts cX8_lasts 3 (some .int)) (kR 0 0) (kPre (mP E) E [.ref (eA E 27), .int x1] σ) (kQi (mP E) (inM E) r σr) 0 0 (inM E) :=
  kst hE (by decide +kernel) (Nat.le_of_ble_eq_true rfl) (fun p e s m below meth c ls C hP hl => w_X8_lasts_0 C F σ x1 h s.heap [] hP va_S.rf ls hl)
end

section
variable {p : Program} {l : Launch} {e : Env} {s : State} {m : MethodId} {args : Array Value} {below : List Frame} {meth : Method} {c : Code} {E : kE} {σr : kS}
variable {r : Int64}
def s_X8_soon_25 (F : Nat) (σ : kS) : Option (Int64 × kS) :=
  some ((-1 : Int64), σ)
set_option maxRecDepth 100000 in
set_option maxHeartbeats 4000000 in
theorem w_X8_soon_25 (C : Cx E p s m args meth c cX8_soon 9 RX8 (some .long)) (F : Nat) (σ : kS) (h : s_X8_soon_25 F σ = some (r, σr)) (H : Heap) (locs : List Loc) (hP : mP E σ H) (hS : va_S (inM E) s.heap H locs) (ls : Array Slot) (hl : lv_has ls 9 []) : W p l e (kR 3 80) s m args below meth c H locs 0 0 (MQ below (kQl (mP E) (inM E) r σr) args s 0 0 (inM E)) (F0 m 25 ls []) := by
  obtain ⟨-, hx, hb, hml, hown, hts, hK, -, -⟩ := id C
  unfold s_X8_soon_25 at h
  refine lv_ldc2 (v := (-1 : Int64)) hx hb hown (hts _ w_813) dX8_soon_25 ?_
  obtain ⟨rfl, rfl⟩ := k_inj h
  exact krl C hS hP dX8_soon_28
def s_X8_soon_85 (F : Nat) (rec35 : (kS × Int32 × Int64 × Int32 → Option (Int64 × kS))) (σ : kS) (x3 : Int32) (x4 : Int64) (x6 : Int32) (x7 : Int64) : Option (Int64 × kS) :=
  (if (lg_cmp x4 x7) ≤ 0 then (if x6 < 0 ∨ 9 ≤ x6.toNatClampNeg then none else (if x6 < 0 ∨ 8 ≤ x6.toNatClampNeg then none else (kb (f_X8_lasts F (jB σ 1 x6.toNatClampNeg x4) (kA σ 6 x6.toNatClampNeg)) fun v_4 σ_5 => rec35 (σ_5, x3, (x4 + v_4.toInt64), (x6 + (1 : Int32)))))) else some ((-4 : Int64), σ))
set_option maxRecDepth 100000 in
set_option maxHeartbeats 4000000 in
theorem w_X8_soon_85 (C : Cx E p s m args meth c cX8_soon 9 RX8 (some .long)) (F : Nat) (rec35 : (kS × Int32 × Int64 × Int32 → Option (Int64 × kS))) (hrec35 : ∀ (σ : kS) (x3 : Int32) (x4 : Int64) (x6 : Int32), rec35 (σ, x3, x4, x6) = some (r, σr) → ∀ (H : Heap) (locs : List Loc), mP E σ H → va_S (inM E) s.heap H locs → ∀ (ls : Array Slot), lv_has ls 9 [(0, .ref (eA E 27)), (3, .int x3), (4, .long x4), (6, .int x6)] → W p l e (kR 3 80) s m args below meth c H locs 0 0 (MQ below (kQl (mP E) (inM E) r σr) args s 0 0 (inM E)) (F0 m 35 ls [])) (σ : kS) (x3 : Int32) (x4 : Int64) (x6 : Int32) (x7 : Int64) (h : s_X8_soon_85 F rec35 σ x3 x4 x6 x7 = some (r, σr)) (H : Heap) (locs : List Loc) (hP : mP E σ H) (hS : va_S (inM E) s.heap H locs) (ls : Array Slot) (hl : lv_has ls 9 [(0, .ref (eA E 27)), (3, .int x3), (4, .long x4), (6, .int x6), (7, .long x7)]) : W p l e (kR 3 80) s m args below meth c H locs 0 0 (MQ below (kQl (mP E) (inM E) r σr) args s 0 0 (inM E)) (F0 m 85 ls []) := by
  obtain ⟨-, hx, hb, hml, hown, hts, hK, -, -⟩ := id C
  unfold s_X8_soon_85 at h
  refine lv_lload hx hb dX8_soon_85 (lv_at hl 2 rfl) ?_
  refine lv_lload hx hb dX8_soon_87 (lv_at hl 4 rfl) ?_
  refine W.lcmp hx hb dX8_soon_89 ?_
  refine lv_if_le (tgt := 97) hx hb dX8_soon_90 (by decide) (fun c_1 => ?_) (fun c_1 => ?_)
  · have h := k_t c_1 h
    refine lv_aload_n hx hb dX8_soon_97 rfl (lv_at hl 0 rfl) ?_
    refine gf_27_13 C hP w_688 dX8_soon_98 ?_
    refine lv_iload hx hb dX8_soon_101 (lv_at hl 3 rfl) ?_
    refine lv_lload hx hb dX8_soon_103 (lv_at hl 2 rfl) ?_
    obtain ⟨n_2, h⟩ := k_no h
    refine as_36 C hP hS (σ2 := (jB σ 1 x6.toNatClampNeg x4)) rfl n_2 dX8_soon_105 (fun H locs hP hS => ?_)
    refine lv_lload hx hb dX8_soon_106 (lv_at hl 2 rfl) ?_
    refine lv_aload_n hx hb dX8_soon_108 rfl (lv_at hl 0 rfl) ?_
    refine lv_aload_n hx hb dX8_soon_109 rfl (lv_at hl 0 rfl) ?_
    refine gf_27_12 C hP w_687 dX8_soon_110 ?_
    refine lv_iload hx hb dX8_soon_113 (lv_at hl 3 rfl) ?_
    obtain ⟨n_3, h⟩ := k_no h
    refine al_35 C hP (v := (kA σ 6 x6.toNatClampNeg)) rfl n_3 dX8_soon_115 ?_
    obtain ⟨v_4, σ_5, hc_6, h⟩ := kb_ok h
    refine kci (krunV (As := [.int (kA σ 6 x6.toNatClampNeg)]) C hP (c_X8_lasts E C.1 F (jB σ 1 x6.toNatClampNeg x4) (kA σ 6 x6.toNatClampNeg) hc_6) w_841 kv_X8_lasts ⟨Nat.le_of_ble_eq_true rfl, Nat.le_of_ble_eq_true rfl⟩ (rc_27 C hP) rfl hl.1 rfl (Nat.le_of_ble_eq_true rfl) dX8_soon_116) hS (fun H locs hP hS => ?_)
    refine lv_i2l (v := v_4.toInt64) hx hb dX8_soon_119 rfl ?_
    refine lv_ladd hx hb dX8_soon_120 ?_
    refine lv_lstore (lv' := [(4, .long (x4 + v_4.toInt64)), (0, .ref (eA E 27)), (3, .int x3), (6, .int x6), (7, .long x7)]) hx hb dX8_soon_121 hl (by decide) rfl (fun ls hl => ?_)
    refine lv_iinc (v := (x6 + (1 : Int32))) (lv' := [(6, .int (x6 + (1 : Int32))), (4, .long (x4 + v_4.toInt64)), (0, .ref (eA E 27)), (3, .int x3), (7, .long x7)]) hx hb dX8_soon_123 hl (k := 3) rfl rfl (by decide) rfl (fun ls hl => ?_)
    refine lv_goto (tgt := 35) hx hb dX8_soon_126 (by decide) ?_
    exact hrec35 σ_5 x3 (x4 + v_4.toInt64) (x6 + (1 : Int32)) h H locs hP hS ls (lv_sub hl [2, 3, 1, 0] rfl)
  · have h := k_f c_1 h
    refine lv_ldc2 (v := (-4 : Int64)) hx hb hown (hts _ w_815) dX8_soon_93 ?_
    obtain ⟨rfl, rfl⟩ := k_inj h
    exact krl C hS hP dX8_soon_96
def s_X8_soon_52 (F : Nat) (rec35 : (kS × Int32 × Int64 × Int32 → Option (Int64 × kS))) (rec52 : (kS × Int32 × Int64 × Int32 × Int64 → Option (Int64 × kS))) (σ : kS) (x3 : Int32) (x4 : Int64) (x6 : Int32) (x7 : Int64) : Option (Int64 × kS) :=
  (if 0 < (lg_cmp x4 x7) then s_X8_soon_85 F rec35 σ x3 x4 x6 x7 else (if x6 < 0 ∨ 8 ≤ x6.toNatClampNeg then none else (kb (f_X8_isLawful F σ (kA σ 6 x6.toNatClampNeg) x4) fun v_3 σ_4 => (if v_3 = 0 then rec52 (σ_4, x3, (x4 + (1 : Int64)), x6, x7) else s_X8_soon_85 F rec35 σ_4 x3 x4 x6 x7))))
set_option maxRecDepth 100000 in
set_option maxHeartbeats 4000000 in
theorem w_X8_soon_52 (C : Cx E p s m args meth c cX8_soon 9 RX8 (some .long)) (F : Nat) (rec35 : (kS × Int32 × Int64 × Int32 → Option (Int64 × kS))) (hrec35 : ∀ (σ : kS) (x3 : Int32) (x4 : Int64) (x6 : Int32), rec35 (σ, x3, x4, x6) = some (r, σr) → ∀ (H : Heap) (locs : List Loc), mP E σ H → va_S (inM E) s.heap H locs → ∀ (ls : Array Slot), lv_has ls 9 [(0, .ref (eA E 27)), (3, .int x3), (4, .long x4), (6, .int x6)] → W p l e (kR 3 80) s m args below meth c H locs 0 0 (MQ below (kQl (mP E) (inM E) r σr) args s 0 0 (inM E)) (F0 m 35 ls [])) (rec52 : (kS × Int32 × Int64 × Int32 × Int64 → Option (Int64 × kS))) (hrec52 : ∀ (σ : kS) (x3 : Int32) (x4 : Int64) (x6 : Int32) (x7 : Int64), rec52 (σ, x3, x4, x6, x7) = some (r, σr) → ∀ (H : Heap) (locs : List Loc), mP E σ H → va_S (inM E) s.heap H locs → ∀ (ls : Array Slot), lv_has ls 9 [(0, .ref (eA E 27)), (3, .int x3), (4, .long x4), (6, .int x6), (7, .long x7)] → W p l e (kR 3 80) s m args below meth c H locs 0 0 (MQ below (kQl (mP E) (inM E) r σr) args s 0 0 (inM E)) (F0 m 52 ls [])) (σ : kS) (x3 : Int32) (x4 : Int64) (x6 : Int32) (x7 : Int64) (h : s_X8_soon_52 F rec35 rec52 σ x3 x4 x6 x7 = some (r, σr)) (H : Heap) (locs : List Loc) (hP : mP E σ H) (hS : va_S (inM E) s.heap H locs) (ls : Array Slot) (hl : lv_has ls 9 [(0, .ref (eA E 27)), (3, .int x3), (4, .long x4), (6, .int x6), (7, .long x7)]) : W p l e (kR 3 80) s m args below meth c H locs 0 0 (MQ below (kQl (mP E) (inM E) r σr) args s 0 0 (inM E)) (F0 m 52 ls []) := by
  obtain ⟨-, hx, hb, hml, hown, hts, hK, -, -⟩ := id C
  unfold s_X8_soon_52 at h
  refine lv_lload hx hb dX8_soon_52 (lv_at hl 2 rfl) ?_
  refine lv_lload hx hb dX8_soon_54 (lv_at hl 4 rfl) ?_
  refine W.lcmp hx hb dX8_soon_56 ?_
  refine lv_if_gt (tgt := 85) hx hb dX8_soon_57 (by decide) (fun c_1 => ?_) (fun c_1 => ?_)
  · have h := k_t c_1 h
    exact w_X8_soon_85 C F rec35 hrec35 σ x3 x4 x6 x7 h H locs hP hS ls hl
  · have h := k_f c_1 h
    refine lv_aload_n hx hb dX8_soon_60 rfl (lv_at hl 0 rfl) ?_
    refine lv_aload_n hx hb dX8_soon_61 rfl (lv_at hl 0 rfl) ?_
    refine gf_27_12 C hP w_687 dX8_soon_62 ?_
    refine lv_iload hx hb dX8_soon_65 (lv_at hl 3 rfl) ?_
    obtain ⟨n_2, h⟩ := k_no h
    refine al_35 C hP (v := (kA σ 6 x6.toNatClampNeg)) rfl n_2 dX8_soon_67 ?_
    refine lv_lload hx hb dX8_soon_68 (lv_at hl 2 rfl) ?_
    obtain ⟨v_3, σ_4, hc_5, h⟩ := kb_ok h
    refine kci (krunV (As := [.int (kA σ 6 x6.toNatClampNeg), .long x4]) C hP (c_X8_isLawful E C.1 F σ (kA σ 6 x6.toNatClampNeg) x4 hc_5) w_820 kv_X8_isLawful ⟨Nat.le_of_ble_eq_true rfl, Nat.le_of_ble_eq_true rfl⟩ (rc_27 C hP) rfl hl.1 rfl (Nat.le_of_ble_eq_true rfl) dX8_soon_70) hS (fun H locs hP hS => ?_)
    refine lv_if_ne (tgt := 85) hx hb dX8_soon_73 (by decide) (fun c_6 => ?_) (fun c_6 => ?_)
    · have h := k_f c_6 h
      exact w_X8_soon_85 C F rec35 hrec35 σ_4 x3 x4 x6 x7 h H locs hP hS ls hl
    · have h := k_t c_6 h
      refine lv_lload hx hb dX8_soon_76 (lv_at hl 2 rfl) ?_
      refine lv_lconst (v := (1 : Int64)) hx hb dX8_soon_78 (by decide) ?_
      refine lv_ladd hx hb dX8_soon_79 ?_
      refine lv_lstore (lv' := [(4, .long (x4 + (1 : Int64))), (0, .ref (eA E 27)), (3, .int x3), (6, .int x6), (7, .long x7)]) hx hb dX8_soon_80 hl (by decide) rfl (fun ls hl => ?_)
      refine lv_goto (tgt := 52) hx hb dX8_soon_82 (by decide) ?_
      exact hrec52 σ_4 x3 (x4 + (1 : Int64)) x6 x7 h H locs hP hS ls (lv_sub hl [1, 2, 0, 3, 4] rfl)
def f_X8_soon_52 (F : Nat) (rec35 : (kS × Int32 × Int64 × Int32 → Option (Int64 × kS))) : kS × Int32 × Int64 × Int32 × Int64 → Option (Int64 × kS) := itr (fun rec52 q => s_X8_soon_52 F rec35 rec52 q.1 q.2.1 q.2.2.1 q.2.2.2.1 q.2.2.2.2) F
theorem wf_X8_soon_52 (C : Cx E p s m args meth c cX8_soon 9 RX8 (some .long)) (F : Nat) (rec35 : (kS × Int32 × Int64 × Int32 → Option (Int64 × kS))) (hrec35 : ∀ (σ : kS) (x3 : Int32) (x4 : Int64) (x6 : Int32), rec35 (σ, x3, x4, x6) = some (r, σr) → ∀ (H : Heap) (locs : List Loc), mP E σ H → va_S (inM E) s.heap H locs → ∀ (ls : Array Slot), lv_has ls 9 [(0, .ref (eA E 27)), (3, .int x3), (4, .long x4), (6, .int x6)] → W p l e (kR 3 80) s m args below meth c H locs 0 0 (MQ below (kQl (mP E) (inM E) r σr) args s 0 0 (inM E)) (F0 m 35 ls [])) (σ : kS) (x3 : Int32) (x4 : Int64) (x6 : Int32) (x7 : Int64) (h : f_X8_soon_52 F rec35 (σ, x3, x4, x6, x7) = some (r, σr)) (H : Heap) (locs : List Loc) (hP : mP E σ H) (hS : va_S (inM E) s.heap H locs) (ls : Array Slot) (hl : lv_has ls 9 [(0, .ref (eA E 27)), (3, .int x3), (4, .long x4), (6, .int x6), (7, .long x7)]) : W p l e (kR 3 80) s m args below meth c H locs 0 0 (MQ below (kQl (mP E) (inM E) r σr) args s 0 0 (inM E)) (F0 m 52 ls []) :=
  itr_ok (r := (r, σr)) (G := fun q => ∀ (H : Heap) (locs : List Loc), mP E q.1 H → va_S (inM E) s.heap H locs → ∀ (ls : Array Slot), lv_has ls 9 [(0, .ref (eA E 27)), (3, .int (q.2.1)), (4, .long (q.2.2.1)), (6, .int (q.2.2.2.1)), (7, .long (q.2.2.2.2))] → W p l e (kR 3 80) s m args below meth c H locs 0 0 (MQ below (kQl (mP E) (inM E) r σr) args s 0 0 (inM E)) (F0 m 52 ls [])) (fun rec52 hrec52 q h => w_X8_soon_52 C F rec35 hrec35 rec52 (fun σ x3 x4 x6 x7 => hrec52 (σ, x3, x4, x6, x7)) q.1 q.2.1 q.2.2.1 q.2.2.2.1 q.2.2.2.2 h) F (σ, x3, x4, x6, x7) h H locs hP hS ls hl
def s_X8_soon_35 (F : Nat) (rec35 : (kS × Int32 × Int64 × Int32 → Option (Int64 × kS))) (σ : kS) (x3 : Int32) (x4 : Int64) (x6 : Int32) : Option (Int64 × kS) :=
  (if (kI σ 4) ≤ x6 then (if 0 ≤ x3 then (if x3 < 0 ∨ 9 ≤ x3.toNatClampNeg then none else some ((kB σ 1 x3.toNatClampNeg), σ)) else some (x4, σ)) else (kn (x4 + (5000 : Int64)) (fun x7_4 => f_X8_soon_52 F rec35 (σ, x3, x4, x6, x7_4))))
set_option maxRecDepth 100000 in
set_option maxHeartbeats 4000000 in
theorem w_X8_soon_35 (C : Cx E p s m args meth c cX8_soon 9 RX8 (some .long)) (F : Nat) (rec35 : (kS × Int32 × Int64 × Int32 → Option (Int64 × kS))) (hrec35 : ∀ (σ : kS) (x3 : Int32) (x4 : Int64) (x6 : Int32), rec35 (σ, x3, x4, x6) = some (r, σr) → ∀ (H : Heap) (locs : List Loc), mP E σ H → va_S (inM E) s.heap H locs → ∀ (ls : Array Slot), lv_has ls 9 [(0, .ref (eA E 27)), (3, .int x3), (4, .long x4), (6, .int x6)] → W p l e (kR 3 80) s m args below meth c H locs 0 0 (MQ below (kQl (mP E) (inM E) r σr) args s 0 0 (inM E)) (F0 m 35 ls [])) (σ : kS) (x3 : Int32) (x4 : Int64) (x6 : Int32) (h : s_X8_soon_35 F rec35 σ x3 x4 x6 = some (r, σr)) (H : Heap) (locs : List Loc) (hP : mP E σ H) (hS : va_S (inM E) s.heap H locs) (ls : Array Slot) (hl : lv_has ls 9 [(0, .ref (eA E 27)), (3, .int x3), (4, .long x4), (6, .int x6)]) : W p l e (kR 3 80) s m args below meth c H locs 0 0 (MQ below (kQl (mP E) (inM E) r σr) args s 0 0 (inM E)) (F0 m 35 ls []) := by
  obtain ⟨-, hx, hb, hml, hown, hts, hK, -, -⟩ := id C
  unfold s_X8_soon_35 at h
  refine lv_iload hx hb dX8_soon_35 (lv_at hl 3 rfl) ?_
  refine lv_aload_n hx hb dX8_soon_37 rfl (lv_at hl 0 rfl) ?_
  refine gf_27_11 C hP (v := (kI σ 4)) rfl w_686 dX8_soon_38 ?_
  refine lv_icmp_ge (tgt := 129) hx hb dX8_soon_41 (by decide) (fun c_1 => ?_) (fun c_1 => ?_)
  · have h := k_t c_1 h
    refine lv_iload_n hx hb dX8_soon_129 rfl (lv_at hl 1 rfl) ?_
    refine lv_if_ge (tgt := 138) hx hb dX8_soon_130 (by decide) (fun c_2 => ?_) (fun c_2 => ?_)
    · have h := k_t c_2 h
      refine lv_aload_n hx hb dX8_soon_138 rfl (lv_at hl 0 rfl) ?_
      refine gf_27_13 C hP w_688 dX8_soon_139 ?_
      refine lv_iload_n hx hb dX8_soon_142 rfl (lv_at hl 1 rfl) ?_
      obtain ⟨n_3, h⟩ := k_no h
      refine al_36 C hP (v := (kB σ 1 x3.toNatClampNeg)) rfl n_3 dX8_soon_143 ?_
      obtain ⟨rfl, rfl⟩ := k_inj h
      exact krl C hS hP dX8_soon_144
    · have h := k_f c_2 h
      refine lv_lload hx hb dX8_soon_133 (lv_at hl 2 rfl) ?_
      refine lv_goto (tgt := 144) hx hb dX8_soon_135 (by decide) ?_
      obtain ⟨rfl, rfl⟩ := k_inj h
      exact krl C hS hP dX8_soon_144
  · have h := k_f c_1 h
    refine lv_lload hx hb dX8_soon_44 (lv_at hl 2 rfl) ?_
    refine lv_ldc2 (v := (5000 : Int64)) hx hb hown (hts _ w_840) dX8_soon_46 ?_
    refine lv_ladd hx hb dX8_soon_49 ?_
    refine lv_topl (fun x7_4 ex7_4 => ?_)
    have h := kn_to ex7_4 h
    refine lv_lstore (lv' := [(7, .long x7_4), (0, .ref (eA E 27)), (3, .int x3), (4, .long x4), (6, .int x6)]) hx hb dX8_soon_50 hl (by decide) rfl (fun ls hl => ?_)
    exact wf_X8_soon_52 C F rec35 hrec35 σ x3 x4 x6 x7_4 h H locs hP hS ls (lv_sub hl [1, 2, 3, 4, 0] rfl)
def f_X8_soon_35 (F : Nat) : kS × Int32 × Int64 × Int32 → Option (Int64 × kS) := itr (fun rec35 q => s_X8_soon_35 F rec35 q.1 q.2.1 q.2.2.1 q.2.2.2) F
theorem wf_X8_soon_35 (C : Cx E p s m args meth c cX8_soon 9 RX8 (some .long)) (F : Nat) (σ : kS) (x3 : Int32) (x4 : Int64) (x6 : Int32) (h : f_X8_soon_35 F (σ, x3, x4, x6) = some (r, σr)) (H : Heap) (locs : List Loc) (hP : mP E σ H) (hS : va_S (inM E) s.heap H locs) (ls : Array Slot) (hl : lv_has ls 9 [(0, .ref (eA E 27)), (3, .int x3), (4, .long x4), (6, .int x6)]) : W p l e (kR 3 80) s m args below meth c H locs 0 0 (MQ below (kQl (mP E) (inM E) r σr) args s 0 0 (inM E)) (F0 m 35 ls []) :=
  itr_ok (r := (r, σr)) (G := fun q => ∀ (H : Heap) (locs : List Loc), mP E q.1 H → va_S (inM E) s.heap H locs → ∀ (ls : Array Slot), lv_has ls 9 [(0, .ref (eA E 27)), (3, .int (q.2.1)), (4, .long (q.2.2.1)), (6, .int (q.2.2.2))] → W p l e (kR 3 80) s m args below meth c H locs 0 0 (MQ below (kQl (mP E) (inM E) r σr) args s 0 0 (inM E)) (F0 m 35 ls [])) (fun rec35 hrec35 q h => w_X8_soon_35 C F rec35 (fun σ x3 x4 x6 => hrec35 (σ, x3, x4, x6)) q.1 q.2.1 q.2.2.1 q.2.2.2 h) F (σ, x3, x4, x6) h H locs hP hS ls hl
def s_X8_soon_0 (F : Nat) (σ : kS) (x1 : Int64) (x3 : Int32) : Option (Int64 × kS) :=
  (kb (f_X8_isMinute F σ x1) fun v_1 σ_2 => (if v_1 = 0 then s_X8_soon_25 F σ_2 else (kb (f_X8_in F σ_2 x3.toInt64 (-1 : Int64) ((kI σ_2 4) - (1 : Int32)).toInt64) fun v_5 σ_6 => (if v_5 = 0 then s_X8_soon_25 F σ_6 else f_X8_soon_35 F (σ_6, x3, x1, (0 : Int32))))))
set_option maxRecDepth 100000 in
set_option maxHeartbeats 4000000 in
theorem w_X8_soon_0 (C : Cx E p s m args meth c cX8_soon 9 RX8 (some .long)) (F : Nat) (σ : kS) (x1 : Int64) (x3 : Int32) (h : s_X8_soon_0 F σ x1 x3 = some (r, σr)) (H : Heap) (locs : List Loc) (hP : mP E σ H) (hS : va_S (inM E) s.heap H locs) (ls : Array Slot) (hl : lv_has ls 9 [(0, .ref (eA E 27)), (1, .long x1), (3, .int x3)]) : W p l e (kR 3 80) s m args below meth c H locs 0 0 (MQ below (kQl (mP E) (inM E) r σr) args s 0 0 (inM E)) (F0 m 0 ls []) := by
  obtain ⟨-, hx, hb, hml, hown, hts, hK, -, -⟩ := id C
  unfold s_X8_soon_0 at h
  refine lv_lload_n hx hb dX8_soon_0 rfl (lv_at hl 1 rfl) ?_
  obtain ⟨v_1, σ_2, hc_3, h⟩ := kb_ok h
  refine kci (krunS (As := [.long x1]) C hP (c_X8_isMinute E C.1 F σ x1 hc_3) w_791 kt_X8_isMinute ⟨Nat.le_of_ble_eq_true rfl, Nat.le_of_ble_eq_true rfl⟩ rfl hl.1 rfl (Nat.le_of_ble_eq_true rfl) dX8_soon_1) hS (fun H locs hP hS => ?_)
  refine lv_if_eq (tgt := 25) hx hb dX8_soon_4 (by decide) (fun c_4 => ?_) (fun c_4 => ?_)
  · have h := k_t c_4 h
    exact w_X8_soon_25 C F σ_2 h H locs hP hS ls (lv_sub hl [] rfl)
  · have h := k_f c_4 h
    refine lv_iload_n hx hb dX8_soon_7 rfl (lv_at hl 2 rfl) ?_
    refine lv_i2l (v := x3.toInt64) hx hb dX8_soon_8 rfl ?_
    refine lv_ldc2 (v := (-1 : Int64)) hx hb hown (hts _ w_813) dX8_soon_9 ?_
    refine lv_aload_n hx hb dX8_soon_12 rfl (lv_at hl 0 rfl) ?_
    refine gf_27_11 C hP (v := (kI σ_2 4)) rfl w_686 dX8_soon_13 ?_
    refine lv_iconst (v := (1 : Int32)) hx hb dX8_soon_16 (by decide) ?_
    refine lv_isub hx hb dX8_soon_17 ?_
    refine lv_i2l (v := ((kI σ_2 4) - (1 : Int32)).toInt64) hx hb dX8_soon_18 rfl ?_
    obtain ⟨v_5, σ_6, hc_7, h⟩ := kb_ok h
    refine kci (krunS (As := [.long x3.toInt64, .long (-1 : Int64), .long ((kI σ_2 4) - (1 : Int32)).toInt64]) C hP (c_X8_in E C.1 F σ_2 x3.toInt64 (-1 : Int64) ((kI σ_2 4) - (1 : Int32)).toInt64 hc_7) w_735 kt_X8_in ⟨Nat.le_of_ble_eq_true rfl, Nat.le_of_ble_eq_true rfl⟩ rfl hl.1 rfl (Nat.le_of_ble_eq_true rfl) dX8_soon_19) hS (fun H locs hP hS => ?_)
    refine lv_if_ne (tgt := 29) hx hb dX8_soon_22 (by decide) (fun c_8 => ?_) (fun c_8 => ?_)
    · have h := k_f c_8 h
      refine lv_lload_n hx hb dX8_soon_29 rfl (lv_at hl 1 rfl) ?_
      refine lv_lstore (lv' := [(4, .long x1), (0, .ref (eA E 27)), (1, .long x1), (3, .int x3)]) hx hb dX8_soon_30 hl (by decide) rfl (fun ls hl => ?_)
      refine lv_iconst (v := (0 : Int32)) hx hb dX8_soon_32 (by decide) ?_
      refine lv_istore (lv' := [(6, .int (0 : Int32)), (4, .long x1), (0, .ref (eA E 27)), (1, .long x1), (3, .int x3)]) hx hb dX8_soon_33 hl (by decide) rfl (fun ls hl => ?_)
      exact wf_X8_soon_35 C F σ_6 x3 x1 (0 : Int32) h H locs hP hS ls (lv_sub hl [2, 4, 1, 0] rfl)
    · have h := k_t c_8 h
      exact w_X8_soon_25 C F σ_6 h H locs hP hS ls (lv_sub hl [] rfl)
def f_X8_soon (F : Nat) (σ : kS) (x1 : Int64) (x3 : Int32) : Option (Int64 × kS) := s_X8_soon_0 F σ x1 x3
set_option maxRecDepth 100000 in
theorem c_X8_soon (E : kE) (hE : kap E) (F : Nat) (σ : kS) (x1 : Int64) (x3 : Int32) (h : f_X8_soon F σ x1 x3 = some (r, σr)) : Met l yX8_soon (kWs yX8_soon cX8_soon 9 (some .long)) (kR 3 80) (kPre (mP E) E [.ref (eA E 27), .long x1, .int x3] σ) (kQl (mP E) (inM E) r σr) 0 0 (inM E) :=
  kst hE (by decide +kernel) (Nat.le_of_ble_eq_true rfl) (fun p e s m below meth c ls C hP hl => w_X8_soon_0 C F σ x1 x3 h s.heap [] hP va_S.rf ls hl)
end

section
variable {p : Program} {l : Launch} {e : Env} {s : State} {m : MethodId} {args : Array Value} {below : List Frame} {meth : Method} {c : Code} {E : kE} {σr : kS}
variable {r : Unit}
def s_X8_known_51 (F : Nat) (σ : kS) (x1 : Int32) (x2 : Int32) (x3 : Int32) : Option (Unit × kS) :=
  (if ((3 : Int32) * (kI σ 3)) < 0 ∨ 24 ≤ ((3 : Int32) * (kI σ 3)).toNatClampNeg then none else (if (((3 : Int32) * (kI σ 3)) + (1 : Int32)) < 0 ∨ 24 ≤ (((3 : Int32) * (kI σ 3)) + (1 : Int32)).toNatClampNeg then none else (if (((3 : Int32) * (kI σ 3)) + (2 : Int32)) < 0 ∨ 24 ≤ (((3 : Int32) * (kI σ 3)) + (2 : Int32)).toNatClampNeg then none else some ((), (jI (jA (jA (jA σ 5 ((3 : Int32) * (kI σ 3)).toNatClampNeg x1) 5 (((3 : Int32) * (kI σ 3)) + (1 : Int32)).toNatClampNeg x2) 5 (((3 : Int32) * (kI σ 3)) + (2 : Int32)).toNatClampNeg x3) 3 ((kI σ 3) + (1 : Int32)))))))
set_option maxRecDepth 100000 in
set_option maxHeartbeats 4000000 in
theorem w_X8_known_51 (C : Cx E p s m args meth c cX8_known 5 RX8 none) (F : Nat) (σ : kS) (x1 : Int32) (x2 : Int32) (x3 : Int32) (h : s_X8_known_51 F σ x1 x2 x3 = some (r, σr)) (H : Heap) (locs : List Loc) (hP : mP E σ H) (hS : va_S (inM E) s.heap H locs) (ls : Array Slot) (hl : lv_has ls 5 [(0, .ref (eA E 27)), (1, .int x1), (2, .int x2), (3, .int x3)]) : W p l e (kR 0 0) s m args below meth c H locs 0 0 (MQ below (kQv (mP E) (inM E) r σr) args s 0 0 (inM E)) (F0 m 51 ls []) := by
  obtain ⟨-, hx, hb, hml, hown, hts, hK, -, -⟩ := id C
  unfold s_X8_known_51 at h
  refine lv_aload_n hx hb dX8_known_51 rfl (lv_at hl 0 rfl) ?_
  refine gf_27_10 C hP w_685 dX8_known_52 ?_
  refine lv_iconst (v := (3 : Int32)) hx hb dX8_known_55 (by decide) ?_
  refine lv_aload_n hx hb dX8_known_56 rfl (lv_at hl 0 rfl) ?_
  refine gf_27_9 C hP (v := (kI σ 3)) rfl w_684 dX8_known_57 ?_
  refine lv_imul hx hb dX8_known_60 ?_
  refine lv_iload_n hx hb dX8_known_61 rfl (lv_at hl 1 rfl) ?_
  obtain ⟨n_1, h⟩ := k_no h
  refine as_34 C hP hS (σ2 := (jA σ 5 ((3 : Int32) * (kI σ 3)).toNatClampNeg x1)) rfl n_1 dX8_known_62 (fun H locs hP hS => ?_)
  refine lv_aload_n hx hb dX8_known_63 rfl (lv_at hl 0 rfl) ?_
  refine gf_27_10 C hP w_685 dX8_known_64 ?_
  refine lv_iconst (v := (3 : Int32)) hx hb dX8_known_67 (by decide) ?_
  refine lv_aload_n hx hb dX8_known_68 rfl (lv_at hl 0 rfl) ?_
  refine gf_27_9 C hP (v := (kI σ 3)) rfl w_684 dX8_known_69 ?_
  refine lv_imul hx hb dX8_known_72 ?_
  refine lv_iconst (v := (1 : Int32)) hx hb dX8_known_73 (by decide) ?_
  refine lv_iadd hx hb dX8_known_74 ?_
  refine lv_iload_n hx hb dX8_known_75 rfl (lv_at hl 2 rfl) ?_
  obtain ⟨n_2, h⟩ := k_no h
  refine as_34 C hP hS (σ2 := (jA (jA σ 5 ((3 : Int32) * (kI σ 3)).toNatClampNeg x1) 5 (((3 : Int32) * (kI σ 3)) + (1 : Int32)).toNatClampNeg x2)) rfl n_2 dX8_known_76 (fun H locs hP hS => ?_)
  refine lv_aload_n hx hb dX8_known_77 rfl (lv_at hl 0 rfl) ?_
  refine gf_27_10 C hP w_685 dX8_known_78 ?_
  refine lv_iconst (v := (3 : Int32)) hx hb dX8_known_81 (by decide) ?_
  refine lv_aload_n hx hb dX8_known_82 rfl (lv_at hl 0 rfl) ?_
  refine gf_27_9 C hP (v := (kI σ 3)) rfl w_684 dX8_known_83 ?_
  refine lv_imul hx hb dX8_known_86 ?_
  refine lv_iconst (v := (2 : Int32)) hx hb dX8_known_87 (by decide) ?_
  refine lv_iadd hx hb dX8_known_88 ?_
  refine lv_iload_n hx hb dX8_known_89 rfl (lv_at hl 3 rfl) ?_
  obtain ⟨n_3, h⟩ := k_no h
  refine as_34 C hP hS (σ2 := (jA (jA (jA σ 5 ((3 : Int32) * (kI σ 3)).toNatClampNeg x1) 5 (((3 : Int32) * (kI σ 3)) + (1 : Int32)).toNatClampNeg x2) 5 (((3 : Int32) * (kI σ 3)) + (2 : Int32)).toNatClampNeg x3)) rfl n_3 dX8_known_90 (fun H locs hP hS => ?_)
  refine lv_aload_n hx hb dX8_known_91 rfl (lv_at hl 0 rfl) ?_
  refine lv_dup hx hb dX8_known_92 rfl ?_
  refine gf_27_9 C hP (v := (kI σ 3)) rfl w_684 dX8_known_93 ?_
  refine lv_iconst (v := (1 : Int32)) hx hb dX8_known_96 (by decide) ?_
  refine lv_iadd hx hb dX8_known_97 ?_
  refine pf_27_9 C hP hS w_684 dX8_known_98 (fun H locs hP hS => ?_)
  obtain ⟨rfl, rfl⟩ := k_inj h
  exact krv C hS hP dX8_known_101
def s_X8_known_12 (F : Nat) (rec12 : (kS × Int32 × Int32 × Int32 × Int32 → Option (Unit × kS))) (σ : kS) (x1 : Int32) (x2 : Int32) (x3 : Int32) (x4 : Int32) : Option (Unit × kS) :=
  (if (21 : Int32) ≤ x4 then s_X8_known_51 F (jI σ 3 ((kI σ 3) - (1 : Int32))) x1 x2 x3 else (if (x4 + (3 : Int32)) < 0 ∨ 24 ≤ (x4 + (3 : Int32)).toNatClampNeg then none else (if x4 < 0 ∨ 24 ≤ x4.toNatClampNeg then none else rec12 ((jA σ 5 x4.toNatClampNeg (kA σ 5 (x4 + (3 : Int32)).toNatClampNeg)), x1, x2, x3, (x4 + (1 : Int32))))))
set_option maxRecDepth 100000 in
set_option maxHeartbeats 4000000 in
theorem w_X8_known_12 (C : Cx E p s m args meth c cX8_known 5 RX8 none) (F : Nat) (rec12 : (kS × Int32 × Int32 × Int32 × Int32 → Option (Unit × kS))) (hrec12 : ∀ (σ : kS) (x1 : Int32) (x2 : Int32) (x3 : Int32) (x4 : Int32), rec12 (σ, x1, x2, x3, x4) = some (r, σr) → ∀ (H : Heap) (locs : List Loc), mP E σ H → va_S (inM E) s.heap H locs → ∀ (ls : Array Slot), lv_has ls 5 [(0, .ref (eA E 27)), (1, .int x1), (2, .int x2), (3, .int x3), (4, .int x4)] → W p l e (kR 0 0) s m args below meth c H locs 0 0 (MQ below (kQv (mP E) (inM E) r σr) args s 0 0 (inM E)) (F0 m 12 ls [])) (σ : kS) (x1 : Int32) (x2 : Int32) (x3 : Int32) (x4 : Int32) (h : s_X8_known_12 F rec12 σ x1 x2 x3 x4 = some (r, σr)) (H : Heap) (locs : List Loc) (hP : mP E σ H) (hS : va_S (inM E) s.heap H locs) (ls : Array Slot) (hl : lv_has ls 5 [(0, .ref (eA E 27)), (1, .int x1), (2, .int x2), (3, .int x3), (4, .int x4)]) : W p l e (kR 0 0) s m args below meth c H locs 0 0 (MQ below (kQv (mP E) (inM E) r σr) args s 0 0 (inM E)) (F0 m 12 ls []) := by
  obtain ⟨-, hx, hb, hml, hown, hts, hK, -, -⟩ := id C
  unfold s_X8_known_12 at h
  refine lv_iload hx hb dX8_known_12 (lv_at hl 4 rfl) ?_
  refine lv_bipush (v := (21 : Int32)) hx hb dX8_known_14 (by decide) ?_
  refine lv_icmp_ge (tgt := 41) hx hb dX8_known_16 (by decide) (fun c_1 => ?_) (fun c_1 => ?_)
  · have h := k_t c_1 h
    refine lv_aload_n hx hb dX8_known_41 rfl (lv_at hl 0 rfl) ?_
    refine lv_dup hx hb dX8_known_42 rfl ?_
    refine gf_27_9 C hP (v := (kI σ 3)) rfl w_684 dX8_known_43 ?_
    refine lv_iconst (v := (1 : Int32)) hx hb dX8_known_46 (by decide) ?_
    refine lv_isub hx hb dX8_known_47 ?_
    refine pf_27_9 C hP hS w_684 dX8_known_48 (fun H locs hP hS => ?_)
    exact w_X8_known_51 C F (jI σ 3 ((kI σ 3) - (1 : Int32))) x1 x2 x3 h H locs hP hS ls (lv_sub hl [0, 1, 2, 3] rfl)
  · have h := k_f c_1 h
    refine lv_aload_n hx hb dX8_known_19 rfl (lv_at hl 0 rfl) ?_
    refine gf_27_10 C hP w_685 dX8_known_20 ?_
    refine lv_iload hx hb dX8_known_23 (lv_at hl 4 rfl) ?_
    refine lv_aload_n hx hb dX8_known_25 rfl (lv_at hl 0 rfl) ?_
    refine gf_27_10 C hP w_685 dX8_known_26 ?_
    refine lv_iload hx hb dX8_known_29 (lv_at hl 4 rfl) ?_
    refine lv_iconst (v := (3 : Int32)) hx hb dX8_known_31 (by decide) ?_
    refine lv_iadd hx hb dX8_known_32 ?_
    obtain ⟨n_2, h⟩ := k_no h
    refine al_34 C hP (v := (kA σ 5 (x4 + (3 : Int32)).toNatClampNeg)) rfl n_2 dX8_known_33 ?_
    obtain ⟨n_3, h⟩ := k_no h
    refine as_34 C hP hS (σ2 := (jA σ 5 x4.toNatClampNeg (kA σ 5 (x4 + (3 : Int32)).toNatClampNeg))) rfl n_3 dX8_known_34 (fun H locs hP hS => ?_)
    refine lv_iinc (v := (x4 + (1 : Int32))) (lv' := [(4, .int (x4 + (1 : Int32))), (0, .ref (eA E 27)), (1, .int x1), (2, .int x2), (3, .int x3)]) hx hb dX8_known_35 hl (k := 4) rfl rfl (by decide) rfl (fun ls hl => ?_)
    refine lv_goto (tgt := 12) hx hb dX8_known_38 (by decide) ?_
    exact hrec12 (jA σ 5 x4.toNatClampNeg (kA σ 5 (x4 + (3 : Int32)).toNatClampNeg)) x1 x2 x3 (x4 + (1 : Int32)) h H locs hP hS ls (lv_sub hl [1, 2, 3, 4, 0] rfl)
def f_X8_known_12 (F : Nat) : kS × Int32 × Int32 × Int32 × Int32 → Option (Unit × kS) := itr (fun rec12 q => s_X8_known_12 F rec12 q.1 q.2.1 q.2.2.1 q.2.2.2.1 q.2.2.2.2) F
theorem wf_X8_known_12 (C : Cx E p s m args meth c cX8_known 5 RX8 none) (F : Nat) (σ : kS) (x1 : Int32) (x2 : Int32) (x3 : Int32) (x4 : Int32) (h : f_X8_known_12 F (σ, x1, x2, x3, x4) = some (r, σr)) (H : Heap) (locs : List Loc) (hP : mP E σ H) (hS : va_S (inM E) s.heap H locs) (ls : Array Slot) (hl : lv_has ls 5 [(0, .ref (eA E 27)), (1, .int x1), (2, .int x2), (3, .int x3), (4, .int x4)]) : W p l e (kR 0 0) s m args below meth c H locs 0 0 (MQ below (kQv (mP E) (inM E) r σr) args s 0 0 (inM E)) (F0 m 12 ls []) :=
  itr_ok (r := (r, σr)) (G := fun q => ∀ (H : Heap) (locs : List Loc), mP E q.1 H → va_S (inM E) s.heap H locs → ∀ (ls : Array Slot), lv_has ls 5 [(0, .ref (eA E 27)), (1, .int (q.2.1)), (2, .int (q.2.2.1)), (3, .int (q.2.2.2.1)), (4, .int (q.2.2.2.2))] → W p l e (kR 0 0) s m args below meth c H locs 0 0 (MQ below (kQv (mP E) (inM E) r σr) args s 0 0 (inM E)) (F0 m 12 ls [])) (fun rec12 hrec12 q h => w_X8_known_12 C F rec12 (fun σ x1 x2 x3 x4 => hrec12 (σ, x1, x2, x3, x4)) q.1 q.2.1 q.2.2.1 q.2.2.2.1 q.2.2.2.2 h) F (σ, x1, x2, x3, x4) h H locs hP hS ls hl
def s_X8_known_0 (F : Nat) (σ : kS) (x1 : Int32) (x2 : Int32) (x3 : Int32) : Option (Unit × kS) :=
  (if (kI σ 3) = (8 : Int32) then f_X8_known_12 F (σ, x1, x2, x3, (0 : Int32)) else s_X8_known_51 F σ x1 x2 x3)
set_option maxRecDepth 100000 in
set_option maxHeartbeats 4000000 in
theorem w_X8_known_0 (C : Cx E p s m args meth c cX8_known 5 RX8 none) (F : Nat) (σ : kS) (x1 : Int32) (x2 : Int32) (x3 : Int32) (h : s_X8_known_0 F σ x1 x2 x3 = some (r, σr)) (H : Heap) (locs : List Loc) (hP : mP E σ H) (hS : va_S (inM E) s.heap H locs) (ls : Array Slot) (hl : lv_has ls 5 [(0, .ref (eA E 27)), (1, .int x1), (2, .int x2), (3, .int x3)]) : W p l e (kR 0 0) s m args below meth c H locs 0 0 (MQ below (kQv (mP E) (inM E) r σr) args s 0 0 (inM E)) (F0 m 0 ls []) := by
  obtain ⟨-, hx, hb, hml, hown, hts, hK, -, -⟩ := id C
  unfold s_X8_known_0 at h
  refine lv_aload_n hx hb dX8_known_0 rfl (lv_at hl 0 rfl) ?_
  refine gf_27_9 C hP (v := (kI σ 3)) rfl w_684 dX8_known_1 ?_
  refine lv_bipush (v := (8 : Int32)) hx hb dX8_known_4 (by decide) ?_
  refine lv_icmp_ne (tgt := 51) hx hb dX8_known_6 (by decide) (fun c_1 => ?_) (fun c_1 => ?_)
  · have h := k_f c_1 h
    exact w_X8_known_51 C F σ x1 x2 x3 h H locs hP hS ls hl
  · have h := k_t c_1 h
    refine lv_iconst (v := (0 : Int32)) hx hb dX8_known_9 (by decide) ?_
    refine lv_istore (lv' := [(4, .int (0 : Int32)), (0, .ref (eA E 27)), (1, .int x1), (2, .int x2), (3, .int x3)]) hx hb dX8_known_10 hl (by decide) rfl (fun ls hl => ?_)
    exact wf_X8_known_12 C F σ x1 x2 x3 (0 : Int32) h H locs hP hS ls (lv_sub hl [1, 2, 3, 4, 0] rfl)
def f_X8_known (F : Nat) (σ : kS) (x1 : Int32) (x2 : Int32) (x3 : Int32) : Option (Unit × kS) := s_X8_known_0 F σ x1 x2 x3
set_option maxRecDepth 100000 in
theorem c_X8_known (E : kE) (hE : kap E) (F : Nat) (σ : kS) (x1 : Int32) (x2 : Int32) (x3 : Int32) (h : f_X8_known F σ x1 x2 x3 = some (r, σr)) : Met l yX8_known (kWs yX8_known cX8_known 5 none) (kR 0 0) (kPre (mP E) E [.ref (eA E 27), .int x1, .int x2, .int x3] σ) (kQv (mP E) (inM E) r σr) 0 0 (inM E) :=
  kst hE (by decide +kernel) (Nat.le_of_ble_eq_true rfl) (fun p e s m below meth c ls C hP hl => w_X8_known_0 C F σ x1 x2 x3 h s.heap [] hP va_S.rf ls hl)
end

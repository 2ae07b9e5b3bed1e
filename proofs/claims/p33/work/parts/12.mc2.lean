section
variable {p : Program} {l : Launch} {e : Env} {s : State} {m : MethodId} {args : Array Value} {below : List Frame} {meth : Method} {c : Code} {E : kE} {σr : kS}
variable {r : Int32}
def s_X1_stretchFrom_55 (F : Nat) (σ : kS) (x3 : Int64) (y0 : Int64) : Option (Int32 × kS) :=
  (kb (f_X2_partsOfMinute F σ) fun v_1 σ_2 => (if v_1.toInt64 = 0 then none else some ((if ((y0 - x3) / v_1.toInt64) < (1 : Int64) then (1 : Int64) else ((y0 - x3) / v_1.toInt64)).toInt32, σ_2)))
set_option maxRecDepth 100000 in
set_option maxHeartbeats 4000000 in
theorem w_X1_stretchFrom_55 (C : Cx E p s m args meth c cX1_stretchFrom 8 RX1 (some .int)) (F : Nat) (σ : kS) (x3 : Int64) (y0 : Int64) (h : s_X1_stretchFrom_55 F σ x3 y0 = some (r, σr)) (H : Heap) (locs : List Loc) (hP : cP E σ H) (hS : va_S (inC E) s.heap H locs) (ls : Array Slot) (hl : lv_has ls 8 [(0, .ref (eA E 9)), (3, .long x3)]) : W p l e (kR 3 69) s m args below meth c H locs 0 0 (MQ below (kQi (cP E) (inC E) r σr) args s 0 0 (inC E)) (F0 m 55 ls [.long y0]) := by
  obtain ⟨-, hx, hb, hml, hown, hts, hK, -, -⟩ := id C
  unfold s_X1_stretchFrom_55 at h
  refine lv_lstore (lv' := [(6, .long y0), (0, .ref (eA E 9)), (3, .long x3)]) hx hb dX1_stretchFrom_55 hl (by decide) rfl (fun ls hl => ?_)
  refine lv_lconst (v := (1 : Int64)) hx hb dX1_stretchFrom_57 (by decide) ?_
  refine lv_lload hx hb dX1_stretchFrom_58 (lv_at hl 0 rfl) ?_
  refine lv_lload_n hx hb dX1_stretchFrom_60 rfl (lv_at hl 2 rfl) ?_
  refine lv_lsub hx hb dX1_stretchFrom_61 ?_
  refine lv_aload_n hx hb dX1_stretchFrom_62 rfl (lv_at hl 1 rfl) ?_
  refine gf_9_0 C hP w_154 dX1_stretchFrom_63 ?_
  obtain ⟨v_1, σ_2, hc_3, h⟩ := kb_ok h
  refine kci (krunV (As := []) C hP (c_X2_partsOfMinute E C.1 F σ hc_3) w_405 kv_X2_partsOfMinute ⟨Nat.le_of_ble_eq_true rfl, Nat.le_of_ble_eq_true rfl⟩ (rc_6 C hP) rfl hl.1 rfl (Nat.le_of_ble_eq_true rfl) dX1_stretchFrom_66) hS (fun H locs hP hS => ?_)
  refine lv_i2l (v := v_1.toInt64) hx hb dX1_stretchFrom_69 rfl ?_
  obtain ⟨n_4, h⟩ := k_no h
  refine lv_ldiv hx hb dX1_stretchFrom_70 n_4 ?_
  refine kmaxl C hl.1 w_435 (Nat.le_of_ble_eq_true rfl) (Nat.le_of_ble_eq_true rfl) dX1_stretchFrom_71 ?_
  refine lv_l2i (v := (if ((y0 - x3) / v_1.toInt64) < (1 : Int64) then (1 : Int64) else ((y0 - x3) / v_1.toInt64)).toInt32) hx hb dX1_stretchFrom_74 rfl ?_
  obtain ⟨rfl, rfl⟩ := k_inj h
  exact kri C hS hP dX1_stretchFrom_75
def s_X1_stretchFrom_0 (F : Nat) (σ : kS) (x1 : Int64) : Option (Int32 × kS) :=
  (kb (f_X2_partsBehindBegin F σ x1 (kI σ 15)) fun v_1 σ_2 => (kb (f_X1_rulerAtParts F σ_2 v_1) fun v_4 σ_5 => (if v_4 = (2 : Int32) then some ((1 : Int32), σ_5) else (if v_4 = 0 then (kb (f_X2_partsOfHigh F σ_5) fun v_12 σ_13 => s_X1_stretchFrom_55 F σ_13 v_1 v_12.toInt64) else (kb (f_X2_partsOfTide F σ_5) fun v_9 σ_10 => s_X1_stretchFrom_55 F σ_10 v_1 v_9.toInt64)))))
set_option maxRecDepth 100000 in
set_option maxHeartbeats 4000000 in
theorem w_X1_stretchFrom_0 (C : Cx E p s m args meth c cX1_stretchFrom 8 RX1 (some .int)) (F : Nat) (σ : kS) (x1 : Int64) (h : s_X1_stretchFrom_0 F σ x1 = some (r, σr)) (H : Heap) (locs : List Loc) (hP : cP E σ H) (hS : va_S (inC E) s.heap H locs) (ls : Array Slot) (hl : lv_has ls 8 [(0, .ref (eA E 9)), (1, .long x1)]) : W p l e (kR 3 69) s m args below meth c H locs 0 0 (MQ below (kQi (cP E) (inC E) r σr) args s 0 0 (inC E)) (F0 m 0 ls []) := by
  obtain ⟨-, hx, hb, hml, hown, hts, hK, -, -⟩ := id C
  unfold s_X1_stretchFrom_0 at h
  refine lv_aload_n hx hb dX1_stretchFrom_0 rfl (lv_at hl 0 rfl) ?_
  refine gf_9_0 C hP w_154 dX1_stretchFrom_1 ?_
  refine lv_lload_n hx hb dX1_stretchFrom_4 rfl (lv_at hl 1 rfl) ?_
  refine lv_aload_n hx hb dX1_stretchFrom_5 rfl (lv_at hl 0 rfl) ?_
  refine gf_9_1 C hP w_155 dX1_stretchFrom_6 ?_
  refine gf_8_1 C hP (v := (kI σ 15)) rfl w_123 dX1_stretchFrom_9 ?_
  obtain ⟨v_1, σ_2, hc_3, h⟩ := kb_ok h
  refine kcl (krunV (As := [.long x1, .int (kI σ 15)]) C hP (c_X2_partsBehindBegin E C.1 F σ x1 (kI σ 15) hc_3) w_385 kv_X2_partsBehindBegin ⟨Nat.le_of_ble_eq_true rfl, Nat.le_of_ble_eq_true rfl⟩ (rc_6 C hP) rfl hl.1 rfl (Nat.le_of_ble_eq_true rfl) dX1_stretchFrom_12) hS (fun H locs hP hS => ?_)
  refine lv_lstore_n (lv' := [(3, .long v_1), (0, .ref (eA E 9)), (1, .long x1)]) hx hb dX1_stretchFrom_15 rfl hl (by decide) rfl (fun ls hl => ?_)
  refine lv_aload_n hx hb dX1_stretchFrom_16 rfl (lv_at hl 1 rfl) ?_
  refine lv_lload_n hx hb dX1_stretchFrom_17 rfl (lv_at hl 0 rfl) ?_
  obtain ⟨v_4, σ_5, hc_6, h⟩ := kb_ok h
  refine kci (krunV (As := [.long v_1]) C hP (c_X1_rulerAtParts E C.1 F σ_2 v_1 hc_6) w_401 kv_X1_rulerAtParts ⟨Nat.le_of_ble_eq_true rfl, Nat.le_of_ble_eq_true rfl⟩ (rc_9 C hP) rfl hl.1 rfl (Nat.le_of_ble_eq_true rfl) dX1_stretchFrom_18) hS (fun H locs hP hS => ?_)
  refine lv_istore (lv' := [(5, .int v_4), (3, .long v_1), (0, .ref (eA E 9)), (1, .long x1)]) hx hb dX1_stretchFrom_21 hl (by decide) rfl (fun ls hl => ?_)
  refine lv_iload hx hb dX1_stretchFrom_23 (lv_at hl 0 rfl) ?_
  refine lv_iconst (v := (2 : Int32)) hx hb dX1_stretchFrom_25 (by decide) ?_
  refine lv_icmp_ne (tgt := 31) hx hb dX1_stretchFrom_26 (by decide) (fun c_7 => ?_) (fun c_7 => ?_)
  · have h := k_f c_7 h
    refine lv_iload hx hb dX1_stretchFrom_31 (lv_at hl 0 rfl) ?_
    refine lv_if_ne (tgt := 47) hx hb dX1_stretchFrom_33 (by decide) (fun c_8 => ?_) (fun c_8 => ?_)
    · have h := k_f c_8 h
      refine lv_aload_n hx hb dX1_stretchFrom_47 rfl (lv_at hl 2 rfl) ?_
      refine gf_9_0 C hP w_154 dX1_stretchFrom_48 ?_
      obtain ⟨v_9, σ_10, hc_11, h⟩ := kb_ok h
      refine kci (krunV (As := []) C hP (c_X2_partsOfTide E C.1 F σ_5 hc_11) w_410 kv_X2_partsOfTide ⟨Nat.le_of_ble_eq_true rfl, Nat.le_of_ble_eq_true rfl⟩ (rc_6 C hP) rfl hl.1 rfl (Nat.le_of_ble_eq_true rfl) dX1_stretchFrom_51) hS (fun H locs hP hS => ?_)
      refine lv_i2l (v := v_9.toInt64) hx hb dX1_stretchFrom_54 rfl ?_
      exact w_X1_stretchFrom_55 C F σ_10 v_1 v_9.toInt64 h H locs hP hS ls (lv_sub hl [2, 1] rfl)
    · have h := k_t c_8 h
      refine lv_aload_n hx hb dX1_stretchFrom_36 rfl (lv_at hl 2 rfl) ?_
      refine gf_9_0 C hP w_154 dX1_stretchFrom_37 ?_
      obtain ⟨v_12, σ_13, hc_14, h⟩ := kb_ok h
      refine kci (krunV (As := []) C hP (c_X2_partsOfHigh E C.1 F σ_5 hc_14) w_406 kv_X2_partsOfHigh ⟨Nat.le_of_ble_eq_true rfl, Nat.le_of_ble_eq_true rfl⟩ (rc_6 C hP) rfl hl.1 rfl (Nat.le_of_ble_eq_true rfl) dX1_stretchFrom_40) hS (fun H locs hP hS => ?_)
      refine lv_i2l (v := v_12.toInt64) hx hb dX1_stretchFrom_43 rfl ?_
      refine lv_goto (tgt := 55) hx hb dX1_stretchFrom_44 (by decide) ?_
      exact w_X1_stretchFrom_55 C F σ_13 v_1 v_12.toInt64 h H locs hP hS ls (lv_sub hl [2, 1] rfl)
  · have h := k_t c_7 h
    refine lv_iconst (v := (1 : Int32)) hx hb dX1_stretchFrom_29 (by decide) ?_
    obtain ⟨rfl, rfl⟩ := k_inj h
    exact kri C hS hP dX1_stretchFrom_30
def f_X1_stretchFrom (F : Nat) (σ : kS) (x1 : Int64) : Option (Int32 × kS) := s_X1_stretchFrom_0 F σ x1
set_option maxRecDepth 100000 in
theorem c_X1_stretchFrom (E : kE) (hE : kap E) (F : Nat) (σ : kS) (x1 : Int64) (h : f_X1_stretchFrom F σ x1 = some (r, σr)) : Met l yX1_stretchFrom (kWs yX1_stretchFrom cX1_stretchFrom 8 (some .int)) (kR 3 69) (kPre (cP E) E [.ref (eA E 9), .long x1] σ) (kQi (cP E) (inC E) r σr) 0 0 (inC E) :=
  kst hE (by decide +kernel) (Nat.le_of_ble_eq_true rfl) (fun p e s m below meth c ls C hP hl => w_X1_stretchFrom_0 C F σ x1 h s.heap [] hP va_S.rf ls hl)
end

section
variable {p : Program} {l : Launch} {e : Env} {s : State} {m : MethodId} {args : Array Value} {below : List Frame} {meth : Method} {c : Code} {E : kE} {σr : kS}
variable {r : Int32}
def s_X1_minutesWithinRound_55 (F : Nat) (rec9 : (kS × Int32 × Int64 × Int32 × Int32 × Int32 → Option (Int32 × kS))) (σ : kS) (x1 : Int32) (x2 : Int64) (x4 : Int32) (x5 : Int32) (x6 : Int32) (x7 : Int32) : Option (Int32 × kS) :=
  (kn (x7 + (if (1 : Int32) < x6 then x6 else (1 : Int32))) (fun x7_1 => rec9 (σ, x1, x2, x4, x5, x7_1)))
set_option maxRecDepth 100000 in
set_option maxHeartbeats 4000000 in
theorem w_X1_minutesWithinRound_55 (C : Cx E p s m args meth c cX1_minutesWithinRound 8 RX1 (some .int)) (F : Nat) (rec9 : (kS × Int32 × Int64 × Int32 × Int32 × Int32 → Option (Int32 × kS))) (hrec9 : ∀ (σ : kS) (x1 : Int32) (x2 : Int64) (x4 : Int32) (x5 : Int32) (x7 : Int32), rec9 (σ, x1, x2, x4, x5, x7) = some (r, σr) → ∀ (H : Heap) (locs : List Loc), cP E σ H → va_S (inC E) s.heap H locs → ∀ (ls : Array Slot), lv_has ls 8 [(0, .ref (eA E 9)), (1, .int x1), (2, .long x2), (4, .int x4), (5, .int x5), (7, .int x7)] → W p l e (kR 4 96) s m args below meth c H locs 0 0 (MQ below (kQi (cP E) (inC E) r σr) args s 0 0 (inC E)) (F0 m 9 ls [])) (σ : kS) (x1 : Int32) (x2 : Int64) (x4 : Int32) (x5 : Int32) (x6 : Int32) (x7 : Int32) (h : s_X1_minutesWithinRound_55 F rec9 σ x1 x2 x4 x5 x6 x7 = some (r, σr)) (H : Heap) (locs : List Loc) (hP : cP E σ H) (hS : va_S (inC E) s.heap H locs) (ls : Array Slot) (hl : lv_has ls 8 [(0, .ref (eA E 9)), (1, .int x1), (2, .long x2), (4, .int x4), (5, .int x5), (6, .int x6), (7, .int x7)]) : W p l e (kR 4 96) s m args below meth c H locs 0 0 (MQ below (kQi (cP E) (inC E) r σr) args s 0 0 (inC E)) (F0 m 55 ls []) := by
  obtain ⟨-, hx, hb, hml, hown, hts, hK, -, -⟩ := id C
  unfold s_X1_minutesWithinRound_55 at h
  refine lv_iload hx hb dX1_minutesWithinRound_55 (lv_at hl 6 rfl) ?_
  refine lv_iconst (v := (1 : Int32)) hx hb dX1_minutesWithinRound_57 (by decide) ?_
  refine lv_iload hx hb dX1_minutesWithinRound_58 (lv_at hl 5 rfl) ?_
  refine kmax C hl.1 w_442 (Nat.le_of_ble_eq_true rfl) (Nat.le_of_ble_eq_true rfl) dX1_minutesWithinRound_60 ?_
  refine lv_iadd hx hb dX1_minutesWithinRound_63 ?_
  refine lv_topi (fun x7_1 ex7_1 => ?_)
  have h := kn_to ex7_1 h
  refine lv_istore (lv' := [(7, .int x7_1), (0, .ref (eA E 9)), (1, .int x1), (2, .long x2), (4, .int x4), (5, .int x5), (6, .int x6)]) hx hb dX1_minutesWithinRound_64 hl (by decide) rfl (fun ls hl => ?_)
  refine lv_goto (tgt := 9) hx hb dX1_minutesWithinRound_66 (by decide) ?_
  exact hrec9 σ x1 x2 x4 x5 x7_1 h H locs hP hS ls (lv_sub hl [1, 2, 3, 4, 5, 0] rfl)
def s_X1_minutesWithinRound_9 (F : Nat) (rec9 : (kS × Int32 × Int64 × Int32 × Int32 × Int32 → Option (Int32 × kS))) (σ : kS) (x1 : Int32) (x2 : Int64) (x4 : Int32) (x5 : Int32) (x7 : Int32) : Option (Int32 × kS) :=
  (if x4 ≤ x7 then some (x5, σ) else (kb (f_X1_stretchFrom F σ (x2 + x7.toInt64)) fun v_2 σ_3 => (kn (if (x4 - x7) < v_2 then (x4 - x7) else v_2) (fun x6_5 => (kb (f_X1_rulerAt F σ_3 (x2 + x7.toInt64)) fun v_6 σ_7 => (if v_6 = x1 then s_X1_minutesWithinRound_55 F rec9 σ_7 x1 x2 x4 (x5 + x6_5) x6_5 x7 else s_X1_minutesWithinRound_55 F rec9 σ_7 x1 x2 x4 x5 x6_5 x7))))))
set_option maxRecDepth 100000 in
set_option maxHeartbeats 4000000 in
theorem w_X1_minutesWithinRound_9 (C : Cx E p s m args meth c cX1_minutesWithinRound 8 RX1 (some .int)) (F : Nat) (rec9 : (kS × Int32 × Int64 × Int32 × Int32 × Int32 → Option (Int32 × kS))) (hrec9 : ∀ (σ : kS) (x1 : Int32) (x2 : Int64) (x4 : Int32) (x5 : Int32) (x7 : Int32), rec9 (σ, x1, x2, x4, x5, x7) = some (r, σr) → ∀ (H : Heap) (locs : List Loc), cP E σ H → va_S (inC E) s.heap H locs → ∀ (ls : Array Slot), lv_has ls 8 [(0, .ref (eA E 9)), (1, .int x1), (2, .long x2), (4, .int x4), (5, .int x5), (7, .int x7)] → W p l e (kR 4 96) s m args below meth c H locs 0 0 (MQ below (kQi (cP E) (inC E) r σr) args s 0 0 (inC E)) (F0 m 9 ls [])) (σ : kS) (x1 : Int32) (x2 : Int64) (x4 : Int32) (x5 : Int32) (x7 : Int32) (h : s_X1_minutesWithinRound_9 F rec9 σ x1 x2 x4 x5 x7 = some (r, σr)) (H : Heap) (locs : List Loc) (hP : cP E σ H) (hS : va_S (inC E) s.heap H locs) (ls : Array Slot) (hl : lv_has ls 8 [(0, .ref (eA E 9)), (1, .int x1), (2, .long x2), (4, .int x4), (5, .int x5), (7, .int x7)]) : W p l e (kR 4 96) s m args below meth c H locs 0 0 (MQ below (kQi (cP E) (inC E) r σr) args s 0 0 (inC E)) (F0 m 9 ls []) := by
  obtain ⟨-, hx, hb, hml, hown, hts, hK, -, -⟩ := id C
  unfold s_X1_minutesWithinRound_9 at h
  refine lv_iload hx hb dX1_minutesWithinRound_9 (lv_at hl 5 rfl) ?_
  refine lv_iload hx hb dX1_minutesWithinRound_11 (lv_at hl 3 rfl) ?_
  refine lv_icmp_ge (tgt := 69) hx hb dX1_minutesWithinRound_13 (by decide) (fun c_1 => ?_) (fun c_1 => ?_)
  · have h := k_t c_1 h
    refine lv_iload hx hb dX1_minutesWithinRound_69 (lv_at hl 4 rfl) ?_
    obtain ⟨rfl, rfl⟩ := k_inj h
    exact kri C hS hP dX1_minutesWithinRound_71
  · have h := k_f c_1 h
    refine lv_aload_n hx hb dX1_minutesWithinRound_16 rfl (lv_at hl 0 rfl) ?_
    refine lv_lload_n hx hb dX1_minutesWithinRound_17 rfl (lv_at hl 2 rfl) ?_
    refine lv_iload hx hb dX1_minutesWithinRound_18 (lv_at hl 5 rfl) ?_
    refine lv_i2l (v := x7.toInt64) hx hb dX1_minutesWithinRound_20 rfl ?_
    refine lv_ladd hx hb dX1_minutesWithinRound_21 ?_
    obtain ⟨v_2, σ_3, hc_4, h⟩ := kb_ok h
    refine kci (krunV (As := [.long (x2 + x7.toInt64)]) C hP (c_X1_stretchFrom E C.1 F σ (x2 + x7.toInt64) hc_4) w_431 kv_X1_stretchFrom ⟨Nat.le_of_ble_eq_true rfl, Nat.le_of_ble_eq_true rfl⟩ (rc_9 C hP) rfl hl.1 rfl (Nat.le_of_ble_eq_true rfl) dX1_minutesWithinRound_22) hS (fun H locs hP hS => ?_)
    refine lv_iload hx hb dX1_minutesWithinRound_25 (lv_at hl 3 rfl) ?_
    refine lv_iload hx hb dX1_minutesWithinRound_27 (lv_at hl 5 rfl) ?_
    refine lv_isub hx hb dX1_minutesWithinRound_29 ?_
    refine kmin C hl.1 w_438 (Nat.le_of_ble_eq_true rfl) (Nat.le_of_ble_eq_true rfl) dX1_minutesWithinRound_30 ?_
    refine lv_topi (fun x6_5 ex6_5 => ?_)
    have h := kn_to ex6_5 h
    refine lv_istore (lv' := [(6, .int x6_5), (0, .ref (eA E 9)), (1, .int x1), (2, .long x2), (4, .int x4), (5, .int x5), (7, .int x7)]) hx hb dX1_minutesWithinRound_33 hl (by decide) rfl (fun ls hl => ?_)
    refine lv_aload_n hx hb dX1_minutesWithinRound_35 rfl (lv_at hl 1 rfl) ?_
    refine lv_lload_n hx hb dX1_minutesWithinRound_36 rfl (lv_at hl 3 rfl) ?_
    refine lv_iload hx hb dX1_minutesWithinRound_37 (lv_at hl 6 rfl) ?_
    refine lv_i2l (v := x7.toInt64) hx hb dX1_minutesWithinRound_39 rfl ?_
    refine lv_ladd hx hb dX1_minutesWithinRound_40 ?_
    obtain ⟨v_6, σ_7, hc_8, h⟩ := kb_ok h
    refine kci (krunV (As := [.long (x2 + x7.toInt64)]) C hP (c_X1_rulerAt E C.1 F σ_3 (x2 + x7.toInt64) hc_8) w_441 kv_X1_rulerAt ⟨Nat.le_of_ble_eq_true rfl, Nat.le_of_ble_eq_true rfl⟩ (rc_9 C hP) rfl hl.1 rfl (Nat.le_of_ble_eq_true rfl) dX1_minutesWithinRound_41) hS (fun H locs hP hS => ?_)
    refine lv_iload_n hx hb dX1_minutesWithinRound_44 rfl (lv_at hl 2 rfl) ?_
    refine lv_icmp_ne (tgt := 55) hx hb dX1_minutesWithinRound_45 (by decide) (fun c_9 => ?_) (fun c_9 => ?_)
    · have h := k_f c_9 h
      exact w_X1_minutesWithinRound_55 C F rec9 hrec9 σ_7 x1 x2 x4 x5 x6_5 x7 h H locs hP hS ls (lv_sub hl [1, 2, 3, 4, 5, 0, 6] rfl)
    · have h := k_t c_9 h
      refine lv_iload hx hb dX1_minutesWithinRound_48 (lv_at hl 5 rfl) ?_
      refine lv_iload hx hb dX1_minutesWithinRound_50 (lv_at hl 0 rfl) ?_
      refine lv_iadd hx hb dX1_minutesWithinRound_52 ?_
      refine lv_istore (lv' := [(5, .int (x5 + x6_5)), (6, .int x6_5), (0, .ref (eA E 9)), (1, .int x1), (2, .long x2), (4, .int x4), (7, .int x7)]) hx hb dX1_minutesWithinRound_53 hl (by decide) rfl (fun ls hl => ?_)
      exact w_X1_minutesWithinRound_55 C F rec9 hrec9 σ_7 x1 x2 x4 (x5 + x6_5) x6_5 x7 h H locs hP hS ls (lv_sub hl [2, 3, 4, 5, 0, 1, 6] rfl)
def f_X1_minutesWithinRound_9 (F : Nat) : kS × Int32 × Int64 × Int32 × Int32 × Int32 → Option (Int32 × kS) := itr (fun rec9 q => s_X1_minutesWithinRound_9 F rec9 q.1 q.2.1 q.2.2.1 q.2.2.2.1 q.2.2.2.2.1 q.2.2.2.2.2) F
theorem wf_X1_minutesWithinRound_9 (C : Cx E p s m args meth c cX1_minutesWithinRound 8 RX1 (some .int)) (F : Nat) (σ : kS) (x1 : Int32) (x2 : Int64) (x4 : Int32) (x5 : Int32) (x7 : Int32) (h : f_X1_minutesWithinRound_9 F (σ, x1, x2, x4, x5, x7) = some (r, σr)) (H : Heap) (locs : List Loc) (hP : cP E σ H) (hS : va_S (inC E) s.heap H locs) (ls : Array Slot) (hl : lv_has ls 8 [(0, .ref (eA E 9)), (1, .int x1), (2, .long x2), (4, .int x4), (5, .int x5), (7, .int x7)]) : W p l e (kR 4 96) s m args below meth c H locs 0 0 (MQ below (kQi (cP E) (inC E) r σr) args s 0 0 (inC E)) (F0 m 9 ls []) :=
  itr_ok (r := (r, σr)) (G := fun q => ∀ (H : Heap) (locs : List Loc), cP E q.1 H → va_S (inC E) s.heap H locs → ∀ (ls : Array Slot), lv_has ls 8 [(0, .ref (eA E 9)), (1, .int (q.2.1)), (2, .long (q.2.2.1)), (4, .int (q.2.2.2.1)), (5, .int (q.2.2.2.2.1)), (7, .int (q.2.2.2.2.2))] → W p l e (kR 4 96) s m args below meth c H locs 0 0 (MQ below (kQi (cP E) (inC E) r σr) args s 0 0 (inC E)) (F0 m 9 ls [])) (fun rec9 hrec9 q h => w_X1_minutesWithinRound_9 C F rec9 (fun σ x1 x2 x4 x5 x7 => hrec9 (σ, x1, x2, x4, x5, x7)) q.1 q.2.1 q.2.2.1 q.2.2.2.1 q.2.2.2.2.1 q.2.2.2.2.2 h) F (σ, x1, x2, x4, x5, x7) h H locs hP hS ls hl
def s_X1_minutesWithinRound_0 (F : Nat) (σ : kS) (x1 : Int32) (x2 : Int64) (x4 : Int32) : Option (Int32 × kS) :=
  f_X1_minutesWithinRound_9 F (σ, x1, x2, x4, (0 : Int32), (0 : Int32))
set_option maxRecDepth 100000 in
set_option maxHeartbeats 4000000 in
theorem w_X1_minutesWithinRound_0 (C : Cx E p s m args meth c cX1_minutesWithinRound 8 RX1 (some .int)) (F : Nat) (σ : kS) (x1 : Int32) (x2 : Int64) (x4 : Int32) (h : s_X1_minutesWithinRound_0 F σ x1 x2 x4 = some (r, σr)) (H : Heap) (locs : List Loc) (hP : cP E σ H) (hS : va_S (inC E) s.heap H locs) (ls : Array Slot) (hl : lv_has ls 8 [(0, .ref (eA E 9)), (1, .int x1), (2, .long x2), (4, .int x4)]) : W p l e (kR 4 96) s m args below meth c H locs 0 0 (MQ below (kQi (cP E) (inC E) r σr) args s 0 0 (inC E)) (F0 m 0 ls []) := by
  obtain ⟨-, hx, hb, hml, hown, hts, hK, -, -⟩ := id C
  unfold s_X1_minutesWithinRound_0 at h
  refine lv_iconst (v := (0 : Int32)) hx hb dX1_minutesWithinRound_0 (by decide) ?_
  refine lv_istore (lv' := [(5, .int (0 : Int32)), (0, .ref (eA E 9)), (1, .int x1), (2, .long x2), (4, .int x4)]) hx hb dX1_minutesWithinRound_1 hl (by decide) rfl (fun ls hl => ?_)
  refine lv_iconst (v := (1 : Int32)) hx hb dX1_minutesWithinRound_3 (by decide) ?_
  refine lv_istore (lv' := [(6, .int (1 : Int32)), (5, .int (0 : Int32)), (0, .ref (eA E 9)), (1, .int x1), (2, .long x2), (4, .int x4)]) hx hb dX1_minutesWithinRound_4 hl (by decide) rfl (fun ls hl => ?_)
  refine lv_iconst (v := (0 : Int32)) hx hb dX1_minutesWithinRound_6 (by decide) ?_
  refine lv_istore (lv' := [(7, .int (0 : Int32)), (6, .int (1 : Int32)), (5, .int (0 : Int32)), (0, .ref (eA E 9)), (1, .int x1), (2, .long x2), (4, .int x4)]) hx hb dX1_minutesWithinRound_7 hl (by decide) rfl (fun ls hl => ?_)
  exact wf_X1_minutesWithinRound_9 C F σ x1 x2 x4 (0 : Int32) (0 : Int32) h H locs hP hS ls (lv_sub hl [3, 4, 5, 6, 2, 0] rfl)
def f_X1_minutesWithinRound (F : Nat) (σ : kS) (x1 : Int32) (x2 : Int64) (x4 : Int32) : Option (Int32 × kS) := s_X1_minutesWithinRound_0 F σ x1 x2 x4
set_option maxRecDepth 100000 in
theorem c_X1_minutesWithinRound (E : kE) (hE : kap E) (F : Nat) (σ : kS) (x1 : Int32) (x2 : Int64) (x4 : Int32) (h : f_X1_minutesWithinRound F σ x1 x2 x4 = some (r, σr)) : Met l yX1_minutesWithinRound (kWs yX1_minutesWithinRound cX1_minutesWithinRound 8 (some .int)) (kR 4 96) (kPre (cP E) E [.ref (eA E 9), .int x1, .long x2, .int x4] σ) (kQi (cP E) (inC E) r σr) 0 0 (inC E) :=
  kst hE (by decide +kernel) (Nat.le_of_ble_eq_true rfl) (fun p e s m below meth c ls C hP hl => w_X1_minutesWithinRound_0 C F σ x1 x2 x4 h s.heap [] hP va_S.rf ls hl)
end

section
variable {p : Program} {l : Launch} {e : Env} {s : State} {m : MethodId} {args : Array Value} {below : List Frame} {meth : Method} {c : Code} {E : kE} {σr : kS}
variable {r : Int32}
def s_X1_minutesOf_0 (F : Nat) (σ : kS) (x1 : Int32) (x2 : Int64) (x4 : Int32) : Option (Int32 × kS) :=
  (kb (f_X2_minutesOfRound F σ) fun v_1 σ_2 => (if v_1 = 0 then none else (kb (f_X1_minutesWithinRound F σ_2 x1 x2 v_1) fun v_5 σ_6 => (if v_1 = 0 then none else (kb (f_X1_minutesWithinRound F σ_6 x1 x2 (x4 - x4 / v_1 * v_1)) fun v_9 σ_10 => some ((((x4 / v_1) * v_5) + v_9), σ_10))))))
set_option maxRecDepth 100000 in
set_option maxHeartbeats 4000000 in
theorem w_X1_minutesOf_0 (C : Cx E p s m args meth c cX1_minutesOf 6 RX1 (some .int)) (F : Nat) (σ : kS) (x1 : Int32) (x2 : Int64) (x4 : Int32) (h : s_X1_minutesOf_0 F σ x1 x2 x4 = some (r, σr)) (H : Heap) (locs : List Loc) (hP : cP E σ H) (hS : va_S (inC E) s.heap H locs) (ls : Array Slot) (hl : lv_has ls 6 [(0, .ref (eA E 9)), (1, .int x1), (2, .long x2), (4, .int x4)]) : W p l e (kR 5 123) s m args below meth c H locs 0 0 (MQ below (kQi (cP E) (inC E) r σr) args s 0 0 (inC E)) (F0 m 0 ls []) := by
  obtain ⟨-, hx, hb, hml, hown, hts, hK, -, -⟩ := id C
  unfold s_X1_minutesOf_0 at h
  refine lv_aload_n hx hb dX1_minutesOf_0 rfl (lv_at hl 0 rfl) ?_
  refine gf_9_0 C hP w_154 dX1_minutesOf_1 ?_
  obtain ⟨v_1, σ_2, hc_3, h⟩ := kb_ok h
  refine kci (krunV (As := []) C hP (c_X2_minutesOfRound E C.1 F σ hc_3) w_423 kv_X2_minutesOfRound ⟨Nat.le_of_ble_eq_true rfl, Nat.le_of_ble_eq_true rfl⟩ (rc_6 C hP) rfl hl.1 rfl (Nat.le_of_ble_eq_true rfl) dX1_minutesOf_4) hS (fun H locs hP hS => ?_)
  refine lv_istore (lv' := [(5, .int v_1), (0, .ref (eA E 9)), (1, .int x1), (2, .long x2), (4, .int x4)]) hx hb dX1_minutesOf_7 hl (by decide) rfl (fun ls hl => ?_)
  refine lv_iload hx hb dX1_minutesOf_9 (lv_at hl 4 rfl) ?_
  refine lv_iload hx hb dX1_minutesOf_11 (lv_at hl 0 rfl) ?_
  obtain ⟨n_4, h⟩ := k_no h
  refine lv_idiv hx hb dX1_minutesOf_13 n_4 ?_
  refine lv_aload_n hx hb dX1_minutesOf_14 rfl (lv_at hl 1 rfl) ?_
  refine lv_iload_n hx hb dX1_minutesOf_15 rfl (lv_at hl 2 rfl) ?_
  refine lv_lload_n hx hb dX1_minutesOf_16 rfl (lv_at hl 3 rfl) ?_
  refine lv_iload hx hb dX1_minutesOf_17 (lv_at hl 0 rfl) ?_
  obtain ⟨v_5, σ_6, hc_7, h⟩ := kb_ok h
  refine kci (krunV (As := [.int x1, .long x2, .int v_1]) C hP (c_X1_minutesWithinRound E C.1 F σ_2 x1 x2 v_1 hc_7) w_427 kv_X1_minutesWithinRound ⟨Nat.le_of_ble_eq_true rfl, Nat.le_of_ble_eq_true rfl⟩ (rc_9 C hP) rfl hl.1 rfl (Nat.le_of_ble_eq_true rfl) dX1_minutesOf_19) hS (fun H locs hP hS => ?_)
  refine lv_imul hx hb dX1_minutesOf_22 ?_
  refine lv_aload_n hx hb dX1_minutesOf_23 rfl (lv_at hl 1 rfl) ?_
  refine lv_iload_n hx hb dX1_minutesOf_24 rfl (lv_at hl 2 rfl) ?_
  refine lv_lload_n hx hb dX1_minutesOf_25 rfl (lv_at hl 3 rfl) ?_
  refine lv_iload hx hb dX1_minutesOf_26 (lv_at hl 4 rfl) ?_
  refine lv_iload hx hb dX1_minutesOf_28 (lv_at hl 0 rfl) ?_
  obtain ⟨n_8, h⟩ := k_no h
  refine lv_irem hx hb dX1_minutesOf_30 n_8 ?_
  obtain ⟨v_9, σ_10, hc_11, h⟩ := kb_ok h
  refine kci (krunV (As := [.int x1, .long x2, .int (x4 - x4 / v_1 * v_1)]) C hP (c_X1_minutesWithinRound E C.1 F σ_6 x1 x2 (x4 - x4 / v_1 * v_1) hc_11) w_427 kv_X1_minutesWithinRound ⟨Nat.le_of_ble_eq_true rfl, Nat.le_of_ble_eq_true rfl⟩ (rc_9 C hP) rfl hl.1 rfl (Nat.le_of_ble_eq_true rfl) dX1_minutesOf_31) hS (fun H locs hP hS => ?_)
  refine lv_iadd hx hb dX1_minutesOf_34 ?_
  obtain ⟨rfl, rfl⟩ := k_inj h
  exact kri C hS hP dX1_minutesOf_35
def f_X1_minutesOf (F : Nat) (σ : kS) (x1 : Int32) (x2 : Int64) (x4 : Int32) : Option (Int32 × kS) := s_X1_minutesOf_0 F σ x1 x2 x4
set_option maxRecDepth 100000 in
theorem c_X1_minutesOf (E : kE) (hE : kap E) (F : Nat) (σ : kS) (x1 : Int32) (x2 : Int64) (x4 : Int32) (h : f_X1_minutesOf F σ x1 x2 x4 = some (r, σr)) : Met l yX1_minutesOf (kWs yX1_minutesOf cX1_minutesOf 6 (some .int)) (kR 5 123) (kPre (cP E) E [.ref (eA E 9), .int x1, .long x2, .int x4] σ) (kQi (cP E) (inC E) r σr) 0 0 (inC E) :=
  kst hE (by decide +kernel) (Nat.le_of_ble_eq_true rfl) (fun p e s m below meth c ls C hP hl => w_X1_minutesOf_0 C F σ x1 x2 x4 h s.heap [] hP va_S.rf ls hl)
end

section
variable {p : Program} {l : Launch} {e : Env} {s : State} {m : MethodId} {args : Array Value} {below : List Frame} {meth : Method} {c : Code} {E : kE} {σr : kS}
variable {r : Int32}
def s_X7_minutes_0 (F : Nat) (σ : kS) (x1 : Int64) (x3 : Int32) (x4 : Int32) : Option (Int32 × kS) :=
  (kb (f_X7_isMinute F σ x1) fun v_1 σ_2 => (if v_1 = 0 then some ((-1 : Int32), σ_2) else (if x3 < 0 then some ((-1 : Int32), σ_2) else (if (100000 : Int32) < x3 then some ((-1 : Int32), σ_2) else (kb (f_X7_isRuler F σ_2 x4) fun v_7 σ_8 => (if v_7 = 0 then some ((-1 : Int32), σ_8) else (kb (f_X1_minutesOf F σ_8 x4 x1 x3) fun v_11 σ_12 => some (v_11, σ_12))))))))
set_option maxRecDepth 100000 in
set_option maxHeartbeats 4000000 in
theorem w_X7_minutes_0 (C : Cx E p s m args meth c cX7_minutes 5 RX7 (some .int)) (F : Nat) (σ : kS) (x1 : Int64) (x3 : Int32) (x4 : Int32) (h : s_X7_minutes_0 F σ x1 x3 x4 = some (r, σr)) (H : Heap) (locs : List Loc) (hP : cP E σ H) (hS : va_S (inC E) s.heap H locs) (ls : Array Slot) (hl : lv_has ls 5 [(0, .ref (eA E 0)), (1, .long x1), (3, .int x3), (4, .int x4)]) : W p l e (kR 6 148) s m args below meth c H locs 0 0 (MQ below (kQi (cP E) (inC E) r σr) args s 0 0 (inC E)) (F0 m 0 ls []) := by
  obtain ⟨-, hx, hb, hml, hown, hts, hK, -, -⟩ := id C
  unfold s_X7_minutes_0 at h
  refine lv_lload_n hx hb dX7_minutes_0 rfl (lv_at hl 1 rfl) ?_
  obtain ⟨v_1, σ_2, hc_3, h⟩ := kb_ok h
  refine kci (krunS (As := [.long x1]) C hP (c_X7_isMinute E C.1 F σ x1 hc_3) w_377 kt_X7_isMinute ⟨Nat.le_of_ble_eq_true rfl, Nat.le_of_ble_eq_true rfl⟩ rfl hl.1 rfl (Nat.le_of_ble_eq_true rfl) dX7_minutes_1) hS (fun H locs hP hS => ?_)
  refine lv_if_eq (tgt := 25) hx hb dX7_minutes_4 (by decide) (fun c_4 => ?_) (fun c_4 => ?_)
  · have h := k_t c_4 h
    refine lv_iconst (v := (-1 : Int32)) hx hb dX7_minutes_25 (by decide) ?_
    obtain ⟨rfl, rfl⟩ := k_inj h
    exact kri C hS hP dX7_minutes_26
  · have h := k_f c_4 h
    refine lv_iload_n hx hb dX7_minutes_7 rfl (lv_at hl 2 rfl) ?_
    refine lv_if_lt (tgt := 25) hx hb dX7_minutes_8 (by decide) (fun c_5 => ?_) (fun c_5 => ?_)
    · have h := k_t c_5 h
      refine lv_iconst (v := (-1 : Int32)) hx hb dX7_minutes_25 (by decide) ?_
      obtain ⟨rfl, rfl⟩ := k_inj h
      exact kri C hS hP dX7_minutes_26
    · have h := k_f c_5 h
      refine lv_iload_n hx hb dX7_minutes_11 rfl (lv_at hl 2 rfl) ?_
      refine lv_ldc (v := (100000 : Int32)) hx hb hown (hts _ w_415) dX7_minutes_12 ?_
      refine lv_icmp_gt (tgt := 25) hx hb dX7_minutes_14 (by decide) (fun c_6 => ?_) (fun c_6 => ?_)
      · have h := k_t c_6 h
        refine lv_iconst (v := (-1 : Int32)) hx hb dX7_minutes_25 (by decide) ?_
        obtain ⟨rfl, rfl⟩ := k_inj h
        exact kri C hS hP dX7_minutes_26
      · have h := k_f c_6 h
        refine lv_iload hx hb dX7_minutes_17 (lv_at hl 3 rfl) ?_
        obtain ⟨v_7, σ_8, hc_9, h⟩ := kb_ok h
        refine kci (krunS (As := [.int x4]) C hP (c_X7_isRuler E C.1 F σ_2 x4 hc_9) w_416 kt_X7_isRuler ⟨Nat.le_of_ble_eq_true rfl, Nat.le_of_ble_eq_true rfl⟩ rfl hl.1 rfl (Nat.le_of_ble_eq_true rfl) dX7_minutes_19) hS (fun H locs hP hS => ?_)
        refine lv_if_ne (tgt := 27) hx hb dX7_minutes_22 (by decide) (fun c_10 => ?_) (fun c_10 => ?_)
        · have h := k_f c_10 h
          refine lv_aload_n hx hb dX7_minutes_27 rfl (lv_at hl 0 rfl) ?_
          refine gf_0_4 C hP w_253 dX7_minutes_28 ?_
          refine lv_iload hx hb dX7_minutes_31 (lv_at hl 3 rfl) ?_
          refine lv_lload_n hx hb dX7_minutes_33 rfl (lv_at hl 1 rfl) ?_
          refine lv_iload_n hx hb dX7_minutes_34 rfl (lv_at hl 2 rfl) ?_
          obtain ⟨v_11, σ_12, hc_13, h⟩ := kb_ok h
          refine kci (krunV (As := [.int x4, .long x1, .int x3]) C hP (c_X1_minutesOf E C.1 F σ_8 x4 x1 x3 hc_13) w_419 kv_X1_minutesOf ⟨Nat.le_of_ble_eq_true rfl, Nat.le_of_ble_eq_true rfl⟩ (rc_9 C hP) rfl hl.1 rfl (Nat.le_of_ble_eq_true rfl) dX7_minutes_35) hS (fun H locs hP hS => ?_)
          obtain ⟨rfl, rfl⟩ := k_inj h
          exact kri C hS hP dX7_minutes_38
        · have h := k_t c_10 h
          refine lv_iconst (v := (-1 : Int32)) hx hb dX7_minutes_25 (by decide) ?_
          obtain ⟨rfl, rfl⟩ := k_inj h
          exact kri C hS hP dX7_minutes_26
def f_X7_minutes (F : Nat) (σ : kS) (x1 : Int64) (x3 : Int32) (x4 : Int32) : Option (Int32 × kS) := s_X7_minutes_0 F σ x1 x3 x4
set_option maxRecDepth 100000 in
theorem c_X7_minutes (E : kE) (hE : kap E) (F : Nat) (σ : kS) (x1 : Int64) (x3 : Int32) (x4 : Int32) (h : f_X7_minutes F σ x1 x3 x4 = some (r, σr)) : Met l yX7_minutes (kWs yX7_minutes cX7_minutes 5 (some .int)) (kR 6 148) (kPre (cP E) E [.ref (eA E 0), .long x1, .int x3, .int x4] σ) (kQi (cP E) (inC E) r σr) 0 0 (inC E) :=
  kst hE (by decide +kernel) (Nat.le_of_ble_eq_true rfl) (fun p e s m below meth c ls C hP hl => w_X7_minutes_0 C F σ x1 x3 x4 h s.heap [] hP va_S.rf ls hl)
end

section
variable {p : Program} {l : Launch} {e : Env} {s : State} {m : MethodId} {args : Array Value} {below : List Frame} {meth : Method} {c : Code} {E : kE} {σr : kS}
variable {r : Int64}
def s_X1_firstOf_21 (F : Nat) (rec21 : (kS × Int32 × Int64 × Int32 × Int32 → Option (Int64 × kS))) (σ : kS) (x1 : Int32) (x2 : Int64) (x4 : Int32) (x6 : Int32) : Option (Int64 × kS) :=
  (if x4 < x6 then some ((-4 : Int64), σ) else (kb (f_X1_rulerAt F σ (x2 + x6.toInt64)) fun v_2 σ_3 => (if v_2 = x1 then some ((x2 + x6.toInt64), σ_3) else (kb (f_X1_stretchFrom F σ_3 (x2 + x6.toInt64)) fun v_6 σ_7 => (kn (x6 + (if (1 : Int32) < v_6 then v_6 else (1 : Int32))) (fun x6_9 => rec21 (σ_7, x1, x2, x4, x6_9)))))))
set_option maxRecDepth 100000 in
set_option maxHeartbeats 4000000 in
theorem w_X1_firstOf_21 (C : Cx E p s m args meth c cX1_firstOf 7 RX1 (some .long)) (F : Nat) (rec21 : (kS × Int32 × Int64 × Int32 × Int32 → Option (Int64 × kS))) (hrec21 : ∀ (σ : kS) (x1 : Int32) (x2 : Int64) (x4 : Int32) (x6 : Int32), rec21 (σ, x1, x2, x4, x6) = some (r, σr) → ∀ (H : Heap) (locs : List Loc), cP E σ H → va_S (inC E) s.heap H locs → ∀ (ls : Array Slot), lv_has ls 7 [(0, .ref (eA E 9)), (1, .int x1), (2, .long x2), (4, .int x4), (6, .int x6)] → W p l e (kR 4 96) s m args below meth c H locs 0 0 (MQ below (kQl (cP E) (inC E) r σr) args s 0 0 (inC E)) (F0 m 21 ls [])) (σ : kS) (x1 : Int32) (x2 : Int64) (x4 : Int32) (x6 : Int32) (h : s_X1_firstOf_21 F rec21 σ x1 x2 x4 x6 = some (r, σr)) (H : Heap) (locs : List Loc) (hP : cP E σ H) (hS : va_S (inC E) s.heap H locs) (ls : Array Slot) (hl : lv_has ls 7 [(0, .ref (eA E 9)), (1, .int x1), (2, .long x2), (4, .int x4), (6, .int x6)]) : W p l e (kR 4 96) s m args below meth c H locs 0 0 (MQ below (kQl (cP E) (inC E) r σr) args s 0 0 (inC E)) (F0 m 21 ls []) := by
  obtain ⟨-, hx, hb, hml, hown, hts, hK, -, -⟩ := id C
  unfold s_X1_firstOf_21 at h
  refine lv_iload hx hb dX1_firstOf_21 (lv_at hl 4 rfl) ?_
  refine lv_iload hx hb dX1_firstOf_23 (lv_at hl 3 rfl) ?_
  refine lv_icmp_gt (tgt := 72) hx hb dX1_firstOf_25 (by decide) (fun c_1 => ?_) (fun c_1 => ?_)
  · have h := k_t c_1 h
    refine lv_ldc2 (v := (-4 : Int64)) hx hb hown (hts _ w_452) dX1_firstOf_72 ?_
    obtain ⟨rfl, rfl⟩ := k_inj h
    exact krl C hS hP dX1_firstOf_75
  · have h := k_f c_1 h
    refine lv_aload_n hx hb dX1_firstOf_28 rfl (lv_at hl 0 rfl) ?_
    refine lv_lload_n hx hb dX1_firstOf_29 rfl (lv_at hl 2 rfl) ?_
    refine lv_iload hx hb dX1_firstOf_30 (lv_at hl 4 rfl) ?_
    refine lv_i2l (v := x6.toInt64) hx hb dX1_firstOf_32 rfl ?_
    refine lv_ladd hx hb dX1_firstOf_33 ?_
    obtain ⟨v_2, σ_3, hc_4, h⟩ := kb_ok h
    refine kci (krunV (As := [.long (x2 + x6.toInt64)]) C hP (c_X1_rulerAt E C.1 F σ (x2 + x6.toInt64) hc_4) w_441 kv_X1_rulerAt ⟨Nat.le_of_ble_eq_true rfl, Nat.le_of_ble_eq_true rfl⟩ (rc_9 C hP) rfl hl.1 rfl (Nat.le_of_ble_eq_true rfl) dX1_firstOf_34) hS (fun H locs hP hS => ?_)
    refine lv_iload_n hx hb dX1_firstOf_37 rfl (lv_at hl 1 rfl) ?_
    refine lv_icmp_ne (tgt := 47) hx hb dX1_firstOf_38 (by decide) (fun c_5 => ?_) (fun c_5 => ?_)
    · have h := k_f c_5 h
      refine lv_aload_n hx hb dX1_firstOf_47 rfl (lv_at hl 0 rfl) ?_
      refine lv_lload_n hx hb dX1_firstOf_48 rfl (lv_at hl 2 rfl) ?_
      refine lv_iload hx hb dX1_firstOf_49 (lv_at hl 4 rfl) ?_
      refine lv_i2l (v := x6.toInt64) hx hb dX1_firstOf_51 rfl ?_
      refine lv_ladd hx hb dX1_firstOf_52 ?_
      obtain ⟨v_6, σ_7, hc_8, h⟩ := kb_ok h
      refine kci (krunV (As := [.long (x2 + x6.toInt64)]) C hP (c_X1_stretchFrom E C.1 F σ_3 (x2 + x6.toInt64) hc_8) w_431 kv_X1_stretchFrom ⟨Nat.le_of_ble_eq_true rfl, Nat.le_of_ble_eq_true rfl⟩ (rc_9 C hP) rfl hl.1 rfl (Nat.le_of_ble_eq_true rfl) dX1_firstOf_53) hS (fun H locs hP hS => ?_)
      refine lv_istore (lv' := [(5, .int v_6), (0, .ref (eA E 9)), (1, .int x1), (2, .long x2), (4, .int x4), (6, .int x6)]) hx hb dX1_firstOf_56 hl (by decide) rfl (fun ls hl => ?_)
      refine lv_iload hx hb dX1_firstOf_58 (lv_at hl 5 rfl) ?_
      refine lv_iconst (v := (1 : Int32)) hx hb dX1_firstOf_60 (by decide) ?_
      refine lv_iload hx hb dX1_firstOf_61 (lv_at hl 0 rfl) ?_
      refine kmax C hl.1 w_442 (Nat.le_of_ble_eq_true rfl) (Nat.le_of_ble_eq_true rfl) dX1_firstOf_63 ?_
      refine lv_iadd hx hb dX1_firstOf_66 ?_
      refine lv_topi (fun x6_9 ex6_9 => ?_)
      have h := kn_to ex6_9 h
      refine lv_istore (lv' := [(6, .int x6_9), (5, .int v_6), (0, .ref (eA E 9)), (1, .int x1), (2, .long x2), (4, .int x4)]) hx hb dX1_firstOf_67 hl (by decide) rfl (fun ls hl => ?_)
      refine lv_goto (tgt := 21) hx hb dX1_firstOf_69 (by decide) ?_
      exact hrec21 σ_7 x1 x2 x4 x6_9 h H locs hP hS ls (lv_sub hl [2, 3, 4, 5, 0] rfl)
    · have h := k_t c_5 h
      refine lv_lload_n hx hb dX1_firstOf_41 rfl (lv_at hl 2 rfl) ?_
      refine lv_iload hx hb dX1_firstOf_42 (lv_at hl 4 rfl) ?_
      refine lv_i2l (v := x6.toInt64) hx hb dX1_firstOf_44 rfl ?_
      refine lv_ladd hx hb dX1_firstOf_45 ?_
      obtain ⟨rfl, rfl⟩ := k_inj h
      exact krl C hS hP dX1_firstOf_46
def f_X1_firstOf_21 (F : Nat) : kS × Int32 × Int64 × Int32 × Int32 → Option (Int64 × kS) := itr (fun rec21 q => s_X1_firstOf_21 F rec21 q.1 q.2.1 q.2.2.1 q.2.2.2.1 q.2.2.2.2) F
theorem wf_X1_firstOf_21 (C : Cx E p s m args meth c cX1_firstOf 7 RX1 (some .long)) (F : Nat) (σ : kS) (x1 : Int32) (x2 : Int64) (x4 : Int32) (x6 : Int32) (h : f_X1_firstOf_21 F (σ, x1, x2, x4, x6) = some (r, σr)) (H : Heap) (locs : List Loc) (hP : cP E σ H) (hS : va_S (inC E) s.heap H locs) (ls : Array Slot) (hl : lv_has ls 7 [(0, .ref (eA E 9)), (1, .int x1), (2, .long x2), (4, .int x4), (6, .int x6)]) : W p l e (kR 4 96) s m args below meth c H locs 0 0 (MQ below (kQl (cP E) (inC E) r σr) args s 0 0 (inC E)) (F0 m 21 ls []) :=
  itr_ok (r := (r, σr)) (G := fun q => ∀ (H : Heap) (locs : List Loc), cP E q.1 H → va_S (inC E) s.heap H locs → ∀ (ls : Array Slot), lv_has ls 7 [(0, .ref (eA E 9)), (1, .int (q.2.1)), (2, .long (q.2.2.1)), (4, .int (q.2.2.2.1)), (6, .int (q.2.2.2.2))] → W p l e (kR 4 96) s m args below meth c H locs 0 0 (MQ below (kQl (cP E) (inC E) r σr) args s 0 0 (inC E)) (F0 m 21 ls [])) (fun rec21 hrec21 q h => w_X1_firstOf_21 C F rec21 (fun σ x1 x2 x4 x6 => hrec21 (σ, x1, x2, x4, x6)) q.1 q.2.1 q.2.2.1 q.2.2.2.1 q.2.2.2.2 h) F (σ, x1, x2, x4, x6) h H locs hP hS ls hl
def s_X1_firstOf_0 (F : Nat) (σ : kS) (x1 : Int32) (x2 : Int64) : Option (Int64 × kS) :=
  (kb (f_X2_minutesOfRound F σ) fun v_1 σ_2 => (kn (if v_1 < (2000 : Int32) then v_1 else (2000 : Int32)) (fun x4_4 => f_X1_firstOf_21 F (σ_2, x1, x2, x4_4, (0 : Int32)))))
set_option maxRecDepth 100000 in
set_option maxHeartbeats 4000000 in
theorem w_X1_firstOf_0 (C : Cx E p s m args meth c cX1_firstOf 7 RX1 (some .long)) (F : Nat) (σ : kS) (x1 : Int32) (x2 : Int64) (h : s_X1_firstOf_0 F σ x1 x2 = some (r, σr)) (H : Heap) (locs : List Loc) (hP : cP E σ H) (hS : va_S (inC E) s.heap H locs) (ls : Array Slot) (hl : lv_has ls 7 [(0, .ref (eA E 9)), (1, .int x1), (2, .long x2)]) : W p l e (kR 4 96) s m args below meth c H locs 0 0 (MQ below (kQl (cP E) (inC E) r σr) args s 0 0 (inC E)) (F0 m 0 ls []) := by
  obtain ⟨-, hx, hb, hml, hown, hts, hK, -, -⟩ := id C
  unfold s_X1_firstOf_0 at h
  refine lv_sipush (v := (2000 : Int32)) hx hb dX1_firstOf_0 (by decide) ?_
  refine lv_aload_n hx hb dX1_firstOf_3 rfl (lv_at hl 0 rfl) ?_
  refine gf_9_0 C hP w_154 dX1_firstOf_4 ?_
  obtain ⟨v_1, σ_2, hc_3, h⟩ := kb_ok h
  refine kci (krunV (As := []) C hP (c_X2_minutesOfRound E C.1 F σ hc_3) w_423 kv_X2_minutesOfRound ⟨Nat.le_of_ble_eq_true rfl, Nat.le_of_ble_eq_true rfl⟩ (rc_6 C hP) rfl hl.1 rfl (Nat.le_of_ble_eq_true rfl) dX1_firstOf_7) hS (fun H locs hP hS => ?_)
  refine kmin C hl.1 w_438 (Nat.le_of_ble_eq_true rfl) (Nat.le_of_ble_eq_true rfl) dX1_firstOf_10 ?_
  refine lv_topi (fun x4_4 ex4_4 => ?_)
  have h := kn_to ex4_4 h
  refine lv_istore (lv' := [(4, .int x4_4), (0, .ref (eA E 9)), (1, .int x1), (2, .long x2)]) hx hb dX1_firstOf_13 hl (by decide) rfl (fun ls hl => ?_)
  refine lv_iconst (v := (1 : Int32)) hx hb dX1_firstOf_15 (by decide) ?_
  refine lv_istore (lv' := [(5, .int (1 : Int32)), (4, .int x4_4), (0, .ref (eA E 9)), (1, .int x1), (2, .long x2)]) hx hb dX1_firstOf_16 hl (by decide) rfl (fun ls hl => ?_)
  refine lv_iconst (v := (0 : Int32)) hx hb dX1_firstOf_18 (by decide) ?_
  refine lv_istore (lv' := [(6, .int (0 : Int32)), (5, .int (1 : Int32)), (4, .int x4_4), (0, .ref (eA E 9)), (1, .int x1), (2, .long x2)]) hx hb dX1_firstOf_19 hl (by decide) rfl (fun ls hl => ?_)
  exact wf_X1_firstOf_21 C F σ_2 x1 x2 x4_4 (0 : Int32) h H locs hP hS ls (lv_sub hl [3, 4, 5, 2, 0] rfl)
def f_X1_firstOf (F : Nat) (σ : kS) (x1 : Int32) (x2 : Int64) : Option (Int64 × kS) := s_X1_firstOf_0 F σ x1 x2
set_option maxRecDepth 100000 in
theorem c_X1_firstOf (E : kE) (hE : kap E) (F : Nat) (σ : kS) (x1 : Int32) (x2 : Int64) (h : f_X1_firstOf F σ x1 x2 = some (r, σr)) : Met l yX1_firstOf (kWs yX1_firstOf cX1_firstOf 7 (some .long)) (kR 4 96) (kPre (cP E) E [.ref (eA E 9), .int x1, .long x2] σ) (kQl (cP E) (inC E) r σr) 0 0 (inC E) :=
  kst hE (by decide +kernel) (Nat.le_of_ble_eq_true rfl) (fun p e s m below meth c ls C hP hl => w_X1_firstOf_0 C F σ x1 x2 h s.heap [] hP va_S.rf ls hl)
end

section
variable {p : Program} {l : Launch} {e : Env} {s : State} {m : MethodId} {args : Array Value} {below : List Frame} {meth : Method} {c : Code} {E : kE} {σr : kS}
variable {r : Int64}
def s_X7_next_14 (F : Nat) (σ : kS) : Option (Int64 × kS) :=
  some ((-1 : Int64), σ)
set_option maxRecDepth 100000 in
set_option maxHeartbeats 4000000 in
theorem w_X7_next_14 (C : Cx E p s m args meth c cX7_next 4 RX7 (some .long)) (F : Nat) (σ : kS) (h : s_X7_next_14 F σ = some (r, σr)) (H : Heap) (locs : List Loc) (hP : cP E σ H) (hS : va_S (inC E) s.heap H locs) (ls : Array Slot) (hl : lv_has ls 4 []) : W p l e (kR 5 122) s m args below meth c H locs 0 0 (MQ below (kQl (cP E) (inC E) r σr) args s 0 0 (inC E)) (F0 m 14 ls []) := by
  obtain ⟨-, hx, hb, hml, hown, hts, hK, -, -⟩ := id C
  unfold s_X7_next_14 at h
  refine lv_ldc2 (v := (-1 : Int64)) hx hb hown (hts _ w_447) dX7_next_14 ?_
  obtain ⟨rfl, rfl⟩ := k_inj h
  exact krl C hS hP dX7_next_17
def s_X7_next_0 (F : Nat) (σ : kS) (x1 : Int64) (x3 : Int32) : Option (Int64 × kS) :=
  (kb (f_X7_isMinute F σ x1) fun v_1 σ_2 => (if v_1 = 0 then s_X7_next_14 F σ_2 else (kb (f_X7_isRuler F σ_2 x3) fun v_5 σ_6 => (if v_5 = 0 then s_X7_next_14 F σ_6 else (kb (f_X1_firstOf F σ_6 x3 x1) fun v_9 σ_10 => some (v_9, σ_10))))))
set_option maxRecDepth 100000 in
set_option maxHeartbeats 4000000 in
theorem w_X7_next_0 (C : Cx E p s m args meth c cX7_next 4 RX7 (some .long)) (F : Nat) (σ : kS) (x1 : Int64) (x3 : Int32) (h : s_X7_next_0 F σ x1 x3 = some (r, σr)) (H : Heap) (locs : List Loc) (hP : cP E σ H) (hS : va_S (inC E) s.heap H locs) (ls : Array Slot) (hl : lv_has ls 4 [(0, .ref (eA E 0)), (1, .long x1), (3, .int x3)]) : W p l e (kR 5 122) s m args below meth c H locs 0 0 (MQ below (kQl (cP E) (inC E) r σr) args s 0 0 (inC E)) (F0 m 0 ls []) := by
  obtain ⟨-, hx, hb, hml, hown, hts, hK, -, -⟩ := id C
  unfold s_X7_next_0 at h
  refine lv_lload_n hx hb dX7_next_0 rfl (lv_at hl 1 rfl) ?_
  obtain ⟨v_1, σ_2, hc_3, h⟩ := kb_ok h
  refine kci (krunS (As := [.long x1]) C hP (c_X7_isMinute E C.1 F σ x1 hc_3) w_377 kt_X7_isMinute ⟨Nat.le_of_ble_eq_true rfl, Nat.le_of_ble_eq_true rfl⟩ rfl hl.1 rfl (Nat.le_of_ble_eq_true rfl) dX7_next_1) hS (fun H locs hP hS => ?_)
  refine lv_if_eq (tgt := 14) hx hb dX7_next_4 (by decide) (fun c_4 => ?_) (fun c_4 => ?_)
  · have h := k_t c_4 h
    exact w_X7_next_14 C F σ_2 h H locs hP hS ls (lv_sub hl [] rfl)
  · have h := k_f c_4 h
    refine lv_iload_n hx hb dX7_next_7 rfl (lv_at hl 2 rfl) ?_
    obtain ⟨v_5, σ_6, hc_7, h⟩ := kb_ok h
    refine kci (krunS (As := [.int x3]) C hP (c_X7_isRuler E C.1 F σ_2 x3 hc_7) w_416 kt_X7_isRuler ⟨Nat.le_of_ble_eq_true rfl, Nat.le_of_ble_eq_true rfl⟩ rfl hl.1 rfl (Nat.le_of_ble_eq_true rfl) dX7_next_8) hS (fun H locs hP hS => ?_)
    refine lv_if_ne (tgt := 18) hx hb dX7_next_11 (by decide) (fun c_8 => ?_) (fun c_8 => ?_)
    · have h := k_f c_8 h
      refine lv_aload_n hx hb dX7_next_18 rfl (lv_at hl 0 rfl) ?_
      refine gf_0_4 C hP w_253 dX7_next_19 ?_
      refine lv_iload_n hx hb dX7_next_22 rfl (lv_at hl 2 rfl) ?_
      refine lv_lload_n hx hb dX7_next_23 rfl (lv_at hl 1 rfl) ?_
      obtain ⟨v_9, σ_10, hc_11, h⟩ := kb_ok h
      refine kcl (krunV (As := [.int x3, .long x1]) C hP (c_X1_firstOf E C.1 F σ_6 x3 x1 hc_11) w_448 kv_X1_firstOf ⟨Nat.le_of_ble_eq_true rfl, Nat.le_of_ble_eq_true rfl⟩ (rc_9 C hP) rfl hl.1 rfl (Nat.le_of_ble_eq_true rfl) dX7_next_24) hS (fun H locs hP hS => ?_)
      obtain ⟨rfl, rfl⟩ := k_inj h
      exact krl C hS hP dX7_next_27
    · have h := k_t c_8 h
      exact w_X7_next_14 C F σ_6 h H locs hP hS ls (lv_sub hl [] rfl)
def f_X7_next (F : Nat) (σ : kS) (x1 : Int64) (x3 : Int32) : Option (Int64 × kS) := s_X7_next_0 F σ x1 x3
set_option maxRecDepth 100000 in
theorem c_X7_next (E : kE) (hE : kap E) (F : Nat) (σ : kS) (x1 : Int64) (x3 : Int32) (h : f_X7_next F σ x1 x3 = some (r, σr)) : Met l yX7_next (kWs yX7_next cX7_next 4 (some .long)) (kR 5 122) (kPre (cP E) E [.ref (eA E 0), .long x1, .int x3] σ) (kQl (cP E) (inC E) r σr) 0 0 (inC E) :=
  kst hE (by decide +kernel) (Nat.le_of_ble_eq_true rfl) (fun p e s m below meth c ls C hP hl => w_X7_next_0 C F σ x1 x3 h s.heap [] hP va_S.rf ls hl)
end

section
variable {p : Program} {l : Launch} {e : Env} {s : State} {m : MethodId} {args : Array Value} {below : List Frame} {meth : Method} {c : Code} {E : kE} {σr : kS}
variable {r : Int32}
def s_X1_isLawful_42 (F : Nat) (σ : kS) (x1 : Int32) (x2 : Int64) (x4 : Int32) (x5 : Int32) (y0 : Int32) : Option (Int32 × kS) :=
  (kb (f_X2_numberOf F σ x1 (0 : Int32)) fun v_1 σ_2 => (if v_1 = (0 : Int32) then (if y0 &&& 1 = y0 then some (y0, σ_2) else none) else (if v_1 = (1 : Int32) then (if y0 = 0 then some ((0 : Int32), σ_2) else (kb (f_X1_stretchFrom F σ_2 x2) fun v_8 σ_9 => (kb (f_X2_numberOf F σ_9 x1 (2 : Int32)) fun v_11 σ_12 => (if v_8 < v_11 then some ((0 : Int32), σ_12) else some ((1 : Int32), σ_12))))) else (if v_1 = (2 : Int32) then (if y0 &&& 1 = y0 then some (y0, σ_2) else none) else (if v_1 = (3 : Int32) then (if x4 = (3 : Int32) then (if x5 = (2 : Int32) then some ((0 : Int32), σ_2) else some ((1 : Int32), σ_2)) else some ((0 : Int32), σ_2)) else (if x4 = 0 then some ((0 : Int32), σ_2) else (if x5 = (2 : Int32) then some ((1 : Int32), σ_2) else some ((0 : Int32), σ_2))))))))
set_option maxRecDepth 100000 in
set_option maxHeartbeats 4000000 in
theorem w_X1_isLawful_42 (C : Cx E p s m args meth c cX1_isLawful 7 RX1 (some .boolean)) (F : Nat) (σ : kS) (x1 : Int32) (x2 : Int64) (x4 : Int32) (x5 : Int32) (y0 : Int32) (h : s_X1_isLawful_42 F σ x1 x2 x4 x5 y0 = some (r, σr)) (H : Heap) (locs : List Loc) (hP : cP E σ H) (hS : va_S (inC E) s.heap H locs) (ls : Array Slot) (hl : lv_has ls 7 [(0, .ref (eA E 9)), (1, .int x1), (2, .long x2), (4, .int x4), (5, .int x5)]) : W p l e (kR 4 96) s m args below meth c H locs 0 0 (MQ below (kQi (cP E) (inC E) r σr) args s 0 0 (inC E)) (F0 m 42 ls [.int y0]) := by
  obtain ⟨-, hx, hb, hml, hown, hts, hK, -, -⟩ := id C
  unfold s_X1_isLawful_42 at h
  refine lv_istore (lv' := [(6, .int y0), (0, .ref (eA E 9)), (1, .int x1), (2, .long x2), (4, .int x4), (5, .int x5)]) hx hb dX1_isLawful_42 hl (by decide) rfl (fun ls hl => ?_)
  refine lv_aload_n hx hb dX1_isLawful_44 rfl (lv_at hl 1 rfl) ?_
  refine gf_9_0 C hP w_154 dX1_isLawful_45 ?_
  refine lv_iload_n hx hb dX1_isLawful_48 rfl (lv_at hl 2 rfl) ?_
  refine lv_iconst (v := (0 : Int32)) hx hb dX1_isLawful_49 (by decide) ?_
  obtain ⟨v_1, σ_2, hc_3, h⟩ := kb_ok h
  refine kci (krunV (As := [.int x1, .int (0 : Int32)]) C hP (c_X2_numberOf E C.1 F σ x1 (0 : Int32) hc_3) w_462 kv_X2_numberOf ⟨Nat.le_of_ble_eq_true rfl, Nat.le_of_ble_eq_true rfl⟩ (rc_6 C hP) rfl hl.1 rfl (Nat.le_of_ble_eq_true rfl) dX1_isLawful_50) hS (fun H locs hP hS => ?_)
  by_cases c_4 : v_1 = (0 : Int32)
  · have h := k_t c_4 h
    refine lv_tableIn (off := 31) (tgt := 84) hx hb dX1_isLawful_53 (by rw [c_4]; decide) (by rw [c_4]; decide) (by rw [c_4]; rfl) (by decide) ?_
    refine lv_iload hx hb dX1_isLawful_84 (lv_at hl 0 rfl) ?_
    obtain ⟨n_5, h⟩ := k_yes h
    obtain ⟨rfl, rfl⟩ := k_inj h
    exact krz C hS hP n_5 dX1_isLawful_86
  · have h := k_f c_4 h
    by_cases c_6 : v_1 = (1 : Int32)
    · have h := k_t c_6 h
      refine lv_tableIn (off := 34) (tgt := 87) hx hb dX1_isLawful_53 (by rw [c_6]; decide) (by rw [c_6]; decide) (by rw [c_6]; rfl) (by decide) ?_
      refine lv_iload hx hb dX1_isLawful_87 (lv_at hl 0 rfl) ?_
      refine lv_if_eq (tgt := 113) hx hb dX1_isLawful_89 (by decide) (fun c_7 => ?_) (fun c_7 => ?_)
      · have h := k_t c_7 h
        refine lv_iconst (v := (0 : Int32)) hx hb dX1_isLawful_113 (by decide) ?_
        obtain ⟨rfl, rfl⟩ := k_inj h
        exact krz C hS hP (by decide) dX1_isLawful_114
      · have h := k_f c_7 h
        refine lv_aload_n hx hb dX1_isLawful_92 rfl (lv_at hl 1 rfl) ?_
        refine lv_lload_n hx hb dX1_isLawful_93 rfl (lv_at hl 3 rfl) ?_
        obtain ⟨v_8, σ_9, hc_10, h⟩ := kb_ok h
        refine kci (krunV (As := [.long x2]) C hP (c_X1_stretchFrom E C.1 F σ_2 x2 hc_10) w_431 kv_X1_stretchFrom ⟨Nat.le_of_ble_eq_true rfl, Nat.le_of_ble_eq_true rfl⟩ (rc_9 C hP) rfl hl.1 rfl (Nat.le_of_ble_eq_true rfl) dX1_isLawful_94) hS (fun H locs hP hS => ?_)
        refine lv_aload_n hx hb dX1_isLawful_97 rfl (lv_at hl 1 rfl) ?_
        refine gf_9_0 C hP w_154 dX1_isLawful_98 ?_
        refine lv_iload_n hx hb dX1_isLawful_101 rfl (lv_at hl 2 rfl) ?_
        refine lv_iconst (v := (2 : Int32)) hx hb dX1_isLawful_102 (by decide) ?_
        obtain ⟨v_11, σ_12, hc_13, h⟩ := kb_ok h
        refine kci (krunV (As := [.int x1, .int (2 : Int32)]) C hP (c_X2_numberOf E C.1 F σ_9 x1 (2 : Int32) hc_13) w_462 kv_X2_numberOf ⟨Nat.le_of_ble_eq_true rfl, Nat.le_of_ble_eq_true rfl⟩ (rc_6 C hP) rfl hl.1 rfl (Nat.le_of_ble_eq_true rfl) dX1_isLawful_103) hS (fun H locs hP hS => ?_)
        refine lv_icmp_lt (tgt := 113) hx hb dX1_isLawful_106 (by decide) (fun c_14 => ?_) (fun c_14 => ?_)
        · have h := k_t c_14 h
          refine lv_iconst (v := (0 : Int32)) hx hb dX1_isLawful_113 (by decide) ?_
          obtain ⟨rfl, rfl⟩ := k_inj h
          exact krz C hS hP (by decide) dX1_isLawful_114
        · have h := k_f c_14 h
          refine lv_iconst (v := (1 : Int32)) hx hb dX1_isLawful_109 (by decide) ?_
          refine lv_goto (tgt := 114) hx hb dX1_isLawful_110 (by decide) ?_
          obtain ⟨rfl, rfl⟩ := k_inj h
          exact krz C hS hP (by decide) dX1_isLawful_114
    · have h := k_f c_6 h
      by_cases c_15 : v_1 = (2 : Int32)
      · have h := k_t c_15 h
        refine lv_tableIn (off := 31) (tgt := 84) hx hb dX1_isLawful_53 (by rw [c_15]; decide) (by rw [c_15]; decide) (by rw [c_15]; rfl) (by decide) ?_
        refine lv_iload hx hb dX1_isLawful_84 (lv_at hl 0 rfl) ?_
        obtain ⟨n_16, h⟩ := k_yes h
        obtain ⟨rfl, rfl⟩ := k_inj h
        exact krz C hS hP n_16 dX1_isLawful_86
      · have h := k_f c_15 h
        by_cases c_17 : v_1 = (3 : Int32)
        · have h := k_t c_17 h
          refine lv_tableIn (off := 62) (tgt := 115) hx hb dX1_isLawful_53 (by rw [c_17]; decide) (by rw [c_17]; decide) (by rw [c_17]; rfl) (by decide) ?_
          refine lv_iload hx hb dX1_isLawful_115 (lv_at hl 4 rfl) ?_
          refine lv_iconst (v := (3 : Int32)) hx hb dX1_isLawful_117 (by decide) ?_
          refine lv_icmp_ne (tgt := 131) hx hb dX1_isLawful_118 (by decide) (fun c_18 => ?_) (fun c_18 => ?_)
          · have h := k_f c_18 h
            refine lv_iconst (v := (0 : Int32)) hx hb dX1_isLawful_131 (by decide) ?_
            obtain ⟨rfl, rfl⟩ := k_inj h
            exact krz C hS hP (by decide) dX1_isLawful_132
          · have h := k_t c_18 h
            refine lv_iload hx hb dX1_isLawful_121 (lv_at hl 5 rfl) ?_
            refine lv_iconst (v := (2 : Int32)) hx hb dX1_isLawful_123 (by decide) ?_
            refine lv_icmp_eq (tgt := 131) hx hb dX1_isLawful_124 (by decide) (fun c_19 => ?_) (fun c_19 => ?_)
            · have h := k_t c_19 h
              refine lv_iconst (v := (0 : Int32)) hx hb dX1_isLawful_131 (by decide) ?_
              obtain ⟨rfl, rfl⟩ := k_inj h
              exact krz C hS hP (by decide) dX1_isLawful_132
            · have h := k_f c_19 h
              refine lv_iconst (v := (1 : Int32)) hx hb dX1_isLawful_127 (by decide) ?_
              refine lv_goto (tgt := 132) hx hb dX1_isLawful_128 (by decide) ?_
              obtain ⟨rfl, rfl⟩ := k_inj h
              exact krz C hS hP (by decide) dX1_isLawful_132
        · have h := k_f c_17 h
          have tc_4 : ¬ v_1.toInt = 0 := lv_neT c_4 (by decide)
          have tc_6 : ¬ v_1.toInt = 1 := lv_neT c_6 (by decide)
          have tc_15 : ¬ v_1.toInt = 2 := lv_neT c_15 (by decide)
          have tc_17 : ¬ v_1.toInt = 3 := lv_neT c_17 (by decide)
          refine lv_tableOut (tgt := 133) hx hb dX1_isLawful_53 (by omega) (by decide) ?_
          refine lv_iload hx hb dX1_isLawful_133 (lv_at hl 4 rfl) ?_
          refine lv_if_eq (tgt := 148) hx hb dX1_isLawful_135 (by decide) (fun c_20 => ?_) (fun c_20 => ?_)
          · have h := k_t c_20 h
            refine lv_iconst (v := (0 : Int32)) hx hb dX1_isLawful_148 (by decide) ?_
            obtain ⟨rfl, rfl⟩ := k_inj h
            exact krz C hS hP (by decide) dX1_isLawful_149
          · have h := k_f c_20 h
            refine lv_iload hx hb dX1_isLawful_138 (lv_at hl 5 rfl) ?_
            refine lv_iconst (v := (2 : Int32)) hx hb dX1_isLawful_140 (by decide) ?_
            refine lv_icmp_ne (tgt := 148) hx hb dX1_isLawful_141 (by decide) (fun c_21 => ?_) (fun c_21 => ?_)
            · have h := k_f c_21 h
              refine lv_iconst (v := (0 : Int32)) hx hb dX1_isLawful_148 (by decide) ?_
              obtain ⟨rfl, rfl⟩ := k_inj h
              exact krz C hS hP (by decide) dX1_isLawful_149
            · have h := k_t c_21 h
              refine lv_iconst (v := (1 : Int32)) hx hb dX1_isLawful_144 (by decide) ?_
              refine lv_goto (tgt := 149) hx hb dX1_isLawful_145 (by decide) ?_
              obtain ⟨rfl, rfl⟩ := k_inj h
              exact krz C hS hP (by decide) dX1_isLawful_149
def s_X1_isLawful_41 (F : Nat) (σ : kS) (x1 : Int32) (x2 : Int64) (x4 : Int32) (x5 : Int32) : Option (Int32 × kS) :=
  s_X1_isLawful_42 F σ x1 x2 x4 x5 (0 : Int32)
set_option maxRecDepth 100000 in
set_option maxHeartbeats 4000000 in
theorem w_X1_isLawful_41 (C : Cx E p s m args meth c cX1_isLawful 7 RX1 (some .boolean)) (F : Nat) (σ : kS) (x1 : Int32) (x2 : Int64) (x4 : Int32) (x5 : Int32) (h : s_X1_isLawful_41 F σ x1 x2 x4 x5 = some (r, σr)) (H : Heap) (locs : List Loc) (hP : cP E σ H) (hS : va_S (inC E) s.heap H locs) (ls : Array Slot) (hl : lv_has ls 7 [(0, .ref (eA E 9)), (1, .int x1), (2, .long x2), (4, .int x4), (5, .int x5)]) : W p l e (kR 4 96) s m args below meth c H locs 0 0 (MQ below (kQi (cP E) (inC E) r σr) args s 0 0 (inC E)) (F0 m 41 ls []) := by
  obtain ⟨-, hx, hb, hml, hown, hts, hK, -, -⟩ := id C
  unfold s_X1_isLawful_41 at h
  refine lv_iconst (v := (0 : Int32)) hx hb dX1_isLawful_41 (by decide) ?_
  exact w_X1_isLawful_42 C F σ x1 x2 x4 x5 (0 : Int32) h H locs hP hS ls hl
def s_X1_isLawful_0 (F : Nat) (σ : kS) (x1 : Int32) (x2 : Int64) : Option (Int32 × kS) :=
  (kb (f_X7_lawOf F σ (kI σ 18) x1) fun v_1 σ_2 => (kb (f_X1_rulerAt F σ_2 x2) fun v_4 σ_5 => (if v_4 = (2 : Int32) then s_X1_isLawful_41 F σ_5 x1 x2 v_1 v_4 else (if ((v_1 >>> (v_4 &&& 31)) &&& (1 : Int32)) = (1 : Int32) then s_X1_isLawful_42 F σ_5 x1 x2 v_1 v_4 (1 : Int32) else s_X1_isLawful_41 F σ_5 x1 x2 v_1 v_4))))
set_option maxRecDepth 100000 in
set_option maxHeartbeats 4000000 in
theorem w_X1_isLawful_0 (C : Cx E p s m args meth c cX1_isLawful 7 RX1 (some .boolean)) (F : Nat) (σ : kS) (x1 : Int32) (x2 : Int64) (h : s_X1_isLawful_0 F σ x1 x2 = some (r, σr)) (H : Heap) (locs : List Loc) (hP : cP E σ H) (hS : va_S (inC E) s.heap H locs) (ls : Array Slot) (hl : lv_has ls 7 [(0, .ref (eA E 9)), (1, .int x1), (2, .long x2)]) : W p l e (kR 4 96) s m args below meth c H locs 0 0 (MQ below (kQi (cP E) (inC E) r σr) args s 0 0 (inC E)) (F0 m 0 ls []) := by
  obtain ⟨-, hx, hb, hml, hown, hts, hK, -, -⟩ := id C
  unfold s_X1_isLawful_0 at h
  refine lv_aload_n hx hb dX1_isLawful_0 rfl (lv_at hl 0 rfl) ?_
  refine gf_9_1 C hP w_155 dX1_isLawful_1 ?_
  refine gf_8_4 C hP (v := (kI σ 18)) rfl w_136 dX1_isLawful_4 ?_
  refine lv_iload_n hx hb dX1_isLawful_7 rfl (lv_at hl 1 rfl) ?_
  obtain ⟨v_1, σ_2, hc_3, h⟩ := kb_ok h
  refine kci (krunN (As := [.int (kI σ 18), .int x1]) C hP (c_X7_lawOf E C.1 F σ (kI σ 18) x1 hc_3) (fun g => g.2.1) kt_X7_lawOf ⟨Nat.le_of_ble_eq_true rfl, Nat.le_of_ble_eq_true rfl⟩ rfl hl.1 rfl (Nat.le_of_ble_eq_true rfl) dX1_isLawful_8) hS (fun H locs hP hS => ?_)
  refine lv_istore (lv' := [(4, .int v_1), (0, .ref (eA E 9)), (1, .int x1), (2, .long x2)]) hx hb dX1_isLawful_11 hl (by decide) rfl (fun ls hl => ?_)
  refine lv_aload_n hx hb dX1_isLawful_13 rfl (lv_at hl 1 rfl) ?_
  refine lv_lload_n hx hb dX1_isLawful_14 rfl (lv_at hl 3 rfl) ?_
  obtain ⟨v_4, σ_5, hc_6, h⟩ := kb_ok h
  refine kci (krunV (As := [.long x2]) C hP (c_X1_rulerAt E C.1 F σ_2 x2 hc_6) w_441 kv_X1_rulerAt ⟨Nat.le_of_ble_eq_true rfl, Nat.le_of_ble_eq_true rfl⟩ (rc_9 C hP) rfl hl.1 rfl (Nat.le_of_ble_eq_true rfl) dX1_isLawful_15) hS (fun H locs hP hS => ?_)
  refine lv_istore (lv' := [(5, .int v_4), (4, .int v_1), (0, .ref (eA E 9)), (1, .int x1), (2, .long x2)]) hx hb dX1_isLawful_18 hl (by decide) rfl (fun ls hl => ?_)
  refine lv_iload hx hb dX1_isLawful_20 (lv_at hl 0 rfl) ?_
  refine lv_iconst (v := (2 : Int32)) hx hb dX1_isLawful_22 (by decide) ?_
  refine lv_icmp_eq (tgt := 41) hx hb dX1_isLawful_23 (by decide) (fun c_7 => ?_) (fun c_7 => ?_)
  · have h := k_t c_7 h
    exact w_X1_isLawful_41 C F σ_5 x1 x2 v_1 v_4 h H locs hP hS ls (lv_sub hl [2, 3, 4, 1, 0] rfl)
  · have h := k_f c_7 h
    refine lv_iload hx hb dX1_isLawful_26 (lv_at hl 1 rfl) ?_
    refine lv_iload hx hb dX1_isLawful_28 (lv_at hl 0 rfl) ?_
    refine lv_ishr hx hb dX1_isLawful_30 ?_
    refine lv_iconst (v := (1 : Int32)) hx hb dX1_isLawful_31 (by decide) ?_
    refine lv_iand hx hb dX1_isLawful_32 ?_
    refine lv_iconst (v := (1 : Int32)) hx hb dX1_isLawful_33 (by decide) ?_
    refine lv_icmp_ne (tgt := 41) hx hb dX1_isLawful_34 (by decide) (fun c_8 => ?_) (fun c_8 => ?_)
    · have h := k_f c_8 h
      exact w_X1_isLawful_41 C F σ_5 x1 x2 v_1 v_4 h H locs hP hS ls (lv_sub hl [2, 3, 4, 1, 0] rfl)
    · have h := k_t c_8 h
      refine lv_iconst (v := (1 : Int32)) hx hb dX1_isLawful_37 (by decide) ?_
      refine lv_goto (tgt := 42) hx hb dX1_isLawful_38 (by decide) ?_
      exact w_X1_isLawful_42 C F σ_5 x1 x2 v_1 v_4 (1 : Int32) h H locs hP hS ls (lv_sub hl [2, 3, 4, 1, 0] rfl)
def f_X1_isLawful (F : Nat) (σ : kS) (x1 : Int32) (x2 : Int64) : Option (Int32 × kS) := s_X1_isLawful_0 F σ x1 x2
set_option maxRecDepth 100000 in
theorem c_X1_isLawful (E : kE) (hE : kap E) (F : Nat) (σ : kS) (x1 : Int32) (x2 : Int64) (h : f_X1_isLawful F σ x1 x2 = some (r, σr)) : Met l yX1_isLawful (kWs yX1_isLawful cX1_isLawful 7 (some .boolean)) (kR 4 96) (kPre (cP E) E [.ref (eA E 9), .int x1, .long x2] σ) (kQi (cP E) (inC E) r σr) 0 0 (inC E) :=
  kst hE (by decide +kernel) (Nat.le_of_ble_eq_true rfl) (fun p e s m below meth c ls C hP hl => w_X1_isLawful_0 C F σ x1 x2 h s.heap [] hP va_S.rf ls hl)
end

section
variable {p : Program} {l : Launch} {e : Env} {s : State} {m : MethodId} {args : Array Value} {below : List Frame} {meth : Method} {c : Code} {E : kE} {σr : kS}
variable {r : Int32}
def s_X7_lawful_0 (F : Nat) (σ : kS) (x1 : Int32) (x2 : Int64) : Option (Int32 × kS) :=
  (kb (f_X7_isAct F σ x1) fun v_1 σ_2 => (if v_1 = 0 then some ((-1 : Int32), σ_2) else (kb (f_X7_isMinute F σ_2 x2) fun v_5 σ_6 => (if v_5 = 0 then some ((-1 : Int32), σ_6) else (kb (f_X1_isLawful F σ_6 x1 x2) fun v_9 σ_10 => (if v_9 = 0 then some ((0 : Int32), σ_10) else some ((1 : Int32), σ_10)))))))
set_option maxRecDepth 100000 in
set_option maxHeartbeats 4000000 in
theorem w_X7_lawful_0 (C : Cx E p s m args meth c cX7_lawful 4 RX7 (some .int)) (F : Nat) (σ : kS) (x1 : Int32) (x2 : Int64) (h : s_X7_lawful_0 F σ x1 x2 = some (r, σr)) (H : Heap) (locs : List Loc) (hP : cP E σ H) (hS : va_S (inC E) s.heap H locs) (ls : Array Slot) (hl : lv_has ls 4 [(0, .ref (eA E 0)), (1, .int x1), (2, .long x2)]) : W p l e (kR 5 122) s m args below meth c H locs 0 0 (MQ below (kQi (cP E) (inC E) r σr) args s 0 0 (inC E)) (F0 m 0 ls []) := by
  obtain ⟨-, hx, hb, hml, hown, hts, hK, -, -⟩ := id C
  unfold s_X7_lawful_0 at h
  refine lv_aload_n hx hb dX7_lawful_0 rfl (lv_at hl 0 rfl) ?_
  refine lv_iload_n hx hb dX7_lawful_1 rfl (lv_at hl 1 rfl) ?_
  obtain ⟨v_1, σ_2, hc_3, h⟩ := kb_ok h
  refine kci (krunV (As := [.int x1]) C hP (c_X7_isAct E C.1 F σ x1 hc_3) w_361 kv_X7_isAct ⟨Nat.le_of_ble_eq_true rfl, Nat.le_of_ble_eq_true rfl⟩ (rc_0 C hP) rfl hl.1 rfl (Nat.le_of_ble_eq_true rfl) dX7_lawful_2) hS (fun H locs hP hS => ?_)
  refine lv_if_eq (tgt := 15) hx hb dX7_lawful_5 (by decide) (fun c_4 => ?_) (fun c_4 => ?_)
  · have h := k_t c_4 h
    refine lv_iconst (v := (-1 : Int32)) hx hb dX7_lawful_15 (by decide) ?_
    obtain ⟨rfl, rfl⟩ := k_inj h
    exact kri C hS hP dX7_lawful_16
  · have h := k_f c_4 h
    refine lv_lload_n hx hb dX7_lawful_8 rfl (lv_at hl 2 rfl) ?_
    obtain ⟨v_5, σ_6, hc_7, h⟩ := kb_ok h
    refine kci (krunS (As := [.long x2]) C hP (c_X7_isMinute E C.1 F σ_2 x2 hc_7) w_377 kt_X7_isMinute ⟨Nat.le_of_ble_eq_true rfl, Nat.le_of_ble_eq_true rfl⟩ rfl hl.1 rfl (Nat.le_of_ble_eq_true rfl) dX7_lawful_9) hS (fun H locs hP hS => ?_)
    refine lv_if_ne (tgt := 17) hx hb dX7_lawful_12 (by decide) (fun c_8 => ?_) (fun c_8 => ?_)
    · have h := k_f c_8 h
      refine lv_aload_n hx hb dX7_lawful_17 rfl (lv_at hl 0 rfl) ?_
      refine gf_0_4 C hP w_253 dX7_lawful_18 ?_
      refine lv_iload_n hx hb dX7_lawful_21 rfl (lv_at hl 1 rfl) ?_
      refine lv_lload_n hx hb dX7_lawful_22 rfl (lv_at hl 2 rfl) ?_
      obtain ⟨v_9, σ_10, hc_11, h⟩ := kb_ok h
      refine kci (krunV (As := [.int x1, .long x2]) C hP (c_X1_isLawful E C.1 F σ_6 x1 x2 hc_11) w_457 kv_X1_isLawful ⟨Nat.le_of_ble_eq_true rfl, Nat.le_of_ble_eq_true rfl⟩ (rc_9 C hP) rfl hl.1 rfl (Nat.le_of_ble_eq_true rfl) dX7_lawful_23) hS (fun H locs hP hS => ?_)
      refine lv_if_eq (tgt := 33) hx hb dX7_lawful_26 (by decide) (fun c_12 => ?_) (fun c_12 => ?_)
      · have h := k_t c_12 h
        refine lv_iconst (v := (0 : Int32)) hx hb dX7_lawful_33 (by decide) ?_
        obtain ⟨rfl, rfl⟩ := k_inj h
        exact kri C hS hP dX7_lawful_34
      · have h := k_f c_12 h
        refine lv_iconst (v := (1 : Int32)) hx hb dX7_lawful_29 (by decide) ?_
        refine lv_goto (tgt := 34) hx hb dX7_lawful_30 (by decide) ?_
        obtain ⟨rfl, rfl⟩ := k_inj h
        exact kri C hS hP dX7_lawful_34
    · have h := k_t c_8 h
      refine lv_iconst (v := (-1 : Int32)) hx hb dX7_lawful_15 (by decide) ?_
      obtain ⟨rfl, rfl⟩ := k_inj h
      exact kri C hS hP dX7_lawful_16
def f_X7_lawful (F : Nat) (σ : kS) (x1 : Int32) (x2 : Int64) : Option (Int32 × kS) := s_X7_lawful_0 F σ x1 x2
set_option maxRecDepth 100000 in
theorem c_X7_lawful (E : kE) (hE : kap E) (F : Nat) (σ : kS) (x1 : Int32) (x2 : Int64) (h : f_X7_lawful F σ x1 x2 = some (r, σr)) : Met l yX7_lawful (kWs yX7_lawful cX7_lawful 4 (some .int)) (kR 5 122) (kPre (cP E) E [.ref (eA E 0), .int x1, .long x2] σ) (kQi (cP E) (inC E) r σr) 0 0 (inC E) :=
  kst hE (by decide +kernel) (Nat.le_of_ble_eq_true rfl) (fun p e s m below meth c ls C hP hl => w_X7_lawful_0 C F σ x1 x2 h s.heap [] hP va_S.rf ls hl)
end

section
variable {p : Program} {l : Launch} {e : Env} {s : State} {m : MethodId} {args : Array Value} {below : List Frame} {meth : Method} {c : Code} {E : kE} {σr : kS}
variable {r : Int32}
def s_X7_tell_0 (F : Nat) (σ : kS) (x1 : Int32) : Option (Int32 × kS) :=
  (kb (f_X7_isAct F σ x1) fun v_1 σ_2 => (if v_1 = 0 then some ((-1 : Int32), σ_2) else (if (kI σ_2 26) < 0 then some ((-3 : Int32), σ_2) else (if (kI σ_2 26) < (8 : Int32) then (if (kI σ_2 26) < 0 ∨ 8 ≤ (kI σ_2 26).toNatClampNeg then none else some (((kI σ_2 26) + (1 : Int32)), (jI (jA σ_2 14 (kI σ_2 26).toNatClampNeg x1) 26 ((kI σ_2 26) + (1 : Int32))))) else some ((-3 : Int32), σ_2)))))
set_option maxRecDepth 100000 in
set_option maxHeartbeats 4000000 in
theorem w_X7_tell_0 (C : Cx E p s m args meth c cX7_tell 2 RX7 (some .int)) (F : Nat) (σ : kS) (x1 : Int32) (h : s_X7_tell_0 F σ x1 = some (r, σr)) (H : Heap) (locs : List Loc) (hP : cP E σ H) (hS : va_S (inC E) s.heap H locs) (ls : Array Slot) (hl : lv_has ls 2 [(0, .ref (eA E 0)), (1, .int x1)]) : W p l e (kR 1 21) s m args below meth c H locs 0 0 (MQ below (kQi (cP E) (inC E) r σr) args s 0 0 (inC E)) (F0 m 0 ls []) := by
  obtain ⟨-, hx, hb, hml, hown, hts, hK, -, -⟩ := id C
  unfold s_X7_tell_0 at h
  refine lv_aload_n hx hb dX7_tell_0 rfl (lv_at hl 0 rfl) ?_
  refine lv_iload_n hx hb dX7_tell_1 rfl (lv_at hl 1 rfl) ?_
  obtain ⟨v_1, σ_2, hc_3, h⟩ := kb_ok h
  refine kci (krunV (As := [.int x1]) C hP (c_X7_isAct E C.1 F σ x1 hc_3) w_361 kv_X7_isAct ⟨Nat.le_of_ble_eq_true rfl, Nat.le_of_ble_eq_true rfl⟩ (rc_0 C hP) rfl hl.1 rfl (Nat.le_of_ble_eq_true rfl) dX7_tell_2) hS (fun H locs hP hS => ?_)
  refine lv_if_ne (tgt := 10) hx hb dX7_tell_5 (by decide) (fun c_4 => ?_) (fun c_4 => ?_)
  · have h := k_f c_4 h
    refine lv_aload_n hx hb dX7_tell_10 rfl (lv_at hl 0 rfl) ?_
    refine gf_0_10 C hP (v := (kI σ_2 26)) rfl w_259 dX7_tell_11 ?_
    refine lv_if_lt (tgt := 29) hx hb dX7_tell_14 (by decide) (fun c_5 => ?_) (fun c_5 => ?_)
    · have h := k_t c_5 h
      refine lv_bipush (v := (-3 : Int32)) hx hb dX7_tell_29 (by decide) ?_
      obtain ⟨rfl, rfl⟩ := k_inj h
      exact kri C hS hP dX7_tell_31
    · have h := k_f c_5 h
      refine lv_aload_n hx hb dX7_tell_17 rfl (lv_at hl 0 rfl) ?_
      refine gf_0_10 C hP (v := (kI σ_2 26)) rfl w_259 dX7_tell_18 ?_
      refine lv_aload_n hx hb dX7_tell_21 rfl (lv_at hl 0 rfl) ?_
      refine gf_0_9 C hP w_258 dX7_tell_22 ?_
      refine an_26 C hP dX7_tell_25 ?_
      refine lv_icmp_lt (tgt := 32) hx hb dX7_tell_26 (by decide) (fun c_6 => ?_) (fun c_6 => ?_)
      · have h := k_t c_6 h
        refine lv_aload_n hx hb dX7_tell_32 rfl (lv_at hl 0 rfl) ?_
        refine gf_0_9 C hP w_258 dX7_tell_33 ?_
        refine lv_aload_n hx hb dX7_tell_36 rfl (lv_at hl 0 rfl) ?_
        refine gf_0_10 C hP (v := (kI σ_2 26)) rfl w_259 dX7_tell_37 ?_
        refine lv_iload_n hx hb dX7_tell_40 rfl (lv_at hl 1 rfl) ?_
        obtain ⟨n_7, h⟩ := k_no h
        refine as_26 C hP hS (σ2 := (jA σ_2 14 (kI σ_2 26).toNatClampNeg x1)) rfl n_7 dX7_tell_41 (fun H locs hP hS => ?_)
        refine lv_aload_n hx hb dX7_tell_42 rfl (lv_at hl 0 rfl) ?_
        refine lv_dup hx hb dX7_tell_43 rfl ?_
        refine gf_0_10 C hP (v := (kI σ_2 26)) rfl w_259 dX7_tell_44 ?_
        refine lv_iconst (v := (1 : Int32)) hx hb dX7_tell_47 (by decide) ?_
        refine lv_iadd hx hb dX7_tell_48 ?_
        refine pf_0_10 C hP hS w_259 dX7_tell_49 (fun H locs hP hS => ?_)
        refine lv_aload_n hx hb dX7_tell_52 rfl (lv_at hl 0 rfl) ?_
        refine gf_0_10 C hP (v := ((kI σ_2 26) + (1 : Int32))) rfl w_259 dX7_tell_53 ?_
        obtain ⟨rfl, rfl⟩ := k_inj h
        exact kri C hS hP dX7_tell_56
      · have h := k_f c_6 h
        refine lv_bipush (v := (-3 : Int32)) hx hb dX7_tell_29 (by decide) ?_
        obtain ⟨rfl, rfl⟩ := k_inj h
        exact kri C hS hP dX7_tell_31
  · have h := k_t c_4 h
    refine lv_iconst (v := (-1 : Int32)) hx hb dX7_tell_8 (by decide) ?_
    obtain ⟨rfl, rfl⟩ := k_inj h
    exact kri C hS hP dX7_tell_9
def f_X7_tell (F : Nat) (σ : kS) (x1 : Int32) : Option (Int32 × kS) := s_X7_tell_0 F σ x1
set_option maxRecDepth 100000 in
theorem c_X7_tell (E : kE) (hE : kap E) (F : Nat) (σ : kS) (x1 : Int32) (h : f_X7_tell F σ x1 = some (r, σr)) : Met l yX7_tell (kWs yX7_tell cX7_tell 2 (some .int)) (kR 1 21) (kPre (cP E) E [.ref (eA E 0), .int x1] σ) (kQi (cP E) (inC E) r σr) 0 0 (inC E) :=
  kst hE (by decide +kernel) (Nat.le_of_ble_eq_true rfl) (fun p e s m below meth c ls C hP hl => w_X7_tell_0 C F σ x1 h s.heap [] hP va_S.rf ls hl)
end

section
variable {p : Program} {l : Launch} {e : Env} {s : State} {m : MethodId} {args : Array Value} {below : List Frame} {meth : Method} {c : Code} {E : kE} {σr : kS}
variable {r : Int32}
def s_X7_noRow_0 (F : Nat) (σ : kS) : Option (Int32 × kS) :=
  some ((kI σ 26), (jI σ 26 (0 : Int32)))
set_option maxRecDepth 100000 in
set_option maxHeartbeats 4000000 in
theorem w_X7_noRow_0 (C : Cx E p s m args meth c cX7_noRow 2 RX7 (some .int)) (F : Nat) (σ : kS) (h : s_X7_noRow_0 F σ = some (r, σr)) (H : Heap) (locs : List Loc) (hP : cP E σ H) (hS : va_S (inC E) s.heap H locs) (ls : Array Slot) (hl : lv_has ls 2 [(0, .ref (eA E 0))]) : W p l e (kR 0 0) s m args below meth c H locs 0 0 (MQ below (kQi (cP E) (inC E) r σr) args s 0 0 (inC E)) (F0 m 0 ls []) := by
  obtain ⟨-, hx, hb, hml, hown, hts, hK, -, -⟩ := id C
  unfold s_X7_noRow_0 at h
  refine lv_aload_n hx hb dX7_noRow_0 rfl (lv_at hl 0 rfl) ?_
  refine gf_0_10 C hP (v := (kI σ 26)) rfl w_259 dX7_noRow_1 ?_
  refine lv_istore_n (lv' := [(1, .int (kI σ 26)), (0, .ref (eA E 0))]) hx hb dX7_noRow_4 rfl hl (by decide) rfl (fun ls hl => ?_)
  refine lv_aload_n hx hb dX7_noRow_5 rfl (lv_at hl 1 rfl) ?_
  refine lv_iconst (v := (0 : Int32)) hx hb dX7_noRow_6 (by decide) ?_
  refine pf_0_10 C hP hS w_259 dX7_noRow_7 (fun H locs hP hS => ?_)
  refine lv_iload_n hx hb dX7_noRow_10 rfl (lv_at hl 0 rfl) ?_
  obtain ⟨rfl, rfl⟩ := k_inj h
  exact kri C hS hP dX7_noRow_11
def f_X7_noRow (F : Nat) (σ : kS) : Option (Int32 × kS) := s_X7_noRow_0 F σ
set_option maxRecDepth 100000 in
theorem c_X7_noRow (E : kE) (hE : kap E) (F : Nat) (σ : kS) (h : f_X7_noRow F σ = some (r, σr)) : Met l yX7_noRow (kWs yX7_noRow cX7_noRow 2 (some .int)) (kR 0 0) (kPre (cP E) E [.ref (eA E 0)] σ) (kQi (cP E) (inC E) r σr) 0 0 (inC E) :=
  kst hE (by decide +kernel) (Nat.le_of_ble_eq_true rfl) (fun p e s m below meth c ls C hP hl => w_X7_noRow_0 C F σ h s.heap [] hP va_S.rf ls hl)
end

section
variable {p : Program} {l : Launch} {e : Env} {s : State} {m : MethodId} {args : Array Value} {below : List Frame} {meth : Method} {c : Code} {E : kE} {σr : kS}
variable {r : Int64}
def s_X1_firstLawful_60 (F : Nat) (rec21 : (kS × Int32 × Int32 × Int64 × Int32 × Int32 → Option (Int64 × kS))) (σ : kS) (x1 : Int32) (x2 : Int32) (x3 : Int64) (x5 : Int32) (x7 : Int32) : Option (Int64 × kS) :=
  (kb (f_X1_stretchFrom F σ (x3 + x7.toInt64)) fun v_1 σ_2 => (kn (x7 + (if (1 : Int32) < v_1 then v_1 else (1 : Int32))) (fun x7_4 => rec21 (σ_2, x1, x2, x3, x5, x7_4))))
set_option maxRecDepth 100000 in
set_option maxHeartbeats 4000000 in
theorem w_X1_firstLawful_60 (C : Cx E p s m args meth c cX1_firstLawful 8 RX1 (some .long)) (F : Nat) (rec21 : (kS × Int32 × Int32 × Int64 × Int32 × Int32 → Option (Int64 × kS))) (hrec21 : ∀ (σ : kS) (x1 : Int32) (x2 : Int32) (x3 : Int64) (x5 : Int32) (x7 : Int32), rec21 (σ, x1, x2, x3, x5, x7) = some (r, σr) → ∀ (H : Heap) (locs : List Loc), cP E σ H → va_S (inC E) s.heap H locs → ∀ (ls : Array Slot), lv_has ls 8 [(0, .ref (eA E 9)), (1, .int x1), (2, .int x2), (3, .long x3), (5, .int x5), (7, .int x7)] → W p l e (kR 5 122) s m args below meth c H locs 0 0 (MQ below (kQl (cP E) (inC E) r σr) args s 0 0 (inC E)) (F0 m 21 ls [])) (σ : kS) (x1 : Int32) (x2 : Int32) (x3 : Int64) (x5 : Int32) (x7 : Int32) (h : s_X1_firstLawful_60 F rec21 σ x1 x2 x3 x5 x7 = some (r, σr)) (H : Heap) (locs : List Loc) (hP : cP E σ H) (hS : va_S (inC E) s.heap H locs) (ls : Array Slot) (hl : lv_has ls 8 [(0, .ref (eA E 9)), (1, .int x1), (2, .int x2), (3, .long x3), (5, .int x5), (7, .int x7)]) : W p l e (kR 5 122) s m args below meth c H locs 0 0 (MQ below (kQl (cP E) (inC E) r σr) args s 0 0 (inC E)) (F0 m 60 ls []) := by
  obtain ⟨-, hx, hb, hml, hown, hts, hK, -, -⟩ := id C
  unfold s_X1_firstLawful_60 at h
  refine lv_aload_n hx hb dX1_firstLawful_60 rfl (lv_at hl 0 rfl) ?_
  refine lv_lload_n hx hb dX1_firstLawful_61 rfl (lv_at hl 3 rfl) ?_
  refine lv_iload hx hb dX1_firstLawful_62 (lv_at hl 5 rfl) ?_
  refine lv_i2l (v := x7.toInt64) hx hb dX1_firstLawful_64 rfl ?_
  refine lv_ladd hx hb dX1_firstLawful_65 ?_
  obtain ⟨v_1, σ_2, hc_3, h⟩ := kb_ok h
  refine kci (krunV (As := [.long (x3 + x7.toInt64)]) C hP (c_X1_stretchFrom E C.1 F σ (x3 + x7.toInt64) hc_3) w_431 kv_X1_stretchFrom ⟨Nat.le_of_ble_eq_true rfl, Nat.le_of_ble_eq_true rfl⟩ (rc_9 C hP) rfl hl.1 rfl (Nat.le_of_ble_eq_true rfl) dX1_firstLawful_66) hS (fun H locs hP hS => ?_)
  refine lv_istore (lv' := [(6, .int v_1), (0, .ref (eA E 9)), (1, .int x1), (2, .int x2), (3, .long x3), (5, .int x5), (7, .int x7)]) hx hb dX1_firstLawful_69 hl (by decide) rfl (fun ls hl => ?_)
  refine lv_iload hx hb dX1_firstLawful_71 (lv_at hl 6 rfl) ?_
  refine lv_iconst (v := (1 : Int32)) hx hb dX1_firstLawful_73 (by decide) ?_
  refine lv_iload hx hb dX1_firstLawful_74 (lv_at hl 0 rfl) ?_
  refine kmax C hl.1 w_442 (Nat.le_of_ble_eq_true rfl) (Nat.le_of_ble_eq_true rfl) dX1_firstLawful_76 ?_
  refine lv_iadd hx hb dX1_firstLawful_79 ?_
  refine lv_topi (fun x7_4 ex7_4 => ?_)
  have h := kn_to ex7_4 h
  refine lv_istore (lv' := [(7, .int x7_4), (6, .int v_1), (0, .ref (eA E 9)), (1, .int x1), (2, .int x2), (3, .long x3), (5, .int x5)]) hx hb dX1_firstLawful_80 hl (by decide) rfl (fun ls hl => ?_)
  refine lv_goto (tgt := 21) hx hb dX1_firstLawful_82 (by decide) ?_
  exact hrec21 σ_2 x1 x2 x3 x5 x7_4 h H locs hP hS ls (lv_sub hl [2, 3, 4, 5, 6, 0] rfl)
def s_X1_firstLawful_21 (F : Nat) (rec21 : (kS × Int32 × Int32 × Int64 × Int32 × Int32 → Option (Int64 × kS))) (σ : kS) (x1 : Int32) (x2 : Int32) (x3 : Int64) (x5 : Int32) (x7 : Int32) : Option (Int64 × kS) :=
  (if x5 < x7 then some ((-4 : Int64), σ) else (kb (f_X1_isLawful F σ x1 (x3 + x7.toInt64)) fun v_2 σ_3 => (if v_2 = 0 then s_X1_firstLawful_60 F rec21 σ_3 x1 x2 x3 x5 x7 else (kb (f_X1_isLawful F σ_3 x2 (x3 + x7.toInt64)) fun v_6 σ_7 => (if v_6 = 0 then s_X1_firstLawful_60 F rec21 σ_7 x1 x2 x3 x5 x7 else some ((x3 + x7.toInt64), σ_7))))))
set_option maxRecDepth 100000 in
set_option maxHeartbeats 4000000 in
theorem w_X1_firstLawful_21 (C : Cx E p s m args meth c cX1_firstLawful 8 RX1 (some .long)) (F : Nat) (rec21 : (kS × Int32 × Int32 × Int64 × Int32 × Int32 → Option (Int64 × kS))) (hrec21 : ∀ (σ : kS) (x1 : Int32) (x2 : Int32) (x3 : Int64) (x5 : Int32) (x7 : Int32), rec21 (σ, x1, x2, x3, x5, x7) = some (r, σr) → ∀ (H : Heap) (locs : List Loc), cP E σ H → va_S (inC E) s.heap H locs → ∀ (ls : Array Slot), lv_has ls 8 [(0, .ref (eA E 9)), (1, .int x1), (2, .int x2), (3, .long x3), (5, .int x5), (7, .int x7)] → W p l e (kR 5 122) s m args below meth c H locs 0 0 (MQ below (kQl (cP E) (inC E) r σr) args s 0 0 (inC E)) (F0 m 21 ls [])) (σ : kS) (x1 : Int32) (x2 : Int32) (x3 : Int64) (x5 : Int32) (x7 : Int32) (h : s_X1_firstLawful_21 F rec21 σ x1 x2 x3 x5 x7 = some (r, σr)) (H : Heap) (locs : List Loc) (hP : cP E σ H) (hS : va_S (inC E) s.heap H locs) (ls : Array Slot) (hl : lv_has ls 8 [(0, .ref (eA E 9)), (1, .int x1), (2, .int x2), (3, .long x3), (5, .int x5), (7, .int x7)]) : W p l e (kR 5 122) s m args below meth c H locs 0 0 (MQ below (kQl (cP E) (inC E) r σr) args s 0 0 (inC E)) (F0 m 21 ls []) := by
  obtain ⟨-, hx, hb, hml, hown, hts, hK, -, -⟩ := id C
  unfold s_X1_firstLawful_21 at h
  refine lv_iload hx hb dX1_firstLawful_21 (lv_at hl 5 rfl) ?_
  refine lv_iload hx hb dX1_firstLawful_23 (lv_at hl 4 rfl) ?_
  refine lv_icmp_gt (tgt := 85) hx hb dX1_firstLawful_25 (by decide) (fun c_1 => ?_) (fun c_1 => ?_)
  · have h := k_t c_1 h
    refine lv_ldc2 (v := (-4 : Int64)) hx hb hown (hts _ w_452) dX1_firstLawful_85 ?_
    obtain ⟨rfl, rfl⟩ := k_inj h
    exact krl C hS hP dX1_firstLawful_88
  · have h := k_f c_1 h
    refine lv_aload_n hx hb dX1_firstLawful_28 rfl (lv_at hl 0 rfl) ?_
    refine lv_iload_n hx hb dX1_firstLawful_29 rfl (lv_at hl 1 rfl) ?_
    refine lv_lload_n hx hb dX1_firstLawful_30 rfl (lv_at hl 3 rfl) ?_
    refine lv_iload hx hb dX1_firstLawful_31 (lv_at hl 5 rfl) ?_
    refine lv_i2l (v := x7.toInt64) hx hb dX1_firstLawful_33 rfl ?_
    refine lv_ladd hx hb dX1_firstLawful_34 ?_
    obtain ⟨v_2, σ_3, hc_4, h⟩ := kb_ok h
    refine kci (krunV (As := [.int x1, .long (x3 + x7.toInt64)]) C hP (c_X1_isLawful E C.1 F σ x1 (x3 + x7.toInt64) hc_4) w_479 kv_X1_isLawful ⟨Nat.le_of_ble_eq_true rfl, Nat.le_of_ble_eq_true rfl⟩ (rc_9 C hP) rfl hl.1 rfl (Nat.le_of_ble_eq_true rfl) dX1_firstLawful_35) hS (fun H locs hP hS => ?_)
    refine lv_if_eq (tgt := 60) hx hb dX1_firstLawful_38 (by decide) (fun c_5 => ?_) (fun c_5 => ?_)
    · have h := k_t c_5 h
      exact w_X1_firstLawful_60 C F rec21 hrec21 σ_3 x1 x2 x3 x5 x7 h H locs hP hS ls hl
    · have h := k_f c_5 h
      refine lv_aload_n hx hb dX1_firstLawful_41 rfl (lv_at hl 0 rfl) ?_
      refine lv_iload_n hx hb dX1_firstLawful_42 rfl (lv_at hl 2 rfl) ?_
      refine lv_lload_n hx hb dX1_firstLawful_43 rfl (lv_at hl 3 rfl) ?_
      refine lv_iload hx hb dX1_firstLawful_44 (lv_at hl 5 rfl) ?_
      refine lv_i2l (v := x7.toInt64) hx hb dX1_firstLawful_46 rfl ?_
      refine lv_ladd hx hb dX1_firstLawful_47 ?_
      obtain ⟨v_6, σ_7, hc_8, h⟩ := kb_ok h
      refine kci (krunV (As := [.int x2, .long (x3 + x7.toInt64)]) C hP (c_X1_isLawful E C.1 F σ_3 x2 (x3 + x7.toInt64) hc_8) w_479 kv_X1_isLawful ⟨Nat.le_of_ble_eq_true rfl, Nat.le_of_ble_eq_true rfl⟩ (rc_9 C hP) rfl hl.1 rfl (Nat.le_of_ble_eq_true rfl) dX1_firstLawful_48) hS (fun H locs hP hS => ?_)
      refine lv_if_eq (tgt := 60) hx hb dX1_firstLawful_51 (by decide) (fun c_9 => ?_) (fun c_9 => ?_)
      · have h := k_t c_9 h
        exact w_X1_firstLawful_60 C F rec21 hrec21 σ_7 x1 x2 x3 x5 x7 h H locs hP hS ls hl
      · have h := k_f c_9 h
        refine lv_lload_n hx hb dX1_firstLawful_54 rfl (lv_at hl 3 rfl) ?_
        refine lv_iload hx hb dX1_firstLawful_55 (lv_at hl 5 rfl) ?_
        refine lv_i2l (v := x7.toInt64) hx hb dX1_firstLawful_57 rfl ?_
        refine lv_ladd hx hb dX1_firstLawful_58 ?_
        obtain ⟨rfl, rfl⟩ := k_inj h
        exact krl C hS hP dX1_firstLawful_59
def f_X1_firstLawful_21 (F : Nat) : kS × Int32 × Int32 × Int64 × Int32 × Int32 → Option (Int64 × kS) := itr (fun rec21 q => s_X1_firstLawful_21 F rec21 q.1 q.2.1 q.2.2.1 q.2.2.2.1 q.2.2.2.2.1 q.2.2.2.2.2) F
theorem wf_X1_firstLawful_21 (C : Cx E p s m args meth c cX1_firstLawful 8 RX1 (some .long)) (F : Nat) (σ : kS) (x1 : Int32) (x2 : Int32) (x3 : Int64) (x5 : Int32) (x7 : Int32) (h : f_X1_firstLawful_21 F (σ, x1, x2, x3, x5, x7) = some (r, σr)) (H : Heap) (locs : List Loc) (hP : cP E σ H) (hS : va_S (inC E) s.heap H locs) (ls : Array Slot) (hl : lv_has ls 8 [(0, .ref (eA E 9)), (1, .int x1), (2, .int x2), (3, .long x3), (5, .int x5), (7, .int x7)]) : W p l e (kR 5 122) s m args below meth c H locs 0 0 (MQ below (kQl (cP E) (inC E) r σr) args s 0 0 (inC E)) (F0 m 21 ls []) :=
  itr_ok (r := (r, σr)) (G := fun q => ∀ (H : Heap) (locs : List Loc), cP E q.1 H → va_S (inC E) s.heap H locs → ∀ (ls : Array Slot), lv_has ls 8 [(0, .ref (eA E 9)), (1, .int (q.2.1)), (2, .int (q.2.2.1)), (3, .long (q.2.2.2.1)), (5, .int (q.2.2.2.2.1)), (7, .int (q.2.2.2.2.2))] → W p l e (kR 5 122) s m args below meth c H locs 0 0 (MQ below (kQl (cP E) (inC E) r σr) args s 0 0 (inC E)) (F0 m 21 ls [])) (fun rec21 hrec21 q h => w_X1_firstLawful_21 C F rec21 (fun σ x1 x2 x3 x5 x7 => hrec21 (σ, x1, x2, x3, x5, x7)) q.1 q.2.1 q.2.2.1 q.2.2.2.1 q.2.2.2.2.1 q.2.2.2.2.2 h) F (σ, x1, x2, x3, x5, x7) h H locs hP hS ls hl
def s_X1_firstLawful_0 (F : Nat) (σ : kS) (x1 : Int32) (x2 : Int32) (x3 : Int64) : Option (Int64 × kS) :=
  (kb (f_X2_minutesOfRound F σ) fun v_1 σ_2 => (kn (if v_1 < (5000 : Int32) then v_1 else (5000 : Int32)) (fun x5_4 => f_X1_firstLawful_21 F (σ_2, x1, x2, x3, x5_4, (0 : Int32)))))
set_option maxRecDepth 100000 in
set_option maxHeartbeats 4000000 in
theorem w_X1_firstLawful_0 (C : Cx E p s m args meth c cX1_firstLawful 8 RX1 (some .long)) (F : Nat) (σ : kS) (x1 : Int32) (x2 : Int32) (x3 : Int64) (h : s_X1_firstLawful_0 F σ x1 x2 x3 = some (r, σr)) (H : Heap) (locs : List Loc) (hP : cP E σ H) (hS : va_S (inC E) s.heap H locs) (ls : Array Slot) (hl : lv_has ls 8 [(0, .ref (eA E 9)), (1, .int x1), (2, .int x2), (3, .long x3)]) : W p l e (kR 5 122) s m args below meth c H locs 0 0 (MQ below (kQl (cP E) (inC E) r σr) args s 0 0 (inC E)) (F0 m 0 ls []) := by
  obtain ⟨-, hx, hb, hml, hown, hts, hK, -, -⟩ := id C
  unfold s_X1_firstLawful_0 at h
  refine lv_sipush (v := (5000 : Int32)) hx hb dX1_firstLawful_0 (by decide) ?_
  refine lv_aload_n hx hb dX1_firstLawful_3 rfl (lv_at hl 0 rfl) ?_
  refine gf_9_0 C hP w_154 dX1_firstLawful_4 ?_
  obtain ⟨v_1, σ_2, hc_3, h⟩ := kb_ok h
  refine kci (krunV (As := []) C hP (c_X2_minutesOfRound E C.1 F σ hc_3) w_423 kv_X2_minutesOfRound ⟨Nat.le_of_ble_eq_true rfl, Nat.le_of_ble_eq_true rfl⟩ (rc_6 C hP) rfl hl.1 rfl (Nat.le_of_ble_eq_true rfl) dX1_firstLawful_7) hS (fun H locs hP hS => ?_)
  refine kmin C hl.1 w_438 (Nat.le_of_ble_eq_true rfl) (Nat.le_of_ble_eq_true rfl) dX1_firstLawful_10 ?_
  refine lv_topi (fun x5_4 ex5_4 => ?_)
  have h := kn_to ex5_4 h
  refine lv_istore (lv' := [(5, .int x5_4), (0, .ref (eA E 9)), (1, .int x1), (2, .int x2), (3, .long x3)]) hx hb dX1_firstLawful_13 hl (by decide) rfl (fun ls hl => ?_)
  refine lv_iconst (v := (1 : Int32)) hx hb dX1_firstLawful_15 (by decide) ?_
  refine lv_istore (lv' := [(6, .int (1 : Int32)), (5, .int x5_4), (0, .ref (eA E 9)), (1, .int x1), (2, .int x2), (3, .long x3)]) hx hb dX1_firstLawful_16 hl (by decide) rfl (fun ls hl => ?_)
  refine lv_iconst (v := (0 : Int32)) hx hb dX1_firstLawful_18 (by decide) ?_
  refine lv_istore (lv' := [(7, .int (0 : Int32)), (6, .int (1 : Int32)), (5, .int x5_4), (0, .ref (eA E 9)), (1, .int x1), (2, .int x2), (3, .long x3)]) hx hb dX1_firstLawful_19 hl (by decide) rfl (fun ls hl => ?_)
  exact wf_X1_firstLawful_21 C F σ_2 x1 x2 x3 x5_4 (0 : Int32) h H locs hP hS ls (lv_sub hl [3, 4, 5, 6, 2, 0] rfl)
def f_X1_firstLawful (F : Nat) (σ : kS) (x1 : Int32) (x2 : Int32) (x3 : Int64) : Option (Int64 × kS) := s_X1_firstLawful_0 F σ x1 x2 x3
set_option maxRecDepth 100000 in
theorem c_X1_firstLawful (E : kE) (hE : kap E) (F : Nat) (σ : kS) (x1 : Int32) (x2 : Int32) (x3 : Int64) (h : f_X1_firstLawful F σ x1 x2 x3 = some (r, σr)) : Met l yX1_firstLawful (kWs yX1_firstLawful cX1_firstLawful 8 (some .long)) (kR 5 122) (kPre (cP E) E [.ref (eA E 9), .int x1, .int x2, .long x3] σ) (kQl (cP E) (inC E) r σr) 0 0 (inC E) :=
  kst hE (by decide +kernel) (Nat.le_of_ble_eq_true rfl) (fun p e s m below meth c ls C hP hl => w_X1_firstLawful_0 C F σ x1 x2 x3 h s.heap [] hP va_S.rf ls hl)
end

section
variable {p : Program} {l : Launch} {e : Env} {s : State} {m : MethodId} {args : Array Value} {below : List Frame} {meth : Method} {c : Code} {E : kE} {σr : kS}
variable {r : Int32}
def s_X2_minutesTaken_17 (F : Nat) (σ : kS) (x1 : Int32) : Option (Int32 × kS) :=
  (kb (f_X2_numberOf F σ x1 (2 : Int32)) fun v_1 σ_2 => some (v_1, σ_2))
set_option maxRecDepth 100000 in
set_option maxHeartbeats 4000000 in
theorem w_X2_minutesTaken_17 (C : Cx E p s m args meth c cX2_minutesTaken 3 RX2 (some .int)) (F : Nat) (σ : kS) (x1 : Int32) (h : s_X2_minutesTaken_17 F σ x1 = some (r, σr)) (H : Heap) (locs : List Loc) (hP : cP E σ H) (hS : va_S (inC E) s.heap H locs) (ls : Array Slot) (hl : lv_has ls 3 [(0, .ref (eA E 6)), (1, .int x1)]) : W p l e (kR 1 23) s m args below meth c H locs 0 0 (MQ below (kQi (cP E) (inC E) r σr) args s 0 0 (inC E)) (F0 m 17 ls []) := by
  obtain ⟨-, hx, hb, hml, hown, hts, hK, -, -⟩ := id C
  unfold s_X2_minutesTaken_17 at h
  refine lv_aload_n hx hb dX2_minutesTaken_17 rfl (lv_at hl 0 rfl) ?_
  refine lv_iload_n hx hb dX2_minutesTaken_18 rfl (lv_at hl 1 rfl) ?_
  refine lv_iconst (v := (2 : Int32)) hx hb dX2_minutesTaken_19 (by decide) ?_
  obtain ⟨v_1, σ_2, hc_3, h⟩ := kb_ok h
  refine kci (krunV (As := [.int x1, .int (2 : Int32)]) C hP (c_X2_numberOf E C.1 F σ x1 (2 : Int32) hc_3) w_238 kv_X2_numberOf ⟨Nat.le_of_ble_eq_true rfl, Nat.le_of_ble_eq_true rfl⟩ (rc_6 C hP) rfl hl.1 rfl (Nat.le_of_ble_eq_true rfl) dX2_minutesTaken_20) hS (fun H locs hP hS => ?_)
  refine lv_goto (tgt := 27) hx hb dX2_minutesTaken_23 (by decide) ?_
  obtain ⟨rfl, rfl⟩ := k_inj h
  exact kri C hS hP dX2_minutesTaken_27
def s_X2_minutesTaken_0 (F : Nat) (σ : kS) (x1 : Int32) : Option (Int32 × kS) :=
  (kb (f_X2_numberOf F σ x1 (0 : Int32)) fun v_1 σ_2 => (if v_1 = (1 : Int32) then s_X2_minutesTaken_17 F σ_2 x1 else (if v_1 = (2 : Int32) then s_X2_minutesTaken_17 F σ_2 x1 else some ((1 : Int32), σ_2))))
set_option maxRecDepth 100000 in
set_option maxHeartbeats 4000000 in
theorem w_X2_minutesTaken_0 (C : Cx E p s m args meth c cX2_minutesTaken 3 RX2 (some .int)) (F : Nat) (σ : kS) (x1 : Int32) (h : s_X2_minutesTaken_0 F σ x1 = some (r, σr)) (H : Heap) (locs : List Loc) (hP : cP E σ H) (hS : va_S (inC E) s.heap H locs) (ls : Array Slot) (hl : lv_has ls 3 [(0, .ref (eA E 6)), (1, .int x1)]) : W p l e (kR 1 23) s m args below meth c H locs 0 0 (MQ below (kQi (cP E) (inC E) r σr) args s 0 0 (inC E)) (F0 m 0 ls []) := by
  obtain ⟨-, hx, hb, hml, hown, hts, hK, -, -⟩ := id C
  unfold s_X2_minutesTaken_0 at h
  refine lv_aload_n hx hb dX2_minutesTaken_0 rfl (lv_at hl 0 rfl) ?_
  refine lv_iload_n hx hb dX2_minutesTaken_1 rfl (lv_at hl 1 rfl) ?_
  refine lv_iconst (v := (0 : Int32)) hx hb dX2_minutesTaken_2 (by decide) ?_
  obtain ⟨v_1, σ_2, hc_3, h⟩ := kb_ok h
  refine kci (krunV (As := [.int x1, .int (0 : Int32)]) C hP (c_X2_numberOf E C.1 F σ x1 (0 : Int32) hc_3) w_238 kv_X2_numberOf ⟨Nat.le_of_ble_eq_true rfl, Nat.le_of_ble_eq_true rfl⟩ (rc_6 C hP) rfl hl.1 rfl (Nat.le_of_ble_eq_true rfl) dX2_minutesTaken_3) hS (fun H locs hP hS => ?_)
  refine lv_istore_n (lv' := [(2, .int v_1), (0, .ref (eA E 6)), (1, .int x1)]) hx hb dX2_minutesTaken_6 rfl hl (by decide) rfl (fun ls hl => ?_)
  refine lv_iload_n hx hb dX2_minutesTaken_7 rfl (lv_at hl 0 rfl) ?_
  refine lv_iconst (v := (1 : Int32)) hx hb dX2_minutesTaken_8 (by decide) ?_
  refine lv_icmp_eq (tgt := 17) hx hb dX2_minutesTaken_9 (by decide) (fun c_4 => ?_) (fun c_4 => ?_)
  · have h := k_t c_4 h
    exact w_X2_minutesTaken_17 C F σ_2 x1 h H locs hP hS ls (lv_sub hl [1, 2] rfl)
  · have h := k_f c_4 h
    refine lv_iload_n hx hb dX2_minutesTaken_12 rfl (lv_at hl 0 rfl) ?_
    refine lv_iconst (v := (2 : Int32)) hx hb dX2_minutesTaken_13 (by decide) ?_
    refine lv_icmp_ne (tgt := 26) hx hb dX2_minutesTaken_14 (by decide) (fun c_5 => ?_) (fun c_5 => ?_)
    · have h := k_f c_5 h
      refine lv_iconst (v := (1 : Int32)) hx hb dX2_minutesTaken_26 (by decide) ?_
      obtain ⟨rfl, rfl⟩ := k_inj h
      exact kri C hS hP dX2_minutesTaken_27
    · have h := k_t c_5 h
      exact w_X2_minutesTaken_17 C F σ_2 x1 h H locs hP hS ls (lv_sub hl [1, 2] rfl)
def f_X2_minutesTaken (F : Nat) (σ : kS) (x1 : Int32) : Option (Int32 × kS) := s_X2_minutesTaken_0 F σ x1
set_option maxRecDepth 100000 in
theorem c_X2_minutesTaken (E : kE) (hE : kap E) (F : Nat) (σ : kS) (x1 : Int32) (h : f_X2_minutesTaken F σ x1 = some (r, σr)) : Met l yX2_minutesTaken (kWs yX2_minutesTaken cX2_minutesTaken 3 (some .int)) (kR 1 23) (kPre (cP E) E [.ref (eA E 6), .int x1] σ) (kQi (cP E) (inC E) r σr) 0 0 (inC E) :=
  kst hE (by decide +kernel) (Nat.le_of_ble_eq_true rfl) (fun p e s m below meth c ls C hP hl => w_X2_minutesTaken_0 C F σ x1 h s.heap [] hP va_S.rf ls hl)
end

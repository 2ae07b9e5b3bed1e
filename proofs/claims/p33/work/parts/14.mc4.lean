section
variable {p : Program} {l : Launch} {e : Env} {s : State} {m : MethodId} {args : Array Value} {below : List Frame} {meth : Method} {c : Code} {E : kE} {σr : kS}
variable {r : Int32}
def s_X0_isRest_20 (F : Nat) (rec20 : (kS × Int32 × Int32 × Int32 × Int32 × Int32 → Option (Int32 × kS))) (σ : kS) (x1 : Int32) (x2 : Int32) (x3 : Int32) (x4 : Int32) (x5 : Int32) : Option (Int32 × kS) :=
  (if (kI σ 14) ≤ x5 then some ((1 : Int32), σ) else (kb (f_X0_gainIfForbidden F σ x5 x2 (0 : Int32)) fun v_2 σ_3 => (if v_2 ≤ x3 then (kb (f_X0_gainIfForbidden F σ_3 x1 x5 (1 : Int32)) fun v_6 σ_7 => (if v_6 ≤ x4 then rec20 (σ_7, x1, x2, x3, x4, (x5 + (1 : Int32))) else some ((0 : Int32), σ_7))) else some ((0 : Int32), σ_3))))
set_option maxRecDepth 100000 in
set_option maxHeartbeats 4000000 in
theorem w_X0_isRest_20 (C : Cx E p s m args meth c cX0_isRest 6 RX0 (some .boolean)) (F : Nat) (rec20 : (kS × Int32 × Int32 × Int32 × Int32 × Int32 → Option (Int32 × kS))) (hrec20 : ∀ (σ : kS) (x1 : Int32) (x2 : Int32) (x3 : Int32) (x4 : Int32) (x5 : Int32), rec20 (σ, x1, x2, x3, x4, x5) = some (r, σr) → ∀ (H : Heap) (locs : List Loc), cP E σ H → va_S (inC E) s.heap H locs → ∀ (ls : Array Slot), lv_has ls 6 [(0, .ref (eA E 10)), (1, .int x1), (2, .int x2), (3, .int x3), (4, .int x4), (5, .int x5)] → W p l e (kR 4 93) s m args below meth c H locs 0 0 (MQ below (kQi (cP E) (inC E) r σr) args s 0 0 (inC E)) (F0 m 20 ls [])) (σ : kS) (x1 : Int32) (x2 : Int32) (x3 : Int32) (x4 : Int32) (x5 : Int32) (h : s_X0_isRest_20 F rec20 σ x1 x2 x3 x4 x5 = some (r, σr)) (H : Heap) (locs : List Loc) (hP : cP E σ H) (hS : va_S (inC E) s.heap H locs) (ls : Array Slot) (hl : lv_has ls 6 [(0, .ref (eA E 10)), (1, .int x1), (2, .int x2), (3, .int x3), (4, .int x4), (5, .int x5)]) : W p l e (kR 4 93) s m args below meth c H locs 0 0 (MQ below (kQi (cP E) (inC E) r σr) args s 0 0 (inC E)) (F0 m 20 ls []) := by
  obtain ⟨-, hx, hb, hml, hown, hts, hK, -, -⟩ := id C
  unfold s_X0_isRest_20 at h
  refine lv_iload hx hb dX0_isRest_20 (lv_at hl 5 rfl) ?_
  refine lv_aload_n hx hb dX0_isRest_22 rfl (lv_at hl 0 rfl) ?_
  refine gf_10_0 C hP w_167 dX0_isRest_23 ?_
  refine gf_6_7 C hP (v := (kI σ 14)) rfl w_93 dX0_isRest_26 ?_
  refine lv_icmp_ge (tgt := 67) hx hb dX0_isRest_29 (by decide) (fun c_1 => ?_) (fun c_1 => ?_)
  · have h := k_t c_1 h
    refine lv_iconst (v := (1 : Int32)) hx hb dX0_isRest_67 (by decide) ?_
    obtain ⟨rfl, rfl⟩ := k_inj h
    exact krz C hS hP (by decide) dX0_isRest_68
  · have h := k_f c_1 h
    refine lv_aload_n hx hb dX0_isRest_32 rfl (lv_at hl 0 rfl) ?_
    refine lv_iload hx hb dX0_isRest_33 (lv_at hl 5 rfl) ?_
    refine lv_iload_n hx hb dX0_isRest_35 rfl (lv_at hl 2 rfl) ?_
    refine lv_iconst (v := (0 : Int32)) hx hb dX0_isRest_36 (by decide) ?_
    obtain ⟨v_2, σ_3, hc_4, h⟩ := kb_ok h
    refine kci (krunV (As := [.int x5, .int x2, .int (0 : Int32)]) C hP (c_X0_gainIfForbidden E C.1 F σ x5 x2 (0 : Int32) hc_4) w_555 kv_X0_gainIfForbidden ⟨Nat.le_of_ble_eq_true rfl, Nat.le_of_ble_eq_true rfl⟩ (rc_10 C hP) rfl hl.1 rfl (Nat.le_of_ble_eq_true rfl) dX0_isRest_37) hS (fun H locs hP hS => ?_)
    refine lv_iload_n hx hb dX0_isRest_40 rfl (lv_at hl 3 rfl) ?_
    refine lv_icmp_le (tgt := 46) hx hb dX0_isRest_41 (by decide) (fun c_5 => ?_) (fun c_5 => ?_)
    · have h := k_t c_5 h
      refine lv_aload_n hx hb dX0_isRest_46 rfl (lv_at hl 0 rfl) ?_
      refine lv_iload_n hx hb dX0_isRest_47 rfl (lv_at hl 1 rfl) ?_
      refine lv_iload hx hb dX0_isRest_48 (lv_at hl 5 rfl) ?_
      refine lv_iconst (v := (1 : Int32)) hx hb dX0_isRest_50 (by decide) ?_
      obtain ⟨v_6, σ_7, hc_8, h⟩ := kb_ok h
      refine kci (krunV (As := [.int x1, .int x5, .int (1 : Int32)]) C hP (c_X0_gainIfForbidden E C.1 F σ_3 x1 x5 (1 : Int32) hc_8) w_555 kv_X0_gainIfForbidden ⟨Nat.le_of_ble_eq_true rfl, Nat.le_of_ble_eq_true rfl⟩ (rc_10 C hP) rfl hl.1 rfl (Nat.le_of_ble_eq_true rfl) dX0_isRest_51) hS (fun H locs hP hS => ?_)
      refine lv_iload hx hb dX0_isRest_54 (lv_at hl 4 rfl) ?_
      refine lv_icmp_le (tgt := 61) hx hb dX0_isRest_56 (by decide) (fun c_9 => ?_) (fun c_9 => ?_)
      · have h := k_t c_9 h
        refine lv_iinc (v := (x5 + (1 : Int32))) (lv' := [(5, .int (x5 + (1 : Int32))), (0, .ref (eA E 10)), (1, .int x1), (2, .int x2), (3, .int x3), (4, .int x4)]) hx hb dX0_isRest_61 hl (k := 5) rfl rfl (by decide) rfl (fun ls hl => ?_)
        refine lv_goto (tgt := 20) hx hb dX0_isRest_64 (by decide) ?_
        exact hrec20 σ_7 x1 x2 x3 x4 (x5 + (1 : Int32)) h H locs hP hS ls (lv_sub hl [1, 2, 3, 4, 5, 0] rfl)
      · have h := k_f c_9 h
        refine lv_iconst (v := (0 : Int32)) hx hb dX0_isRest_59 (by decide) ?_
        obtain ⟨rfl, rfl⟩ := k_inj h
        exact krz C hS hP (by decide) dX0_isRest_60
    · have h := k_f c_5 h
      refine lv_iconst (v := (0 : Int32)) hx hb dX0_isRest_44 (by decide) ?_
      obtain ⟨rfl, rfl⟩ := k_inj h
      exact krz C hS hP (by decide) dX0_isRest_45
def f_X0_isRest_20 (F : Nat) : kS × Int32 × Int32 × Int32 × Int32 × Int32 → Option (Int32 × kS) := itr (fun rec20 q => s_X0_isRest_20 F rec20 q.1 q.2.1 q.2.2.1 q.2.2.2.1 q.2.2.2.2.1 q.2.2.2.2.2) F
theorem wf_X0_isRest_20 (C : Cx E p s m args meth c cX0_isRest 6 RX0 (some .boolean)) (F : Nat) (σ : kS) (x1 : Int32) (x2 : Int32) (x3 : Int32) (x4 : Int32) (x5 : Int32) (h : f_X0_isRest_20 F (σ, x1, x2, x3, x4, x5) = some (r, σr)) (H : Heap) (locs : List Loc) (hP : cP E σ H) (hS : va_S (inC E) s.heap H locs) (ls : Array Slot) (hl : lv_has ls 6 [(0, .ref (eA E 10)), (1, .int x1), (2, .int x2), (3, .int x3), (4, .int x4), (5, .int x5)]) : W p l e (kR 4 93) s m args below meth c H locs 0 0 (MQ below (kQi (cP E) (inC E) r σr) args s 0 0 (inC E)) (F0 m 20 ls []) :=
  itr_ok (r := (r, σr)) (G := fun q => ∀ (H : Heap) (locs : List Loc), cP E q.1 H → va_S (inC E) s.heap H locs → ∀ (ls : Array Slot), lv_has ls 6 [(0, .ref (eA E 10)), (1, .int (q.2.1)), (2, .int (q.2.2.1)), (3, .int (q.2.2.2.1)), (4, .int (q.2.2.2.2.1)), (5, .int (q.2.2.2.2.2))] → W p l e (kR 4 93) s m args below meth c H locs 0 0 (MQ below (kQi (cP E) (inC E) r σr) args s 0 0 (inC E)) (F0 m 20 ls [])) (fun rec20 hrec20 q h => w_X0_isRest_20 C F rec20 (fun σ x1 x2 x3 x4 x5 => hrec20 (σ, x1, x2, x3, x4, x5)) q.1 q.2.1 q.2.2.1 q.2.2.2.1 q.2.2.2.2.1 q.2.2.2.2.2 h) F (σ, x1, x2, x3, x4, x5) h H locs hP hS ls hl
def s_X0_isRest_0 (F : Nat) (σ : kS) (x1 : Int32) (x2 : Int32) : Option (Int32 × kS) :=
  (kb (f_X0_gainIfForbidden F σ x1 x2 (0 : Int32)) fun v_1 σ_2 => (kb (f_X0_gainIfForbidden F σ_2 x1 x2 (1 : Int32)) fun v_4 σ_5 => f_X0_isRest_20 F (σ_5, x1, x2, v_1, v_4, (-1 : Int32))))
set_option maxRecDepth 100000 in
set_option maxHeartbeats 4000000 in
theorem w_X0_isRest_0 (C : Cx E p s m args meth c cX0_isRest 6 RX0 (some .boolean)) (F : Nat) (σ : kS) (x1 : Int32) (x2 : Int32) (h : s_X0_isRest_0 F σ x1 x2 = some (r, σr)) (H : Heap) (locs : List Loc) (hP : cP E σ H) (hS : va_S (inC E) s.heap H locs) (ls : Array Slot) (hl : lv_has ls 6 [(0, .ref (eA E 10)), (1, .int x1), (2, .int x2)]) : W p l e (kR 4 93) s m args below meth c H locs 0 0 (MQ below (kQi (cP E) (inC E) r σr) args s 0 0 (inC E)) (F0 m 0 ls []) := by
  obtain ⟨-, hx, hb, hml, hown, hts, hK, -, -⟩ := id C
  unfold s_X0_isRest_0 at h
  refine lv_aload_n hx hb dX0_isRest_0 rfl (lv_at hl 0 rfl) ?_
  refine lv_iload_n hx hb dX0_isRest_1 rfl (lv_at hl 1 rfl) ?_
  refine lv_iload_n hx hb dX0_isRest_2 rfl (lv_at hl 2 rfl) ?_
  refine lv_iconst (v := (0 : Int32)) hx hb dX0_isRest_3 (by decide) ?_
  obtain ⟨v_1, σ_2, hc_3, h⟩ := kb_ok h
  refine kci (krunV (As := [.int x1, .int x2, .int (0 : Int32)]) C hP (c_X0_gainIfForbidden E C.1 F σ x1 x2 (0 : Int32) hc_3) w_555 kv_X0_gainIfForbidden ⟨Nat.le_of_ble_eq_true rfl, Nat.le_of_ble_eq_true rfl⟩ (rc_10 C hP) rfl hl.1 rfl (Nat.le_of_ble_eq_true rfl) dX0_isRest_4) hS (fun H locs hP hS => ?_)
  refine lv_istore_n (lv' := [(3, .int v_1), (0, .ref (eA E 10)), (1, .int x1), (2, .int x2)]) hx hb dX0_isRest_7 rfl hl (by decide) rfl (fun ls hl => ?_)
  refine lv_aload_n hx hb dX0_isRest_8 rfl (lv_at hl 1 rfl) ?_
  refine lv_iload_n hx hb dX0_isRest_9 rfl (lv_at hl 2 rfl) ?_
  refine lv_iload_n hx hb dX0_isRest_10 rfl (lv_at hl 3 rfl) ?_
  refine lv_iconst (v := (1 : Int32)) hx hb dX0_isRest_11 (by decide) ?_
  obtain ⟨v_4, σ_5, hc_6, h⟩ := kb_ok h
  refine kci (krunV (As := [.int x1, .int x2, .int (1 : Int32)]) C hP (c_X0_gainIfForbidden E C.1 F σ_2 x1 x2 (1 : Int32) hc_6) w_555 kv_X0_gainIfForbidden ⟨Nat.le_of_ble_eq_true rfl, Nat.le_of_ble_eq_true rfl⟩ (rc_10 C hP) rfl hl.1 rfl (Nat.le_of_ble_eq_true rfl) dX0_isRest_12) hS (fun H locs hP hS => ?_)
  refine lv_istore (lv' := [(4, .int v_4), (3, .int v_1), (0, .ref (eA E 10)), (1, .int x1), (2, .int x2)]) hx hb dX0_isRest_15 hl (by decide) rfl (fun ls hl => ?_)
  refine lv_iconst (v := (-1 : Int32)) hx hb dX0_isRest_17 (by decide) ?_
  refine lv_istore (lv' := [(5, .int (-1 : Int32)), (4, .int v_4), (3, .int v_1), (0, .ref (eA E 10)), (1, .int x1), (2, .int x2)]) hx hb dX0_isRest_18 hl (by decide) rfl (fun ls hl => ?_)
  exact wf_X0_isRest_20 C F σ_5 x1 x2 v_1 v_4 (-1 : Int32) h H locs hP hS ls (lv_sub hl [3, 4, 5, 2, 1, 0] rfl)
def f_X0_isRest (F : Nat) (σ : kS) (x1 : Int32) (x2 : Int32) : Option (Int32 × kS) := s_X0_isRest_0 F σ x1 x2
set_option maxRecDepth 100000 in
theorem c_X0_isRest (E : kE) (hE : kap E) (F : Nat) (σ : kS) (x1 : Int32) (x2 : Int32) (h : f_X0_isRest F σ x1 x2 = some (r, σr)) : Met l yX0_isRest (kWs yX0_isRest cX0_isRest 6 (some .boolean)) (kR 4 93) (kPre (cP E) E [.ref (eA E 10), .int x1, .int x2] σ) (kQi (cP E) (inC E) r σr) 0 0 (inC E) :=
  kst hE (by decide +kernel) (Nat.le_of_ble_eq_true rfl) (fun p e s m below meth c ls C hP hl => w_X0_isRest_0 C F σ x1 x2 h s.heap [] hP va_S.rf ls hl)
end

section
variable {p : Program} {l : Launch} {e : Env} {s : State} {m : MethodId} {args : Array Value} {below : List Frame} {meth : Method} {c : Code} {E : kE} {σr : kS}
variable {r : Int32}
def s_X0_actOfFirstRest_15 (F : Nat) (rec2 : (kS × Int32 × Int32 → Option (Int32 × kS))) (rec15 : (kS × Int32 × Int32 × Int32 → Option (Int32 × kS))) (σ : kS) (x1 : Int32) (x2 : Int32) (x3 : Int32) : Option (Int32 × kS) :=
  (if (kI σ 14) ≤ x3 then rec2 (σ, x1, (x2 + (1 : Int32))) else (kb (f_X0_isRest F σ x2 x3) fun v_2 σ_3 => (if v_2 = 0 then rec15 (σ_3, x1, x2, (x3 + (1 : Int32))) else (if x1 = 0 then some (x2, σ_3) else some (x3, σ_3)))))
set_option maxRecDepth 100000 in
set_option maxHeartbeats 4000000 in
theorem w_X0_actOfFirstRest_15 (C : Cx E p s m args meth c cX0_actOfFirstRest 4 RX0 (some .int)) (F : Nat) (rec2 : (kS × Int32 × Int32 → Option (Int32 × kS))) (hrec2 : ∀ (σ : kS) (x1 : Int32) (x2 : Int32), rec2 (σ, x1, x2) = some (r, σr) → ∀ (H : Heap) (locs : List Loc), cP E σ H → va_S (inC E) s.heap H locs → ∀ (ls : Array Slot), lv_has ls 4 [(0, .ref (eA E 10)), (1, .int x1), (2, .int x2)] → W p l e (kR 5 118) s m args below meth c H locs 0 0 (MQ below (kQi (cP E) (inC E) r σr) args s 0 0 (inC E)) (F0 m 2 ls [])) (rec15 : (kS × Int32 × Int32 × Int32 → Option (Int32 × kS))) (hrec15 : ∀ (σ : kS) (x1 : Int32) (x2 : Int32) (x3 : Int32), rec15 (σ, x1, x2, x3) = some (r, σr) → ∀ (H : Heap) (locs : List Loc), cP E σ H → va_S (inC E) s.heap H locs → ∀ (ls : Array Slot), lv_has ls 4 [(0, .ref (eA E 10)), (1, .int x1), (2, .int x2), (3, .int x3)] → W p l e (kR 5 118) s m args below meth c H locs 0 0 (MQ below (kQi (cP E) (inC E) r σr) args s 0 0 (inC E)) (F0 m 15 ls [])) (σ : kS) (x1 : Int32) (x2 : Int32) (x3 : Int32) (h : s_X0_actOfFirstRest_15 F rec2 rec15 σ x1 x2 x3 = some (r, σr)) (H : Heap) (locs : List Loc) (hP : cP E σ H) (hS : va_S (inC E) s.heap H locs) (ls : Array Slot) (hl : lv_has ls 4 [(0, .ref (eA E 10)), (1, .int x1), (2, .int x2), (3, .int x3)]) : W p l e (kR 5 118) s m args below meth c H locs 0 0 (MQ below (kQi (cP E) (inC E) r σr) args s 0 0 (inC E)) (F0 m 15 ls []) := by
  obtain ⟨-, hx, hb, hml, hown, hts, hK, -, -⟩ := id C
  unfold s_X0_actOfFirstRest_15 at h
  refine lv_iload_n hx hb dX0_actOfFirstRest_15 rfl (lv_at hl 3 rfl) ?_
  refine lv_aload_n hx hb dX0_actOfFirstRest_16 rfl (lv_at hl 0 rfl) ?_
  refine gf_10_0 C hP w_167 dX0_actOfFirstRest_17 ?_
  refine gf_6_7 C hP (v := (kI σ 14)) rfl w_93 dX0_actOfFirstRest_20 ?_
  refine lv_icmp_ge (tgt := 51) hx hb dX0_actOfFirstRest_23 (by decide) (fun c_1 => ?_) (fun c_1 => ?_)
  · have h := k_t c_1 h
    refine lv_iinc (v := (x2 + (1 : Int32))) (lv' := [(2, .int (x2 + (1 : Int32))), (0, .ref (eA E 10)), (1, .int x1), (3, .int x3)]) hx hb dX0_actOfFirstRest_51 hl (k := 2) rfl rfl (by decide) rfl (fun ls hl => ?_)
    refine lv_goto (tgt := 2) hx hb dX0_actOfFirstRest_54 (by decide) ?_
    exact hrec2 σ x1 (x2 + (1 : Int32)) h H locs hP hS ls (lv_sub hl [1, 2, 0] rfl)
  · have h := k_f c_1 h
    refine lv_aload_n hx hb dX0_actOfFirstRest_26 rfl (lv_at hl 0 rfl) ?_
    refine lv_iload_n hx hb dX0_actOfFirstRest_27 rfl (lv_at hl 2 rfl) ?_
    refine lv_iload_n hx hb dX0_actOfFirstRest_28 rfl (lv_at hl 3 rfl) ?_
    obtain ⟨v_2, σ_3, hc_4, h⟩ := kb_ok h
    refine kci (krunV (As := [.int x2, .int x3]) C hP (c_X0_isRest E C.1 F σ x2 x3 hc_4) w_551 kv_X0_isRest ⟨Nat.le_of_ble_eq_true rfl, Nat.le_of_ble_eq_true rfl⟩ (rc_10 C hP) rfl hl.1 rfl (Nat.le_of_ble_eq_true rfl) dX0_actOfFirstRest_29) hS (fun H locs hP hS => ?_)
    refine lv_if_eq (tgt := 45) hx hb dX0_actOfFirstRest_32 (by decide) (fun c_5 => ?_) (fun c_5 => ?_)
    · have h := k_t c_5 h
      refine lv_iinc (v := (x3 + (1 : Int32))) (lv' := [(3, .int (x3 + (1 : Int32))), (0, .ref (eA E 10)), (1, .int x1), (2, .int x2)]) hx hb dX0_actOfFirstRest_45 hl (k := 3) rfl rfl (by decide) rfl (fun ls hl => ?_)
      refine lv_goto (tgt := 15) hx hb dX0_actOfFirstRest_48 (by decide) ?_
      exact hrec15 σ_3 x1 x2 (x3 + (1 : Int32)) h H locs hP hS ls (lv_sub hl [1, 2, 3, 0] rfl)
    · have h := k_f c_5 h
      refine lv_iload_n hx hb dX0_actOfFirstRest_35 rfl (lv_at hl 1 rfl) ?_
      refine lv_if_ne (tgt := 43) hx hb dX0_actOfFirstRest_36 (by decide) (fun c_6 => ?_) (fun c_6 => ?_)
      · have h := k_f c_6 h
        refine lv_iload_n hx hb dX0_actOfFirstRest_43 rfl (lv_at hl 3 rfl) ?_
        obtain ⟨rfl, rfl⟩ := k_inj h
        exact kri C hS hP dX0_actOfFirstRest_44
      · have h := k_t c_6 h
        refine lv_iload_n hx hb dX0_actOfFirstRest_39 rfl (lv_at hl 2 rfl) ?_
        refine lv_goto (tgt := 44) hx hb dX0_actOfFirstRest_40 (by decide) ?_
        obtain ⟨rfl, rfl⟩ := k_inj h
        exact kri C hS hP dX0_actOfFirstRest_44
def f_X0_actOfFirstRest_15 (F : Nat) (rec2 : (kS × Int32 × Int32 → Option (Int32 × kS))) : kS × Int32 × Int32 × Int32 → Option (Int32 × kS) := itr (fun rec15 q => s_X0_actOfFirstRest_15 F rec2 rec15 q.1 q.2.1 q.2.2.1 q.2.2.2) F
theorem wf_X0_actOfFirstRest_15 (C : Cx E p s m args meth c cX0_actOfFirstRest 4 RX0 (some .int)) (F : Nat) (rec2 : (kS × Int32 × Int32 → Option (Int32 × kS))) (hrec2 : ∀ (σ : kS) (x1 : Int32) (x2 : Int32), rec2 (σ, x1, x2) = some (r, σr) → ∀ (H : Heap) (locs : List Loc), cP E σ H → va_S (inC E) s.heap H locs → ∀ (ls : Array Slot), lv_has ls 4 [(0, .ref (eA E 10)), (1, .int x1), (2, .int x2)] → W p l e (kR 5 118) s m args below meth c H locs 0 0 (MQ below (kQi (cP E) (inC E) r σr) args s 0 0 (inC E)) (F0 m 2 ls [])) (σ : kS) (x1 : Int32) (x2 : Int32) (x3 : Int32) (h : f_X0_actOfFirstRest_15 F rec2 (σ, x1, x2, x3) = some (r, σr)) (H : Heap) (locs : List Loc) (hP : cP E σ H) (hS : va_S (inC E) s.heap H locs) (ls : Array Slot) (hl : lv_has ls 4 [(0, .ref (eA E 10)), (1, .int x1), (2, .int x2), (3, .int x3)]) : W p l e (kR 5 118) s m args below meth c H locs 0 0 (MQ below (kQi (cP E) (inC E) r σr) args s 0 0 (inC E)) (F0 m 15 ls []) :=
  itr_ok (r := (r, σr)) (G := fun q => ∀ (H : Heap) (locs : List Loc), cP E q.1 H → va_S (inC E) s.heap H locs → ∀ (ls : Array Slot), lv_has ls 4 [(0, .ref (eA E 10)), (1, .int (q.2.1)), (2, .int (q.2.2.1)), (3, .int (q.2.2.2))] → W p l e (kR 5 118) s m args below meth c H locs 0 0 (MQ below (kQi (cP E) (inC E) r σr) args s 0 0 (inC E)) (F0 m 15 ls [])) (fun rec15 hrec15 q h => w_X0_actOfFirstRest_15 C F rec2 hrec2 rec15 (fun σ x1 x2 x3 => hrec15 (σ, x1, x2, x3)) q.1 q.2.1 q.2.2.1 q.2.2.2 h) F (σ, x1, x2, x3) h H locs hP hS ls hl
def s_X0_actOfFirstRest_2 (F : Nat) (rec2 : (kS × Int32 × Int32 → Option (Int32 × kS))) (σ : kS) (x1 : Int32) (x2 : Int32) : Option (Int32 × kS) :=
  (if (kI σ 14) ≤ x2 then some ((-1 : Int32), σ) else f_X0_actOfFirstRest_15 F rec2 (σ, x1, x2, (-1 : Int32)))
set_option maxRecDepth 100000 in
set_option maxHeartbeats 4000000 in
theorem w_X0_actOfFirstRest_2 (C : Cx E p s m args meth c cX0_actOfFirstRest 4 RX0 (some .int)) (F : Nat) (rec2 : (kS × Int32 × Int32 → Option (Int32 × kS))) (hrec2 : ∀ (σ : kS) (x1 : Int32) (x2 : Int32), rec2 (σ, x1, x2) = some (r, σr) → ∀ (H : Heap) (locs : List Loc), cP E σ H → va_S (inC E) s.heap H locs → ∀ (ls : Array Slot), lv_has ls 4 [(0, .ref (eA E 10)), (1, .int x1), (2, .int x2)] → W p l e (kR 5 118) s m args below meth c H locs 0 0 (MQ below (kQi (cP E) (inC E) r σr) args s 0 0 (inC E)) (F0 m 2 ls [])) (σ : kS) (x1 : Int32) (x2 : Int32) (h : s_X0_actOfFirstRest_2 F rec2 σ x1 x2 = some (r, σr)) (H : Heap) (locs : List Loc) (hP : cP E σ H) (hS : va_S (inC E) s.heap H locs) (ls : Array Slot) (hl : lv_has ls 4 [(0, .ref (eA E 10)), (1, .int x1), (2, .int x2)]) : W p l e (kR 5 118) s m args below meth c H locs 0 0 (MQ below (kQi (cP E) (inC E) r σr) args s 0 0 (inC E)) (F0 m 2 ls []) := by
  obtain ⟨-, hx, hb, hml, hown, hts, hK, -, -⟩ := id C
  unfold s_X0_actOfFirstRest_2 at h
  refine lv_iload_n hx hb dX0_actOfFirstRest_2 rfl (lv_at hl 2 rfl) ?_
  refine lv_aload_n hx hb dX0_actOfFirstRest_3 rfl (lv_at hl 0 rfl) ?_
  refine gf_10_0 C hP w_167 dX0_actOfFirstRest_4 ?_
  refine gf_6_7 C hP (v := (kI σ 14)) rfl w_93 dX0_actOfFirstRest_7 ?_
  refine lv_icmp_ge (tgt := 57) hx hb dX0_actOfFirstRest_10 (by decide) (fun c_1 => ?_) (fun c_1 => ?_)
  · have h := k_t c_1 h
    refine lv_iconst (v := (-1 : Int32)) hx hb dX0_actOfFirstRest_57 (by decide) ?_
    obtain ⟨rfl, rfl⟩ := k_inj h
    exact kri C hS hP dX0_actOfFirstRest_58
  · have h := k_f c_1 h
    refine lv_iconst (v := (-1 : Int32)) hx hb dX0_actOfFirstRest_13 (by decide) ?_
    refine lv_istore_n (lv' := [(3, .int (-1 : Int32)), (0, .ref (eA E 10)), (1, .int x1), (2, .int x2)]) hx hb dX0_actOfFirstRest_14 rfl hl (by decide) rfl (fun ls hl => ?_)
    exact wf_X0_actOfFirstRest_15 C F rec2 hrec2 σ x1 x2 (-1 : Int32) h H locs hP hS ls (lv_sub hl [1, 2, 3, 0] rfl)
def f_X0_actOfFirstRest_2 (F : Nat) : kS × Int32 × Int32 → Option (Int32 × kS) := itr (fun rec2 q => s_X0_actOfFirstRest_2 F rec2 q.1 q.2.1 q.2.2) F
theorem wf_X0_actOfFirstRest_2 (C : Cx E p s m args meth c cX0_actOfFirstRest 4 RX0 (some .int)) (F : Nat) (σ : kS) (x1 : Int32) (x2 : Int32) (h : f_X0_actOfFirstRest_2 F (σ, x1, x2) = some (r, σr)) (H : Heap) (locs : List Loc) (hP : cP E σ H) (hS : va_S (inC E) s.heap H locs) (ls : Array Slot) (hl : lv_has ls 4 [(0, .ref (eA E 10)), (1, .int x1), (2, .int x2)]) : W p l e (kR 5 118) s m args below meth c H locs 0 0 (MQ below (kQi (cP E) (inC E) r σr) args s 0 0 (inC E)) (F0 m 2 ls []) :=
  itr_ok (r := (r, σr)) (G := fun q => ∀ (H : Heap) (locs : List Loc), cP E q.1 H → va_S (inC E) s.heap H locs → ∀ (ls : Array Slot), lv_has ls 4 [(0, .ref (eA E 10)), (1, .int (q.2.1)), (2, .int (q.2.2))] → W p l e (kR 5 118) s m args below meth c H locs 0 0 (MQ below (kQi (cP E) (inC E) r σr) args s 0 0 (inC E)) (F0 m 2 ls [])) (fun rec2 hrec2 q h => w_X0_actOfFirstRest_2 C F rec2 (fun σ x1 x2 => hrec2 (σ, x1, x2)) q.1 q.2.1 q.2.2 h) F (σ, x1, x2) h H locs hP hS ls hl
def s_X0_actOfFirstRest_0 (F : Nat) (σ : kS) (x1 : Int32) : Option (Int32 × kS) :=
  f_X0_actOfFirstRest_2 F (σ, x1, (-1 : Int32))
set_option maxRecDepth 100000 in
set_option maxHeartbeats 4000000 in
theorem w_X0_actOfFirstRest_0 (C : Cx E p s m args meth c cX0_actOfFirstRest 4 RX0 (some .int)) (F : Nat) (σ : kS) (x1 : Int32) (h : s_X0_actOfFirstRest_0 F σ x1 = some (r, σr)) (H : Heap) (locs : List Loc) (hP : cP E σ H) (hS : va_S (inC E) s.heap H locs) (ls : Array Slot) (hl : lv_has ls 4 [(0, .ref (eA E 10)), (1, .int x1)]) : W p l e (kR 5 118) s m args below meth c H locs 0 0 (MQ below (kQi (cP E) (inC E) r σr) args s 0 0 (inC E)) (F0 m 0 ls []) := by
  obtain ⟨-, hx, hb, hml, hown, hts, hK, -, -⟩ := id C
  unfold s_X0_actOfFirstRest_0 at h
  refine lv_iconst (v := (-1 : Int32)) hx hb dX0_actOfFirstRest_0 (by decide) ?_
  refine lv_istore_n (lv' := [(2, .int (-1 : Int32)), (0, .ref (eA E 10)), (1, .int x1)]) hx hb dX0_actOfFirstRest_1 rfl hl (by decide) rfl (fun ls hl => ?_)
  exact wf_X0_actOfFirstRest_2 C F σ x1 (-1 : Int32) h H locs hP hS ls (lv_sub hl [1, 2, 0] rfl)
def f_X0_actOfFirstRest (F : Nat) (σ : kS) (x1 : Int32) : Option (Int32 × kS) := s_X0_actOfFirstRest_0 F σ x1
set_option maxRecDepth 100000 in
theorem c_X0_actOfFirstRest (E : kE) (hE : kap E) (F : Nat) (σ : kS) (x1 : Int32) (h : f_X0_actOfFirstRest F σ x1 = some (r, σr)) : Met l yX0_actOfFirstRest (kWs yX0_actOfFirstRest cX0_actOfFirstRest 4 (some .int)) (kR 5 118) (kPre (cP E) E [.ref (eA E 10), .int x1] σ) (kQi (cP E) (inC E) r σr) 0 0 (inC E) :=
  kst hE (by decide +kernel) (Nat.le_of_ble_eq_true rfl) (fun p e s m below meth c ls C hP hl => w_X0_actOfFirstRest_0 C F σ x1 h s.heap [] hP va_S.rf ls hl)
end

section
variable {p : Program} {l : Launch} {e : Env} {s : State} {m : MethodId} {args : Array Value} {below : List Frame} {meth : Method} {c : Code} {E : kE} {σr : kS}
variable {r : Int32}
def s_X0_restCount_40 (F : Nat) (rec4 : (kS × Int32 × Int32 → Option (Int32 × kS))) (rec17 : (kS × Int32 × Int32 × Int32 → Option (Int32 × kS))) (σ : kS) (x1 : Int32) (x2 : Int32) (x3 : Int32) : Option (Int32 × kS) :=
  rec17 (σ, x1, x2, (x3 + (1 : Int32)))
set_option maxRecDepth 100000 in
set_option maxHeartbeats 4000000 in
theorem w_X0_restCount_40 (C : Cx E p s m args meth c cX0_restCount 4 RX0 (some .int)) (F : Nat) (rec4 : (kS × Int32 × Int32 → Option (Int32 × kS))) (hrec4 : ∀ (σ : kS) (x1 : Int32) (x2 : Int32), rec4 (σ, x1, x2) = some (r, σr) → ∀ (H : Heap) (locs : List Loc), cP E σ H → va_S (inC E) s.heap H locs → ∀ (ls : Array Slot), lv_has ls 4 [(0, .ref (eA E 10)), (1, .int x1), (2, .int x2)] → W p l e (kR 5 118) s m args below meth c H locs 0 0 (MQ below (kQi (cP E) (inC E) r σr) args s 0 0 (inC E)) (F0 m 4 ls [])) (rec17 : (kS × Int32 × Int32 × Int32 → Option (Int32 × kS))) (hrec17 : ∀ (σ : kS) (x1 : Int32) (x2 : Int32) (x3 : Int32), rec17 (σ, x1, x2, x3) = some (r, σr) → ∀ (H : Heap) (locs : List Loc), cP E σ H → va_S (inC E) s.heap H locs → ∀ (ls : Array Slot), lv_has ls 4 [(0, .ref (eA E 10)), (1, .int x1), (2, .int x2), (3, .int x3)] → W p l e (kR 5 118) s m args below meth c H locs 0 0 (MQ below (kQi (cP E) (inC E) r σr) args s 0 0 (inC E)) (F0 m 17 ls [])) (σ : kS) (x1 : Int32) (x2 : Int32) (x3 : Int32) (h : s_X0_restCount_40 F rec4 rec17 σ x1 x2 x3 = some (r, σr)) (H : Heap) (locs : List Loc) (hP : cP E σ H) (hS : va_S (inC E) s.heap H locs) (ls : Array Slot) (hl : lv_has ls 4 [(0, .ref (eA E 10)), (1, .int x1), (2, .int x2), (3, .int x3)]) : W p l e (kR 5 118) s m args below meth c H locs 0 0 (MQ below (kQi (cP E) (inC E) r σr) args s 0 0 (inC E)) (F0 m 40 ls []) := by
  obtain ⟨-, hx, hb, hml, hown, hts, hK, -, -⟩ := id C
  unfold s_X0_restCount_40 at h
  refine lv_iinc (v := (x3 + (1 : Int32))) (lv' := [(3, .int (x3 + (1 : Int32))), (0, .ref (eA E 10)), (1, .int x1), (2, .int x2)]) hx hb dX0_restCount_40 hl (k := 3) rfl rfl (by decide) rfl (fun ls hl => ?_)
  refine lv_goto (tgt := 17) hx hb dX0_restCount_43 (by decide) ?_
  exact hrec17 σ x1 x2 (x3 + (1 : Int32)) h H locs hP hS ls (lv_sub hl [1, 2, 3, 0] rfl)
def s_X0_restCount_17 (F : Nat) (rec4 : (kS × Int32 × Int32 → Option (Int32 × kS))) (rec17 : (kS × Int32 × Int32 × Int32 → Option (Int32 × kS))) (σ : kS) (x1 : Int32) (x2 : Int32) (x3 : Int32) : Option (Int32 × kS) :=
  (if (kI σ 14) ≤ x3 then rec4 (σ, x1, (x2 + (1 : Int32))) else (kb (f_X0_isRest F σ x2 x3) fun v_2 σ_3 => (if v_2 = 0 then s_X0_restCount_40 F rec4 rec17 σ_3 x1 x2 x3 else s_X0_restCount_40 F rec4 rec17 σ_3 (x1 + (1 : Int32)) x2 x3)))
set_option maxRecDepth 100000 in
set_option maxHeartbeats 4000000 in
theorem w_X0_restCount_17 (C : Cx E p s m args meth c cX0_restCount 4 RX0 (some .int)) (F : Nat) (rec4 : (kS × Int32 × Int32 → Option (Int32 × kS))) (hrec4 : ∀ (σ : kS) (x1 : Int32) (x2 : Int32), rec4 (σ, x1, x2) = some (r, σr) → ∀ (H : Heap) (locs : List Loc), cP E σ H → va_S (inC E) s.heap H locs → ∀ (ls : Array Slot), lv_has ls 4 [(0, .ref (eA E 10)), (1, .int x1), (2, .int x2)] → W p l e (kR 5 118) s m args below meth c H locs 0 0 (MQ below (kQi (cP E) (inC E) r σr) args s 0 0 (inC E)) (F0 m 4 ls [])) (rec17 : (kS × Int32 × Int32 × Int32 → Option (Int32 × kS))) (hrec17 : ∀ (σ : kS) (x1 : Int32) (x2 : Int32) (x3 : Int32), rec17 (σ, x1, x2, x3) = some (r, σr) → ∀ (H : Heap) (locs : List Loc), cP E σ H → va_S (inC E) s.heap H locs → ∀ (ls : Array Slot), lv_has ls 4 [(0, .ref (eA E 10)), (1, .int x1), (2, .int x2), (3, .int x3)] → W p l e (kR 5 118) s m args below meth c H locs 0 0 (MQ below (kQi (cP E) (inC E) r σr) args s 0 0 (inC E)) (F0 m 17 ls [])) (σ : kS) (x1 : Int32) (x2 : Int32) (x3 : Int32) (h : s_X0_restCount_17 F rec4 rec17 σ x1 x2 x3 = some (r, σr)) (H : Heap) (locs : List Loc) (hP : cP E σ H) (hS : va_S (inC E) s.heap H locs) (ls : Array Slot) (hl : lv_has ls 4 [(0, .ref (eA E 10)), (1, .int x1), (2, .int x2), (3, .int x3)]) : W p l e (kR 5 118) s m args below meth c H locs 0 0 (MQ below (kQi (cP E) (inC E) r σr) args s 0 0 (inC E)) (F0 m 17 ls []) := by
  obtain ⟨-, hx, hb, hml, hown, hts, hK, -, -⟩ := id C
  unfold s_X0_restCount_17 at h
  refine lv_iload_n hx hb dX0_restCount_17 rfl (lv_at hl 3 rfl) ?_
  refine lv_aload_n hx hb dX0_restCount_18 rfl (lv_at hl 0 rfl) ?_
  refine gf_10_0 C hP w_167 dX0_restCount_19 ?_
  refine gf_6_7 C hP (v := (kI σ 14)) rfl w_93 dX0_restCount_22 ?_
  refine lv_icmp_ge (tgt := 46) hx hb dX0_restCount_25 (by decide) (fun c_1 => ?_) (fun c_1 => ?_)
  · have h := k_t c_1 h
    refine lv_iinc (v := (x2 + (1 : Int32))) (lv' := [(2, .int (x2 + (1 : Int32))), (0, .ref (eA E 10)), (1, .int x1), (3, .int x3)]) hx hb dX0_restCount_46 hl (k := 2) rfl rfl (by decide) rfl (fun ls hl => ?_)
    refine lv_goto (tgt := 4) hx hb dX0_restCount_49 (by decide) ?_
    exact hrec4 σ x1 (x2 + (1 : Int32)) h H locs hP hS ls (lv_sub hl [1, 2, 0] rfl)
  · have h := k_f c_1 h
    refine lv_aload_n hx hb dX0_restCount_28 rfl (lv_at hl 0 rfl) ?_
    refine lv_iload_n hx hb dX0_restCount_29 rfl (lv_at hl 2 rfl) ?_
    refine lv_iload_n hx hb dX0_restCount_30 rfl (lv_at hl 3 rfl) ?_
    obtain ⟨v_2, σ_3, hc_4, h⟩ := kb_ok h
    refine kci (krunV (As := [.int x2, .int x3]) C hP (c_X0_isRest E C.1 F σ x2 x3 hc_4) w_551 kv_X0_isRest ⟨Nat.le_of_ble_eq_true rfl, Nat.le_of_ble_eq_true rfl⟩ (rc_10 C hP) rfl hl.1 rfl (Nat.le_of_ble_eq_true rfl) dX0_restCount_31) hS (fun H locs hP hS => ?_)
    refine lv_if_eq (tgt := 40) hx hb dX0_restCount_34 (by decide) (fun c_5 => ?_) (fun c_5 => ?_)
    · have h := k_t c_5 h
      exact w_X0_restCount_40 C F rec4 hrec4 rec17 hrec17 σ_3 x1 x2 x3 h H locs hP hS ls hl
    · have h := k_f c_5 h
      refine lv_iinc (v := (x1 + (1 : Int32))) (lv' := [(1, .int (x1 + (1 : Int32))), (0, .ref (eA E 10)), (2, .int x2), (3, .int x3)]) hx hb dX0_restCount_37 hl (k := 1) rfl rfl (by decide) rfl (fun ls hl => ?_)
      exact w_X0_restCount_40 C F rec4 hrec4 rec17 hrec17 σ_3 (x1 + (1 : Int32)) x2 x3 h H locs hP hS ls (lv_sub hl [1, 0, 2, 3] rfl)
def f_X0_restCount_17 (F : Nat) (rec4 : (kS × Int32 × Int32 → Option (Int32 × kS))) : kS × Int32 × Int32 × Int32 → Option (Int32 × kS) := itr (fun rec17 q => s_X0_restCount_17 F rec4 rec17 q.1 q.2.1 q.2.2.1 q.2.2.2) F
theorem wf_X0_restCount_17 (C : Cx E p s m args meth c cX0_restCount 4 RX0 (some .int)) (F : Nat) (rec4 : (kS × Int32 × Int32 → Option (Int32 × kS))) (hrec4 : ∀ (σ : kS) (x1 : Int32) (x2 : Int32), rec4 (σ, x1, x2) = some (r, σr) → ∀ (H : Heap) (locs : List Loc), cP E σ H → va_S (inC E) s.heap H locs → ∀ (ls : Array Slot), lv_has ls 4 [(0, .ref (eA E 10)), (1, .int x1), (2, .int x2)] → W p l e (kR 5 118) s m args below meth c H locs 0 0 (MQ below (kQi (cP E) (inC E) r σr) args s 0 0 (inC E)) (F0 m 4 ls [])) (σ : kS) (x1 : Int32) (x2 : Int32) (x3 : Int32) (h : f_X0_restCount_17 F rec4 (σ, x1, x2, x3) = some (r, σr)) (H : Heap) (locs : List Loc) (hP : cP E σ H) (hS : va_S (inC E) s.heap H locs) (ls : Array Slot) (hl : lv_has ls 4 [(0, .ref (eA E 10)), (1, .int x1), (2, .int x2), (3, .int x3)]) : W p l e (kR 5 118) s m args below meth c H locs 0 0 (MQ below (kQi (cP E) (inC E) r σr) args s 0 0 (inC E)) (F0 m 17 ls []) :=
  itr_ok (r := (r, σr)) (G := fun q => ∀ (H : Heap) (locs : List Loc), cP E q.1 H → va_S (inC E) s.heap H locs → ∀ (ls : Array Slot), lv_has ls 4 [(0, .ref (eA E 10)), (1, .int (q.2.1)), (2, .int (q.2.2.1)), (3, .int (q.2.2.2))] → W p l e (kR 5 118) s m args below meth c H locs 0 0 (MQ below (kQi (cP E) (inC E) r σr) args s 0 0 (inC E)) (F0 m 17 ls [])) (fun rec17 hrec17 q h => w_X0_restCount_17 C F rec4 hrec4 rec17 (fun σ x1 x2 x3 => hrec17 (σ, x1, x2, x3)) q.1 q.2.1 q.2.2.1 q.2.2.2 h) F (σ, x1, x2, x3) h H locs hP hS ls hl
def s_X0_restCount_4 (F : Nat) (rec4 : (kS × Int32 × Int32 → Option (Int32 × kS))) (σ : kS) (x1 : Int32) (x2 : Int32) : Option (Int32 × kS) :=
  (if (kI σ 14) ≤ x2 then some (x1, σ) else f_X0_restCount_17 F rec4 (σ, x1, x2, (-1 : Int32)))
set_option maxRecDepth 100000 in
set_option maxHeartbeats 4000000 in
theorem w_X0_restCount_4 (C : Cx E p s m args meth c cX0_restCount 4 RX0 (some .int)) (F : Nat) (rec4 : (kS × Int32 × Int32 → Option (Int32 × kS))) (hrec4 : ∀ (σ : kS) (x1 : Int32) (x2 : Int32), rec4 (σ, x1, x2) = some (r, σr) → ∀ (H : Heap) (locs : List Loc), cP E σ H → va_S (inC E) s.heap H locs → ∀ (ls : Array Slot), lv_has ls 4 [(0, .ref (eA E 10)), (1, .int x1), (2, .int x2)] → W p l e (kR 5 118) s m args below meth c H locs 0 0 (MQ below (kQi (cP E) (inC E) r σr) args s 0 0 (inC E)) (F0 m 4 ls [])) (σ : kS) (x1 : Int32) (x2 : Int32) (h : s_X0_restCount_4 F rec4 σ x1 x2 = some (r, σr)) (H : Heap) (locs : List Loc) (hP : cP E σ H) (hS : va_S (inC E) s.heap H locs) (ls : Array Slot) (hl : lv_has ls 4 [(0, .ref (eA E 10)), (1, .int x1), (2, .int x2)]) : W p l e (kR 5 118) s m args below meth c H locs 0 0 (MQ below (kQi (cP E) (inC E) r σr) args s 0 0 (inC E)) (F0 m 4 ls []) := by
  obtain ⟨-, hx, hb, hml, hown, hts, hK, -, -⟩ := id C
  unfold s_X0_restCount_4 at h
  refine lv_iload_n hx hb dX0_restCount_4 rfl (lv_at hl 2 rfl) ?_
  refine lv_aload_n hx hb dX0_restCount_5 rfl (lv_at hl 0 rfl) ?_
  refine gf_10_0 C hP w_167 dX0_restCount_6 ?_
  refine gf_6_7 C hP (v := (kI σ 14)) rfl w_93 dX0_restCount_9 ?_
  refine lv_icmp_ge (tgt := 52) hx hb dX0_restCount_12 (by decide) (fun c_1 => ?_) (fun c_1 => ?_)
  · have h := k_t c_1 h
    refine lv_iload_n hx hb dX0_restCount_52 rfl (lv_at hl 1 rfl) ?_
    obtain ⟨rfl, rfl⟩ := k_inj h
    exact kri C hS hP dX0_restCount_53
  · have h := k_f c_1 h
    refine lv_iconst (v := (-1 : Int32)) hx hb dX0_restCount_15 (by decide) ?_
    refine lv_istore_n (lv' := [(3, .int (-1 : Int32)), (0, .ref (eA E 10)), (1, .int x1), (2, .int x2)]) hx hb dX0_restCount_16 rfl hl (by decide) rfl (fun ls hl => ?_)
    exact wf_X0_restCount_17 C F rec4 hrec4 σ x1 x2 (-1 : Int32) h H locs hP hS ls (lv_sub hl [1, 2, 3, 0] rfl)
def f_X0_restCount_4 (F : Nat) : kS × Int32 × Int32 → Option (Int32 × kS) := itr (fun rec4 q => s_X0_restCount_4 F rec4 q.1 q.2.1 q.2.2) F
theorem wf_X0_restCount_4 (C : Cx E p s m args meth c cX0_restCount 4 RX0 (some .int)) (F : Nat) (σ : kS) (x1 : Int32) (x2 : Int32) (h : f_X0_restCount_4 F (σ, x1, x2) = some (r, σr)) (H : Heap) (locs : List Loc) (hP : cP E σ H) (hS : va_S (inC E) s.heap H locs) (ls : Array Slot) (hl : lv_has ls 4 [(0, .ref (eA E 10)), (1, .int x1), (2, .int x2)]) : W p l e (kR 5 118) s m args below meth c H locs 0 0 (MQ below (kQi (cP E) (inC E) r σr) args s 0 0 (inC E)) (F0 m 4 ls []) :=
  itr_ok (r := (r, σr)) (G := fun q => ∀ (H : Heap) (locs : List Loc), cP E q.1 H → va_S (inC E) s.heap H locs → ∀ (ls : Array Slot), lv_has ls 4 [(0, .ref (eA E 10)), (1, .int (q.2.1)), (2, .int (q.2.2))] → W p l e (kR 5 118) s m args below meth c H locs 0 0 (MQ below (kQi (cP E) (inC E) r σr) args s 0 0 (inC E)) (F0 m 4 ls [])) (fun rec4 hrec4 q h => w_X0_restCount_4 C F rec4 (fun σ x1 x2 => hrec4 (σ, x1, x2)) q.1 q.2.1 q.2.2 h) F (σ, x1, x2) h H locs hP hS ls hl
def s_X0_restCount_0 (F : Nat) (σ : kS) : Option (Int32 × kS) :=
  f_X0_restCount_4 F (σ, (0 : Int32), (-1 : Int32))
set_option maxRecDepth 100000 in
set_option maxHeartbeats 4000000 in
theorem w_X0_restCount_0 (C : Cx E p s m args meth c cX0_restCount 4 RX0 (some .int)) (F : Nat) (σ : kS) (h : s_X0_restCount_0 F σ = some (r, σr)) (H : Heap) (locs : List Loc) (hP : cP E σ H) (hS : va_S (inC E) s.heap H locs) (ls : Array Slot) (hl : lv_has ls 4 [(0, .ref (eA E 10))]) : W p l e (kR 5 118) s m args below meth c H locs 0 0 (MQ below (kQi (cP E) (inC E) r σr) args s 0 0 (inC E)) (F0 m 0 ls []) := by
  obtain ⟨-, hx, hb, hml, hown, hts, hK, -, -⟩ := id C
  unfold s_X0_restCount_0 at h
  refine lv_iconst (v := (0 : Int32)) hx hb dX0_restCount_0 (by decide) ?_
  refine lv_istore_n (lv' := [(1, .int (0 : Int32)), (0, .ref (eA E 10))]) hx hb dX0_restCount_1 rfl hl (by decide) rfl (fun ls hl => ?_)
  refine lv_iconst (v := (-1 : Int32)) hx hb dX0_restCount_2 (by decide) ?_
  refine lv_istore_n (lv' := [(2, .int (-1 : Int32)), (1, .int (0 : Int32)), (0, .ref (eA E 10))]) hx hb dX0_restCount_3 rfl hl (by decide) rfl (fun ls hl => ?_)
  exact wf_X0_restCount_4 C F σ (0 : Int32) (-1 : Int32) h H locs hP hS ls (lv_sub hl [2, 1, 0] rfl)
def f_X0_restCount (F : Nat) (σ : kS) : Option (Int32 × kS) := s_X0_restCount_0 F σ
set_option maxRecDepth 100000 in
theorem c_X0_restCount (E : kE) (hE : kap E) (F : Nat) (σ : kS) (h : f_X0_restCount F σ = some (r, σr)) : Met l yX0_restCount (kWs yX0_restCount cX0_restCount 4 (some .int)) (kR 5 118) (kPre (cP E) E [.ref (eA E 10)] σ) (kQi (cP E) (inC E) r σr) 0 0 (inC E) :=
  kst hE (by decide +kernel) (Nat.le_of_ble_eq_true rfl) (fun p e s m below meth c ls C hP hl => w_X0_restCount_0 C F σ h s.heap [] hP va_S.rf ls hl)
end

section
variable {p : Program} {l : Launch} {e : Env} {s : State} {m : MethodId} {args : Array Value} {below : List Frame} {meth : Method} {c : Code} {E : kE} {σr : kS}
variable {r : Int32}
def s_X7_rests_37 (F : Nat) (σ : kS) (y0 : Int32) : Option (Int32 × kS) :=
  (kb (f_X0_actOfFirstRest F σ y0) fun v_1 σ_2 => (if 0 ≤ v_1 then some (v_1, σ_2) else some ((-4 : Int32), σ_2)))
set_option maxRecDepth 100000 in
set_option maxHeartbeats 4000000 in
theorem w_X7_rests_37 (C : Cx E p s m args meth c cX7_rests 3 RX7 (some .int)) (F : Nat) (σ : kS) (y0 : Int32) (h : s_X7_rests_37 F σ y0 = some (r, σr)) (H : Heap) (locs : List Loc) (hP : cP E σ H) (hS : va_S (inC E) s.heap H locs) (ls : Array Slot) (hl : lv_has ls 3 []) : W p l e (kR 6 141) s m args below meth c H locs 0 0 (MQ below (kQi (cP E) (inC E) r σr) args s 0 0 (inC E)) (F0 m 37 ls [.int y0, .ref (eA E 10)]) := by
  obtain ⟨-, hx, hb, hml, hown, hts, hK, -, -⟩ := id C
  unfold s_X7_rests_37 at h
  obtain ⟨v_1, σ_2, hc_3, h⟩ := kb_ok h
  refine kci (krunV (As := [.int y0]) C hP (c_X0_actOfFirstRest E C.1 F σ y0 hc_3) w_556 kv_X0_actOfFirstRest ⟨Nat.le_of_ble_eq_true rfl, Nat.le_of_ble_eq_true rfl⟩ (rc_10 C hP) rfl hl.1 rfl (Nat.le_of_ble_eq_true rfl) dX7_rests_37) hS (fun H locs hP hS => ?_)
  refine lv_istore_n (lv' := [(2, .int v_1)]) hx hb dX7_rests_40 rfl hl (by decide) rfl (fun ls hl => ?_)
  refine lv_iload_n hx hb dX7_rests_41 rfl (lv_at hl 0 rfl) ?_
  refine lv_if_ge (tgt := 50) hx hb dX7_rests_42 (by decide) (fun c_4 => ?_) (fun c_4 => ?_)
  · have h := k_t c_4 h
    refine lv_iload_n hx hb dX7_rests_50 rfl (lv_at hl 0 rfl) ?_
    obtain ⟨rfl, rfl⟩ := k_inj h
    exact kri C hS hP dX7_rests_51
  · have h := k_f c_4 h
    refine lv_bipush (v := (-4 : Int32)) hx hb dX7_rests_45 (by decide) ?_
    refine lv_goto (tgt := 51) hx hb dX7_rests_47 (by decide) ?_
    obtain ⟨rfl, rfl⟩ := k_inj h
    exact kri C hS hP dX7_rests_51
def s_X7_rests_0 (F : Nat) (σ : kS) (x1 : Int32) : Option (Int32 × kS) :=
  (if x1 < 0 then some ((-1 : Int32), σ) else (if x1 ≤ (2 : Int32) then (if x1 = 0 then (kb (f_X0_restCount F σ) fun v_5 σ_6 => some (v_5, σ_6)) else (if x1 = (1 : Int32) then s_X7_rests_37 F σ (0 : Int32) else s_X7_rests_37 F σ (1 : Int32))) else some ((-1 : Int32), σ)))
set_option maxRecDepth 100000 in
set_option maxHeartbeats 4000000 in
theorem w_X7_rests_0 (C : Cx E p s m args meth c cX7_rests 3 RX7 (some .int)) (F : Nat) (σ : kS) (x1 : Int32) (h : s_X7_rests_0 F σ x1 = some (r, σr)) (H : Heap) (locs : List Loc) (hP : cP E σ H) (hS : va_S (inC E) s.heap H locs) (ls : Array Slot) (hl : lv_has ls 3 [(0, .ref (eA E 0)), (1, .int x1)]) : W p l e (kR 6 141) s m args below meth c H locs 0 0 (MQ below (kQi (cP E) (inC E) r σr) args s 0 0 (inC E)) (F0 m 0 ls []) := by
  obtain ⟨-, hx, hb, hml, hown, hts, hK, -, -⟩ := id C
  unfold s_X7_rests_0 at h
  refine lv_iload_n hx hb dX7_rests_0 rfl (lv_at hl 1 rfl) ?_
  refine lv_if_lt (tgt := 9) hx hb dX7_rests_1 (by decide) (fun c_1 => ?_) (fun c_1 => ?_)
  · have h := k_t c_1 h
    refine lv_iconst (v := (-1 : Int32)) hx hb dX7_rests_9 (by decide) ?_
    obtain ⟨rfl, rfl⟩ := k_inj h
    exact kri C hS hP dX7_rests_10
  · have h := k_f c_1 h
    refine lv_iload_n hx hb dX7_rests_4 rfl (lv_at hl 1 rfl) ?_
    refine lv_iconst (v := (2 : Int32)) hx hb dX7_rests_5 (by decide) ?_
    refine lv_icmp_le (tgt := 11) hx hb dX7_rests_6 (by decide) (fun c_2 => ?_) (fun c_2 => ?_)
    · have h := k_t c_2 h
      refine lv_iload_n hx hb dX7_rests_11 rfl (lv_at hl 1 rfl) ?_
      refine lv_if_ne (tgt := 23) hx hb dX7_rests_12 (by decide) (fun c_3 => ?_) (fun c_3 => ?_)
      · have h := k_f c_3 h
        refine lv_aload_n hx hb dX7_rests_23 rfl (lv_at hl 0 rfl) ?_
        refine gf_0_5 C hP w_254 dX7_rests_24 ?_
        refine lv_iload_n hx hb dX7_rests_27 rfl (lv_at hl 1 rfl) ?_
        refine lv_iconst (v := (1 : Int32)) hx hb dX7_rests_28 (by decide) ?_
        refine lv_icmp_ne (tgt := 36) hx hb dX7_rests_29 (by decide) (fun c_4 => ?_) (fun c_4 => ?_)
        · have h := k_f c_4 h
          refine lv_iconst (v := (1 : Int32)) hx hb dX7_rests_36 (by decide) ?_
          exact w_X7_rests_37 C F σ (1 : Int32) h H locs hP hS ls (lv_sub hl [] rfl)
        · have h := k_t c_4 h
          refine lv_iconst (v := (0 : Int32)) hx hb dX7_rests_32 (by decide) ?_
          refine lv_goto (tgt := 37) hx hb dX7_rests_33 (by decide) ?_
          exact w_X7_rests_37 C F σ (0 : Int32) h H locs hP hS ls (lv_sub hl [] rfl)
      · have h := k_t c_3 h
        refine lv_aload_n hx hb dX7_rests_15 rfl (lv_at hl 0 rfl) ?_
        refine gf_0_5 C hP w_254 dX7_rests_16 ?_
        obtain ⟨v_5, σ_6, hc_7, h⟩ := kb_ok h
        refine kci (krunV (As := []) C hP (c_X0_restCount E C.1 F σ hc_7) w_547 kv_X0_restCount ⟨Nat.le_of_ble_eq_true rfl, Nat.le_of_ble_eq_true rfl⟩ (rc_10 C hP) rfl hl.1 rfl (Nat.le_of_ble_eq_true rfl) dX7_rests_19) hS (fun H locs hP hS => ?_)
        obtain ⟨rfl, rfl⟩ := k_inj h
        exact kri C hS hP dX7_rests_22
    · have h := k_f c_2 h
      refine lv_iconst (v := (-1 : Int32)) hx hb dX7_rests_9 (by decide) ?_
      obtain ⟨rfl, rfl⟩ := k_inj h
      exact kri C hS hP dX7_rests_10
def f_X7_rests (F : Nat) (σ : kS) (x1 : Int32) : Option (Int32 × kS) := s_X7_rests_0 F σ x1
set_option maxRecDepth 100000 in
theorem c_X7_rests (E : kE) (hE : kap E) (F : Nat) (σ : kS) (x1 : Int32) (h : f_X7_rests F σ x1 = some (r, σr)) : Met l yX7_rests (kWs yX7_rests cX7_rests 3 (some .int)) (kR 6 141) (kPre (cP E) E [.ref (eA E 0), .int x1] σ) (kQi (cP E) (inC E) r σr) 0 0 (inC E) :=
  kst hE (by decide +kernel) (Nat.le_of_ble_eq_true rfl) (fun p e s m below meth c ls C hP hl => w_X7_rests_0 C F σ x1 h s.heap [] hP va_S.rf ls hl)
end

section
variable {p : Program} {l : Launch} {e : Env} {s : State} {m : MethodId} {args : Array Value} {below : List Frame} {meth : Method} {c : Code} {E : kE} {σr : kS}
variable {r : Int32}
def s_X0_lawsOfTreaty_38 (F : Nat) (rec10 : (kS × Int32 × Int32 × Int32 → Option (Int32 × kS))) (σ : kS) (x1 : Int32) (x2 : Int32) (x3 : Int32) : Option (Int32 × kS) :=
  rec10 (σ, x1, x2, (x3 + (1 : Int32)))
set_option maxRecDepth 100000 in
set_option maxHeartbeats 4000000 in
theorem w_X0_lawsOfTreaty_38 (C : Cx E p s m args meth c cX0_lawsOfTreaty 4 RX0 (some .int)) (F : Nat) (rec10 : (kS × Int32 × Int32 × Int32 → Option (Int32 × kS))) (hrec10 : ∀ (σ : kS) (x1 : Int32) (x2 : Int32) (x3 : Int32), rec10 (σ, x1, x2, x3) = some (r, σr) → ∀ (H : Heap) (locs : List Loc), cP E σ H → va_S (inC E) s.heap H locs → ∀ (ls : Array Slot), lv_has ls 4 [(0, .ref (eA E 10)), (1, .int x1), (2, .int x2), (3, .int x3)] → W p l e (kR 1 21) s m args below meth c H locs 0 0 (MQ below (kQi (cP E) (inC E) r σr) args s 0 0 (inC E)) (F0 m 10 ls [])) (σ : kS) (x1 : Int32) (x2 : Int32) (x3 : Int32) (h : s_X0_lawsOfTreaty_38 F rec10 σ x1 x2 x3 = some (r, σr)) (H : Heap) (locs : List Loc) (hP : cP E σ H) (hS : va_S (inC E) s.heap H locs) (ls : Array Slot) (hl : lv_has ls 4 [(0, .ref (eA E 10)), (1, .int x1), (2, .int x2), (3, .int x3)]) : W p l e (kR 1 21) s m args below meth c H locs 0 0 (MQ below (kQi (cP E) (inC E) r σr) args s 0 0 (inC E)) (F0 m 38 ls []) := by
  obtain ⟨-, hx, hb, hml, hown, hts, hK, -, -⟩ := id C
  unfold s_X0_lawsOfTreaty_38 at h
  refine lv_iinc (v := (x3 + (1 : Int32))) (lv' := [(3, .int (x3 + (1 : Int32))), (0, .ref (eA E 10)), (1, .int x1), (2, .int x2)]) hx hb dX0_lawsOfTreaty_38 hl (k := 3) rfl rfl (by decide) rfl (fun ls hl => ?_)
  refine lv_goto (tgt := 10) hx hb dX0_lawsOfTreaty_41 (by decide) ?_
  exact hrec10 σ x1 x2 (x3 + (1 : Int32)) h H locs hP hS ls (lv_sub hl [1, 2, 3, 0] rfl)
def s_X0_lawsOfTreaty_10 (F : Nat) (rec10 : (kS × Int32 × Int32 × Int32 → Option (Int32 × kS))) (σ : kS) (x1 : Int32) (x2 : Int32) (x3 : Int32) : Option (Int32 × kS) :=
  (if (kI σ 14) ≤ x3 then some (x2, σ) else (if ((x1 >>> (x3 &&& 31)) &&& (1 : Int32)) = (1 : Int32) then (kb (f_X7_lawBits F σ x3 (3 : Int32)) fun v_3 σ_4 => s_X0_lawsOfTreaty_38 F rec10 σ_4 x1 (x2 ||| v_3) x3) else s_X0_lawsOfTreaty_38 F rec10 σ x1 x2 x3))
set_option maxRecDepth 100000 in
set_option maxHeartbeats 4000000 in
theorem w_X0_lawsOfTreaty_10 (C : Cx E p s m args meth c cX0_lawsOfTreaty 4 RX0 (some .int)) (F : Nat) (rec10 : (kS × Int32 × Int32 × Int32 → Option (Int32 × kS))) (hrec10 : ∀ (σ : kS) (x1 : Int32) (x2 : Int32) (x3 : Int32), rec10 (σ, x1, x2, x3) = some (r, σr) → ∀ (H : Heap) (locs : List Loc), cP E σ H → va_S (inC E) s.heap H locs → ∀ (ls : Array Slot), lv_has ls 4 [(0, .ref (eA E 10)), (1, .int x1), (2, .int x2), (3, .int x3)] → W p l e (kR 1 21) s m args below meth c H locs 0 0 (MQ below (kQi (cP E) (inC E) r σr) args s 0 0 (inC E)) (F0 m 10 ls [])) (σ : kS) (x1 : Int32) (x2 : Int32) (x3 : Int32) (h : s_X0_lawsOfTreaty_10 F rec10 σ x1 x2 x3 = some (r, σr)) (H : Heap) (locs : List Loc) (hP : cP E σ H) (hS : va_S (inC E) s.heap H locs) (ls : Array Slot) (hl : lv_has ls 4 [(0, .ref (eA E 10)), (1, .int x1), (2, .int x2), (3, .int x3)]) : W p l e (kR 1 21) s m args below meth c H locs 0 0 (MQ below (kQi (cP E) (inC E) r σr) args s 0 0 (inC E)) (F0 m 10 ls []) := by
  obtain ⟨-, hx, hb, hml, hown, hts, hK, -, -⟩ := id C
  unfold s_X0_lawsOfTreaty_10 at h
  refine lv_iload_n hx hb dX0_lawsOfTreaty_10 rfl (lv_at hl 3 rfl) ?_
  refine lv_aload_n hx hb dX0_lawsOfTreaty_11 rfl (lv_at hl 0 rfl) ?_
  refine gf_10_0 C hP w_167 dX0_lawsOfTreaty_12 ?_
  refine gf_6_7 C hP (v := (kI σ 14)) rfl w_93 dX0_lawsOfTreaty_15 ?_
  refine lv_icmp_ge (tgt := 44) hx hb dX0_lawsOfTreaty_18 (by decide) (fun c_1 => ?_) (fun c_1 => ?_)
  · have h := k_t c_1 h
    refine lv_iload_n hx hb dX0_lawsOfTreaty_44 rfl (lv_at hl 2 rfl) ?_
    obtain ⟨rfl, rfl⟩ := k_inj h
    exact kri C hS hP dX0_lawsOfTreaty_45
  · have h := k_f c_1 h
    refine lv_iload_n hx hb dX0_lawsOfTreaty_21 rfl (lv_at hl 1 rfl) ?_
    refine lv_iload_n hx hb dX0_lawsOfTreaty_22 rfl (lv_at hl 3 rfl) ?_
    refine lv_ishr hx hb dX0_lawsOfTreaty_23 ?_
    refine lv_iconst (v := (1 : Int32)) hx hb dX0_lawsOfTreaty_24 (by decide) ?_
    refine lv_iand hx hb dX0_lawsOfTreaty_25 ?_
    refine lv_iconst (v := (1 : Int32)) hx hb dX0_lawsOfTreaty_26 (by decide) ?_
    refine lv_icmp_ne (tgt := 38) hx hb dX0_lawsOfTreaty_27 (by decide) (fun c_2 => ?_) (fun c_2 => ?_)
    · have h := k_f c_2 h
      exact w_X0_lawsOfTreaty_38 C F rec10 hrec10 σ x1 x2 x3 h H locs hP hS ls hl
    · have h := k_t c_2 h
      refine lv_iload_n hx hb dX0_lawsOfTreaty_30 rfl (lv_at hl 2 rfl) ?_
      refine lv_iload_n hx hb dX0_lawsOfTreaty_31 rfl (lv_at hl 3 rfl) ?_
      refine lv_iconst (v := (3 : Int32)) hx hb dX0_lawsOfTreaty_32 (by decide) ?_
      obtain ⟨v_3, σ_4, hc_5, h⟩ := kb_ok h
      refine kci (krunN (As := [.int x3, .int (3 : Int32)]) C hP (c_X7_lawBits E C.1 F σ x3 (3 : Int32) hc_5) (fun g => g.2.2.2) kt_X7_lawBits ⟨Nat.le_of_ble_eq_true rfl, Nat.le_of_ble_eq_true rfl⟩ rfl hl.1 rfl (Nat.le_of_ble_eq_true rfl) dX0_lawsOfTreaty_33) hS (fun H locs hP hS => ?_)
      refine lv_ior hx hb dX0_lawsOfTreaty_36 ?_
      refine lv_istore_n (lv' := [(2, .int (x2 ||| v_3)), (0, .ref (eA E 10)), (1, .int x1), (3, .int x3)]) hx hb dX0_lawsOfTreaty_37 rfl hl (by decide) rfl (fun ls hl => ?_)
      exact w_X0_lawsOfTreaty_38 C F rec10 hrec10 σ_4 x1 (x2 ||| v_3) x3 h H locs hP hS ls (lv_sub hl [1, 2, 0, 3] rfl)
def f_X0_lawsOfTreaty_10 (F : Nat) : kS × Int32 × Int32 × Int32 → Option (Int32 × kS) := itr (fun rec10 q => s_X0_lawsOfTreaty_10 F rec10 q.1 q.2.1 q.2.2.1 q.2.2.2) F
theorem wf_X0_lawsOfTreaty_10 (C : Cx E p s m args meth c cX0_lawsOfTreaty 4 RX0 (some .int)) (F : Nat) (σ : kS) (x1 : Int32) (x2 : Int32) (x3 : Int32) (h : f_X0_lawsOfTreaty_10 F (σ, x1, x2, x3) = some (r, σr)) (H : Heap) (locs : List Loc) (hP : cP E σ H) (hS : va_S (inC E) s.heap H locs) (ls : Array Slot) (hl : lv_has ls 4 [(0, .ref (eA E 10)), (1, .int x1), (2, .int x2), (3, .int x3)]) : W p l e (kR 1 21) s m args below meth c H locs 0 0 (MQ below (kQi (cP E) (inC E) r σr) args s 0 0 (inC E)) (F0 m 10 ls []) :=
  itr_ok (r := (r, σr)) (G := fun q => ∀ (H : Heap) (locs : List Loc), cP E q.1 H → va_S (inC E) s.heap H locs → ∀ (ls : Array Slot), lv_has ls 4 [(0, .ref (eA E 10)), (1, .int (q.2.1)), (2, .int (q.2.2.1)), (3, .int (q.2.2.2))] → W p l e (kR 1 21) s m args below meth c H locs 0 0 (MQ below (kQi (cP E) (inC E) r σr) args s 0 0 (inC E)) (F0 m 10 ls [])) (fun rec10 hrec10 q h => w_X0_lawsOfTreaty_10 C F rec10 (fun σ x1 x2 x3 => hrec10 (σ, x1, x2, x3)) q.1 q.2.1 q.2.2.1 q.2.2.2 h) F (σ, x1, x2, x3) h H locs hP hS ls hl
def s_X0_lawsOfTreaty_0 (F : Nat) (σ : kS) (x1 : Int32) : Option (Int32 × kS) :=
  f_X0_lawsOfTreaty_10 F (σ, x1, (kI σ 18), (0 : Int32))
set_option maxRecDepth 100000 in
set_option maxHeartbeats 4000000 in
theorem w_X0_lawsOfTreaty_0 (C : Cx E p s m args meth c cX0_lawsOfTreaty 4 RX0 (some .int)) (F : Nat) (σ : kS) (x1 : Int32) (h : s_X0_lawsOfTreaty_0 F σ x1 = some (r, σr)) (H : Heap) (locs : List Loc) (hP : cP E σ H) (hS : va_S (inC E) s.heap H locs) (ls : Array Slot) (hl : lv_has ls 4 [(0, .ref (eA E 10)), (1, .int x1)]) : W p l e (kR 1 21) s m args below meth c H locs 0 0 (MQ below (kQi (cP E) (inC E) r σr) args s 0 0 (inC E)) (F0 m 0 ls []) := by
  obtain ⟨-, hx, hb, hml, hown, hts, hK, -, -⟩ := id C
  unfold s_X0_lawsOfTreaty_0 at h
  refine lv_aload_n hx hb dX0_lawsOfTreaty_0 rfl (lv_at hl 0 rfl) ?_
  refine gf_10_1 C hP w_168 dX0_lawsOfTreaty_1 ?_
  refine gf_8_4 C hP (v := (kI σ 18)) rfl w_134 dX0_lawsOfTreaty_4 ?_
  refine lv_istore_n (lv' := [(2, .int (kI σ 18)), (0, .ref (eA E 10)), (1, .int x1)]) hx hb dX0_lawsOfTreaty_7 rfl hl (by decide) rfl (fun ls hl => ?_)
  refine lv_iconst (v := (0 : Int32)) hx hb dX0_lawsOfTreaty_8 (by decide) ?_
  refine lv_istore_n (lv' := [(3, .int (0 : Int32)), (2, .int (kI σ 18)), (0, .ref (eA E 10)), (1, .int x1)]) hx hb dX0_lawsOfTreaty_9 rfl hl (by decide) rfl (fun ls hl => ?_)
  exact wf_X0_lawsOfTreaty_10 C F σ x1 (kI σ 18) (0 : Int32) h H locs hP hS ls (lv_sub hl [2, 3, 1, 0] rfl)
def f_X0_lawsOfTreaty (F : Nat) (σ : kS) (x1 : Int32) : Option (Int32 × kS) := s_X0_lawsOfTreaty_0 F σ x1
set_option maxRecDepth 100000 in
theorem c_X0_lawsOfTreaty (E : kE) (hE : kap E) (F : Nat) (σ : kS) (x1 : Int32) (h : f_X0_lawsOfTreaty F σ x1 = some (r, σr)) : Met l yX0_lawsOfTreaty (kWs yX0_lawsOfTreaty cX0_lawsOfTreaty 4 (some .int)) (kR 1 21) (kPre (cP E) E [.ref (eA E 10), .int x1] σ) (kQi (cP E) (inC E) r σr) 0 0 (inC E) :=
  kst hE (by decide +kernel) (Nat.le_of_ble_eq_true rfl) (fun p e s m below meth c ls C hP hl => w_X0_lawsOfTreaty_0 C F σ x1 h s.heap [] hP va_S.rf ls hl)
end

section
variable {p : Program} {l : Launch} {e : Env} {s : State} {m : MethodId} {args : Array Value} {below : List Frame} {meth : Method} {c : Code} {E : kE} {σr : kS}
variable {r : Int32}
def s_X0_suitsEither_30 (F : Nat) (σ : kS) : Option (Int32 × kS) :=
  some ((1 : Int32), σ)
set_option maxRecDepth 100000 in
set_option maxHeartbeats 4000000 in
theorem w_X0_suitsEither_30 (C : Cx E p s m args meth c cX0_suitsEither 3 RX0 (some .boolean)) (F : Nat) (σ : kS) (h : s_X0_suitsEither_30 F σ = some (r, σr)) (H : Heap) (locs : List Loc) (hP : cP E σ H) (hS : va_S (inC E) s.heap H locs) (ls : Array Slot) (hl : lv_has ls 3 []) : W p l e (kR 3 69) s m args below meth c H locs 0 0 (MQ below (kQi (cP E) (inC E) r σr) args s 0 0 (inC E)) (F0 m 30 ls []) := by
  obtain ⟨-, hx, hb, hml, hown, hts, hK, -, -⟩ := id C
  unfold s_X0_suitsEither_30 at h
  refine lv_iconst (v := (1 : Int32)) hx hb dX0_suitsEither_30 (by decide) ?_
  refine lv_goto (tgt := 35) hx hb dX0_suitsEither_31 (by decide) ?_
  obtain ⟨rfl, rfl⟩ := k_inj h
  exact krz C hS hP (by decide) dX0_suitsEither_35
def s_X0_suitsEither_0 (F : Nat) (σ : kS) (x1 : Int32) (x2 : Int32) : Option (Int32 × kS) :=
  (kb (f_X0_gainUnder F σ x1 (0 : Int32)) fun v_1 σ_2 => (kb (f_X0_gainUnder F σ_2 x2 (0 : Int32)) fun v_4 σ_5 => (if v_4 < v_1 then s_X0_suitsEither_30 F σ_5 else (kb (f_X0_gainUnder F σ_5 x1 (1 : Int32)) fun v_8 σ_9 => (kb (f_X0_gainUnder F σ_9 x2 (1 : Int32)) fun v_11 σ_12 => (if v_8 ≤ v_11 then some ((0 : Int32), σ_12) else s_X0_suitsEither_30 F σ_12))))))
set_option maxRecDepth 100000 in
set_option maxHeartbeats 4000000 in
theorem w_X0_suitsEither_0 (C : Cx E p s m args meth c cX0_suitsEither 3 RX0 (some .boolean)) (F : Nat) (σ : kS) (x1 : Int32) (x2 : Int32) (h : s_X0_suitsEither_0 F σ x1 x2 = some (r, σr)) (H : Heap) (locs : List Loc) (hP : cP E σ H) (hS : va_S (inC E) s.heap H locs) (ls : Array Slot) (hl : lv_has ls 3 [(0, .ref (eA E 10)), (1, .int x1), (2, .int x2)]) : W p l e (kR 3 69) s m args below meth c H locs 0 0 (MQ below (kQi (cP E) (inC E) r σr) args s 0 0 (inC E)) (F0 m 0 ls []) := by
  obtain ⟨-, hx, hb, hml, hown, hts, hK, -, -⟩ := id C
  unfold s_X0_suitsEither_0 at h
  refine lv_aload_n hx hb dX0_suitsEither_0 rfl (lv_at hl 0 rfl) ?_
  refine lv_iload_n hx hb dX0_suitsEither_1 rfl (lv_at hl 1 rfl) ?_
  refine lv_iconst (v := (0 : Int32)) hx hb dX0_suitsEither_2 (by decide) ?_
  obtain ⟨v_1, σ_2, hc_3, h⟩ := kb_ok h
  refine kci (krunV (As := [.int x1, .int (0 : Int32)]) C hP (c_X0_gainUnder E C.1 F σ x1 (0 : Int32) hc_3) w_542 kv_X0_gainUnder ⟨Nat.le_of_ble_eq_true rfl, Nat.le_of_ble_eq_true rfl⟩ (rc_10 C hP) rfl hl.1 rfl (Nat.le_of_ble_eq_true rfl) dX0_suitsEither_3) hS (fun H locs hP hS => ?_)
  refine lv_aload_n hx hb dX0_suitsEither_6 rfl (lv_at hl 0 rfl) ?_
  refine lv_iload_n hx hb dX0_suitsEither_7 rfl (lv_at hl 2 rfl) ?_
  refine lv_iconst (v := (0 : Int32)) hx hb dX0_suitsEither_8 (by decide) ?_
  obtain ⟨v_4, σ_5, hc_6, h⟩ := kb_ok h
  refine kci (krunV (As := [.int x2, .int (0 : Int32)]) C hP (c_X0_gainUnder E C.1 F σ_2 x2 (0 : Int32) hc_6) w_542 kv_X0_gainUnder ⟨Nat.le_of_ble_eq_true rfl, Nat.le_of_ble_eq_true rfl⟩ (rc_10 C hP) rfl hl.1 rfl (Nat.le_of_ble_eq_true rfl) dX0_suitsEither_9) hS (fun H locs hP hS => ?_)
  refine lv_icmp_gt (tgt := 30) hx hb dX0_suitsEither_12 (by decide) (fun c_7 => ?_) (fun c_7 => ?_)
  · have h := k_t c_7 h
    exact w_X0_suitsEither_30 C F σ_5 h H locs hP hS ls (lv_sub hl [] rfl)
  · have h := k_f c_7 h
    refine lv_aload_n hx hb dX0_suitsEither_15 rfl (lv_at hl 0 rfl) ?_
    refine lv_iload_n hx hb dX0_suitsEither_16 rfl (lv_at hl 1 rfl) ?_
    refine lv_iconst (v := (1 : Int32)) hx hb dX0_suitsEither_17 (by decide) ?_
    obtain ⟨v_8, σ_9, hc_10, h⟩ := kb_ok h
    refine kci (krunV (As := [.int x1, .int (1 : Int32)]) C hP (c_X0_gainUnder E C.1 F σ_5 x1 (1 : Int32) hc_10) w_542 kv_X0_gainUnder ⟨Nat.le_of_ble_eq_true rfl, Nat.le_of_ble_eq_true rfl⟩ (rc_10 C hP) rfl hl.1 rfl (Nat.le_of_ble_eq_true rfl) dX0_suitsEither_18) hS (fun H locs hP hS => ?_)
    refine lv_aload_n hx hb dX0_suitsEither_21 rfl (lv_at hl 0 rfl) ?_
    refine lv_iload_n hx hb dX0_suitsEither_22 rfl (lv_at hl 2 rfl) ?_
    refine lv_iconst (v := (1 : Int32)) hx hb dX0_suitsEither_23 (by decide) ?_
    obtain ⟨v_11, σ_12, hc_13, h⟩ := kb_ok h
    refine kci (krunV (As := [.int x2, .int (1 : Int32)]) C hP (c_X0_gainUnder E C.1 F σ_9 x2 (1 : Int32) hc_13) w_542 kv_X0_gainUnder ⟨Nat.le_of_ble_eq_true rfl, Nat.le_of_ble_eq_true rfl⟩ (rc_10 C hP) rfl hl.1 rfl (Nat.le_of_ble_eq_true rfl) dX0_suitsEither_24) hS (fun H locs hP hS => ?_)
    refine lv_icmp_le (tgt := 34) hx hb dX0_suitsEither_27 (by decide) (fun c_14 => ?_) (fun c_14 => ?_)
    · have h := k_t c_14 h
      refine lv_iconst (v := (0 : Int32)) hx hb dX0_suitsEither_34 (by decide) ?_
      obtain ⟨rfl, rfl⟩ := k_inj h
      exact krz C hS hP (by decide) dX0_suitsEither_35
    · have h := k_f c_14 h
      exact w_X0_suitsEither_30 C F σ_12 h H locs hP hS ls (lv_sub hl [] rfl)
def f_X0_suitsEither (F : Nat) (σ : kS) (x1 : Int32) (x2 : Int32) : Option (Int32 × kS) := s_X0_suitsEither_0 F σ x1 x2
set_option maxRecDepth 100000 in
theorem c_X0_suitsEither (E : kE) (hE : kap E) (F : Nat) (σ : kS) (x1 : Int32) (x2 : Int32) (h : f_X0_suitsEither F σ x1 x2 = some (r, σr)) : Met l yX0_suitsEither (kWs yX0_suitsEither cX0_suitsEither 3 (some .boolean)) (kR 3 69) (kPre (cP E) E [.ref (eA E 10), .int x1, .int x2] σ) (kQi (cP E) (inC E) r σr) 0 0 (inC E) :=
  kst hE (by decide +kernel) (Nat.le_of_ble_eq_true rfl) (fun p e s m below meth c ls C hP hl => w_X0_suitsEither_0 C F σ x1 x2 h s.heap [] hP va_S.rf ls hl)
end

section
variable {p : Program} {l : Launch} {e : Env} {s : State} {m : MethodId} {args : Array Value} {below : List Frame} {meth : Method} {c : Code} {E : kE} {σr : kS}
variable {r : Int32}
def s_X0_isFirm_51 (F : Nat) (rec8 : (kS × Int32 × Int32 × Int32 → Option (Int32 × kS))) (σ : kS) (x1 : Int32) (x2 : Int32) (x3 : Int32) : Option (Int32 × kS) :=
  rec8 (σ, x1, x2, (x3 + (1 : Int32)))
set_option maxRecDepth 100000 in
set_option maxHeartbeats 4000000 in
theorem w_X0_isFirm_51 (C : Cx E p s m args meth c cX0_isFirm 5 RX0 (some .boolean)) (F : Nat) (rec8 : (kS × Int32 × Int32 × Int32 → Option (Int32 × kS))) (hrec8 : ∀ (σ : kS) (x1 : Int32) (x2 : Int32) (x3 : Int32), rec8 (σ, x1, x2, x3) = some (r, σr) → ∀ (H : Heap) (locs : List Loc), cP E σ H → va_S (inC E) s.heap H locs → ∀ (ls : Array Slot), lv_has ls 5 [(0, .ref (eA E 10)), (1, .int x1), (2, .int x2), (3, .int x3)] → W p l e (kR 4 91) s m args below meth c H locs 0 0 (MQ below (kQi (cP E) (inC E) r σr) args s 0 0 (inC E)) (F0 m 8 ls [])) (σ : kS) (x1 : Int32) (x2 : Int32) (x3 : Int32) (h : s_X0_isFirm_51 F rec8 σ x1 x2 x3 = some (r, σr)) (H : Heap) (locs : List Loc) (hP : cP E σ H) (hS : va_S (inC E) s.heap H locs) (ls : Array Slot) (hl : lv_has ls 5 [(0, .ref (eA E 10)), (1, .int x1), (2, .int x2), (3, .int x3)]) : W p l e (kR 4 91) s m args below meth c H locs 0 0 (MQ below (kQi (cP E) (inC E) r σr) args s 0 0 (inC E)) (F0 m 51 ls []) := by
  obtain ⟨-, hx, hb, hml, hown, hts, hK, -, -⟩ := id C
  unfold s_X0_isFirm_51 at h
  refine lv_iinc (v := (x3 + (1 : Int32))) (lv' := [(3, .int (x3 + (1 : Int32))), (0, .ref (eA E 10)), (1, .int x1), (2, .int x2)]) hx hb dX0_isFirm_51 hl (k := 3) rfl rfl (by decide) rfl (fun ls hl => ?_)
  refine lv_goto (tgt := 8) hx hb dX0_isFirm_54 (by decide) ?_
  exact hrec8 σ x1 x2 (x3 + (1 : Int32)) h H locs hP hS ls (lv_sub hl [1, 2, 3, 0] rfl)
def s_X0_isFirm_8 (F : Nat) (rec8 : (kS × Int32 × Int32 × Int32 → Option (Int32 × kS))) (σ : kS) (x1 : Int32) (x2 : Int32) (x3 : Int32) : Option (Int32 × kS) :=
  (if (kI σ 14) ≤ x3 then some ((1 : Int32), σ) else (kb (f_X7_lawBits F σ x3 (3 : Int32)) fun v_2 σ_3 => (kn (x2 &&& (v_2 ^^^ (-1 : Int32))) (fun x4_5 => (if ((x1 >>> (x3 &&& 31)) &&& (1 : Int32)) = (1 : Int32) then (kb (f_X0_suitsEither F σ_3 x4_5 x2) fun v_7 σ_8 => (if v_7 = 0 then s_X0_isFirm_51 F rec8 σ_8 x1 x2 x3 else some ((0 : Int32), σ_8))) else s_X0_isFirm_51 F rec8 σ_3 x1 x2 x3)))))
set_option maxRecDepth 100000 in
set_option maxHeartbeats 4000000 in
theorem w_X0_isFirm_8 (C : Cx E p s m args meth c cX0_isFirm 5 RX0 (some .boolean)) (F : Nat) (rec8 : (kS × Int32 × Int32 × Int32 → Option (Int32 × kS))) (hrec8 : ∀ (σ : kS) (x1 : Int32) (x2 : Int32) (x3 : Int32), rec8 (σ, x1, x2, x3) = some (r, σr) → ∀ (H : Heap) (locs : List Loc), cP E σ H → va_S (inC E) s.heap H locs → ∀ (ls : Array Slot), lv_has ls 5 [(0, .ref (eA E 10)), (1, .int x1), (2, .int x2), (3, .int x3)] → W p l e (kR 4 91) s m args below meth c H locs 0 0 (MQ below (kQi (cP E) (inC E) r σr) args s 0 0 (inC E)) (F0 m 8 ls [])) (σ : kS) (x1 : Int32) (x2 : Int32) (x3 : Int32) (h : s_X0_isFirm_8 F rec8 σ x1 x2 x3 = some (r, σr)) (H : Heap) (locs : List Loc) (hP : cP E σ H) (hS : va_S (inC E) s.heap H locs) (ls : Array Slot) (hl : lv_has ls 5 [(0, .ref (eA E 10)), (1, .int x1), (2, .int x2), (3, .int x3)]) : W p l e (kR 4 91) s m args below meth c H locs 0 0 (MQ below (kQi (cP E) (inC E) r σr) args s 0 0 (inC E)) (F0 m 8 ls []) := by
  obtain ⟨-, hx, hb, hml, hown, hts, hK, -, -⟩ := id C
  unfold s_X0_isFirm_8 at h
  refine lv_iload_n hx hb dX0_isFirm_8 rfl (lv_at hl 3 rfl) ?_
  refine lv_aload_n hx hb dX0_isFirm_9 rfl (lv_at hl 0 rfl) ?_
  refine gf_10_0 C hP w_167 dX0_isFirm_10 ?_
  refine gf_6_7 C hP (v := (kI σ 14)) rfl w_93 dX0_isFirm_13 ?_
  refine lv_icmp_ge (tgt := 57) hx hb dX0_isFirm_16 (by decide) (fun c_1 => ?_) (fun c_1 => ?_)
  · have h := k_t c_1 h
    refine lv_iconst (v := (1 : Int32)) hx hb dX0_isFirm_57 (by decide) ?_
    obtain ⟨rfl, rfl⟩ := k_inj h
    exact krz C hS hP (by decide) dX0_isFirm_58
  · have h := k_f c_1 h
    refine lv_iload_n hx hb dX0_isFirm_19 rfl (lv_at hl 2 rfl) ?_
    refine lv_iload_n hx hb dX0_isFirm_20 rfl (lv_at hl 3 rfl) ?_
    refine lv_iconst (v := (3 : Int32)) hx hb dX0_isFirm_21 (by decide) ?_
    obtain ⟨v_2, σ_3, hc_4, h⟩ := kb_ok h
    refine kci (krunN (As := [.int x3, .int (3 : Int32)]) C hP (c_X7_lawBits E C.1 F σ x3 (3 : Int32) hc_4) (fun g => g.2.2.2) kt_X7_lawBits ⟨Nat.le_of_ble_eq_true rfl, Nat.le_of_ble_eq_true rfl⟩ rfl hl.1 rfl (Nat.le_of_ble_eq_true rfl) dX0_isFirm_22) hS (fun H locs hP hS => ?_)
    refine lv_iconst (v := (-1 : Int32)) hx hb dX0_isFirm_25 (by decide) ?_
    refine lv_ixor hx hb dX0_isFirm_26 ?_
    refine lv_iand hx hb dX0_isFirm_27 ?_
    refine lv_topi (fun x4_5 ex4_5 => ?_)
    have h := kn_to ex4_5 h
    refine lv_istore (lv' := [(4, .int x4_5), (0, .ref (eA E 10)), (1, .int x1), (2, .int x2), (3, .int x3)]) hx hb dX0_isFirm_28 hl (by decide) rfl (fun ls hl => ?_)
    refine lv_iload_n hx hb dX0_isFirm_30 rfl (lv_at hl 2 rfl) ?_
    refine lv_iload_n hx hb dX0_isFirm_31 rfl (lv_at hl 4 rfl) ?_
    refine lv_ishr hx hb dX0_isFirm_32 ?_
    refine lv_iconst (v := (1 : Int32)) hx hb dX0_isFirm_33 (by decide) ?_
    refine lv_iand hx hb dX0_isFirm_34 ?_
    refine lv_iconst (v := (1 : Int32)) hx hb dX0_isFirm_35 (by decide) ?_
    refine lv_icmp_ne (tgt := 51) hx hb dX0_isFirm_36 (by decide) (fun c_6 => ?_) (fun c_6 => ?_)
    · have h := k_f c_6 h
      exact w_X0_isFirm_51 C F rec8 hrec8 σ_3 x1 x2 x3 h H locs hP hS ls (lv_sub hl [1, 2, 3, 4] rfl)
    · have h := k_t c_6 h
      refine lv_aload_n hx hb dX0_isFirm_39 rfl (lv_at hl 1 rfl) ?_
      refine lv_iload hx hb dX0_isFirm_40 (lv_at hl 0 rfl) ?_
      refine lv_iload_n hx hb dX0_isFirm_42 rfl (lv_at hl 3 rfl) ?_
      obtain ⟨v_7, σ_8, hc_9, h⟩ := kb_ok h
      refine kci (krunV (As := [.int x4_5, .int x2]) C hP (c_X0_suitsEither E C.1 F σ_3 x4_5 x2 hc_9) w_572 kv_X0_suitsEither ⟨Nat.le_of_ble_eq_true rfl, Nat.le_of_ble_eq_true rfl⟩ (rc_10 C hP) rfl hl.1 rfl (Nat.le_of_ble_eq_true rfl) dX0_isFirm_43) hS (fun H locs hP hS => ?_)
      refine lv_if_eq (tgt := 51) hx hb dX0_isFirm_46 (by decide) (fun c_10 => ?_) (fun c_10 => ?_)
      · have h := k_t c_10 h
        exact w_X0_isFirm_51 C F rec8 hrec8 σ_8 x1 x2 x3 h H locs hP hS ls (lv_sub hl [1, 2, 3, 4] rfl)
      · have h := k_f c_10 h
        refine lv_iconst (v := (0 : Int32)) hx hb dX0_isFirm_49 (by decide) ?_
        obtain ⟨rfl, rfl⟩ := k_inj h
        exact krz C hS hP (by decide) dX0_isFirm_50
def f_X0_isFirm_8 (F : Nat) : kS × Int32 × Int32 × Int32 → Option (Int32 × kS) := itr (fun rec8 q => s_X0_isFirm_8 F rec8 q.1 q.2.1 q.2.2.1 q.2.2.2) F
theorem wf_X0_isFirm_8 (C : Cx E p s m args meth c cX0_isFirm 5 RX0 (some .boolean)) (F : Nat) (σ : kS) (x1 : Int32) (x2 : Int32) (x3 : Int32) (h : f_X0_isFirm_8 F (σ, x1, x2, x3) = some (r, σr)) (H : Heap) (locs : List Loc) (hP : cP E σ H) (hS : va_S (inC E) s.heap H locs) (ls : Array Slot) (hl : lv_has ls 5 [(0, .ref (eA E 10)), (1, .int x1), (2, .int x2), (3, .int x3)]) : W p l e (kR 4 91) s m args below meth c H locs 0 0 (MQ below (kQi (cP E) (inC E) r σr) args s 0 0 (inC E)) (F0 m 8 ls []) :=
  itr_ok (r := (r, σr)) (G := fun q => ∀ (H : Heap) (locs : List Loc), cP E q.1 H → va_S (inC E) s.heap H locs → ∀ (ls : Array Slot), lv_has ls 5 [(0, .ref (eA E 10)), (1, .int (q.2.1)), (2, .int (q.2.2.1)), (3, .int (q.2.2.2))] → W p l e (kR 4 91) s m args below meth c H locs 0 0 (MQ below (kQi (cP E) (inC E) r σr) args s 0 0 (inC E)) (F0 m 8 ls [])) (fun rec8 hrec8 q h => w_X0_isFirm_8 C F rec8 (fun σ x1 x2 x3 => hrec8 (σ, x1, x2, x3)) q.1 q.2.1 q.2.2.1 q.2.2.2 h) F (σ, x1, x2, x3) h H locs hP hS ls hl
def s_X0_isFirm_0 (F : Nat) (σ : kS) (x1 : Int32) : Option (Int32 × kS) :=
  (kb (f_X0_lawsOfTreaty F σ x1) fun v_1 σ_2 => f_X0_isFirm_8 F (σ_2, x1, v_1, (0 : Int32)))
set_option maxRecDepth 100000 in
set_option maxHeartbeats 4000000 in
theorem w_X0_isFirm_0 (C : Cx E p s m args meth c cX0_isFirm 5 RX0 (some .boolean)) (F : Nat) (σ : kS) (x1 : Int32) (h : s_X0_isFirm_0 F σ x1 = some (r, σr)) (H : Heap) (locs : List Loc) (hP : cP E σ H) (hS : va_S (inC E) s.heap H locs) (ls : Array Slot) (hl : lv_has ls 5 [(0, .ref (eA E 10)), (1, .int x1)]) : W p l e (kR 4 91) s m args below meth c H locs 0 0 (MQ below (kQi (cP E) (inC E) r σr) args s 0 0 (inC E)) (F0 m 0 ls []) := by
  obtain ⟨-, hx, hb, hml, hown, hts, hK, -, -⟩ := id C
  unfold s_X0_isFirm_0 at h
  refine lv_aload_n hx hb dX0_isFirm_0 rfl (lv_at hl 0 rfl) ?_
  refine lv_iload_n hx hb dX0_isFirm_1 rfl (lv_at hl 1 rfl) ?_
  obtain ⟨v_1, σ_2, hc_3, h⟩ := kb_ok h
  refine kci (krunV (As := [.int x1]) C hP (c_X0_lawsOfTreaty E C.1 F σ x1 hc_3) w_568 kv_X0_lawsOfTreaty ⟨Nat.le_of_ble_eq_true rfl, Nat.le_of_ble_eq_true rfl⟩ (rc_10 C hP) rfl hl.1 rfl (Nat.le_of_ble_eq_true rfl) dX0_isFirm_2) hS (fun H locs hP hS => ?_)
  refine lv_istore_n (lv' := [(2, .int v_1), (0, .ref (eA E 10)), (1, .int x1)]) hx hb dX0_isFirm_5 rfl hl (by decide) rfl (fun ls hl => ?_)
  refine lv_iconst (v := (0 : Int32)) hx hb dX0_isFirm_6 (by decide) ?_
  refine lv_istore_n (lv' := [(3, .int (0 : Int32)), (2, .int v_1), (0, .ref (eA E 10)), (1, .int x1)]) hx hb dX0_isFirm_7 rfl hl (by decide) rfl (fun ls hl => ?_)
  exact wf_X0_isFirm_8 C F σ_2 x1 v_1 (0 : Int32) h H locs hP hS ls (lv_sub hl [2, 3, 1, 0] rfl)
def f_X0_isFirm (F : Nat) (σ : kS) (x1 : Int32) : Option (Int32 × kS) := s_X0_isFirm_0 F σ x1
set_option maxRecDepth 100000 in
theorem c_X0_isFirm (E : kE) (hE : kap E) (F : Nat) (σ : kS) (x1 : Int32) (h : f_X0_isFirm F σ x1 = some (r, σr)) : Met l yX0_isFirm (kWs yX0_isFirm cX0_isFirm 5 (some .boolean)) (kR 4 91) (kPre (cP E) E [.ref (eA E 10), .int x1] σ) (kQi (cP E) (inC E) r σr) 0 0 (inC E) :=
  kst hE (by decide +kernel) (Nat.le_of_ble_eq_true rfl) (fun p e s m below meth c ls C hP hl => w_X0_isFirm_0 C F σ x1 h s.heap [] hP va_S.rf ls hl)
end

section
variable {p : Program} {l : Launch} {e : Env} {s : State} {m : MethodId} {args : Array Value} {below : List Frame} {meth : Method} {c : Code} {E : kE} {σr : kS}
variable {r : Int32}
def s_X7_firm_0 (F : Nat) (σ : kS) (x1 : Int32) : Option (Int32 × kS) :=
  (if x1 < 0 then some ((-1 : Int32), σ) else (if x1 < ((1 : Int32) <<< ((kI σ 14) &&& 31)) then (kb (f_X0_isFirm F σ x1) fun v_3 σ_4 => (if v_3 = 0 then some ((0 : Int32), σ_4) else some ((1 : Int32), σ_4))) else some ((-1 : Int32), σ)))
set_option maxRecDepth 100000 in
set_option maxHeartbeats 4000000 in
theorem w_X7_firm_0 (C : Cx E p s m args meth c cX7_firm 2 RX7 (some .int)) (F : Nat) (σ : kS) (x1 : Int32) (h : s_X7_firm_0 F σ x1 = some (r, σr)) (H : Heap) (locs : List Loc) (hP : cP E σ H) (hS : va_S (inC E) s.heap H locs) (ls : Array Slot) (hl : lv_has ls 2 [(0, .ref (eA E 0)), (1, .int x1)]) : W p l e (kR 5 115) s m args below meth c H locs 0 0 (MQ below (kQi (cP E) (inC E) r σr) args s 0 0 (inC E)) (F0 m 0 ls []) := by
  obtain ⟨-, hx, hb, hml, hown, hts, hK, -, -⟩ := id C
  unfold s_X7_firm_0 at h
  refine lv_iload_n hx hb dX7_firm_0 rfl (lv_at hl 1 rfl) ?_
  refine lv_if_lt (tgt := 17) hx hb dX7_firm_1 (by decide) (fun c_1 => ?_) (fun c_1 => ?_)
  · have h := k_t c_1 h
    refine lv_iconst (v := (-1 : Int32)) hx hb dX7_firm_17 (by decide) ?_
    obtain ⟨rfl, rfl⟩ := k_inj h
    exact kri C hS hP dX7_firm_18
  · have h := k_f c_1 h
    refine lv_iload_n hx hb dX7_firm_4 rfl (lv_at hl 1 rfl) ?_
    refine lv_iconst (v := (1 : Int32)) hx hb dX7_firm_5 (by decide) ?_
    refine lv_aload_n hx hb dX7_firm_6 rfl (lv_at hl 0 rfl) ?_
    refine gf_0_2 C hP w_251 dX7_firm_7 ?_
    refine gf_6_7 C hP (v := (kI σ 14)) rfl w_95 dX7_firm_10 ?_
    refine lv_ishl hx hb dX7_firm_13 ?_
    refine lv_icmp_lt (tgt := 19) hx hb dX7_firm_14 (by decide) (fun c_2 => ?_) (fun c_2 => ?_)
    · have h := k_t c_2 h
      refine lv_aload_n hx hb dX7_firm_19 rfl (lv_at hl 0 rfl) ?_
      refine gf_0_5 C hP w_254 dX7_firm_20 ?_
      refine lv_iload_n hx hb dX7_firm_23 rfl (lv_at hl 1 rfl) ?_
      obtain ⟨v_3, σ_4, hc_5, h⟩ := kb_ok h
      refine kci (krunV (As := [.int x1]) C hP (c_X0_isFirm E C.1 F σ x1 hc_5) w_564 kv_X0_isFirm ⟨Nat.le_of_ble_eq_true rfl, Nat.le_of_ble_eq_true rfl⟩ (rc_10 C hP) rfl hl.1 rfl (Nat.le_of_ble_eq_true rfl) dX7_firm_24) hS (fun H locs hP hS => ?_)
      refine lv_if_eq (tgt := 34) hx hb dX7_firm_27 (by decide) (fun c_6 => ?_) (fun c_6 => ?_)
      · have h := k_t c_6 h
        refine lv_iconst (v := (0 : Int32)) hx hb dX7_firm_34 (by decide) ?_
        obtain ⟨rfl, rfl⟩ := k_inj h
        exact kri C hS hP dX7_firm_35
      · have h := k_f c_6 h
        refine lv_iconst (v := (1 : Int32)) hx hb dX7_firm_30 (by decide) ?_
        refine lv_goto (tgt := 35) hx hb dX7_firm_31 (by decide) ?_
        obtain ⟨rfl, rfl⟩ := k_inj h
        exact kri C hS hP dX7_firm_35
    · have h := k_f c_2 h
      refine lv_iconst (v := (-1 : Int32)) hx hb dX7_firm_17 (by decide) ?_
      obtain ⟨rfl, rfl⟩ := k_inj h
      exact kri C hS hP dX7_firm_18
def f_X7_firm (F : Nat) (σ : kS) (x1 : Int32) : Option (Int32 × kS) := s_X7_firm_0 F σ x1
set_option maxRecDepth 100000 in
theorem c_X7_firm (E : kE) (hE : kap E) (F : Nat) (σ : kS) (x1 : Int32) (h : f_X7_firm F σ x1 = some (r, σr)) : Met l yX7_firm (kWs yX7_firm cX7_firm 2 (some .int)) (kR 5 115) (kPre (cP E) E [.ref (eA E 0), .int x1] σ) (kQi (cP E) (inC E) r σr) 0 0 (inC E) :=
  kst hE (by decide +kernel) (Nat.le_of_ble_eq_true rfl) (fun p e s m below meth c ls C hP hl => w_X7_firm_0 C F σ x1 h s.heap [] hP va_S.rf ls hl)
end

section
variable {p : Program} {l : Launch} {e : Env} {s : State} {m : MethodId} {args : Array Value} {below : List Frame} {meth : Method} {c : Code} {E : kE} {σr : kS}
variable {r : Int32}
def s_X0_gainsOfTreaty_0 (F : Nat) (σ : kS) (x1 : Int32) : Option (Int32 × kS) :=
  (kb (f_X0_lawsOfTreaty F σ x1) fun v_1 σ_2 => (kb (f_X0_gainUnder F σ_2 v_1 (0 : Int32)) fun v_4 σ_5 => (kb (f_X0_gainUnder F σ_5 v_1 (1 : Int32)) fun v_7 σ_8 => some ((v_4 + v_7), σ_8))))
set_option maxRecDepth 100000 in
set_option maxHeartbeats 4000000 in
theorem w_X0_gainsOfTreaty_0 (C : Cx E p s m args meth c cX0_gainsOfTreaty 3 RX0 (some .int)) (F : Nat) (σ : kS) (x1 : Int32) (h : s_X0_gainsOfTreaty_0 F σ x1 = some (r, σr)) (H : Heap) (locs : List Loc) (hP : cP E σ H) (hS : va_S (inC E) s.heap H locs) (ls : Array Slot) (hl : lv_has ls 3 [(0, .ref (eA E 10)), (1, .int x1)]) : W p l e (kR 3 69) s m args below meth c H locs 0 0 (MQ below (kQi (cP E) (inC E) r σr) args s 0 0 (inC E)) (F0 m 0 ls []) := by
  obtain ⟨-, hx, hb, hml, hown, hts, hK, -, -⟩ := id C
  unfold s_X0_gainsOfTreaty_0 at h
  refine lv_aload_n hx hb dX0_gainsOfTreaty_0 rfl (lv_at hl 0 rfl) ?_
  refine lv_iload_n hx hb dX0_gainsOfTreaty_1 rfl (lv_at hl 1 rfl) ?_
  obtain ⟨v_1, σ_2, hc_3, h⟩ := kb_ok h
  refine kci (krunV (As := [.int x1]) C hP (c_X0_lawsOfTreaty E C.1 F σ x1 hc_3) w_568 kv_X0_lawsOfTreaty ⟨Nat.le_of_ble_eq_true rfl, Nat.le_of_ble_eq_true rfl⟩ (rc_10 C hP) rfl hl.1 rfl (Nat.le_of_ble_eq_true rfl) dX0_gainsOfTreaty_2) hS (fun H locs hP hS => ?_)
  refine lv_istore_n (lv' := [(2, .int v_1), (0, .ref (eA E 10)), (1, .int x1)]) hx hb dX0_gainsOfTreaty_5 rfl hl (by decide) rfl (fun ls hl => ?_)
  refine lv_aload_n hx hb dX0_gainsOfTreaty_6 rfl (lv_at hl 1 rfl) ?_
  refine lv_iload_n hx hb dX0_gainsOfTreaty_7 rfl (lv_at hl 0 rfl) ?_
  refine lv_iconst (v := (0 : Int32)) hx hb dX0_gainsOfTreaty_8 (by decide) ?_
  obtain ⟨v_4, σ_5, hc_6, h⟩ := kb_ok h
  refine kci (krunV (As := [.int v_1, .int (0 : Int32)]) C hP (c_X0_gainUnder E C.1 F σ_2 v_1 (0 : Int32) hc_6) w_542 kv_X0_gainUnder ⟨Nat.le_of_ble_eq_true rfl, Nat.le_of_ble_eq_true rfl⟩ (rc_10 C hP) rfl hl.1 rfl (Nat.le_of_ble_eq_true rfl) dX0_gainsOfTreaty_9) hS (fun H locs hP hS => ?_)
  refine lv_aload_n hx hb dX0_gainsOfTreaty_12 rfl (lv_at hl 1 rfl) ?_
  refine lv_iload_n hx hb dX0_gainsOfTreaty_13 rfl (lv_at hl 0 rfl) ?_
  refine lv_iconst (v := (1 : Int32)) hx hb dX0_gainsOfTreaty_14 (by decide) ?_
  obtain ⟨v_7, σ_8, hc_9, h⟩ := kb_ok h
  refine kci (krunV (As := [.int v_1, .int (1 : Int32)]) C hP (c_X0_gainUnder E C.1 F σ_5 v_1 (1 : Int32) hc_9) w_542 kv_X0_gainUnder ⟨Nat.le_of_ble_eq_true rfl, Nat.le_of_ble_eq_true rfl⟩ (rc_10 C hP) rfl hl.1 rfl (Nat.le_of_ble_eq_true rfl) dX0_gainsOfTreaty_15) hS (fun H locs hP hS => ?_)
  refine lv_iadd hx hb dX0_gainsOfTreaty_18 ?_
  obtain ⟨rfl, rfl⟩ := k_inj h
  exact kri C hS hP dX0_gainsOfTreaty_19
def f_X0_gainsOfTreaty (F : Nat) (σ : kS) (x1 : Int32) : Option (Int32 × kS) := s_X0_gainsOfTreaty_0 F σ x1
set_option maxRecDepth 100000 in
theorem c_X0_gainsOfTreaty (E : kE) (hE : kap E) (F : Nat) (σ : kS) (x1 : Int32) (h : f_X0_gainsOfTreaty F σ x1 = some (r, σr)) : Met l yX0_gainsOfTreaty (kWs yX0_gainsOfTreaty cX0_gainsOfTreaty 3 (some .int)) (kR 3 69) (kPre (cP E) E [.ref (eA E 10), .int x1] σ) (kQi (cP E) (inC E) r σr) 0 0 (inC E) :=
  kst hE (by decide +kernel) (Nat.le_of_ble_eq_true rfl) (fun p e s m below meth c ls C hP hl => w_X0_gainsOfTreaty_0 C F σ x1 h s.heap [] hP va_S.rf ls hl)
end

section
variable {p : Program} {l : Launch} {e : Env} {s : State} {m : MethodId} {args : Array Value} {below : List Frame} {meth : Method} {c : Code} {E : kE} {σr : kS}
variable {r : Int32}
def s_X0_bestTreaty_49 (F : Nat) (rec10 : (kS × Int32 × Int32 × Int32 → Option (Int32 × kS))) (σ : kS) (x1 : Int32) (x2 : Int32) (x3 : Int32) : Option (Int32 × kS) :=
  rec10 (σ, x1, x2, (x3 + (1 : Int32)))
set_option maxRecDepth 100000 in
set_option maxHeartbeats 4000000 in
theorem w_X0_bestTreaty_49 (C : Cx E p s m args meth c cX0_bestTreaty 5 RX0 (some .int)) (F : Nat) (rec10 : (kS × Int32 × Int32 × Int32 → Option (Int32 × kS))) (hrec10 : ∀ (σ : kS) (x1 : Int32) (x2 : Int32) (x3 : Int32), rec10 (σ, x1, x2, x3) = some (r, σr) → ∀ (H : Heap) (locs : List Loc), cP E σ H → va_S (inC E) s.heap H locs → ∀ (ls : Array Slot), lv_has ls 5 [(0, .ref (eA E 10)), (1, .int x1), (2, .int x2), (3, .int x3)] → W p l e (kR 5 115) s m args below meth c H locs 0 0 (MQ below (kQi (cP E) (inC E) r σr) args s 0 0 (inC E)) (F0 m 10 ls [])) (σ : kS) (x1 : Int32) (x2 : Int32) (x3 : Int32) (h : s_X0_bestTreaty_49 F rec10 σ x1 x2 x3 = some (r, σr)) (H : Heap) (locs : List Loc) (hP : cP E σ H) (hS : va_S (inC E) s.heap H locs) (ls : Array Slot) (hl : lv_has ls 5 [(0, .ref (eA E 10)), (1, .int x1), (2, .int x2), (3, .int x3)]) : W p l e (kR 5 115) s m args below meth c H locs 0 0 (MQ below (kQi (cP E) (inC E) r σr) args s 0 0 (inC E)) (F0 m 49 ls []) := by
  obtain ⟨-, hx, hb, hml, hown, hts, hK, -, -⟩ := id C
  unfold s_X0_bestTreaty_49 at h
  refine lv_iinc (v := (x3 + (1 : Int32))) (lv' := [(3, .int (x3 + (1 : Int32))), (0, .ref (eA E 10)), (1, .int x1), (2, .int x2)]) hx hb dX0_bestTreaty_49 hl (k := 3) rfl rfl (by decide) rfl (fun ls hl => ?_)
  refine lv_goto (tgt := 10) hx hb dX0_bestTreaty_52 (by decide) ?_
  exact hrec10 σ x1 x2 (x3 + (1 : Int32)) h H locs hP hS ls (lv_sub hl [1, 2, 3, 0] rfl)
def s_X0_bestTreaty_10 (F : Nat) (rec10 : (kS × Int32 × Int32 × Int32 → Option (Int32 × kS))) (σ : kS) (x1 : Int32) (x2 : Int32) (x3 : Int32) : Option (Int32 × kS) :=
  (if ((1 : Int32) <<< ((kI σ 14) &&& 31)) ≤ x3 then some (x1, σ) else (kb (f_X0_gainsOfTreaty F σ x3) fun v_2 σ_3 => (if v_2 ≤ x2 then s_X0_bestTreaty_49 F rec10 σ_3 x1 x2 x3 else (kb (f_X0_isFirm F σ_3 x3) fun v_6 σ_7 => (if v_6 = 0 then s_X0_bestTreaty_49 F rec10 σ_7 x1 x2 x3 else s_X0_bestTreaty_49 F rec10 σ_7 x3 v_2 x3)))))
set_option maxRecDepth 100000 in
set_option maxHeartbeats 4000000 in
theorem w_X0_bestTreaty_10 (C : Cx E p s m args meth c cX0_bestTreaty 5 RX0 (some .int)) (F : Nat) (rec10 : (kS × Int32 × Int32 × Int32 → Option (Int32 × kS))) (hrec10 : ∀ (σ : kS) (x1 : Int32) (x2 : Int32) (x3 : Int32), rec10 (σ, x1, x2, x3) = some (r, σr) → ∀ (H : Heap) (locs : List Loc), cP E σ H → va_S (inC E) s.heap H locs → ∀ (ls : Array Slot), lv_has ls 5 [(0, .ref (eA E 10)), (1, .int x1), (2, .int x2), (3, .int x3)] → W p l e (kR 5 115) s m args below meth c H locs 0 0 (MQ below (kQi (cP E) (inC E) r σr) args s 0 0 (inC E)) (F0 m 10 ls [])) (σ : kS) (x1 : Int32) (x2 : Int32) (x3 : Int32) (h : s_X0_bestTreaty_10 F rec10 σ x1 x2 x3 = some (r, σr)) (H : Heap) (locs : List Loc) (hP : cP E σ H) (hS : va_S (inC E) s.heap H locs) (ls : Array Slot) (hl : lv_has ls 5 [(0, .ref (eA E 10)), (1, .int x1), (2, .int x2), (3, .int x3)]) : W p l e (kR 5 115) s m args below meth c H locs 0 0 (MQ below (kQi (cP E) (inC E) r σr) args s 0 0 (inC E)) (F0 m 10 ls []) := by
  obtain ⟨-, hx, hb, hml, hown, hts, hK, -, -⟩ := id C
  unfold s_X0_bestTreaty_10 at h
  refine lv_iload_n hx hb dX0_bestTreaty_10 rfl (lv_at hl 3 rfl) ?_
  refine lv_iconst (v := (1 : Int32)) hx hb dX0_bestTreaty_11 (by decide) ?_
  refine lv_aload_n hx hb dX0_bestTreaty_12 rfl (lv_at hl 0 rfl) ?_
  refine gf_10_0 C hP w_167 dX0_bestTreaty_13 ?_
  refine gf_6_7 C hP (v := (kI σ 14)) rfl w_93 dX0_bestTreaty_16 ?_
  refine lv_ishl hx hb dX0_bestTreaty_19 ?_
  refine lv_icmp_ge (tgt := 55) hx hb dX0_bestTreaty_20 (by decide) (fun c_1 => ?_) (fun c_1 => ?_)
  · have h := k_t c_1 h
    refine lv_iload_n hx hb dX0_bestTreaty_55 rfl (lv_at hl 1 rfl) ?_
    obtain ⟨rfl, rfl⟩ := k_inj h
    exact kri C hS hP dX0_bestTreaty_56
  · have h := k_f c_1 h
    refine lv_aload_n hx hb dX0_bestTreaty_23 rfl (lv_at hl 0 rfl) ?_
    refine lv_iload_n hx hb dX0_bestTreaty_24 rfl (lv_at hl 3 rfl) ?_
    obtain ⟨v_2, σ_3, hc_4, h⟩ := kb_ok h
    refine kci (krunV (As := [.int x3]) C hP (c_X0_gainsOfTreaty E C.1 F σ x3 hc_4) w_584 kv_X0_gainsOfTreaty ⟨Nat.le_of_ble_eq_true rfl, Nat.le_of_ble_eq_true rfl⟩ (rc_10 C hP) rfl hl.1 rfl (Nat.le_of_ble_eq_true rfl) dX0_bestTreaty_25) hS (fun H locs hP hS => ?_)
    refine lv_istore (lv' := [(4, .int v_2), (0, .ref (eA E 10)), (1, .int x1), (2, .int x2), (3, .int x3)]) hx hb dX0_bestTreaty_28 hl (by decide) rfl (fun ls hl => ?_)
    refine lv_iload hx hb dX0_bestTreaty_30 (lv_at hl 0 rfl) ?_
    refine lv_iload_n hx hb dX0_bestTreaty_32 rfl (lv_at hl 3 rfl) ?_
    refine lv_icmp_le (tgt := 49) hx hb dX0_bestTreaty_33 (by decide) (fun c_5 => ?_) (fun c_5 => ?_)
    · have h := k_t c_5 h
      exact w_X0_bestTreaty_49 C F rec10 hrec10 σ_3 x1 x2 x3 h H locs hP hS ls (lv_sub hl [1, 2, 3, 4] rfl)
    · have h := k_f c_5 h
      refine lv_aload_n hx hb dX0_bestTreaty_36 rfl (lv_at hl 1 rfl) ?_
      refine lv_iload_n hx hb dX0_bestTreaty_37 rfl (lv_at hl 4 rfl) ?_
      obtain ⟨v_6, σ_7, hc_8, h⟩ := kb_ok h
      refine kci (krunV (As := [.int x3]) C hP (c_X0_isFirm E C.1 F σ_3 x3 hc_8) w_588 kv_X0_isFirm ⟨Nat.le_of_ble_eq_true rfl, Nat.le_of_ble_eq_true rfl⟩ (rc_10 C hP) rfl hl.1 rfl (Nat.le_of_ble_eq_true rfl) dX0_bestTreaty_38) hS (fun H locs hP hS => ?_)
      refine lv_if_eq (tgt := 49) hx hb dX0_bestTreaty_41 (by decide) (fun c_9 => ?_) (fun c_9 => ?_)
      · have h := k_t c_9 h
        exact w_X0_bestTreaty_49 C F rec10 hrec10 σ_7 x1 x2 x3 h H locs hP hS ls (lv_sub hl [1, 2, 3, 4] rfl)
      · have h := k_f c_9 h
        refine lv_iload hx hb dX0_bestTreaty_44 (lv_at hl 0 rfl) ?_
        refine lv_istore_n (lv' := [(2, .int v_2), (4, .int v_2), (0, .ref (eA E 10)), (1, .int x1), (3, .int x3)]) hx hb dX0_bestTreaty_46 rfl hl (by decide) rfl (fun ls hl => ?_)
        refine lv_iload_n hx hb dX0_bestTreaty_47 rfl (lv_at hl 4 rfl) ?_
        refine lv_istore_n (lv' := [(1, .int x3), (2, .int v_2), (4, .int v_2), (0, .ref (eA E 10)), (3, .int x3)]) hx hb dX0_bestTreaty_48 rfl hl (by decide) rfl (fun ls hl => ?_)
        exact w_X0_bestTreaty_49 C F rec10 hrec10 σ_7 x3 v_2 x3 h H locs hP hS ls (lv_sub hl [3, 0, 1, 4] rfl)
def f_X0_bestTreaty_10 (F : Nat) : kS × Int32 × Int32 × Int32 → Option (Int32 × kS) := itr (fun rec10 q => s_X0_bestTreaty_10 F rec10 q.1 q.2.1 q.2.2.1 q.2.2.2) F
theorem wf_X0_bestTreaty_10 (C : Cx E p s m args meth c cX0_bestTreaty 5 RX0 (some .int)) (F : Nat) (σ : kS) (x1 : Int32) (x2 : Int32) (x3 : Int32) (h : f_X0_bestTreaty_10 F (σ, x1, x2, x3) = some (r, σr)) (H : Heap) (locs : List Loc) (hP : cP E σ H) (hS : va_S (inC E) s.heap H locs) (ls : Array Slot) (hl : lv_has ls 5 [(0, .ref (eA E 10)), (1, .int x1), (2, .int x2), (3, .int x3)]) : W p l e (kR 5 115) s m args below meth c H locs 0 0 (MQ below (kQi (cP E) (inC E) r σr) args s 0 0 (inC E)) (F0 m 10 ls []) :=
  itr_ok (r := (r, σr)) (G := fun q => ∀ (H : Heap) (locs : List Loc), cP E q.1 H → va_S (inC E) s.heap H locs → ∀ (ls : Array Slot), lv_has ls 5 [(0, .ref (eA E 10)), (1, .int (q.2.1)), (2, .int (q.2.2.1)), (3, .int (q.2.2.2))] → W p l e (kR 5 115) s m args below meth c H locs 0 0 (MQ below (kQi (cP E) (inC E) r σr) args s 0 0 (inC E)) (F0 m 10 ls [])) (fun rec10 hrec10 q h => w_X0_bestTreaty_10 C F rec10 (fun σ x1 x2 x3 => hrec10 (σ, x1, x2, x3)) q.1 q.2.1 q.2.2.1 q.2.2.2 h) F (σ, x1, x2, x3) h H locs hP hS ls hl
def s_X0_bestTreaty_0 (F : Nat) (σ : kS) : Option (Int32 × kS) :=
  (kb (f_X0_gainsOfTreaty F σ (0 : Int32)) fun v_1 σ_2 => f_X0_bestTreaty_10 F (σ_2, (0 : Int32), v_1, (1 : Int32)))
set_option maxRecDepth 100000 in
set_option maxHeartbeats 4000000 in
theorem w_X0_bestTreaty_0 (C : Cx E p s m args meth c cX0_bestTreaty 5 RX0 (some .int)) (F : Nat) (σ : kS) (h : s_X0_bestTreaty_0 F σ = some (r, σr)) (H : Heap) (locs : List Loc) (hP : cP E σ H) (hS : va_S (inC E) s.heap H locs) (ls : Array Slot) (hl : lv_has ls 5 [(0, .ref (eA E 10))]) : W p l e (kR 5 115) s m args below meth c H locs 0 0 (MQ below (kQi (cP E) (inC E) r σr) args s 0 0 (inC E)) (F0 m 0 ls []) := by
  obtain ⟨-, hx, hb, hml, hown, hts, hK, -, -⟩ := id C
  unfold s_X0_bestTreaty_0 at h
  refine lv_iconst (v := (0 : Int32)) hx hb dX0_bestTreaty_0 (by decide) ?_
  refine lv_istore_n (lv' := [(1, .int (0 : Int32)), (0, .ref (eA E 10))]) hx hb dX0_bestTreaty_1 rfl hl (by decide) rfl (fun ls hl => ?_)
  refine lv_aload_n hx hb dX0_bestTreaty_2 rfl (lv_at hl 1 rfl) ?_
  refine lv_iconst (v := (0 : Int32)) hx hb dX0_bestTreaty_3 (by decide) ?_
  obtain ⟨v_1, σ_2, hc_3, h⟩ := kb_ok h
  refine kci (krunV (As := [.int (0 : Int32)]) C hP (c_X0_gainsOfTreaty E C.1 F σ (0 : Int32) hc_3) w_584 kv_X0_gainsOfTreaty ⟨Nat.le_of_ble_eq_true rfl, Nat.le_of_ble_eq_true rfl⟩ (rc_10 C hP) rfl hl.1 rfl (Nat.le_of_ble_eq_true rfl) dX0_bestTreaty_4) hS (fun H locs hP hS => ?_)
  refine lv_istore_n (lv' := [(2, .int v_1), (1, .int (0 : Int32)), (0, .ref (eA E 10))]) hx hb dX0_bestTreaty_7 rfl hl (by decide) rfl (fun ls hl => ?_)
  refine lv_iconst (v := (1 : Int32)) hx hb dX0_bestTreaty_8 (by decide) ?_
  refine lv_istore_n (lv' := [(3, .int (1 : Int32)), (2, .int v_1), (1, .int (0 : Int32)), (0, .ref (eA E 10))]) hx hb dX0_bestTreaty_9 rfl hl (by decide) rfl (fun ls hl => ?_)
  exact wf_X0_bestTreaty_10 C F σ_2 (0 : Int32) v_1 (1 : Int32) h H locs hP hS ls (lv_sub hl [3, 2, 1, 0] rfl)
def f_X0_bestTreaty (F : Nat) (σ : kS) : Option (Int32 × kS) := s_X0_bestTreaty_0 F σ
set_option maxRecDepth 100000 in
theorem c_X0_bestTreaty (E : kE) (hE : kap E) (F : Nat) (σ : kS) (h : f_X0_bestTreaty F σ = some (r, σr)) : Met l yX0_bestTreaty (kWs yX0_bestTreaty cX0_bestTreaty 5 (some .int)) (kR 5 115) (kPre (cP E) E [.ref (eA E 10)] σ) (kQi (cP E) (inC E) r σr) 0 0 (inC E) :=
  kst hE (by decide +kernel) (Nat.le_of_ble_eq_true rfl) (fun p e s m below meth c ls C hP hl => w_X0_bestTreaty_0 C F σ h s.heap [] hP va_S.rf ls hl)
end

section
variable {p : Program} {l : Launch} {e : Env} {s : State} {m : MethodId} {args : Array Value} {below : List Frame} {meth : Method} {c : Code} {E : kE} {σr : kS}
variable {r : Int32}
def s_X7_treaty_0 (F : Nat) (σ : kS) (x1 : Int32) : Option (Int32 × kS) :=
  (if x1 < 0 then some ((-1 : Int32), σ) else (if x1 ≤ (1 : Int32) then (kb (f_X0_bestTreaty F σ) fun v_3 σ_4 => (if x1 = 0 then some (v_3, σ_4) else (kb (f_X0_gainsOfTreaty F σ_4 v_3) fun v_7 σ_8 => some ((v_7 + (2000 : Int32)), σ_8)))) else some ((-1 : Int32), σ)))
set_option maxRecDepth 100000 in
set_option maxHeartbeats 4000000 in
theorem w_X7_treaty_0 (C : Cx E p s m args meth c cX7_treaty 3 RX7 (some .int)) (F : Nat) (σ : kS) (x1 : Int32) (h : s_X7_treaty_0 F σ x1 = some (r, σr)) (H : Heap) (locs : List Loc) (hP : cP E σ H) (hS : va_S (inC E) s.heap H locs) (ls : Array Slot) (hl : lv_has ls 3 [(0, .ref (eA E 0)), (1, .int x1)]) : W p l e (kR 6 139) s m args below meth c H locs 0 0 (MQ below (kQi (cP E) (inC E) r σr) args s 0 0 (inC E)) (F0 m 0 ls []) := by
  obtain ⟨-, hx, hb, hml, hown, hts, hK, -, -⟩ := id C
  unfold s_X7_treaty_0 at h
  refine lv_iload_n hx hb dX7_treaty_0 rfl (lv_at hl 1 rfl) ?_
  refine lv_if_lt (tgt := 9) hx hb dX7_treaty_1 (by decide) (fun c_1 => ?_) (fun c_1 => ?_)
  · have h := k_t c_1 h
    refine lv_iconst (v := (-1 : Int32)) hx hb dX7_treaty_9 (by decide) ?_
    obtain ⟨rfl, rfl⟩ := k_inj h
    exact kri C hS hP dX7_treaty_10
  · have h := k_f c_1 h
    refine lv_iload_n hx hb dX7_treaty_4 rfl (lv_at hl 1 rfl) ?_
    refine lv_iconst (v := (1 : Int32)) hx hb dX7_treaty_5 (by decide) ?_
    refine lv_icmp_le (tgt := 11) hx hb dX7_treaty_6 (by decide) (fun c_2 => ?_) (fun c_2 => ?_)
    · have h := k_t c_2 h
      refine lv_aload_n hx hb dX7_treaty_11 rfl (lv_at hl 0 rfl) ?_
      refine gf_0_5 C hP w_254 dX7_treaty_12 ?_
      obtain ⟨v_3, σ_4, hc_5, h⟩ := kb_ok h
      refine kci (krunV (As := []) C hP (c_X0_bestTreaty E C.1 F σ hc_5) w_580 kv_X0_bestTreaty ⟨Nat.le_of_ble_eq_true rfl, Nat.le_of_ble_eq_true rfl⟩ (rc_10 C hP) rfl hl.1 rfl (Nat.le_of_ble_eq_true rfl) dX7_treaty_15) hS (fun H locs hP hS => ?_)
      refine lv_istore_n (lv' := [(2, .int v_3), (0, .ref (eA E 0)), (1, .int x1)]) hx hb dX7_treaty_18 rfl hl (by decide) rfl (fun ls hl => ?_)
      refine lv_iload_n hx hb dX7_treaty_19 rfl (lv_at hl 2 rfl) ?_
      refine lv_if_ne (tgt := 27) hx hb dX7_treaty_20 (by decide) (fun c_6 => ?_) (fun c_6 => ?_)
      · have h := k_f c_6 h
        refine lv_aload_n hx hb dX7_treaty_27 rfl (lv_at hl 1 rfl) ?_
        refine gf_0_5 C hP w_254 dX7_treaty_28 ?_
        refine lv_iload_n hx hb dX7_treaty_31 rfl (lv_at hl 0 rfl) ?_
        obtain ⟨v_7, σ_8, hc_9, h⟩ := kb_ok h
        refine kci (krunV (As := [.int v_3]) C hP (c_X0_gainsOfTreaty E C.1 F σ_4 v_3 hc_9) w_589 kv_X0_gainsOfTreaty ⟨Nat.le_of_ble_eq_true rfl, Nat.le_of_ble_eq_true rfl⟩ (rc_10 C hP) rfl hl.1 rfl (Nat.le_of_ble_eq_true rfl) dX7_treaty_32) hS (fun H locs hP hS => ?_)
        refine lv_sipush (v := (2000 : Int32)) hx hb dX7_treaty_35 (by decide) ?_
        refine lv_iadd hx hb dX7_treaty_38 ?_
        obtain ⟨rfl, rfl⟩ := k_inj h
        exact kri C hS hP dX7_treaty_39
      · have h := k_t c_6 h
        refine lv_iload_n hx hb dX7_treaty_23 rfl (lv_at hl 0 rfl) ?_
        refine lv_goto (tgt := 39) hx hb dX7_treaty_24 (by decide) ?_
        obtain ⟨rfl, rfl⟩ := k_inj h
        exact kri C hS hP dX7_treaty_39
    · have h := k_f c_2 h
      refine lv_iconst (v := (-1 : Int32)) hx hb dX7_treaty_9 (by decide) ?_
      obtain ⟨rfl, rfl⟩ := k_inj h
      exact kri C hS hP dX7_treaty_10
def f_X7_treaty (F : Nat) (σ : kS) (x1 : Int32) : Option (Int32 × kS) := s_X7_treaty_0 F σ x1
set_option maxRecDepth 100000 in
theorem c_X7_treaty (E : kE) (hE : kap E) (F : Nat) (σ : kS) (x1 : Int32) (h : f_X7_treaty F σ x1 = some (r, σr)) : Met l yX7_treaty (kWs yX7_treaty cX7_treaty 3 (some .int)) (kR 6 139) (kPre (cP E) E [.ref (eA E 0), .int x1] σ) (kQi (cP E) (inC E) r σr) 0 0 (inC E) :=
  kst hE (by decide +kernel) (Nat.le_of_ble_eq_true rfl) (fun p e s m below meth c ls C hP hl => w_X7_treaty_0 C F σ x1 h s.heap [] hP va_S.rf ls hl)
end

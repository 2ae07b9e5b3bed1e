section
variable {p : Program} {l : Launch} {e : Env} {s : State} {m : MethodId} {args : Array Value} {below : List Frame} {meth : Method} {c : Code} {E : kE} {σr : kS}
variable {r : Int32}
def s_X4_readInto_8 (F : Nat) (rec8 : (kS × Int32 × Int32 → Option (Int32 × kS))) (σ : kS) (x2 : Int32) (x3 : Int32) : Option (Int32 × kS) :=
  (if (400 : Int32) ≤ x3 then some ((-4 : Int32), σ) else (if (kI σ 0) ≤ x2 then some ((-4 : Int32), σ) else (kb (f_X4_readItem F σ x2) fun v_3 σ_4 => (if v_3 = (-4 : Int32) then some (x2, σ_4) else (kb (f_X4_byteAt F σ_4 x2) fun v_7 σ_8 => (kb (f_X2_takeItem F σ_8 v_7) fun v_10 σ_11 => (if v_10 = 0 then some (x2, σ_11) else rec8 (σ_11, v_3, (x3 + (1 : Int32))))))))))
set_option maxRecDepth 100000 in
set_option maxHeartbeats 4000000 in
theorem w_X4_readInto_8 (C : Cx E p s m args meth c cX4_readInto 5 RX4 (some .int)) (F : Nat) (rec8 : (kS × Int32 × Int32 → Option (Int32 × kS))) (hrec8 : ∀ (σ : kS) (x2 : Int32) (x3 : Int32), rec8 (σ, x2, x3) = some (r, σr) → ∀ (H : Heap) (locs : List Loc), cP E σ H → va_S (inC E) s.heap H locs → ∀ (ls : Array Slot), lv_has ls 5 [(0, .ref (eA E 1)), (1, .ref (eA E 4)), (2, .int x2), (3, .int x3)] → W p l e (kR 3 103) s m args below meth c H locs 0 0 (MQ below (kQi (cP E) (inC E) r σr) args s 0 0 (inC E)) (F0 m 8 ls [])) (σ : kS) (x2 : Int32) (x3 : Int32) (h : s_X4_readInto_8 F rec8 σ x2 x3 = some (r, σr)) (H : Heap) (locs : List Loc) (hP : cP E σ H) (hS : va_S (inC E) s.heap H locs) (ls : Array Slot) (hl : lv_has ls 5 [(0, .ref (eA E 1)), (1, .ref (eA E 4)), (2, .int x2), (3, .int x3)]) : W p l e (kR 3 103) s m args below meth c H locs 0 0 (MQ below (kQi (cP E) (inC E) r σr) args s 0 0 (inC E)) (F0 m 8 ls []) := by
  obtain ⟨-, hx, hb, hml, hown, hts, hK, -, -⟩ := id C
  unfold s_X4_readInto_8 at h
  refine lv_iload_n hx hb dX4_readInto_8 rfl (lv_at hl 3 rfl) ?_
  refine lv_sipush (v := (400 : Int32)) hx hb dX4_readInto_9 (by decide) ?_
  refine lv_icmp_ge (tgt := 64) hx hb dX4_readInto_12 (by decide) (fun c_1 => ?_) (fun c_1 => ?_)
  · have h := k_t c_1 h
    refine lv_bipush (v := (-4 : Int32)) hx hb dX4_readInto_64 (by decide) ?_
    obtain ⟨rfl, rfl⟩ := k_inj h
    exact kri C hS hP dX4_readInto_66
  · have h := k_f c_1 h
    refine lv_iload_n hx hb dX4_readInto_15 rfl (lv_at hl 2 rfl) ?_
    refine lv_aload_n hx hb dX4_readInto_16 rfl (lv_at hl 0 rfl) ?_
    refine gf_1_2 C hP (v := (kI σ 0)) rfl w_65 dX4_readInto_17 ?_
    refine lv_icmp_ge (tgt := 64) hx hb dX4_readInto_20 (by decide) (fun c_2 => ?_) (fun c_2 => ?_)
    · have h := k_t c_2 h
      refine lv_bipush (v := (-4 : Int32)) hx hb dX4_readInto_64 (by decide) ?_
      obtain ⟨rfl, rfl⟩ := k_inj h
      exact kri C hS hP dX4_readInto_66
    · have h := k_f c_2 h
      refine lv_aload_n hx hb dX4_readInto_23 rfl (lv_at hl 0 rfl) ?_
      refine lv_iload_n hx hb dX4_readInto_24 rfl (lv_at hl 2 rfl) ?_
      obtain ⟨v_3, σ_4, hc_5, h⟩ := kb_ok h
      refine kci (krunV (As := [.int x2]) C hP (c_X4_readItem E C.1 F σ x2 hc_5) w_304 kv_X4_readItem ⟨Nat.le_of_ble_eq_true rfl, Nat.le_of_ble_eq_true rfl⟩ (rc_1 C hP) rfl hl.1 rfl (Nat.le_of_ble_eq_true rfl) dX4_readInto_25) hS (fun H locs hP hS => ?_)
      refine lv_istore (lv' := [(4, .int v_3), (0, .ref (eA E 1)), (1, .ref (eA E 4)), (2, .int x2), (3, .int x3)]) hx hb dX4_readInto_28 hl (by decide) rfl (fun ls hl => ?_)
      refine lv_iload hx hb dX4_readInto_30 (lv_at hl 0 rfl) ?_
      refine lv_bipush (v := (-4 : Int32)) hx hb dX4_readInto_32 (by decide) ?_
      refine lv_icmp_eq (tgt := 53) hx hb dX4_readInto_34 (by decide) (fun c_6 => ?_) (fun c_6 => ?_)
      · have h := k_t c_6 h
        refine lv_iload_n hx hb dX4_readInto_53 rfl (lv_at hl 3 rfl) ?_
        obtain ⟨rfl, rfl⟩ := k_inj h
        exact kri C hS hP dX4_readInto_54
      · have h := k_f c_6 h
        refine lv_aload_n hx hb dX4_readInto_37 rfl (lv_at hl 2 rfl) ?_
        refine lv_aload_n hx hb dX4_readInto_38 rfl (lv_at hl 1 rfl) ?_
        refine lv_iload_n hx hb dX4_readInto_39 rfl (lv_at hl 3 rfl) ?_
        obtain ⟨v_7, σ_8, hc_9, h⟩ := kb_ok h
        refine kci (krunV (As := [.int x2]) C hP (c_X4_byteAt E C.1 F σ_4 x2 hc_9) w_308 kv_X4_byteAt ⟨Nat.le_of_ble_eq_true rfl, Nat.le_of_ble_eq_true rfl⟩ (rc_1 C hP) rfl hl.1 rfl (Nat.le_of_ble_eq_true rfl) dX4_readInto_40) hS (fun H locs hP hS => ?_)
        refine lv_aload_n hx hb dX4_readInto_43 rfl (lv_at hl 1 rfl) ?_
        refine gf_1_1 C hP w_64 dX4_readInto_44 ?_
        obtain ⟨v_10, σ_11, hc_12, h⟩ := kb_ok h
        refine kci (krunV (As := [.int v_7, .ref (eA E 3)]) C hP (c_X2_takeItem E C.1 F σ_8 v_7 hc_12) w_322 kv_X2_takeItem ⟨Nat.le_of_ble_eq_true rfl, Nat.le_of_ble_eq_true rfl⟩ (rc_4 C hP) rfl hl.1 rfl (Nat.le_of_ble_eq_true rfl) dX4_readInto_47) hS (fun H locs hP hS => ?_)
        refine lv_if_ne (tgt := 55) hx hb dX4_readInto_50 (by decide) (fun c_13 => ?_) (fun c_13 => ?_)
        · have h := k_f c_13 h
          refine lv_iload hx hb dX4_readInto_55 (lv_at hl 0 rfl) ?_
          refine lv_istore_n (lv' := [(2, .int v_3), (4, .int v_3), (0, .ref (eA E 1)), (1, .ref (eA E 4)), (3, .int x3)]) hx hb dX4_readInto_57 rfl hl (by decide) rfl (fun ls hl => ?_)
          refine lv_iinc (v := (x3 + (1 : Int32))) (lv' := [(3, .int (x3 + (1 : Int32))), (2, .int v_3), (4, .int v_3), (0, .ref (eA E 1)), (1, .ref (eA E 4))]) hx hb dX4_readInto_58 hl (k := 4) rfl rfl (by decide) rfl (fun ls hl => ?_)
          refine lv_goto (tgt := 8) hx hb dX4_readInto_61 (by decide) ?_
          exact hrec8 σ_11 v_3 (x3 + (1 : Int32)) h H locs hP hS ls (lv_sub hl [3, 4, 1, 0] rfl)
        · have h := k_t c_13 h
          refine lv_iload_n hx hb dX4_readInto_53 rfl (lv_at hl 3 rfl) ?_
          obtain ⟨rfl, rfl⟩ := k_inj h
          exact kri C hS hP dX4_readInto_54
def f_X4_readInto_8 (F : Nat) : kS × Int32 × Int32 → Option (Int32 × kS) := itr (fun rec8 q => s_X4_readInto_8 F rec8 q.1 q.2.1 q.2.2) F
theorem wf_X4_readInto_8 (C : Cx E p s m args meth c cX4_readInto 5 RX4 (some .int)) (F : Nat) (σ : kS) (x2 : Int32) (x3 : Int32) (h : f_X4_readInto_8 F (σ, x2, x3) = some (r, σr)) (H : Heap) (locs : List Loc) (hP : cP E σ H) (hS : va_S (inC E) s.heap H locs) (ls : Array Slot) (hl : lv_has ls 5 [(0, .ref (eA E 1)), (1, .ref (eA E 4)), (2, .int x2), (3, .int x3)]) : W p l e (kR 3 103) s m args below meth c H locs 0 0 (MQ below (kQi (cP E) (inC E) r σr) args s 0 0 (inC E)) (F0 m 8 ls []) :=
  itr_ok (r := (r, σr)) (G := fun q => ∀ (H : Heap) (locs : List Loc), cP E q.1 H → va_S (inC E) s.heap H locs → ∀ (ls : Array Slot), lv_has ls 5 [(0, .ref (eA E 1)), (1, .ref (eA E 4)), (2, .int (q.2.1)), (3, .int (q.2.2))] → W p l e (kR 3 103) s m args below meth c H locs 0 0 (MQ below (kQi (cP E) (inC E) r σr) args s 0 0 (inC E)) (F0 m 8 ls [])) (fun rec8 hrec8 q h => w_X4_readInto_8 C F rec8 (fun σ x2 x3 => hrec8 (σ, x2, x3)) q.1 q.2.1 q.2.2 h) F (σ, x2, x3) h H locs hP hS ls hl
def s_X4_readInto_0 (F : Nat) (σ : kS) : Option (Int32 × kS) :=
  (kb (f_X2_clear F σ) fun _ σ_2 => f_X4_readInto_8 F (σ_2, (0 : Int32), (0 : Int32)))
set_option maxRecDepth 100000 in
set_option maxHeartbeats 4000000 in
theorem w_X4_readInto_0 (C : Cx E p s m args meth c cX4_readInto 5 RX4 (some .int)) (F : Nat) (σ : kS) (h : s_X4_readInto_0 F σ = some (r, σr)) (H : Heap) (locs : List Loc) (hP : cP E σ H) (hS : va_S (inC E) s.heap H locs) (ls : Array Slot) (hl : lv_has ls 5 [(0, .ref (eA E 1)), (1, .ref (eA E 4))]) : W p l e (kR 3 103) s m args below meth c H locs 0 0 (MQ below (kQi (cP E) (inC E) r σr) args s 0 0 (inC E)) (F0 m 0 ls []) := by
  obtain ⟨-, hx, hb, hml, hown, hts, hK, -, -⟩ := id C
  unfold s_X4_readInto_0 at h
  refine lv_aload_n hx hb dX4_readInto_0 rfl (lv_at hl 1 rfl) ?_
  obtain ⟨v_1, σ_2, hc_3, h⟩ := kb_ok h
  refine kcv (krunV (As := []) C hP (c_X2_clear E C.1 F σ hc_3) w_303 kv_X2_clear ⟨Nat.le_of_ble_eq_true rfl, Nat.le_of_ble_eq_true rfl⟩ (rc_4 C hP) rfl hl.1 rfl (Nat.le_of_ble_eq_true rfl) dX4_readInto_1) hS (fun H locs hP hS => ?_)
  refine lv_iconst (v := (0 : Int32)) hx hb dX4_readInto_4 (by decide) ?_
  refine lv_istore_n (lv' := [(2, .int (0 : Int32)), (0, .ref (eA E 1)), (1, .ref (eA E 4))]) hx hb dX4_readInto_5 rfl hl (by decide) rfl (fun ls hl => ?_)
  refine lv_iconst (v := (0 : Int32)) hx hb dX4_readInto_6 (by decide) ?_
  refine lv_istore_n (lv' := [(3, .int (0 : Int32)), (2, .int (0 : Int32)), (0, .ref (eA E 1)), (1, .ref (eA E 4))]) hx hb dX4_readInto_7 rfl hl (by decide) rfl (fun ls hl => ?_)
  exact wf_X4_readInto_8 C F σ_2 (0 : Int32) (0 : Int32) h H locs hP hS ls (lv_sub hl [2, 3, 1, 0] rfl)
def f_X4_readInto (F : Nat) (σ : kS) : Option (Int32 × kS) := s_X4_readInto_0 F σ
set_option maxRecDepth 100000 in
theorem c_X4_readInto (E : kE) (hE : kap E) (F : Nat) (σ : kS) (h : f_X4_readInto F σ = some (r, σr)) : Met l yX4_readInto (kWs yX4_readInto cX4_readInto 5 (some .int)) (kR 3 103) (kPre (cP E) E [.ref (eA E 1), .ref (eA E 4)] σ) (kQi (cP E) (inC E) r σr) 0 0 (inC E) :=
  kst hE (by decide +kernel) (Nat.le_of_ble_eq_true rfl) (fun p e s m below meth c ls C hP hl => w_X4_readInto_0 C F σ h s.heap [] hP va_S.rf ls hl)
end

section
variable {p : Program} {l : Launch} {e : Env} {s : State} {m : MethodId} {args : Array Value} {below : List Frame} {meth : Method} {c : Code} {E : kE} {σr : kS}
variable {r : Int32}
def s_X7_fault_0 (F : Nat) (σ : kS) : Option (Int32 × kS) :=
  (kb (f_X4_readInto F σ) fun v_1 σ_2 => some (v_1, σ_2))
set_option maxRecDepth 100000 in
set_option maxHeartbeats 4000000 in
theorem w_X7_fault_0 (C : Cx E p s m args meth c cX7_fault 1 RX7 (some .int)) (F : Nat) (σ : kS) (h : s_X7_fault_0 F σ = some (r, σr)) (H : Heap) (locs : List Loc) (hP : cP E σ H) (hS : va_S (inC E) s.heap H locs) (ls : Array Slot) (hl : lv_has ls 1 [(0, .ref (eA E 0))]) : W p l e (kR 4 127) s m args below meth c H locs 0 0 (MQ below (kQi (cP E) (inC E) r σr) args s 0 0 (inC E)) (F0 m 0 ls []) := by
  obtain ⟨-, hx, hb, hml, hown, hts, hK, -, -⟩ := id C
  unfold s_X7_fault_0 at h
  refine lv_aload_n hx hb dX7_fault_0 rfl (lv_at hl 0 rfl) ?_
  refine gf_0_0 C hP w_249 dX7_fault_1 ?_
  refine lv_aload_n hx hb dX7_fault_4 rfl (lv_at hl 0 rfl) ?_
  refine gf_0_1 C hP w_250 dX7_fault_5 ?_
  obtain ⟨v_1, σ_2, hc_3, h⟩ := kb_ok h
  refine kci (krunV (As := [.ref (eA E 4)]) C hP (c_X4_readInto E C.1 F σ hc_3) w_299 kv_X4_readInto ⟨Nat.le_of_ble_eq_true rfl, Nat.le_of_ble_eq_true rfl⟩ (rc_1 C hP) rfl hl.1 rfl (Nat.le_of_ble_eq_true rfl) dX7_fault_8) hS (fun H locs hP hS => ?_)
  obtain ⟨rfl, rfl⟩ := k_inj h
  exact kri C hS hP dX7_fault_11
def f_X7_fault (F : Nat) (σ : kS) : Option (Int32 × kS) := s_X7_fault_0 F σ
set_option maxRecDepth 100000 in
theorem c_X7_fault (E : kE) (hE : kap E) (F : Nat) (σ : kS) (h : f_X7_fault F σ = some (r, σr)) : Met l yX7_fault (kWs yX7_fault cX7_fault 1 (some .int)) (kR 4 127) (kPre (cP E) E [.ref (eA E 0)] σ) (kQi (cP E) (inC E) r σr) 0 0 (inC E) :=
  kst hE (by decide +kernel) (Nat.le_of_ble_eq_true rfl) (fun p e s m below meth c ls C hP hl => w_X7_fault_0 C F σ h s.heap [] hP va_S.rf ls hl)
end

section
variable {p : Program} {l : Launch} {e : Env} {s : State} {m : MethodId} {args : Array Value} {below : List Frame} {meth : Method} {c : Code} {E : kE} {σr : kS}
variable {r : Unit}
def s_X2_copyFrom_0 (F : Nat) (σ : kS) : Option (Unit × kS) :=
  (if (0 : Int32) < 0 ∨ (0 : Int32) < 0 ∨ (30 : Int32) < 0 ∨ 30 < (0 : Int32).toNatClampNeg + (30 : Int32).toNatClampNeg ∨ 30 < (0 : Int32).toNatClampNeg + (30 : Int32).toNatClampNeg then none else some ((), (jC (jI (jI (jI (jI (jI (jI (jI σ 8 (kI σ 1)) 9 (kI σ 2)) 10 (kI σ 3)) 11 (kI σ 4)) 12 (kI σ 5)) 13 (kI σ 6)) 14 (kI σ 7)) 2 3 0 0 30)))
set_option maxRecDepth 100000 in
set_option maxHeartbeats 4000000 in
theorem w_X2_copyFrom_0 (C : Cx E p s m args meth c cX2_copyFrom 2 RX2 none) (F : Nat) (σ : kS) (h : s_X2_copyFrom_0 F σ = some (r, σr)) (H : Heap) (locs : List Loc) (hP : cP E σ H) (hS : va_S (inC E) s.heap H locs) (ls : Array Slot) (hl : lv_has ls 2 [(0, .ref (eA E 6)), (1, .ref (eA E 4))]) : W p l e (kR 1 60) s m args below meth c H locs 0 0 (MQ below (kQv (cP E) (inC E) r σr) args s 0 0 (inC E)) (F0 m 0 ls []) := by
  obtain ⟨-, hx, hb, hml, hown, hts, hK, -, -⟩ := id C
  unfold s_X2_copyFrom_0 at h
  refine lv_aload_n hx hb dX2_copyFrom_0 rfl (lv_at hl 0 rfl) ?_
  refine lv_aload_n hx hb dX2_copyFrom_1 rfl (lv_at hl 1 rfl) ?_
  refine gf_4_0 C hP (v := (kI σ 1)) rfl w_86 dX2_copyFrom_2 ?_
  refine pf_6_0 C hP hS w_86 dX2_copyFrom_5 (fun H locs hP hS => ?_)
  refine lv_aload_n hx hb dX2_copyFrom_8 rfl (lv_at hl 0 rfl) ?_
  refine lv_aload_n hx hb dX2_copyFrom_9 rfl (lv_at hl 1 rfl) ?_
  refine gf_4_1 C hP (v := (kI σ 2)) rfl w_87 dX2_copyFrom_10 ?_
  refine pf_6_1 C hP hS w_87 dX2_copyFrom_13 (fun H locs hP hS => ?_)
  refine lv_aload_n hx hb dX2_copyFrom_16 rfl (lv_at hl 0 rfl) ?_
  refine lv_aload_n hx hb dX2_copyFrom_17 rfl (lv_at hl 1 rfl) ?_
  refine gf_4_2 C hP (v := (kI σ 3)) rfl w_88 dX2_copyFrom_18 ?_
  refine pf_6_2 C hP hS w_88 dX2_copyFrom_21 (fun H locs hP hS => ?_)
  refine lv_aload_n hx hb dX2_copyFrom_24 rfl (lv_at hl 0 rfl) ?_
  refine lv_aload_n hx hb dX2_copyFrom_25 rfl (lv_at hl 1 rfl) ?_
  refine gf_4_3 C hP (v := (kI σ 4)) rfl w_89 dX2_copyFrom_26 ?_
  refine pf_6_3 C hP hS w_89 dX2_copyFrom_29 (fun H locs hP hS => ?_)
  refine lv_aload_n hx hb dX2_copyFrom_32 rfl (lv_at hl 0 rfl) ?_
  refine lv_aload_n hx hb dX2_copyFrom_33 rfl (lv_at hl 1 rfl) ?_
  refine gf_4_4 C hP (v := (kI σ 5)) rfl w_90 dX2_copyFrom_34 ?_
  refine pf_6_4 C hP hS w_90 dX2_copyFrom_37 (fun H locs hP hS => ?_)
  refine lv_aload_n hx hb dX2_copyFrom_40 rfl (lv_at hl 0 rfl) ?_
  refine lv_aload_n hx hb dX2_copyFrom_41 rfl (lv_at hl 1 rfl) ?_
  refine gf_4_5 C hP (v := (kI σ 6)) rfl w_91 dX2_copyFrom_42 ?_
  refine pf_6_5 C hP hS w_91 dX2_copyFrom_45 (fun H locs hP hS => ?_)
  refine lv_aload_n hx hb dX2_copyFrom_48 rfl (lv_at hl 0 rfl) ?_
  refine lv_aload_n hx hb dX2_copyFrom_49 rfl (lv_at hl 1 rfl) ?_
  refine gf_4_7 C hP (v := (kI σ 7)) rfl w_94 dX2_copyFrom_50 ?_
  refine pf_6_7 C hP hS w_94 dX2_copyFrom_53 (fun H locs hP hS => ?_)
  refine lv_aload_n hx hb dX2_copyFrom_56 rfl (lv_at hl 1 rfl) ?_
  refine gf_4_6 C hP w_92 dX2_copyFrom_57 ?_
  refine lv_iconst (v := (0 : Int32)) hx hb dX2_copyFrom_60 (by decide) ?_
  refine lv_aload_n hx hb dX2_copyFrom_61 rfl (lv_at hl 0 rfl) ?_
  refine gf_6_6 C hP w_92 dX2_copyFrom_62 ?_
  refine lv_iconst (v := (0 : Int32)) hx hb dX2_copyFrom_65 (by decide) ?_
  refine lv_aload_n hx hb dX2_copyFrom_66 rfl (lv_at hl 0 rfl) ?_
  refine gf_6_6 C hP w_92 dX2_copyFrom_67 ?_
  refine an_7 C hP dX2_copyFrom_70 ?_
  obtain ⟨n_1, h⟩ := k_no h
  refine ac_5_7 C hl.1 hP hS (σ2 := (jC (jI (jI (jI (jI (jI (jI (jI σ 8 (kI σ 1)) 9 (kI σ 2)) 10 (kI σ 3)) 11 (kI σ 4)) 12 (kI σ 5)) 13 (kI σ 6)) 14 (kI σ 7)) 2 3 0 0 30)) rfl n_1 w_342 (Nat.le_of_ble_eq_true rfl) (Nat.le_of_ble_eq_true rfl) dX2_copyFrom_71 (fun H locs hP hS => ?_)
  obtain ⟨rfl, rfl⟩ := k_inj h
  exact krv C hS hP dX2_copyFrom_74
def f_X2_copyFrom (F : Nat) (σ : kS) : Option (Unit × kS) := s_X2_copyFrom_0 F σ
set_option maxRecDepth 100000 in
theorem c_X2_copyFrom (E : kE) (hE : kap E) (F : Nat) (σ : kS) (h : f_X2_copyFrom F σ = some (r, σr)) : Met l yX2_copyFrom (kWs yX2_copyFrom cX2_copyFrom 2 none) (kR 1 60) (kPre (cP E) E [.ref (eA E 6), .ref (eA E 4)] σ) (kQv (cP E) (inC E) r σr) 0 0 (inC E) :=
  kst hE (by decide +kernel) (Nat.le_of_ble_eq_true rfl) (fun p e s m below meth c ls C hP hl => w_X2_copyFrom_0 C F σ h s.heap [] hP va_S.rf ls hl)
end

section
variable {p : Program} {l : Launch} {e : Env} {s : State} {m : MethodId} {args : Array Value} {below : List Frame} {meth : Method} {c : Code} {E : kE} {σr : kS}
variable {r : Int32}
def s_X2_numberOf_0 (F : Nat) (σ : kS) (x1 : Int32) (x2 : Int32) : Option (Int32 × kS) :=
  (kn ((x1 * (5 : Int32)) + x2) (fun x3_1 => (if x3_1 < 0 then some ((0 : Int32), σ) else (if (30 : Int32) ≤ x3_1 then some ((0 : Int32), σ) else (if x3_1 < 0 ∨ 30 ≤ x3_1.toNatClampNeg then none else some ((kA σ 3 x3_1.toNatClampNeg), σ))))))
set_option maxRecDepth 100000 in
set_option maxHeartbeats 4000000 in
theorem w_X2_numberOf_0 (C : Cx E p s m args meth c cX2_numberOf 4 RX2 (some .int)) (F : Nat) (σ : kS) (x1 : Int32) (x2 : Int32) (h : s_X2_numberOf_0 F σ x1 x2 = some (r, σr)) (H : Heap) (locs : List Loc) (hP : cP E σ H) (hS : va_S (inC E) s.heap H locs) (ls : Array Slot) (hl : lv_has ls 4 [(0, .ref (eA E 6)), (1, .int x1), (2, .int x2)]) : W p l e (kR 0 0) s m args below meth c H locs 0 0 (MQ below (kQi (cP E) (inC E) r σr) args s 0 0 (inC E)) (F0 m 0 ls []) := by
  obtain ⟨-, hx, hb, hml, hown, hts, hK, -, -⟩ := id C
  unfold s_X2_numberOf_0 at h
  refine lv_iload_n hx hb dX2_numberOf_0 rfl (lv_at hl 1 rfl) ?_
  refine lv_iconst (v := (5 : Int32)) hx hb dX2_numberOf_1 (by decide) ?_
  refine lv_imul hx hb dX2_numberOf_2 ?_
  refine lv_iload_n hx hb dX2_numberOf_3 rfl (lv_at hl 2 rfl) ?_
  refine lv_iadd hx hb dX2_numberOf_4 ?_
  refine lv_topi (fun x3_1 ex3_1 => ?_)
  have h := kn_to ex3_1 h
  refine lv_istore_n (lv' := [(3, .int x3_1), (0, .ref (eA E 6)), (1, .int x1), (2, .int x2)]) hx hb dX2_numberOf_5 rfl hl (by decide) rfl (fun ls hl => ?_)
  refine lv_iload_n hx hb dX2_numberOf_6 rfl (lv_at hl 0 rfl) ?_
  refine lv_if_lt (tgt := 28) hx hb dX2_numberOf_7 (by decide) (fun c_2 => ?_) (fun c_2 => ?_)
  · have h := k_t c_2 h
    refine lv_iconst (v := (0 : Int32)) hx hb dX2_numberOf_28 (by decide) ?_
    obtain ⟨rfl, rfl⟩ := k_inj h
    exact kri C hS hP dX2_numberOf_29
  · have h := k_f c_2 h
    refine lv_iload_n hx hb dX2_numberOf_10 rfl (lv_at hl 0 rfl) ?_
    refine lv_aload_n hx hb dX2_numberOf_11 rfl (lv_at hl 1 rfl) ?_
    refine gf_6_6 C hP w_92 dX2_numberOf_12 ?_
    refine an_7 C hP dX2_numberOf_15 ?_
    refine lv_icmp_ge (tgt := 28) hx hb dX2_numberOf_16 (by decide) (fun c_3 => ?_) (fun c_3 => ?_)
    · have h := k_t c_3 h
      refine lv_iconst (v := (0 : Int32)) hx hb dX2_numberOf_28 (by decide) ?_
      obtain ⟨rfl, rfl⟩ := k_inj h
      exact kri C hS hP dX2_numberOf_29
    · have h := k_f c_3 h
      refine lv_aload_n hx hb dX2_numberOf_19 rfl (lv_at hl 1 rfl) ?_
      refine gf_6_6 C hP w_92 dX2_numberOf_20 ?_
      refine lv_iload_n hx hb dX2_numberOf_23 rfl (lv_at hl 0 rfl) ?_
      obtain ⟨n_4, h⟩ := k_no h
      refine al_7 C hP (v := (kA σ 3 x3_1.toNatClampNeg)) rfl n_4 dX2_numberOf_24 ?_
      refine lv_goto (tgt := 29) hx hb dX2_numberOf_25 (by decide) ?_
      obtain ⟨rfl, rfl⟩ := k_inj h
      exact kri C hS hP dX2_numberOf_29
def f_X2_numberOf (F : Nat) (σ : kS) (x1 : Int32) (x2 : Int32) : Option (Int32 × kS) := s_X2_numberOf_0 F σ x1 x2
set_option maxRecDepth 100000 in
theorem c_X2_numberOf (E : kE) (hE : kap E) (F : Nat) (σ : kS) (x1 : Int32) (x2 : Int32) (h : f_X2_numberOf F σ x1 x2 = some (r, σr)) : Met l yX2_numberOf (kWs yX2_numberOf cX2_numberOf 4 (some .int)) (kR 0 0) (kPre (cP E) E [.ref (eA E 6), .int x1, .int x2] σ) (kQi (cP E) (inC E) r σr) 0 0 (inC E) :=
  kst hE (by decide +kernel) (Nat.le_of_ble_eq_true rfl) (fun p e s m below meth c ls C hP hl => w_X2_numberOf_0 C F σ x1 x2 h s.heap [] hP va_S.rf ls hl)
end

section
variable {p : Program} {l : Launch} {e : Env} {s : State} {m : MethodId} {args : Array Value} {below : List Frame} {meth : Method} {c : Code} {E : kE} {σr : kS}
variable {r : Int32}
def s_X7_lawBits_0 (F : Nat) (σ : kS) (x0 : Int32) (x1 : Int32) : Option (Int32 × kS) :=
  some ((x1 <<< (((2 : Int32) * x0) &&& 31)), σ)
set_option maxRecDepth 100000 in
set_option maxHeartbeats 4000000 in
theorem w_X7_lawBits_0 (C : Cx E p s m args meth c cX7_lawBits 2 RX7 (some .int)) (F : Nat) (σ : kS) (x0 : Int32) (x1 : Int32) (h : s_X7_lawBits_0 F σ x0 x1 = some (r, σr)) (H : Heap) (locs : List Loc) (hP : cP E σ H) (hS : va_S (inC E) s.heap H locs) (ls : Array Slot) (hl : lv_has ls 2 [(0, .int x0), (1, .int x1)]) : W p l e (kR 0 0) s m args below meth c H locs 0 0 (MQ below (kQi (cP E) (inC E) r σr) args s 0 0 (inC E)) (F0 m 0 ls []) := by
  obtain ⟨-, hx, hb, hml, hown, hts, hK, -, -⟩ := id C
  unfold s_X7_lawBits_0 at h
  refine lv_iload_n hx hb dX7_lawBits_0 rfl (lv_at hl 1 rfl) ?_
  refine lv_iconst (v := (2 : Int32)) hx hb dX7_lawBits_1 (by decide) ?_
  refine lv_iload_n hx hb dX7_lawBits_2 rfl (lv_at hl 0 rfl) ?_
  refine lv_imul hx hb dX7_lawBits_3 ?_
  refine lv_ishl hx hb dX7_lawBits_4 ?_
  obtain ⟨rfl, rfl⟩ := k_inj h
  exact kri C hS hP dX7_lawBits_5
def f_X7_lawBits (F : Nat) (σ : kS) (x0 : Int32) (x1 : Int32) : Option (Int32 × kS) := s_X7_lawBits_0 F σ x0 x1
set_option maxRecDepth 100000 in
theorem c_X7_lawBits (E : kE) (hE : kap E) (F : Nat) (σ : kS) (x0 : Int32) (x1 : Int32) (h : f_X7_lawBits F σ x0 x1 = some (r, σr)) : Met l yX7_lawBits (kWs yX7_lawBits cX7_lawBits 2 (some .int)) (kR 0 0) (kPre (cP E) E [.int x0, .int x1] σ) (kQi (cP E) (inC E) r σr) 0 0 (inC E) :=
  kst hE (by decide +kernel) (Nat.le_of_ble_eq_true rfl) (fun p e s m below meth c ls C hP hl => w_X7_lawBits_0 C F σ x0 x1 h s.heap [] hP va_S.rf ls hl)
end

section
variable {p : Program} {l : Launch} {e : Env} {s : State} {m : MethodId} {args : Array Value} {below : List Frame} {meth : Method} {c : Code} {E : kE} {σr : kS}
variable {r : Int32}
def s_X2_toldLaws_4 (F : Nat) (rec4 : (kS × Int32 × Int32 → Option (Int32 × kS))) (σ : kS) (x1 : Int32) (x2 : Int32) : Option (Int32 × kS) :=
  (if (kI σ 14) ≤ x2 then some (x1, σ) else (kb (f_X2_numberOf F σ x2 (1 : Int32)) fun v_2 σ_3 => (kb (f_X7_lawBits F σ_3 x2 v_2) fun v_5 σ_6 => rec4 (σ_6, (x1 ||| v_5), (x2 + (1 : Int32))))))
set_option maxRecDepth 100000 in
set_option maxHeartbeats 4000000 in
theorem w_X2_toldLaws_4 (C : Cx E p s m args meth c cX2_toldLaws 3 RX2 (some .int)) (F : Nat) (rec4 : (kS × Int32 × Int32 → Option (Int32 × kS))) (hrec4 : ∀ (σ : kS) (x1 : Int32) (x2 : Int32), rec4 (σ, x1, x2) = some (r, σr) → ∀ (H : Heap) (locs : List Loc), cP E σ H → va_S (inC E) s.heap H locs → ∀ (ls : Array Slot), lv_has ls 3 [(0, .ref (eA E 6)), (1, .int x1), (2, .int x2)] → W p l e (kR 1 23) s m args below meth c H locs 0 0 (MQ below (kQi (cP E) (inC E) r σr) args s 0 0 (inC E)) (F0 m 4 ls [])) (σ : kS) (x1 : Int32) (x2 : Int32) (h : s_X2_toldLaws_4 F rec4 σ x1 x2 = some (r, σr)) (H : Heap) (locs : List Loc) (hP : cP E σ H) (hS : va_S (inC E) s.heap H locs) (ls : Array Slot) (hl : lv_has ls 3 [(0, .ref (eA E 6)), (1, .int x1), (2, .int x2)]) : W p l e (kR 1 23) s m args below meth c H locs 0 0 (MQ below (kQi (cP E) (inC E) r σr) args s 0 0 (inC E)) (F0 m 4 ls []) := by
  obtain ⟨-, hx, hb, hml, hown, hts, hK, -, -⟩ := id C
  unfold s_X2_toldLaws_4 at h
  refine lv_iload_n hx hb dX2_toldLaws_4 rfl (lv_at hl 2 rfl) ?_
  refine lv_aload_n hx hb dX2_toldLaws_5 rfl (lv_at hl 0 rfl) ?_
  refine gf_6_7 C hP (v := (kI σ 14)) rfl w_94 dX2_toldLaws_6 ?_
  refine lv_icmp_ge (tgt := 31) hx hb dX2_toldLaws_9 (by decide) (fun c_1 => ?_) (fun c_1 => ?_)
  · have h := k_t c_1 h
    refine lv_iload_n hx hb dX2_toldLaws_31 rfl (lv_at hl 1 rfl) ?_
    obtain ⟨rfl, rfl⟩ := k_inj h
    exact kri C hS hP dX2_toldLaws_32
  · have h := k_f c_1 h
    refine lv_iload_n hx hb dX2_toldLaws_12 rfl (lv_at hl 1 rfl) ?_
    refine lv_iload_n hx hb dX2_toldLaws_13 rfl (lv_at hl 2 rfl) ?_
    refine lv_aload_n hx hb dX2_toldLaws_14 rfl (lv_at hl 0 rfl) ?_
    refine lv_iload_n hx hb dX2_toldLaws_15 rfl (lv_at hl 2 rfl) ?_
    refine lv_iconst (v := (1 : Int32)) hx hb dX2_toldLaws_16 (by decide) ?_
    obtain ⟨v_2, σ_3, hc_4, h⟩ := kb_ok h
    refine kci (krunV (As := [.int x2, .int (1 : Int32)]) C hP (c_X2_numberOf E C.1 F σ x2 (1 : Int32) hc_4) w_238 kv_X2_numberOf ⟨Nat.le_of_ble_eq_true rfl, Nat.le_of_ble_eq_true rfl⟩ (rc_6 C hP) rfl hl.1 rfl (Nat.le_of_ble_eq_true rfl) dX2_toldLaws_17) hS (fun H locs hP hS => ?_)
    obtain ⟨v_5, σ_6, hc_7, h⟩ := kb_ok h
    refine kci (krunN (As := [.int x2, .int v_2]) C hP (c_X7_lawBits E C.1 F σ_3 x2 v_2 hc_7) (fun g => g.1) kt_X7_lawBits ⟨Nat.le_of_ble_eq_true rfl, Nat.le_of_ble_eq_true rfl⟩ rfl hl.1 rfl (Nat.le_of_ble_eq_true rfl) dX2_toldLaws_20) hS (fun H locs hP hS => ?_)
    refine lv_ior hx hb dX2_toldLaws_23 ?_
    refine lv_istore_n (lv' := [(1, .int (x1 ||| v_5)), (0, .ref (eA E 6)), (2, .int x2)]) hx hb dX2_toldLaws_24 rfl hl (by decide) rfl (fun ls hl => ?_)
    refine lv_iinc (v := (x2 + (1 : Int32))) (lv' := [(2, .int (x2 + (1 : Int32))), (1, .int (x1 ||| v_5)), (0, .ref (eA E 6))]) hx hb dX2_toldLaws_25 hl (k := 2) rfl rfl (by decide) rfl (fun ls hl => ?_)
    refine lv_goto (tgt := 4) hx hb dX2_toldLaws_28 (by decide) ?_
    exact hrec4 σ_6 (x1 ||| v_5) (x2 + (1 : Int32)) h H locs hP hS ls (lv_sub hl [2, 1, 0] rfl)
def f_X2_toldLaws_4 (F : Nat) : kS × Int32 × Int32 → Option (Int32 × kS) := itr (fun rec4 q => s_X2_toldLaws_4 F rec4 q.1 q.2.1 q.2.2) F
theorem wf_X2_toldLaws_4 (C : Cx E p s m args meth c cX2_toldLaws 3 RX2 (some .int)) (F : Nat) (σ : kS) (x1 : Int32) (x2 : Int32) (h : f_X2_toldLaws_4 F (σ, x1, x2) = some (r, σr)) (H : Heap) (locs : List Loc) (hP : cP E σ H) (hS : va_S (inC E) s.heap H locs) (ls : Array Slot) (hl : lv_has ls 3 [(0, .ref (eA E 6)), (1, .int x1), (2, .int x2)]) : W p l e (kR 1 23) s m args below meth c H locs 0 0 (MQ below (kQi (cP E) (inC E) r σr) args s 0 0 (inC E)) (F0 m 4 ls []) :=
  itr_ok (r := (r, σr)) (G := fun q => ∀ (H : Heap) (locs : List Loc), cP E q.1 H → va_S (inC E) s.heap H locs → ∀ (ls : Array Slot), lv_has ls 3 [(0, .ref (eA E 6)), (1, .int (q.2.1)), (2, .int (q.2.2))] → W p l e (kR 1 23) s m args below meth c H locs 0 0 (MQ below (kQi (cP E) (inC E) r σr) args s 0 0 (inC E)) (F0 m 4 ls [])) (fun rec4 hrec4 q h => w_X2_toldLaws_4 C F rec4 (fun σ x1 x2 => hrec4 (σ, x1, x2)) q.1 q.2.1 q.2.2 h) F (σ, x1, x2) h H locs hP hS ls hl
def s_X2_toldLaws_0 (F : Nat) (σ : kS) : Option (Int32 × kS) :=
  f_X2_toldLaws_4 F (σ, (0 : Int32), (0 : Int32))
set_option maxRecDepth 100000 in
set_option maxHeartbeats 4000000 in
theorem w_X2_toldLaws_0 (C : Cx E p s m args meth c cX2_toldLaws 3 RX2 (some .int)) (F : Nat) (σ : kS) (h : s_X2_toldLaws_0 F σ = some (r, σr)) (H : Heap) (locs : List Loc) (hP : cP E σ H) (hS : va_S (inC E) s.heap H locs) (ls : Array Slot) (hl : lv_has ls 3 [(0, .ref (eA E 6))]) : W p l e (kR 1 23) s m args below meth c H locs 0 0 (MQ below (kQi (cP E) (inC E) r σr) args s 0 0 (inC E)) (F0 m 0 ls []) := by
  obtain ⟨-, hx, hb, hml, hown, hts, hK, -, -⟩ := id C
  unfold s_X2_toldLaws_0 at h
  refine lv_iconst (v := (0 : Int32)) hx hb dX2_toldLaws_0 (by decide) ?_
  refine lv_istore_n (lv' := [(1, .int (0 : Int32)), (0, .ref (eA E 6))]) hx hb dX2_toldLaws_1 rfl hl (by decide) rfl (fun ls hl => ?_)
  refine lv_iconst (v := (0 : Int32)) hx hb dX2_toldLaws_2 (by decide) ?_
  refine lv_istore_n (lv' := [(2, .int (0 : Int32)), (1, .int (0 : Int32)), (0, .ref (eA E 6))]) hx hb dX2_toldLaws_3 rfl hl (by decide) rfl (fun ls hl => ?_)
  exact wf_X2_toldLaws_4 C F σ (0 : Int32) (0 : Int32) h H locs hP hS ls (lv_sub hl [2, 1, 0] rfl)
def f_X2_toldLaws (F : Nat) (σ : kS) : Option (Int32 × kS) := s_X2_toldLaws_0 F σ
set_option maxRecDepth 100000 in
theorem c_X2_toldLaws (E : kE) (hE : kap E) (F : Nat) (σ : kS) (h : f_X2_toldLaws F σ = some (r, σr)) : Met l yX2_toldLaws (kWs yX2_toldLaws cX2_toldLaws 3 (some .int)) (kR 1 23) (kPre (cP E) E [.ref (eA E 6)] σ) (kQi (cP E) (inC E) r σr) 0 0 (inC E) :=
  kst hE (by decide +kernel) (Nat.le_of_ble_eq_true rfl) (fun p e s m below meth c ls C hP hl => w_X2_toldLaws_0 C F σ h s.heap [] hP va_S.rf ls hl)
end

section
variable {p : Program} {l : Launch} {e : Env} {s : State} {m : MethodId} {args : Array Value} {below : List Frame} {meth : Method} {c : Code} {E : kE} {σr : kS}
variable {r : Unit}
def s_X3_startOver_0 (F : Nat) (σ : kS) (x1 : Int32) : Option (Unit × kS) :=
  some ((), (jI (jI (jI (jI (jG σ 0 (0 : Int64)) 15 (0 : Int32)) 16 (0 : Int32)) 17 (0 : Int32)) 18 x1))
set_option maxRecDepth 100000 in
set_option maxHeartbeats 4000000 in
theorem w_X3_startOver_0 (C : Cx E p s m args meth c cX3_startOver 2 RX3 none) (F : Nat) (σ : kS) (x1 : Int32) (h : s_X3_startOver_0 F σ x1 = some (r, σr)) (H : Heap) (locs : List Loc) (hP : cP E σ H) (hS : va_S (inC E) s.heap H locs) (ls : Array Slot) (hl : lv_has ls 2 [(0, .ref (eA E 8)), (1, .int x1)]) : W p l e (kR 0 0) s m args below meth c H locs 0 0 (MQ below (kQv (cP E) (inC E) r σr) args s 0 0 (inC E)) (F0 m 0 ls []) := by
  obtain ⟨-, hx, hb, hml, hown, hts, hK, -, -⟩ := id C
  unfold s_X3_startOver_0 at h
  refine lv_aload_n hx hb dX3_startOver_0 rfl (lv_at hl 0 rfl) ?_
  refine lv_lconst (v := (0 : Int64)) hx hb dX3_startOver_1 (by decide) ?_
  refine pf_8_0 C hP hS w_119 dX3_startOver_2 (fun H locs hP hS => ?_)
  refine lv_aload_n hx hb dX3_startOver_5 rfl (lv_at hl 0 rfl) ?_
  refine lv_iconst (v := (0 : Int32)) hx hb dX3_startOver_6 (by decide) ?_
  refine pf_8_1 C hP hS w_122 dX3_startOver_7 (fun H locs hP hS => ?_)
  refine lv_aload_n hx hb dX3_startOver_10 rfl (lv_at hl 0 rfl) ?_
  refine lv_iconst (v := (0 : Int32)) hx hb dX3_startOver_11 (by decide) ?_
  refine pf_8_2 C hP hS w_126 dX3_startOver_12 (fun H locs hP hS => ?_)
  refine lv_aload_n hx hb dX3_startOver_15 rfl (lv_at hl 0 rfl) ?_
  refine lv_iconst (v := (0 : Int32)) hx hb dX3_startOver_16 (by decide) ?_
  refine pf_8_3 C hP hS w_129 dX3_startOver_17 (fun H locs hP hS => ?_)
  refine lv_aload_n hx hb dX3_startOver_20 rfl (lv_at hl 0 rfl) ?_
  refine lv_iload_n hx hb dX3_startOver_21 rfl (lv_at hl 1 rfl) ?_
  refine pf_8_4 C hP hS w_132 dX3_startOver_22 (fun H locs hP hS => ?_)
  obtain ⟨rfl, rfl⟩ := k_inj h
  exact krv C hS hP dX3_startOver_25
def f_X3_startOver (F : Nat) (σ : kS) (x1 : Int32) : Option (Unit × kS) := s_X3_startOver_0 F σ x1
set_option maxRecDepth 100000 in
theorem c_X3_startOver (E : kE) (hE : kap E) (F : Nat) (σ : kS) (x1 : Int32) (h : f_X3_startOver F σ x1 = some (r, σr)) : Met l yX3_startOver (kWs yX3_startOver cX3_startOver 2 none) (kR 0 0) (kPre (cP E) E [.ref (eA E 8), .int x1] σ) (kQv (cP E) (inC E) r σr) 0 0 (inC E) :=
  kst hE (by decide +kernel) (Nat.le_of_ble_eq_true rfl) (fun p e s m below meth c ls C hP hl => w_X3_startOver_0 C F σ x1 h s.heap [] hP va_S.rf ls hl)
end

section
variable {p : Program} {l : Launch} {e : Env} {s : State} {m : MethodId} {args : Array Value} {below : List Frame} {meth : Method} {c : Code} {E : kE} {σr : kS}
variable {r : Unit}
def s_X5_clear_0 (F : Nat) (σ : kS) : Option (Unit × kS) :=
  some ((), (jI σ 22 (0 : Int32)))
set_option maxRecDepth 100000 in
set_option maxHeartbeats 4000000 in
theorem w_X5_clear_0 (C : Cx E p s m args meth c cX5_clear 1 RX5 none) (F : Nat) (σ : kS) (h : s_X5_clear_0 F σ = some (r, σr)) (H : Heap) (locs : List Loc) (hP : cP E σ H) (hS : va_S (inC E) s.heap H locs) (ls : Array Slot) (hl : lv_has ls 1 [(0, .ref (eA E 14))]) : W p l e (kR 0 0) s m args below meth c H locs 0 0 (MQ below (kQv (cP E) (inC E) r σr) args s 0 0 (inC E)) (F0 m 0 ls []) := by
  obtain ⟨-, hx, hb, hml, hown, hts, hK, -, -⟩ := id C
  unfold s_X5_clear_0 at h
  refine lv_aload_n hx hb dX5_clear_0 rfl (lv_at hl 0 rfl) ?_
  refine lv_iconst (v := (0 : Int32)) hx hb dX5_clear_1 (by decide) ?_
  refine pf_14_7 C hP hS w_210 dX5_clear_2 (fun H locs hP hS => ?_)
  obtain ⟨rfl, rfl⟩ := k_inj h
  exact krv C hS hP dX5_clear_5
def f_X5_clear (F : Nat) (σ : kS) : Option (Unit × kS) := s_X5_clear_0 F σ
set_option maxRecDepth 100000 in
theorem c_X5_clear (E : kE) (hE : kap E) (F : Nat) (σ : kS) (h : f_X5_clear F σ = some (r, σr)) : Met l yX5_clear (kWs yX5_clear cX5_clear 1 none) (kR 0 0) (kPre (cP E) E [.ref (eA E 14)] σ) (kQv (cP E) (inC E) r σr) 0 0 (inC E) :=
  kst hE (by decide +kernel) (Nat.le_of_ble_eq_true rfl) (fun p e s m below meth c ls C hP hl => w_X5_clear_0 C F σ h s.heap [] hP va_S.rf ls hl)
end

section
variable {p : Program} {l : Launch} {e : Env} {s : State} {m : MethodId} {args : Array Value} {below : List Frame} {meth : Method} {c : Code} {E : kE} {σr : kS}
variable {r : Unit}
def s_X5_clear_v1_0 (F : Nat) (σ : kS) : Option (Unit × kS) :=
  some ((), (jI σ 25 (0 : Int32)))
set_option maxRecDepth 100000 in
set_option maxHeartbeats 4000000 in
theorem w_X5_clear_v1_0 (C : Cx E p s m args meth c cX5_clear 1 RX5 none) (F : Nat) (σ : kS) (h : s_X5_clear_v1_0 F σ = some (r, σr)) (H : Heap) (locs : List Loc) (hP : cP E σ H) (hS : va_S (inC E) s.heap H locs) (ls : Array Slot) (hl : lv_has ls 1 [(0, .ref (eA E 20))]) : W p l e (kR 0 0) s m args below meth c H locs 0 0 (MQ below (kQv (cP E) (inC E) r σr) args s 0 0 (inC E)) (F0 m 0 ls []) := by
  obtain ⟨-, hx, hb, hml, hown, hts, hK, -, -⟩ := id C
  unfold s_X5_clear_v1_0 at h
  refine lv_aload_n hx hb dX5_clear_0 rfl (lv_at hl 0 rfl) ?_
  refine lv_iconst (v := (0 : Int32)) hx hb dX5_clear_1 (by decide) ?_
  refine pf_20_7 C hP hS w_210 dX5_clear_2 (fun H locs hP hS => ?_)
  obtain ⟨rfl, rfl⟩ := k_inj h
  exact krv C hS hP dX5_clear_5
def f_X5_clear_v1 (F : Nat) (σ : kS) : Option (Unit × kS) := s_X5_clear_v1_0 F σ
set_option maxRecDepth 100000 in
theorem c_X5_clear_v1 (E : kE) (hE : kap E) (F : Nat) (σ : kS) (h : f_X5_clear_v1 F σ = some (r, σr)) : Met l yX5_clear (kWs yX5_clear cX5_clear 1 none) (kR 0 0) (kPre (cP E) E [.ref (eA E 20)] σ) (kQv (cP E) (inC E) r σr) 0 0 (inC E) :=
  kst hE (by decide +kernel) (Nat.le_of_ble_eq_true rfl) (fun p e s m below meth c ls C hP hl => w_X5_clear_v1_0 C F σ h s.heap [] hP va_S.rf ls hl)
end

section
variable {p : Program} {l : Launch} {e : Env} {s : State} {m : MethodId} {args : Array Value} {below : List Frame} {meth : Method} {c : Code} {E : kE} {σr : kS}
variable {r : Int32}
def s_X7_lay_0 (F : Nat) (σ : kS) : Option (Int32 × kS) :=
  (kb (f_X4_readInto F σ) fun v_1 σ_2 => (if v_1 = (-4 : Int32) then (if (kI σ_2 7) = 0 then some ((-2 : Int32), σ_2) else (kb (f_X2_copyFrom F σ_2) fun _ σ_7 => (kb (f_X2_toldLaws F σ_7) fun v_9 σ_10 => (kb (f_X3_startOver F σ_10 v_9) fun _ σ_13 => (kb (f_X5_clear F (jI (jI σ_13 26 (0 : Int32)) 19 (0 : Int32))) fun _ σ_16 => (kb (f_X5_clear_v1 F σ_16) fun _ σ_19 => some ((kI σ_19 14), σ_19))))))) else some ((-2 : Int32), σ_2)))
set_option maxRecDepth 100000 in
set_option maxHeartbeats 4000000 in
theorem w_X7_lay_0 (C : Cx E p s m args meth c cX7_lay 1 RX7 (some .int)) (F : Nat) (σ : kS) (h : s_X7_lay_0 F σ = some (r, σr)) (H : Heap) (locs : List Loc) (hP : cP E σ H) (hS : va_S (inC E) s.heap H locs) (ls : Array Slot) (hl : lv_has ls 1 [(0, .ref (eA E 0))]) : W p l e (kR 4 127) s m args below meth c H locs 0 0 (MQ below (kQi (cP E) (inC E) r σr) args s 0 0 (inC E)) (F0 m 0 ls []) := by
  obtain ⟨-, hx, hb, hml, hown, hts, hK, -, -⟩ := id C
  unfold s_X7_lay_0 at h
  refine lv_aload_n hx hb dX7_lay_0 rfl (lv_at hl 0 rfl) ?_
  refine gf_0_0 C hP w_249 dX7_lay_1 ?_
  refine lv_aload_n hx hb dX7_lay_4 rfl (lv_at hl 0 rfl) ?_
  refine gf_0_1 C hP w_250 dX7_lay_5 ?_
  obtain ⟨v_1, σ_2, hc_3, h⟩ := kb_ok h
  refine kci (krunV (As := [.ref (eA E 4)]) C hP (c_X4_readInto E C.1 F σ hc_3) w_299 kv_X4_readInto ⟨Nat.le_of_ble_eq_true rfl, Nat.le_of_ble_eq_true rfl⟩ (rc_1 C hP) rfl hl.1 rfl (Nat.le_of_ble_eq_true rfl) dX7_lay_8) hS (fun H locs hP hS => ?_)
  refine lv_bipush (v := (-4 : Int32)) hx hb dX7_lay_11 (by decide) ?_
  refine lv_icmp_ne (tgt := 26) hx hb dX7_lay_13 (by decide) (fun c_4 => ?_) (fun c_4 => ?_)
  · have h := k_f c_4 h
    refine lv_bipush (v := (-2 : Int32)) hx hb dX7_lay_26 (by decide) ?_
    obtain ⟨rfl, rfl⟩ := k_inj h
    exact kri C hS hP dX7_lay_28
  · have h := k_t c_4 h
    refine lv_aload_n hx hb dX7_lay_16 rfl (lv_at hl 0 rfl) ?_
    refine gf_0_1 C hP w_250 dX7_lay_17 ?_
    refine gf_4_7 C hP (v := (kI σ_2 7)) rfl w_95 dX7_lay_20 ?_
    refine lv_if_ne (tgt := 29) hx hb dX7_lay_23 (by decide) (fun c_5 => ?_) (fun c_5 => ?_)
    · have h := k_f c_5 h
      refine lv_aload_n hx hb dX7_lay_29 rfl (lv_at hl 0 rfl) ?_
      refine gf_0_2 C hP w_251 dX7_lay_30 ?_
      refine lv_aload_n hx hb dX7_lay_33 rfl (lv_at hl 0 rfl) ?_
      refine gf_0_1 C hP w_250 dX7_lay_34 ?_
      obtain ⟨v_6, σ_7, hc_8, h⟩ := kb_ok h
      refine kcv (krunV (As := [.ref (eA E 4)]) C hP (c_X2_copyFrom E C.1 F σ_2 hc_8) w_349 kv_X2_copyFrom ⟨Nat.le_of_ble_eq_true rfl, Nat.le_of_ble_eq_true rfl⟩ (rc_6 C hP) rfl hl.1 rfl (Nat.le_of_ble_eq_true rfl) dX7_lay_37) hS (fun H locs hP hS => ?_)
      refine lv_aload_n hx hb dX7_lay_40 rfl (lv_at hl 0 rfl) ?_
      refine gf_0_3 C hP w_252 dX7_lay_41 ?_
      refine lv_aload_n hx hb dX7_lay_44 rfl (lv_at hl 0 rfl) ?_
      refine gf_0_2 C hP w_251 dX7_lay_45 ?_
      obtain ⟨v_9, σ_10, hc_11, h⟩ := kb_ok h
      refine kci (krunV (As := []) C hP (c_X2_toldLaws E C.1 F σ_7 hc_11) w_234 kv_X2_toldLaws ⟨Nat.le_of_ble_eq_true rfl, Nat.le_of_ble_eq_true rfl⟩ (rc_6 C hP) rfl hl.1 rfl (Nat.le_of_ble_eq_true rfl) dX7_lay_48) hS (fun H locs hP hS => ?_)
      obtain ⟨v_12, σ_13, hc_14, h⟩ := kb_ok h
      refine kcv (krunV (As := [.int v_9]) C hP (c_X3_startOver E C.1 F σ_10 v_9 hc_14) w_245 kv_X3_startOver ⟨Nat.le_of_ble_eq_true rfl, Nat.le_of_ble_eq_true rfl⟩ (rc_8 C hP) rfl hl.1 rfl (Nat.le_of_ble_eq_true rfl) dX7_lay_51) hS (fun H locs hP hS => ?_)
      refine lv_aload_n hx hb dX7_lay_54 rfl (lv_at hl 0 rfl) ?_
      refine lv_iconst (v := (0 : Int32)) hx hb dX7_lay_55 (by decide) ?_
      refine pf_0_10 C hP hS w_259 dX7_lay_56 (fun H locs hP hS => ?_)
      refine lv_aload_n hx hb dX7_lay_59 rfl (lv_at hl 0 rfl) ?_
      refine gf_0_6 C hP w_255 dX7_lay_60 ?_
      refine lv_iconst (v := (0 : Int32)) hx hb dX7_lay_63 (by decide) ?_
      refine pf_11_3 C hP hS w_184 dX7_lay_64 (fun H locs hP hS => ?_)
      refine lv_aload_n hx hb dX7_lay_67 rfl (lv_at hl 0 rfl) ?_
      refine gf_0_7 C hP w_256 dX7_lay_68 ?_
      obtain ⟨v_15, σ_16, hc_17, h⟩ := kb_ok h
      refine kcv (krunV (As := []) C hP (c_X5_clear E C.1 F (jI (jI σ_13 26 (0 : Int32)) 19 (0 : Int32)) hc_17) w_353 kv_X5_clear ⟨Nat.le_of_ble_eq_true rfl, Nat.le_of_ble_eq_true rfl⟩ (rc_14 C hP) rfl hl.1 rfl (Nat.le_of_ble_eq_true rfl) dX7_lay_71) hS (fun H locs hP hS => ?_)
      refine lv_aload_n hx hb dX7_lay_74 rfl (lv_at hl 0 rfl) ?_
      refine gf_0_8 C hP w_257 dX7_lay_75 ?_
      obtain ⟨v_18, σ_19, hc_20, h⟩ := kb_ok h
      refine kcv (krunV (As := []) C hP (c_X5_clear_v1 E C.1 F σ_16 hc_20) w_353 kv_X5_clear ⟨Nat.le_of_ble_eq_true rfl, Nat.le_of_ble_eq_true rfl⟩ (rc_20 C hP) rfl hl.1 rfl (Nat.le_of_ble_eq_true rfl) dX7_lay_78) hS (fun H locs hP hS => ?_)
      refine lv_aload_n hx hb dX7_lay_81 rfl (lv_at hl 0 rfl) ?_
      refine gf_0_2 C hP w_251 dX7_lay_82 ?_
      refine gf_6_7 C hP (v := (kI σ_19 14)) rfl w_95 dX7_lay_85 ?_
      obtain ⟨rfl, rfl⟩ := k_inj h
      exact kri C hS hP dX7_lay_88
    · have h := k_t c_5 h
      refine lv_bipush (v := (-2 : Int32)) hx hb dX7_lay_26 (by decide) ?_
      obtain ⟨rfl, rfl⟩ := k_inj h
      exact kri C hS hP dX7_lay_28
def f_X7_lay (F : Nat) (σ : kS) : Option (Int32 × kS) := s_X7_lay_0 F σ
set_option maxRecDepth 100000 in
theorem c_X7_lay (E : kE) (hE : kap E) (F : Nat) (σ : kS) (h : f_X7_lay F σ = some (r, σr)) : Met l yX7_lay (kWs yX7_lay cX7_lay 1 (some .int)) (kR 4 127) (kPre (cP E) E [.ref (eA E 0)] σ) (kQi (cP E) (inC E) r σr) 0 0 (inC E) :=
  kst hE (by decide +kernel) (Nat.le_of_ble_eq_true rfl) (fun p e s m below meth c ls C hP hl => w_X7_lay_0 C F σ h s.heap [] hP va_S.rf ls hl)
end

section
variable {p : Program} {l : Launch} {e : Env} {s : State} {m : MethodId} {args : Array Value} {below : List Frame} {meth : Method} {c : Code} {E : kE} {σr : kS}
variable {r : Int32}
def s_X7_isAct_0 (F : Nat) (σ : kS) (x1 : Int32) : Option (Int32 × kS) :=
  (if x1 < 0 then some ((0 : Int32), σ) else (if (kI σ 14) ≤ x1 then some ((0 : Int32), σ) else some ((1 : Int32), σ)))
set_option maxRecDepth 100000 in
set_option maxHeartbeats 4000000 in
theorem w_X7_isAct_0 (C : Cx E p s m args meth c cX7_isAct 2 RX7 (some .boolean)) (F : Nat) (σ : kS) (x1 : Int32) (h : s_X7_isAct_0 F σ x1 = some (r, σr)) (H : Heap) (locs : List Loc) (hP : cP E σ H) (hS : va_S (inC E) s.heap H locs) (ls : Array Slot) (hl : lv_has ls 2 [(0, .ref (eA E 0)), (1, .int x1)]) : W p l e (kR 0 0) s m args below meth c H locs 0 0 (MQ below (kQi (cP E) (inC E) r σr) args s 0 0 (inC E)) (F0 m 0 ls []) := by
  obtain ⟨-, hx, hb, hml, hown, hts, hK, -, -⟩ := id C
  unfold s_X7_isAct_0 at h
  refine lv_iload_n hx hb dX7_isAct_0 rfl (lv_at hl 1 rfl) ?_
  refine lv_if_lt (tgt := 19) hx hb dX7_isAct_1 (by decide) (fun c_1 => ?_) (fun c_1 => ?_)
  · have h := k_t c_1 h
    refine lv_iconst (v := (0 : Int32)) hx hb dX7_isAct_19 (by decide) ?_
    obtain ⟨rfl, rfl⟩ := k_inj h
    exact krz C hS hP (by decide) dX7_isAct_20
  · have h := k_f c_1 h
    refine lv_iload_n hx hb dX7_isAct_4 rfl (lv_at hl 1 rfl) ?_
    refine lv_aload_n hx hb dX7_isAct_5 rfl (lv_at hl 0 rfl) ?_
    refine gf_0_2 C hP w_251 dX7_isAct_6 ?_
    refine gf_6_7 C hP (v := (kI σ 14)) rfl w_95 dX7_isAct_9 ?_
    refine lv_icmp_ge (tgt := 19) hx hb dX7_isAct_12 (by decide) (fun c_2 => ?_) (fun c_2 => ?_)
    · have h := k_t c_2 h
      refine lv_iconst (v := (0 : Int32)) hx hb dX7_isAct_19 (by decide) ?_
      obtain ⟨rfl, rfl⟩ := k_inj h
      exact krz C hS hP (by decide) dX7_isAct_20
    · have h := k_f c_2 h
      refine lv_iconst (v := (1 : Int32)) hx hb dX7_isAct_15 (by decide) ?_
      refine lv_goto (tgt := 20) hx hb dX7_isAct_16 (by decide) ?_
      obtain ⟨rfl, rfl⟩ := k_inj h
      exact krz C hS hP (by decide) dX7_isAct_20
def f_X7_isAct (F : Nat) (σ : kS) (x1 : Int32) : Option (Int32 × kS) := s_X7_isAct_0 F σ x1
set_option maxRecDepth 100000 in
theorem c_X7_isAct (E : kE) (hE : kap E) (F : Nat) (σ : kS) (x1 : Int32) (h : f_X7_isAct F σ x1 = some (r, σr)) : Met l yX7_isAct (kWs yX7_isAct cX7_isAct 2 (some .boolean)) (kR 0 0) (kPre (cP E) E [.ref (eA E 0), .int x1] σ) (kQi (cP E) (inC E) r σr) 0 0 (inC E) :=
  kst hE (by decide +kernel) (Nat.le_of_ble_eq_true rfl) (fun p e s m below meth c ls C hP hl => w_X7_isAct_0 C F σ x1 h s.heap [] hP va_S.rf ls hl)
end

section
variable {p : Program} {l : Launch} {e : Env} {s : State} {m : MethodId} {args : Array Value} {below : List Frame} {meth : Method} {c : Code} {E : kE} {σr : kS}
variable {r : Int32}
def s_X7_lawOf_0 (F : Nat) (σ : kS) (x0 : Int32) (x1 : Int32) : Option (Int32 × kS) :=
  some (((x0 >>> (((2 : Int32) * x1) &&& 31)) &&& (3 : Int32)), σ)
set_option maxRecDepth 100000 in
set_option maxHeartbeats 4000000 in
theorem w_X7_lawOf_0 (C : Cx E p s m args meth c cX7_lawOf 2 RX7 (some .int)) (F : Nat) (σ : kS) (x0 : Int32) (x1 : Int32) (h : s_X7_lawOf_0 F σ x0 x1 = some (r, σr)) (H : Heap) (locs : List Loc) (hP : cP E σ H) (hS : va_S (inC E) s.heap H locs) (ls : Array Slot) (hl : lv_has ls 2 [(0, .int x0), (1, .int x1)]) : W p l e (kR 0 0) s m args below meth c H locs 0 0 (MQ below (kQi (cP E) (inC E) r σr) args s 0 0 (inC E)) (F0 m 0 ls []) := by
  obtain ⟨-, hx, hb, hml, hown, hts, hK, -, -⟩ := id C
  unfold s_X7_lawOf_0 at h
  refine lv_iload_n hx hb dX7_lawOf_0 rfl (lv_at hl 0 rfl) ?_
  refine lv_iconst (v := (2 : Int32)) hx hb dX7_lawOf_1 (by decide) ?_
  refine lv_iload_n hx hb dX7_lawOf_2 rfl (lv_at hl 1 rfl) ?_
  refine lv_imul hx hb dX7_lawOf_3 ?_
  refine lv_ishr hx hb dX7_lawOf_4 ?_
  refine lv_iconst (v := (3 : Int32)) hx hb dX7_lawOf_5 (by decide) ?_
  refine lv_iand hx hb dX7_lawOf_6 ?_
  obtain ⟨rfl, rfl⟩ := k_inj h
  exact kri C hS hP dX7_lawOf_7
def f_X7_lawOf (F : Nat) (σ : kS) (x0 : Int32) (x1 : Int32) : Option (Int32 × kS) := s_X7_lawOf_0 F σ x0 x1
set_option maxRecDepth 100000 in
theorem c_X7_lawOf (E : kE) (hE : kap E) (F : Nat) (σ : kS) (x0 : Int32) (x1 : Int32) (h : f_X7_lawOf F σ x0 x1 = some (r, σr)) : Met l yX7_lawOf (kWs yX7_lawOf cX7_lawOf 2 (some .int)) (kR 0 0) (kPre (cP E) E [.int x0, .int x1] σ) (kQi (cP E) (inC E) r σr) 0 0 (inC E) :=
  kst hE (by decide +kernel) (Nat.le_of_ble_eq_true rfl) (fun p e s m below meth c ls C hP hl => w_X7_lawOf_0 C F σ x0 x1 h s.heap [] hP va_S.rf ls hl)
end

section
variable {p : Program} {l : Launch} {e : Env} {s : State} {m : MethodId} {args : Array Value} {below : List Frame} {meth : Method} {c : Code} {E : kE} {σr : kS}
variable {r : Int32}
def s_X7_act_0 (F : Nat) (σ : kS) (x1 : Int32) (x2 : Int32) : Option (Int32 × kS) :=
  (kb (f_X7_isAct F σ x1) fun v_1 σ_2 => (if v_1 = 0 then some ((-1 : Int32), σ_2) else (if x2 < 0 then some ((-1 : Int32), σ_2) else (if x2 < (5 : Int32) then (if x2 = (1 : Int32) then (kb (f_X7_lawOf F σ_2 (kI σ_2 18) x1) fun v_11 σ_12 => some (v_11, σ_12)) else (kb (f_X2_numberOf F σ_2 x1 x2) fun v_8 σ_9 => some (v_8, σ_9))) else some ((-1 : Int32), σ_2)))))
set_option maxRecDepth 100000 in
set_option maxHeartbeats 4000000 in
theorem w_X7_act_0 (C : Cx E p s m args meth c cX7_act 3 RX7 (some .int)) (F : Nat) (σ : kS) (x1 : Int32) (x2 : Int32) (h : s_X7_act_0 F σ x1 x2 = some (r, σr)) (H : Heap) (locs : List Loc) (hP : cP E σ H) (hS : va_S (inC E) s.heap H locs) (ls : Array Slot) (hl : lv_has ls 3 [(0, .ref (eA E 0)), (1, .int x1), (2, .int x2)]) : W p l e (kR 1 23) s m args below meth c H locs 0 0 (MQ below (kQi (cP E) (inC E) r σr) args s 0 0 (inC E)) (F0 m 0 ls []) := by
  obtain ⟨-, hx, hb, hml, hown, hts, hK, -, -⟩ := id C
  unfold s_X7_act_0 at h
  refine lv_aload_n hx hb dX7_act_0 rfl (lv_at hl 0 rfl) ?_
  refine lv_iload_n hx hb dX7_act_1 rfl (lv_at hl 1 rfl) ?_
  obtain ⟨v_1, σ_2, hc_3, h⟩ := kb_ok h
  refine kci (krunV (As := [.int x1]) C hP (c_X7_isAct E C.1 F σ x1 hc_3) w_361 kv_X7_isAct ⟨Nat.le_of_ble_eq_true rfl, Nat.le_of_ble_eq_true rfl⟩ (rc_0 C hP) rfl hl.1 rfl (Nat.le_of_ble_eq_true rfl) dX7_act_2) hS (fun H locs hP hS => ?_)
  refine lv_if_eq (tgt := 17) hx hb dX7_act_5 (by decide) (fun c_4 => ?_) (fun c_4 => ?_)
  · have h := k_t c_4 h
    refine lv_iconst (v := (-1 : Int32)) hx hb dX7_act_17 (by decide) ?_
    obtain ⟨rfl, rfl⟩ := k_inj h
    exact kri C hS hP dX7_act_18
  · have h := k_f c_4 h
    refine lv_iload_n hx hb dX7_act_8 rfl (lv_at hl 2 rfl) ?_
    refine lv_if_lt (tgt := 17) hx hb dX7_act_9 (by decide) (fun c_5 => ?_) (fun c_5 => ?_)
    · have h := k_t c_5 h
      refine lv_iconst (v := (-1 : Int32)) hx hb dX7_act_17 (by decide) ?_
      obtain ⟨rfl, rfl⟩ := k_inj h
      exact kri C hS hP dX7_act_18
    · have h := k_f c_5 h
      refine lv_iload_n hx hb dX7_act_12 rfl (lv_at hl 2 rfl) ?_
      refine lv_iconst (v := (5 : Int32)) hx hb dX7_act_13 (by decide) ?_
      refine lv_icmp_lt (tgt := 19) hx hb dX7_act_14 (by decide) (fun c_6 => ?_) (fun c_6 => ?_)
      · have h := k_t c_6 h
        refine lv_iload_n hx hb dX7_act_19 rfl (lv_at hl 2 rfl) ?_
        refine lv_iconst (v := (1 : Int32)) hx hb dX7_act_20 (by decide) ?_
        refine lv_icmp_ne (tgt := 38) hx hb dX7_act_21 (by decide) (fun c_7 => ?_) (fun c_7 => ?_)
        · have h := k_f c_7 h
          refine lv_aload_n hx hb dX7_act_38 rfl (lv_at hl 0 rfl) ?_
          refine gf_0_2 C hP w_251 dX7_act_39 ?_
          refine lv_iload_n hx hb dX7_act_42 rfl (lv_at hl 1 rfl) ?_
          refine lv_iload_n hx hb dX7_act_43 rfl (lv_at hl 2 rfl) ?_
          obtain ⟨v_8, σ_9, hc_10, h⟩ := kb_ok h
          refine kci (krunV (As := [.int x1, .int x2]) C hP (c_X2_numberOf E C.1 F σ_2 x1 x2 hc_10) w_368 kv_X2_numberOf ⟨Nat.le_of_ble_eq_true rfl, Nat.le_of_ble_eq_true rfl⟩ (rc_6 C hP) rfl hl.1 rfl (Nat.le_of_ble_eq_true rfl) dX7_act_44) hS (fun H locs hP hS => ?_)
          obtain ⟨rfl, rfl⟩ := k_inj h
          exact kri C hS hP dX7_act_47
        · have h := k_t c_7 h
          refine lv_aload_n hx hb dX7_act_24 rfl (lv_at hl 0 rfl) ?_
          refine gf_0_3 C hP w_252 dX7_act_25 ?_
          refine gf_8_4 C hP (v := (kI σ_2 18)) rfl w_135 dX7_act_28 ?_
          refine lv_iload_n hx hb dX7_act_31 rfl (lv_at hl 1 rfl) ?_
          obtain ⟨v_11, σ_12, hc_13, h⟩ := kb_ok h
          refine kci (krunS (As := [.int (kI σ_2 18), .int x1]) C hP (c_X7_lawOf E C.1 F σ_2 (kI σ_2 18) x1 hc_13) w_365 kt_X7_lawOf ⟨Nat.le_of_ble_eq_true rfl, Nat.le_of_ble_eq_true rfl⟩ rfl hl.1 rfl (Nat.le_of_ble_eq_true rfl) dX7_act_32) hS (fun H locs hP hS => ?_)
          refine lv_goto (tgt := 47) hx hb dX7_act_35 (by decide) ?_
          obtain ⟨rfl, rfl⟩ := k_inj h
          exact kri C hS hP dX7_act_47
      · have h := k_f c_6 h
        refine lv_iconst (v := (-1 : Int32)) hx hb dX7_act_17 (by decide) ?_
        obtain ⟨rfl, rfl⟩ := k_inj h
        exact kri C hS hP dX7_act_18
def f_X7_act (F : Nat) (σ : kS) (x1 : Int32) (x2 : Int32) : Option (Int32 × kS) := s_X7_act_0 F σ x1 x2
set_option maxRecDepth 100000 in
theorem c_X7_act (E : kE) (hE : kap E) (F : Nat) (σ : kS) (x1 : Int32) (x2 : Int32) (h : f_X7_act F σ x1 x2 = some (r, σr)) : Met l yX7_act (kWs yX7_act cX7_act 3 (some .int)) (kR 1 23) (kPre (cP E) E [.ref (eA E 0), .int x1, .int x2] σ) (kQi (cP E) (inC E) r σr) 0 0 (inC E) :=
  kst hE (by decide +kernel) (Nat.le_of_ble_eq_true rfl) (fun p e s m below meth c ls C hP hl => w_X7_act_0 C F σ x1 x2 h s.heap [] hP va_S.rf ls hl)
end

section
variable {p : Program} {l : Launch} {e : Env} {s : State} {m : MethodId} {args : Array Value} {below : List Frame} {meth : Method} {c : Code} {E : kE} {σr : kS}
variable {r : Int32}
def s_X7_year_0 (F : Nat) (σ : kS) (x1 : Int32) : Option (Int32 × kS) :=
  (if x1 < 0 then some ((-1 : Int32), σ) else (if x1 ≤ (99 : Int32) then some ((kI σ 15), (jI σ 15 x1)) else some ((-1 : Int32), σ)))
set_option maxRecDepth 100000 in
set_option maxHeartbeats 4000000 in
theorem w_X7_year_0 (C : Cx E p s m args meth c cX7_year 3 RX7 (some .int)) (F : Nat) (σ : kS) (x1 : Int32) (h : s_X7_year_0 F σ x1 = some (r, σr)) (H : Heap) (locs : List Loc) (hP : cP E σ H) (hS : va_S (inC E) s.heap H locs) (ls : Array Slot) (hl : lv_has ls 3 [(0, .ref (eA E 0)), (1, .int x1)]) : W p l e (kR 0 0) s m args below meth c H locs 0 0 (MQ below (kQi (cP E) (inC E) r σr) args s 0 0 (inC E)) (F0 m 0 ls []) := by
  obtain ⟨-, hx, hb, hml, hown, hts, hK, -, -⟩ := id C
  unfold s_X7_year_0 at h
  refine lv_iload_n hx hb dX7_year_0 rfl (lv_at hl 1 rfl) ?_
  refine lv_if_lt (tgt := 10) hx hb dX7_year_1 (by decide) (fun c_1 => ?_) (fun c_1 => ?_)
  · have h := k_t c_1 h
    refine lv_iconst (v := (-1 : Int32)) hx hb dX7_year_10 (by decide) ?_
    obtain ⟨rfl, rfl⟩ := k_inj h
    exact kri C hS hP dX7_year_11
  · have h := k_f c_1 h
    refine lv_iload_n hx hb dX7_year_4 rfl (lv_at hl 1 rfl) ?_
    refine lv_bipush (v := (99 : Int32)) hx hb dX7_year_5 (by decide) ?_
    refine lv_icmp_le (tgt := 12) hx hb dX7_year_7 (by decide) (fun c_2 => ?_) (fun c_2 => ?_)
    · have h := k_t c_2 h
      refine lv_aload_n hx hb dX7_year_12 rfl (lv_at hl 0 rfl) ?_
      refine gf_0_3 C hP w_252 dX7_year_13 ?_
      refine gf_8_1 C hP (v := (kI σ 15)) rfl w_125 dX7_year_16 ?_
      refine lv_istore_n (lv' := [(2, .int (kI σ 15)), (0, .ref (eA E 0)), (1, .int x1)]) hx hb dX7_year_19 rfl hl (by decide) rfl (fun ls hl => ?_)
      refine lv_aload_n hx hb dX7_year_20 rfl (lv_at hl 1 rfl) ?_
      refine gf_0_3 C hP w_252 dX7_year_21 ?_
      refine lv_iload_n hx hb dX7_year_24 rfl (lv_at hl 2 rfl) ?_
      refine pf_8_1 C hP hS w_125 dX7_year_25 (fun H locs hP hS => ?_)
      refine lv_iload_n hx hb dX7_year_28 rfl (lv_at hl 0 rfl) ?_
      obtain ⟨rfl, rfl⟩ := k_inj h
      exact kri C hS hP dX7_year_29
    · have h := k_f c_2 h
      refine lv_iconst (v := (-1 : Int32)) hx hb dX7_year_10 (by decide) ?_
      obtain ⟨rfl, rfl⟩ := k_inj h
      exact kri C hS hP dX7_year_11
def f_X7_year (F : Nat) (σ : kS) (x1 : Int32) : Option (Int32 × kS) := s_X7_year_0 F σ x1
set_option maxRecDepth 100000 in
theorem c_X7_year (E : kE) (hE : kap E) (F : Nat) (σ : kS) (x1 : Int32) (h : f_X7_year F σ x1 = some (r, σr)) : Met l yX7_year (kWs yX7_year cX7_year 3 (some .int)) (kR 0 0) (kPre (cP E) E [.ref (eA E 0), .int x1] σ) (kQi (cP E) (inC E) r σr) 0 0 (inC E) :=
  kst hE (by decide +kernel) (Nat.le_of_ble_eq_true rfl) (fun p e s m below meth c ls C hP hl => w_X7_year_0 C F σ x1 h s.heap [] hP va_S.rf ls hl)
end

section
variable {p : Program} {l : Launch} {e : Env} {s : State} {m : MethodId} {args : Array Value} {below : List Frame} {meth : Method} {c : Code} {E : kE} {σr : kS}
variable {r : Int32}
def s_X7_isMinute_0 (F : Nat) (σ : kS) (x0 : Int64) : Option (Int32 × kS) :=
  (if (lg_cmp x0 (0 : Int64)) < 0 then some ((0 : Int32), σ) else (if 0 < (lg_cmp x0 (1000000000000 : Int64)) then some ((0 : Int32), σ) else some ((1 : Int32), σ)))
set_option maxRecDepth 100000 in
set_option maxHeartbeats 4000000 in
theorem w_X7_isMinute_0 (C : Cx E p s m args meth c cX7_isMinute 2 RX7 (some .boolean)) (F : Nat) (σ : kS) (x0 : Int64) (h : s_X7_isMinute_0 F σ x0 = some (r, σr)) (H : Heap) (locs : List Loc) (hP : cP E σ H) (hS : va_S (inC E) s.heap H locs) (ls : Array Slot) (hl : lv_has ls 2 [(0, .long x0)]) : W p l e (kR 0 0) s m args below meth c H locs 0 0 (MQ below (kQi (cP E) (inC E) r σr) args s 0 0 (inC E)) (F0 m 0 ls []) := by
  obtain ⟨-, hx, hb, hml, hown, hts, hK, -, -⟩ := id C
  unfold s_X7_isMinute_0 at h
  refine lv_lload_n hx hb dX7_isMinute_0 rfl (lv_at hl 0 rfl) ?_
  refine lv_lconst (v := (0 : Int64)) hx hb dX7_isMinute_1 (by decide) ?_
  refine W.lcmp hx hb dX7_isMinute_2 ?_
  refine lv_if_lt (tgt := 18) hx hb dX7_isMinute_3 (by decide) (fun c_1 => ?_) (fun c_1 => ?_)
  · have h := k_t c_1 h
    refine lv_iconst (v := (0 : Int32)) hx hb dX7_isMinute_18 (by decide) ?_
    obtain ⟨rfl, rfl⟩ := k_inj h
    exact krz C hS hP (by decide) dX7_isMinute_19
  · have h := k_f c_1 h
    refine lv_lload_n hx hb dX7_isMinute_6 rfl (lv_at hl 0 rfl) ?_
    refine lv_ldc2 (v := (1000000000000 : Int64)) hx hb hown (hts _ w_380) dX7_isMinute_7 ?_
    refine W.lcmp hx hb dX7_isMinute_10 ?_
    refine lv_if_gt (tgt := 18) hx hb dX7_isMinute_11 (by decide) (fun c_2 => ?_) (fun c_2 => ?_)
    · have h := k_t c_2 h
      refine lv_iconst (v := (0 : Int32)) hx hb dX7_isMinute_18 (by decide) ?_
      obtain ⟨rfl, rfl⟩ := k_inj h
      exact krz C hS hP (by decide) dX7_isMinute_19
    · have h := k_f c_2 h
      refine lv_iconst (v := (1 : Int32)) hx hb dX7_isMinute_14 (by decide) ?_
      refine lv_goto (tgt := 19) hx hb dX7_isMinute_15 (by decide) ?_
      obtain ⟨rfl, rfl⟩ := k_inj h
      exact krz C hS hP (by decide) dX7_isMinute_19
def f_X7_isMinute (F : Nat) (σ : kS) (x0 : Int64) : Option (Int32 × kS) := s_X7_isMinute_0 F σ x0
set_option maxRecDepth 100000 in
theorem c_X7_isMinute (E : kE) (hE : kap E) (F : Nat) (σ : kS) (x0 : Int64) (h : f_X7_isMinute F σ x0 = some (r, σr)) : Met l yX7_isMinute (kWs yX7_isMinute cX7_isMinute 2 (some .boolean)) (kR 0 0) (kPre (cP E) E [.long x0] σ) (kQi (cP E) (inC E) r σr) 0 0 (inC E) :=
  kst hE (by decide +kernel) (Nat.le_of_ble_eq_true rfl) (fun p e s m below meth c ls C hP hl => w_X7_isMinute_0 C F σ x0 h s.heap [] hP va_S.rf ls hl)
end

section
variable {p : Program} {l : Launch} {e : Env} {s : State} {m : MethodId} {args : Array Value} {below : List Frame} {meth : Method} {c : Code} {E : kE} {σr : kS}
variable {r : Int32}
def s_X2_partsOfMinute_0 (F : Nat) (σ : kS) : Option (Int32 × kS) :=
  some ((if (1 : Int32) < ((kI σ 9) * (kI σ 11)) then ((kI σ 9) * (kI σ 11)) else (1 : Int32)), σ)
set_option maxRecDepth 100000 in
set_option maxHeartbeats 4000000 in
theorem w_X2_partsOfMinute_0 (C : Cx E p s m args meth c cX2_partsOfMinute 1 RX2 (some .int)) (F : Nat) (σ : kS) (h : s_X2_partsOfMinute_0 F σ = some (r, σr)) (H : Heap) (locs : List Loc) (hP : cP E σ H) (hS : va_S (inC E) s.heap H locs) (ls : Array Slot) (hl : lv_has ls 1 [(0, .ref (eA E 6))]) : W p l e (kR 1 23) s m args below meth c H locs 0 0 (MQ below (kQi (cP E) (inC E) r σr) args s 0 0 (inC E)) (F0 m 0 ls []) := by
  obtain ⟨-, hx, hb, hml, hown, hts, hK, -, -⟩ := id C
  unfold s_X2_partsOfMinute_0 at h
  refine lv_iconst (v := (1 : Int32)) hx hb dX2_partsOfMinute_0 (by decide) ?_
  refine lv_aload_n hx hb dX2_partsOfMinute_1 rfl (lv_at hl 0 rfl) ?_
  refine gf_6_1 C hP (v := (kI σ 9)) rfl w_87 dX2_partsOfMinute_2 ?_
  refine lv_aload_n hx hb dX2_partsOfMinute_5 rfl (lv_at hl 0 rfl) ?_
  refine gf_6_3 C hP (v := (kI σ 11)) rfl w_89 dX2_partsOfMinute_6 ?_
  refine lv_imul hx hb dX2_partsOfMinute_9 ?_
  refine kmax C hl.1 w_393 (Nat.le_of_ble_eq_true rfl) (Nat.le_of_ble_eq_true rfl) dX2_partsOfMinute_10 ?_
  obtain ⟨rfl, rfl⟩ := k_inj h
  exact kri C hS hP dX2_partsOfMinute_13
def f_X2_partsOfMinute (F : Nat) (σ : kS) : Option (Int32 × kS) := s_X2_partsOfMinute_0 F σ
set_option maxRecDepth 100000 in
theorem c_X2_partsOfMinute (E : kE) (hE : kap E) (F : Nat) (σ : kS) (h : f_X2_partsOfMinute F σ = some (r, σr)) : Met l yX2_partsOfMinute (kWs yX2_partsOfMinute cX2_partsOfMinute 1 (some .int)) (kR 1 23) (kPre (cP E) E [.ref (eA E 6)] σ) (kQi (cP E) (inC E) r σr) 0 0 (inC E) :=
  kst hE (by decide +kernel) (Nat.le_of_ble_eq_true rfl) (fun p e s m below meth c ls C hP hl => w_X2_partsOfMinute_0 C F σ h s.heap [] hP va_S.rf ls hl)
end

section
variable {p : Program} {l : Launch} {e : Env} {s : State} {m : MethodId} {args : Array Value} {below : List Frame} {meth : Method} {c : Code} {E : kE} {σr : kS}
variable {r : Int32}
def s_X2_partsOfTide_0 (F : Nat) (σ : kS) : Option (Int32 × kS) :=
  some ((if (1 : Int32) < ((kI σ 8) * (kI σ 11)) then ((kI σ 8) * (kI σ 11)) else (1 : Int32)), σ)
set_option maxRecDepth 100000 in
set_option maxHeartbeats 4000000 in
theorem w_X2_partsOfTide_0 (C : Cx E p s m args meth c cX2_partsOfTide 1 RX2 (some .int)) (F : Nat) (σ : kS) (h : s_X2_partsOfTide_0 F σ = some (r, σr)) (H : Heap) (locs : List Loc) (hP : cP E σ H) (hS : va_S (inC E) s.heap H locs) (ls : Array Slot) (hl : lv_has ls 1 [(0, .ref (eA E 6))]) : W p l e (kR 1 23) s m args below meth c H locs 0 0 (MQ below (kQi (cP E) (inC E) r σr) args s 0 0 (inC E)) (F0 m 0 ls []) := by
  obtain ⟨-, hx, hb, hml, hown, hts, hK, -, -⟩ := id C
  unfold s_X2_partsOfTide_0 at h
  refine lv_iconst (v := (1 : Int32)) hx hb dX2_partsOfTide_0 (by decide) ?_
  refine lv_aload_n hx hb dX2_partsOfTide_1 rfl (lv_at hl 0 rfl) ?_
  refine gf_6_0 C hP (v := (kI σ 8)) rfl w_86 dX2_partsOfTide_2 ?_
  refine lv_aload_n hx hb dX2_partsOfTide_5 rfl (lv_at hl 0 rfl) ?_
  refine gf_6_3 C hP (v := (kI σ 11)) rfl w_89 dX2_partsOfTide_6 ?_
  refine lv_imul hx hb dX2_partsOfTide_9 ?_
  refine kmax C hl.1 w_393 (Nat.le_of_ble_eq_true rfl) (Nat.le_of_ble_eq_true rfl) dX2_partsOfTide_10 ?_
  obtain ⟨rfl, rfl⟩ := k_inj h
  exact kri C hS hP dX2_partsOfTide_13
def f_X2_partsOfTide (F : Nat) (σ : kS) : Option (Int32 × kS) := s_X2_partsOfTide_0 F σ
set_option maxRecDepth 100000 in
theorem c_X2_partsOfTide (E : kE) (hE : kap E) (F : Nat) (σ : kS) (h : f_X2_partsOfTide F σ = some (r, σr)) : Met l yX2_partsOfTide (kWs yX2_partsOfTide cX2_partsOfTide 1 (some .int)) (kR 1 23) (kPre (cP E) E [.ref (eA E 6)] σ) (kQi (cP E) (inC E) r σr) 0 0 (inC E) :=
  kst hE (by decide +kernel) (Nat.le_of_ble_eq_true rfl) (fun p e s m below meth c ls C hP hl => w_X2_partsOfTide_0 C F σ h s.heap [] hP va_S.rf ls hl)
end

section
variable {p : Program} {l : Launch} {e : Env} {s : State} {m : MethodId} {args : Array Value} {below : List Frame} {meth : Method} {c : Code} {E : kE} {σr : kS}
variable {r : Int64}
def s_J9_floorMod_f86c9_0 (F : Nat) (σ : kS) (x0 : Int64) (x2 : Int64) : Option (Int64 × kS) :=
  (if x2 = 0 then none else (kn (x0 - x0 / x2 * x2) (fun x4_2 => (if 0 ≤ (lg_cmp (x0 ^^^ x2) (0 : Int64)) then some (x4_2, σ) else (if (lg_cmp x4_2 (0 : Int64)) = 0 then some (x4_2, σ) else some ((x4_2 + x2), σ))))))
set_option maxRecDepth 100000 in
set_option maxHeartbeats 4000000 in
theorem w_J9_floorMod_f86c9_0 (C : Cx E p s m args meth c cJ9_floorMod_f86c9 6 RJ9 (some .long)) (F : Nat) (σ : kS) (x0 : Int64) (x2 : Int64) (h : s_J9_floorMod_f86c9_0 F σ x0 x2 = some (r, σr)) (H : Heap) (locs : List Loc) (hP : cP E σ H) (hS : va_S (inC E) s.heap H locs) (ls : Array Slot) (hl : lv_has ls 6 [(0, .long x0), (2, .long x2)]) : W p l e (kR 0 0) s m args below meth c H locs 0 0 (MQ below (kQl (cP E) (inC E) r σr) args s 0 0 (inC E)) (F0 m 0 ls []) := by
  obtain ⟨-, hx, hb, hml, hown, hts, hK, -, -⟩ := id C
  unfold s_J9_floorMod_f86c9_0 at h
  refine lv_lload_n hx hb dJ9_floorMod_f86c9_0 rfl (lv_at hl 0 rfl) ?_
  refine lv_lload_n hx hb dJ9_floorMod_f86c9_1 rfl (lv_at hl 1 rfl) ?_
  obtain ⟨n_1, h⟩ := k_no h
  refine lv_lrem hx hb dJ9_floorMod_f86c9_2 n_1 ?_
  refine lv_topl (fun x4_2 ex4_2 => ?_)
  have h := kn_to ex4_2 h
  refine lv_lstore (lv' := [(4, .long x4_2), (0, .long x0), (2, .long x2)]) hx hb dJ9_floorMod_f86c9_3 hl (by decide) rfl (fun ls hl => ?_)
  refine lv_lload_n hx hb dJ9_floorMod_f86c9_5 rfl (lv_at hl 1 rfl) ?_
  refine lv_lload_n hx hb dJ9_floorMod_f86c9_6 rfl (lv_at hl 2 rfl) ?_
  refine lv_lxor hx hb dJ9_floorMod_f86c9_7 ?_
  refine lv_lconst (v := (0 : Int64)) hx hb dJ9_floorMod_f86c9_8 (by decide) ?_
  refine W.lcmp hx hb dJ9_floorMod_f86c9_9 ?_
  refine lv_if_ge (tgt := 25) hx hb dJ9_floorMod_f86c9_10 (by decide) (fun c_3 => ?_) (fun c_3 => ?_)
  · have h := k_t c_3 h
    refine lv_lload hx hb dJ9_floorMod_f86c9_25 (lv_at hl 0 rfl) ?_
    obtain ⟨rfl, rfl⟩ := k_inj h
    exact krl C hS hP dJ9_floorMod_f86c9_27
  · have h := k_f c_3 h
    refine lv_lload hx hb dJ9_floorMod_f86c9_13 (lv_at hl 0 rfl) ?_
    refine lv_lconst (v := (0 : Int64)) hx hb dJ9_floorMod_f86c9_15 (by decide) ?_
    refine W.lcmp hx hb dJ9_floorMod_f86c9_16 ?_
    refine lv_if_eq (tgt := 25) hx hb dJ9_floorMod_f86c9_17 (by decide) (fun c_4 => ?_) (fun c_4 => ?_)
    · have h := k_t c_4 h
      refine lv_lload hx hb dJ9_floorMod_f86c9_25 (lv_at hl 0 rfl) ?_
      obtain ⟨rfl, rfl⟩ := k_inj h
      exact krl C hS hP dJ9_floorMod_f86c9_27
    · have h := k_f c_4 h
      refine lv_lload hx hb dJ9_floorMod_f86c9_20 (lv_at hl 0 rfl) ?_
      refine lv_lload_n hx hb dJ9_floorMod_f86c9_22 rfl (lv_at hl 2 rfl) ?_
      refine lv_ladd hx hb dJ9_floorMod_f86c9_23 ?_
      obtain ⟨rfl, rfl⟩ := k_inj h
      exact krl C hS hP dJ9_floorMod_f86c9_24
def f_J9_floorMod_f86c9 (F : Nat) (σ : kS) (x0 : Int64) (x2 : Int64) : Option (Int64 × kS) := s_J9_floorMod_f86c9_0 F σ x0 x2
set_option maxRecDepth 100000 in
theorem c_J9_floorMod_f86c9 (E : kE) (hE : kap E) (F : Nat) (σ : kS) (x0 : Int64) (x2 : Int64) (h : f_J9_floorMod_f86c9 F σ x0 x2 = some (r, σr)) : Met l yJ9_floorMod_f86c9 (kWs yJ9_floorMod_f86c9 cJ9_floorMod_f86c9 6 (some .long)) (kR 0 0) (kPre (cP E) E [.long x0, .long x2] σ) (kQl (cP E) (inC E) r σr) 0 0 (inC E) :=
  kst hE (by decide +kernel) (Nat.le_of_ble_eq_true rfl) (fun p e s m below meth c ls C hP hl => w_J9_floorMod_f86c9_0 C F σ x0 x2 h s.heap [] hP va_S.rf ls hl)
end

section
variable {p : Program} {l : Launch} {e : Env} {s : State} {m : MethodId} {args : Array Value} {below : List Frame} {meth : Method} {c : Code} {E : kE} {σr : kS}
variable {r : Int64}
def s_X2_partsBehindBegin_0 (F : Nat) (σ : kS) (x1 : Int64) (x3 : Int32) : Option (Int64 × kS) :=
  (kn ((x1 - (kI σ 12).toInt64) - ((kI σ 13).toInt64 * x3.toInt64)) (fun x4_1 => (kb (f_X2_partsOfMinute F σ) fun v_2 σ_3 => (kb (f_X2_partsOfTide F σ_3) fun v_5 σ_6 => (kb (f_J9_floorMod_f86c9 F σ_6 (x4_1 * v_2.toInt64) v_5.toInt64) fun v_8 σ_9 => some (v_8, σ_9))))))
set_option maxRecDepth 100000 in
set_option maxHeartbeats 4000000 in
theorem w_X2_partsBehindBegin_0 (C : Cx E p s m args meth c cX2_partsBehindBegin 6 RX2 (some .long)) (F : Nat) (σ : kS) (x1 : Int64) (x3 : Int32) (h : s_X2_partsBehindBegin_0 F σ x1 x3 = some (r, σr)) (H : Heap) (locs : List Loc) (hP : cP E σ H) (hS : va_S (inC E) s.heap H locs) (ls : Array Slot) (hl : lv_has ls 6 [(0, .ref (eA E 6)), (1, .long x1), (3, .int x3)]) : W p l e (kR 2 43) s m args below meth c H locs 0 0 (MQ below (kQl (cP E) (inC E) r σr) args s 0 0 (inC E)) (F0 m 0 ls []) := by
  obtain ⟨-, hx, hb, hml, hown, hts, hK, -, -⟩ := id C
  unfold s_X2_partsBehindBegin_0 at h
  refine lv_lload_n hx hb dX2_partsBehindBegin_0 rfl (lv_at hl 1 rfl) ?_
  refine lv_aload_n hx hb dX2_partsBehindBegin_1 rfl (lv_at hl 0 rfl) ?_
  refine gf_6_4 C hP (v := (kI σ 12)) rfl w_90 dX2_partsBehindBegin_2 ?_
  refine lv_i2l (v := (kI σ 12).toInt64) hx hb dX2_partsBehindBegin_5 rfl ?_
  refine lv_lsub hx hb dX2_partsBehindBegin_6 ?_
  refine lv_aload_n hx hb dX2_partsBehindBegin_7 rfl (lv_at hl 0 rfl) ?_
  refine gf_6_5 C hP (v := (kI σ 13)) rfl w_91 dX2_partsBehindBegin_8 ?_
  refine lv_i2l (v := (kI σ 13).toInt64) hx hb dX2_partsBehindBegin_11 rfl ?_
  refine lv_iload_n hx hb dX2_partsBehindBegin_12 rfl (lv_at hl 2 rfl) ?_
  refine lv_i2l (v := x3.toInt64) hx hb dX2_partsBehindBegin_13 rfl ?_
  refine lv_lmul hx hb dX2_partsBehindBegin_14 ?_
  refine lv_lsub hx hb dX2_partsBehindBegin_15 ?_
  refine lv_topl (fun x4_1 ex4_1 => ?_)
  have h := kn_to ex4_1 h
  refine lv_lstore (lv' := [(4, .long x4_1), (0, .ref (eA E 6)), (1, .long x1), (3, .int x3)]) hx hb dX2_partsBehindBegin_16 hl (by decide) rfl (fun ls hl => ?_)
  refine lv_lload hx hb dX2_partsBehindBegin_18 (lv_at hl 0 rfl) ?_
  refine lv_aload_n hx hb dX2_partsBehindBegin_20 rfl (lv_at hl 1 rfl) ?_
  obtain ⟨v_2, σ_3, hc_4, h⟩ := kb_ok h
  refine kci (krunV (As := []) C hP (c_X2_partsOfMinute E C.1 F σ hc_4) w_389 kv_X2_partsOfMinute ⟨Nat.le_of_ble_eq_true rfl, Nat.le_of_ble_eq_true rfl⟩ (rc_6 C hP) rfl hl.1 rfl (Nat.le_of_ble_eq_true rfl) dX2_partsBehindBegin_21) hS (fun H locs hP hS => ?_)
  refine lv_i2l (v := v_2.toInt64) hx hb dX2_partsBehindBegin_24 rfl ?_
  refine lv_lmul hx hb dX2_partsBehindBegin_25 ?_
  refine lv_aload_n hx hb dX2_partsBehindBegin_26 rfl (lv_at hl 1 rfl) ?_
  obtain ⟨v_5, σ_6, hc_7, h⟩ := kb_ok h
  refine kci (krunV (As := []) C hP (c_X2_partsOfTide E C.1 F σ_3 hc_7) w_394 kv_X2_partsOfTide ⟨Nat.le_of_ble_eq_true rfl, Nat.le_of_ble_eq_true rfl⟩ (rc_6 C hP) rfl hl.1 rfl (Nat.le_of_ble_eq_true rfl) dX2_partsBehindBegin_27) hS (fun H locs hP hS => ?_)
  refine lv_i2l (v := v_5.toInt64) hx hb dX2_partsBehindBegin_30 rfl ?_
  obtain ⟨v_8, σ_9, hc_10, h⟩ := kb_ok h
  refine kcl (krunS (As := [.long (x4_1 * v_2.toInt64), .long v_5.toInt64]) C hP (c_J9_floorMod_f86c9 E C.1 F σ_6 (x4_1 * v_2.toInt64) v_5.toInt64 hc_10) w_398 kt_J9_floorMod_f86c9 ⟨Nat.le_of_ble_eq_true rfl, Nat.le_of_ble_eq_true rfl⟩ rfl hl.1 rfl (Nat.le_of_ble_eq_true rfl) dX2_partsBehindBegin_31) hS (fun H locs hP hS => ?_)
  obtain ⟨rfl, rfl⟩ := k_inj h
  exact krl C hS hP dX2_partsBehindBegin_34
def f_X2_partsBehindBegin (F : Nat) (σ : kS) (x1 : Int64) (x3 : Int32) : Option (Int64 × kS) := s_X2_partsBehindBegin_0 F σ x1 x3
set_option maxRecDepth 100000 in
theorem c_X2_partsBehindBegin (E : kE) (hE : kap E) (F : Nat) (σ : kS) (x1 : Int64) (x3 : Int32) (h : f_X2_partsBehindBegin F σ x1 x3 = some (r, σr)) : Met l yX2_partsBehindBegin (kWs yX2_partsBehindBegin cX2_partsBehindBegin 6 (some .long)) (kR 2 43) (kPre (cP E) E [.ref (eA E 6), .long x1, .int x3] σ) (kQl (cP E) (inC E) r σr) 0 0 (inC E) :=
  kst hE (by decide +kernel) (Nat.le_of_ble_eq_true rfl) (fun p e s m below meth c ls C hP hl => w_X2_partsBehindBegin_0 C F σ x1 x3 h s.heap [] hP va_S.rf ls hl)
end

section
variable {p : Program} {l : Launch} {e : Env} {s : State} {m : MethodId} {args : Array Value} {below : List Frame} {meth : Method} {c : Code} {E : kE} {σr : kS}
variable {r : Int32}
def s_X2_partsOfHigh_0 (F : Nat) (σ : kS) : Option (Int32 × kS) :=
  some (((kI σ 8) * (kI σ 10)), σ)
set_option maxRecDepth 100000 in
set_option maxHeartbeats 4000000 in
theorem w_X2_partsOfHigh_0 (C : Cx E p s m args meth c cX2_partsOfHigh 1 RX2 (some .int)) (F : Nat) (σ : kS) (h : s_X2_partsOfHigh_0 F σ = some (r, σr)) (H : Heap) (locs : List Loc) (hP : cP E σ H) (hS : va_S (inC E) s.heap H locs) (ls : Array Slot) (hl : lv_has ls 1 [(0, .ref (eA E 6))]) : W p l e (kR 0 0) s m args below meth c H locs 0 0 (MQ below (kQi (cP E) (inC E) r σr) args s 0 0 (inC E)) (F0 m 0 ls []) := by
  obtain ⟨-, hx, hb, hml, hown, hts, hK, -, -⟩ := id C
  unfold s_X2_partsOfHigh_0 at h
  refine lv_aload_n hx hb dX2_partsOfHigh_0 rfl (lv_at hl 0 rfl) ?_
  refine gf_6_0 C hP (v := (kI σ 8)) rfl w_86 dX2_partsOfHigh_1 ?_
  refine lv_aload_n hx hb dX2_partsOfHigh_4 rfl (lv_at hl 0 rfl) ?_
  refine gf_6_2 C hP (v := (kI σ 10)) rfl w_88 dX2_partsOfHigh_5 ?_
  refine lv_imul hx hb dX2_partsOfHigh_8 ?_
  obtain ⟨rfl, rfl⟩ := k_inj h
  exact kri C hS hP dX2_partsOfHigh_9
def f_X2_partsOfHigh (F : Nat) (σ : kS) : Option (Int32 × kS) := s_X2_partsOfHigh_0 F σ
set_option maxRecDepth 100000 in
theorem c_X2_partsOfHigh (E : kE) (hE : kap E) (F : Nat) (σ : kS) (h : f_X2_partsOfHigh F σ = some (r, σr)) : Met l yX2_partsOfHigh (kWs yX2_partsOfHigh cX2_partsOfHigh 1 (some .int)) (kR 0 0) (kPre (cP E) E [.ref (eA E 6)] σ) (kQi (cP E) (inC E) r σr) 0 0 (inC E) :=
  kst hE (by decide +kernel) (Nat.le_of_ble_eq_true rfl) (fun p e s m below meth c ls C hP hl => w_X2_partsOfHigh_0 C F σ h s.heap [] hP va_S.rf ls hl)
end

section
variable {p : Program} {l : Launch} {e : Env} {s : State} {m : MethodId} {args : Array Value} {below : List Frame} {meth : Method} {c : Code} {E : kE} {σr : kS}
variable {r : Int32}
def s_X1_rulerAtParts_58 (F : Nat) (σ : kS) (x1 : Int64) (x5 : Int64) : Option (Int32 × kS) :=
  (if 0 ≤ (lg_cmp x1 x5) then some ((1 : Int32), σ) else some ((0 : Int32), σ))
set_option maxRecDepth 100000 in
set_option maxHeartbeats 4000000 in
theorem w_X1_rulerAtParts_58 (C : Cx E p s m args meth c cX1_rulerAtParts 7 RX1 (some .int)) (F : Nat) (σ : kS) (x1 : Int64) (x5 : Int64) (h : s_X1_rulerAtParts_58 F σ x1 x5 = some (r, σr)) (H : Heap) (locs : List Loc) (hP : cP E σ H) (hS : va_S (inC E) s.heap H locs) (ls : Array Slot) (hl : lv_has ls 7 [(1, .long x1), (5, .long x5)]) : W p l e (kR 2 43) s m args below meth c H locs 0 0 (MQ below (kQi (cP E) (inC E) r σr) args s 0 0 (inC E)) (F0 m 58 ls []) := by
  obtain ⟨-, hx, hb, hml, hown, hts, hK, -, -⟩ := id C
  unfold s_X1_rulerAtParts_58 at h
  refine lv_lload_n hx hb dX1_rulerAtParts_58 rfl (lv_at hl 0 rfl) ?_
  refine lv_lload hx hb dX1_rulerAtParts_59 (lv_at hl 1 rfl) ?_
  refine W.lcmp hx hb dX1_rulerAtParts_61 ?_
  refine lv_if_ge (tgt := 69) hx hb dX1_rulerAtParts_62 (by decide) (fun c_1 => ?_) (fun c_1 => ?_)
  · have h := k_t c_1 h
    refine lv_iconst (v := (1 : Int32)) hx hb dX1_rulerAtParts_69 (by decide) ?_
    obtain ⟨rfl, rfl⟩ := k_inj h
    exact kri C hS hP dX1_rulerAtParts_70
  · have h := k_f c_1 h
    refine lv_iconst (v := (0 : Int32)) hx hb dX1_rulerAtParts_65 (by decide) ?_
    refine lv_goto (tgt := 70) hx hb dX1_rulerAtParts_66 (by decide) ?_
    obtain ⟨rfl, rfl⟩ := k_inj h
    exact kri C hS hP dX1_rulerAtParts_70
def s_X1_rulerAtParts_0 (F : Nat) (σ : kS) (x1 : Int64) : Option (Int32 × kS) :=
  (kb (f_X2_partsOfMinute F σ) fun v_1 σ_2 => (kb (f_X2_partsOfHigh F σ_2) fun v_4 σ_5 => (if (lg_cmp x1 (0 : Int64)) = 0 then some ((2 : Int32), σ_5) else (kb (f_X2_partsOfTide F σ_5) fun v_8 σ_9 => (if (lg_cmp (x1 + v_1.toInt64) v_8.toInt64) ≤ 0 then (if 0 < (lg_cmp x1 v_4.toInt64) then s_X1_rulerAtParts_58 F σ_9 x1 v_4.toInt64 else (if 0 ≤ (lg_cmp v_4.toInt64 (x1 + v_1.toInt64)) then s_X1_rulerAtParts_58 F σ_9 x1 v_4.toInt64 else some ((2 : Int32), σ_9))) else some ((2 : Int32), σ_9))))))
set_option maxRecDepth 100000 in
set_option maxHeartbeats 4000000 in
theorem w_X1_rulerAtParts_0 (C : Cx E p s m args meth c cX1_rulerAtParts 7 RX1 (some .int)) (F : Nat) (σ : kS) (x1 : Int64) (h : s_X1_rulerAtParts_0 F σ x1 = some (r, σr)) (H : Heap) (locs : List Loc) (hP : cP E σ H) (hS : va_S (inC E) s.heap H locs) (ls : Array Slot) (hl : lv_has ls 7 [(0, .ref (eA E 9)), (1, .long x1)]) : W p l e (kR 2 43) s m args below meth c H locs 0 0 (MQ below (kQi (cP E) (inC E) r σr) args s 0 0 (inC E)) (F0 m 0 ls []) := by
  obtain ⟨-, hx, hb, hml, hown, hts, hK, -, -⟩ := id C
  unfold s_X1_rulerAtParts_0 at h
  refine lv_lload_n hx hb dX1_rulerAtParts_0 rfl (lv_at hl 1 rfl) ?_
  refine lv_aload_n hx hb dX1_rulerAtParts_1 rfl (lv_at hl 0 rfl) ?_
  refine gf_9_0 C hP w_154 dX1_rulerAtParts_2 ?_
  obtain ⟨v_1, σ_2, hc_3, h⟩ := kb_ok h
  refine kci (krunV (As := []) C hP (c_X2_partsOfMinute E C.1 F σ hc_3) w_405 kv_X2_partsOfMinute ⟨Nat.le_of_ble_eq_true rfl, Nat.le_of_ble_eq_true rfl⟩ (rc_6 C hP) rfl hl.1 rfl (Nat.le_of_ble_eq_true rfl) dX1_rulerAtParts_5) hS (fun H locs hP hS => ?_)
  refine lv_i2l (v := v_1.toInt64) hx hb dX1_rulerAtParts_8 rfl ?_
  refine lv_ladd hx hb dX1_rulerAtParts_9 ?_
  refine lv_lstore_n (lv' := [(3, .long (x1 + v_1.toInt64)), (0, .ref (eA E 9)), (1, .long x1)]) hx hb dX1_rulerAtParts_10 rfl hl (by decide) rfl (fun ls hl => ?_)
  refine lv_aload_n hx hb dX1_rulerAtParts_11 rfl (lv_at hl 1 rfl) ?_
  refine gf_9_0 C hP w_154 dX1_rulerAtParts_12 ?_
  obtain ⟨v_4, σ_5, hc_6, h⟩ := kb_ok h
  refine kci (krunV (As := []) C hP (c_X2_partsOfHigh E C.1 F σ_2 hc_6) w_406 kv_X2_partsOfHigh ⟨Nat.le_of_ble_eq_true rfl, Nat.le_of_ble_eq_true rfl⟩ (rc_6 C hP) rfl hl.1 rfl (Nat.le_of_ble_eq_true rfl) dX1_rulerAtParts_15) hS (fun H locs hP hS => ?_)
  refine lv_i2l (v := v_4.toInt64) hx hb dX1_rulerAtParts_18 rfl ?_
  refine lv_lstore (lv' := [(5, .long v_4.toInt64), (3, .long (x1 + v_1.toInt64)), (0, .ref (eA E 9)), (1, .long x1)]) hx hb dX1_rulerAtParts_19 hl (by decide) rfl (fun ls hl => ?_)
  refine lv_lload_n hx hb dX1_rulerAtParts_21 rfl (lv_at hl 3 rfl) ?_
  refine lv_lconst (v := (0 : Int64)) hx hb dX1_rulerAtParts_22 (by decide) ?_
  refine W.lcmp hx hb dX1_rulerAtParts_23 ?_
  refine lv_if_eq (tgt := 40) hx hb dX1_rulerAtParts_24 (by decide) (fun c_7 => ?_) (fun c_7 => ?_)
  · have h := k_t c_7 h
    refine lv_iconst (v := (2 : Int32)) hx hb dX1_rulerAtParts_40 (by decide) ?_
    obtain ⟨rfl, rfl⟩ := k_inj h
    exact kri C hS hP dX1_rulerAtParts_41
  · have h := k_f c_7 h
    refine lv_lload_n hx hb dX1_rulerAtParts_27 rfl (lv_at hl 1 rfl) ?_
    refine lv_aload_n hx hb dX1_rulerAtParts_28 rfl (lv_at hl 2 rfl) ?_
    refine gf_9_0 C hP w_154 dX1_rulerAtParts_29 ?_
    obtain ⟨v_8, σ_9, hc_10, h⟩ := kb_ok h
    refine kci (krunV (As := []) C hP (c_X2_partsOfTide E C.1 F σ_5 hc_10) w_410 kv_X2_partsOfTide ⟨Nat.le_of_ble_eq_true rfl, Nat.le_of_ble_eq_true rfl⟩ (rc_6 C hP) rfl hl.1 rfl (Nat.le_of_ble_eq_true rfl) dX1_rulerAtParts_32) hS (fun H locs hP hS => ?_)
    refine lv_i2l (v := v_8.toInt64) hx hb dX1_rulerAtParts_35 rfl ?_
    refine W.lcmp hx hb dX1_rulerAtParts_36 ?_
    refine lv_if_le (tgt := 42) hx hb dX1_rulerAtParts_37 (by decide) (fun c_11 => ?_) (fun c_11 => ?_)
    · have h := k_t c_11 h
      refine lv_lload_n hx hb dX1_rulerAtParts_42 rfl (lv_at hl 3 rfl) ?_
      refine lv_lload hx hb dX1_rulerAtParts_43 (lv_at hl 0 rfl) ?_
      refine W.lcmp hx hb dX1_rulerAtParts_45 ?_
      refine lv_if_gt (tgt := 58) hx hb dX1_rulerAtParts_46 (by decide) (fun c_12 => ?_) (fun c_12 => ?_)
      · have h := k_t c_12 h
        exact w_X1_rulerAtParts_58 C F σ_9 x1 v_4.toInt64 h H locs hP hS ls (lv_sub hl [3, 0] rfl)
      · have h := k_f c_12 h
        refine lv_lload hx hb dX1_rulerAtParts_49 (lv_at hl 0 rfl) ?_
        refine lv_lload_n hx hb dX1_rulerAtParts_51 rfl (lv_at hl 1 rfl) ?_
        refine W.lcmp hx hb dX1_rulerAtParts_52 ?_
        refine lv_if_ge (tgt := 58) hx hb dX1_rulerAtParts_53 (by decide) (fun c_13 => ?_) (fun c_13 => ?_)
        · have h := k_t c_13 h
          exact w_X1_rulerAtParts_58 C F σ_9 x1 v_4.toInt64 h H locs hP hS ls (lv_sub hl [3, 0] rfl)
        · have h := k_f c_13 h
          refine lv_iconst (v := (2 : Int32)) hx hb dX1_rulerAtParts_56 (by decide) ?_
          obtain ⟨rfl, rfl⟩ := k_inj h
          exact kri C hS hP dX1_rulerAtParts_57
    · have h := k_f c_11 h
      refine lv_iconst (v := (2 : Int32)) hx hb dX1_rulerAtParts_40 (by decide) ?_
      obtain ⟨rfl, rfl⟩ := k_inj h
      exact kri C hS hP dX1_rulerAtParts_41
def f_X1_rulerAtParts (F : Nat) (σ : kS) (x1 : Int64) : Option (Int32 × kS) := s_X1_rulerAtParts_0 F σ x1
set_option maxRecDepth 100000 in
theorem c_X1_rulerAtParts (E : kE) (hE : kap E) (F : Nat) (σ : kS) (x1 : Int64) (h : f_X1_rulerAtParts F σ x1 = some (r, σr)) : Met l yX1_rulerAtParts (kWs yX1_rulerAtParts cX1_rulerAtParts 7 (some .int)) (kR 2 43) (kPre (cP E) E [.ref (eA E 9), .long x1] σ) (kQi (cP E) (inC E) r σr) 0 0 (inC E) :=
  kst hE (by decide +kernel) (Nat.le_of_ble_eq_true rfl) (fun p e s m below meth c ls C hP hl => w_X1_rulerAtParts_0 C F σ x1 h s.heap [] hP va_S.rf ls hl)
end

section
variable {p : Program} {l : Launch} {e : Env} {s : State} {m : MethodId} {args : Array Value} {below : List Frame} {meth : Method} {c : Code} {E : kE} {σr : kS}
variable {r : Int32}
def s_X1_rulerAt_0 (F : Nat) (σ : kS) (x1 : Int64) : Option (Int32 × kS) :=
  (kb (f_X2_partsBehindBegin F σ x1 (kI σ 15)) fun v_1 σ_2 => (kb (f_X1_rulerAtParts F σ_2 v_1) fun v_4 σ_5 => some (v_4, σ_5)))
set_option maxRecDepth 100000 in
set_option maxHeartbeats 4000000 in
theorem w_X1_rulerAt_0 (C : Cx E p s m args meth c cX1_rulerAt 3 RX1 (some .int)) (F : Nat) (σ : kS) (x1 : Int64) (h : s_X1_rulerAt_0 F σ x1 = some (r, σr)) (H : Heap) (locs : List Loc) (hP : cP E σ H) (hS : va_S (inC E) s.heap H locs) (ls : Array Slot) (hl : lv_has ls 3 [(0, .ref (eA E 9)), (1, .long x1)]) : W p l e (kR 3 69) s m args below meth c H locs 0 0 (MQ below (kQi (cP E) (inC E) r σr) args s 0 0 (inC E)) (F0 m 0 ls []) := by
  obtain ⟨-, hx, hb, hml, hown, hts, hK, -, -⟩ := id C
  unfold s_X1_rulerAt_0 at h
  refine lv_aload_n hx hb dX1_rulerAt_0 rfl (lv_at hl 0 rfl) ?_
  refine lv_aload_n hx hb dX1_rulerAt_1 rfl (lv_at hl 0 rfl) ?_
  refine gf_9_0 C hP w_154 dX1_rulerAt_2 ?_
  refine lv_lload_n hx hb dX1_rulerAt_5 rfl (lv_at hl 1 rfl) ?_
  refine lv_aload_n hx hb dX1_rulerAt_6 rfl (lv_at hl 0 rfl) ?_
  refine gf_9_1 C hP w_155 dX1_rulerAt_7 ?_
  refine gf_8_1 C hP (v := (kI σ 15)) rfl w_123 dX1_rulerAt_10 ?_
  obtain ⟨v_1, σ_2, hc_3, h⟩ := kb_ok h
  refine kcl (krunV (As := [.long x1, .int (kI σ 15)]) C hP (c_X2_partsBehindBegin E C.1 F σ x1 (kI σ 15) hc_3) w_385 kv_X2_partsBehindBegin ⟨Nat.le_of_ble_eq_true rfl, Nat.le_of_ble_eq_true rfl⟩ (rc_6 C hP) rfl hl.1 rfl (Nat.le_of_ble_eq_true rfl) dX1_rulerAt_13) hS (fun H locs hP hS => ?_)
  obtain ⟨v_4, σ_5, hc_6, h⟩ := kb_ok h
  refine kci (krunV (As := [.long v_1]) C hP (c_X1_rulerAtParts E C.1 F σ_2 v_1 hc_6) w_401 kv_X1_rulerAtParts ⟨Nat.le_of_ble_eq_true rfl, Nat.le_of_ble_eq_true rfl⟩ (rc_9 C hP) rfl hl.1 rfl (Nat.le_of_ble_eq_true rfl) dX1_rulerAt_16) hS (fun H locs hP hS => ?_)
  obtain ⟨rfl, rfl⟩ := k_inj h
  exact kri C hS hP dX1_rulerAt_19
def f_X1_rulerAt (F : Nat) (σ : kS) (x1 : Int64) : Option (Int32 × kS) := s_X1_rulerAt_0 F σ x1
set_option maxRecDepth 100000 in
theorem c_X1_rulerAt (E : kE) (hE : kap E) (F : Nat) (σ : kS) (x1 : Int64) (h : f_X1_rulerAt F σ x1 = some (r, σr)) : Met l yX1_rulerAt (kWs yX1_rulerAt cX1_rulerAt 3 (some .int)) (kR 3 69) (kPre (cP E) E [.ref (eA E 9), .long x1] σ) (kQi (cP E) (inC E) r σr) 0 0 (inC E) :=
  kst hE (by decide +kernel) (Nat.le_of_ble_eq_true rfl) (fun p e s m below meth c ls C hP hl => w_X1_rulerAt_0 C F σ x1 h s.heap [] hP va_S.rf ls hl)
end

section
variable {p : Program} {l : Launch} {e : Env} {s : State} {m : MethodId} {args : Array Value} {below : List Frame} {meth : Method} {c : Code} {E : kE} {σr : kS}
variable {r : Int32}
def s_X7_rules_0 (F : Nat) (σ : kS) (x1 : Int64) : Option (Int32 × kS) :=
  (kb (f_X7_isMinute F σ x1) fun v_1 σ_2 => (if v_1 = 0 then some ((-1 : Int32), σ_2) else (kb (f_X1_rulerAt F σ_2 x1) fun v_5 σ_6 => some (v_5, σ_6))))
set_option maxRecDepth 100000 in
set_option maxHeartbeats 4000000 in
theorem w_X7_rules_0 (C : Cx E p s m args meth c cX7_rules 3 RX7 (some .int)) (F : Nat) (σ : kS) (x1 : Int64) (h : s_X7_rules_0 F σ x1 = some (r, σr)) (H : Heap) (locs : List Loc) (hP : cP E σ H) (hS : va_S (inC E) s.heap H locs) (ls : Array Slot) (hl : lv_has ls 3 [(0, .ref (eA E 0)), (1, .long x1)]) : W p l e (kR 4 91) s m args below meth c H locs 0 0 (MQ below (kQi (cP E) (inC E) r σr) args s 0 0 (inC E)) (F0 m 0 ls []) := by
  obtain ⟨-, hx, hb, hml, hown, hts, hK, -, -⟩ := id C
  unfold s_X7_rules_0 at h
  refine lv_lload_n hx hb dX7_rules_0 rfl (lv_at hl 1 rfl) ?_
  obtain ⟨v_1, σ_2, hc_3, h⟩ := kb_ok h
  refine kci (krunS (As := [.long x1]) C hP (c_X7_isMinute E C.1 F σ x1 hc_3) w_377 kt_X7_isMinute ⟨Nat.le_of_ble_eq_true rfl, Nat.le_of_ble_eq_true rfl⟩ rfl hl.1 rfl (Nat.le_of_ble_eq_true rfl) dX7_rules_1) hS (fun H locs hP hS => ?_)
  refine lv_if_eq (tgt := 18) hx hb dX7_rules_4 (by decide) (fun c_4 => ?_) (fun c_4 => ?_)
  · have h := k_t c_4 h
    refine lv_iconst (v := (-1 : Int32)) hx hb dX7_rules_18 (by decide) ?_
    obtain ⟨rfl, rfl⟩ := k_inj h
    exact kri C hS hP dX7_rules_19
  · have h := k_f c_4 h
    refine lv_aload_n hx hb dX7_rules_7 rfl (lv_at hl 0 rfl) ?_
    refine gf_0_4 C hP w_253 dX7_rules_8 ?_
    refine lv_lload_n hx hb dX7_rules_11 rfl (lv_at hl 1 rfl) ?_
    obtain ⟨v_5, σ_6, hc_7, h⟩ := kb_ok h
    refine kci (krunV (As := [.long x1]) C hP (c_X1_rulerAt E C.1 F σ_2 x1 hc_7) w_381 kv_X1_rulerAt ⟨Nat.le_of_ble_eq_true rfl, Nat.le_of_ble_eq_true rfl⟩ (rc_9 C hP) rfl hl.1 rfl (Nat.le_of_ble_eq_true rfl) dX7_rules_12) hS (fun H locs hP hS => ?_)
    refine lv_goto (tgt := 19) hx hb dX7_rules_15 (by decide) ?_
    obtain ⟨rfl, rfl⟩ := k_inj h
    exact kri C hS hP dX7_rules_19
def f_X7_rules (F : Nat) (σ : kS) (x1 : Int64) : Option (Int32 × kS) := s_X7_rules_0 F σ x1
set_option maxRecDepth 100000 in
theorem c_X7_rules (E : kE) (hE : kap E) (F : Nat) (σ : kS) (x1 : Int64) (h : f_X7_rules F σ x1 = some (r, σr)) : Met l yX7_rules (kWs yX7_rules cX7_rules 3 (some .int)) (kR 4 91) (kPre (cP E) E [.ref (eA E 0), .long x1] σ) (kQi (cP E) (inC E) r σr) 0 0 (inC E) :=
  kst hE (by decide +kernel) (Nat.le_of_ble_eq_true rfl) (fun p e s m below meth c ls C hP hl => w_X7_rules_0 C F σ x1 h s.heap [] hP va_S.rf ls hl)
end

section
variable {p : Program} {l : Launch} {e : Env} {s : State} {m : MethodId} {args : Array Value} {below : List Frame} {meth : Method} {c : Code} {E : kE} {σr : kS}
variable {r : Int32}
def s_X7_isRuler_0 (F : Nat) (σ : kS) (x0 : Int32) : Option (Int32 × kS) :=
  (if x0 < 0 then some ((0 : Int32), σ) else (if (2 : Int32) < x0 then some ((0 : Int32), σ) else some ((1 : Int32), σ)))
set_option maxRecDepth 100000 in
set_option maxHeartbeats 4000000 in
theorem w_X7_isRuler_0 (C : Cx E p s m args meth c cX7_isRuler 1 RX7 (some .boolean)) (F : Nat) (σ : kS) (x0 : Int32) (h : s_X7_isRuler_0 F σ x0 = some (r, σr)) (H : Heap) (locs : List Loc) (hP : cP E σ H) (hS : va_S (inC E) s.heap H locs) (ls : Array Slot) (hl : lv_has ls 1 [(0, .int x0)]) : W p l e (kR 0 0) s m args below meth c H locs 0 0 (MQ below (kQi (cP E) (inC E) r σr) args s 0 0 (inC E)) (F0 m 0 ls []) := by
  obtain ⟨-, hx, hb, hml, hown, hts, hK, -, -⟩ := id C
  unfold s_X7_isRuler_0 at h
  refine lv_iload_n hx hb dX7_isRuler_0 rfl (lv_at hl 0 rfl) ?_
  refine lv_if_lt (tgt := 13) hx hb dX7_isRuler_1 (by decide) (fun c_1 => ?_) (fun c_1 => ?_)
  · have h := k_t c_1 h
    refine lv_iconst (v := (0 : Int32)) hx hb dX7_isRuler_13 (by decide) ?_
    obtain ⟨rfl, rfl⟩ := k_inj h
    exact krz C hS hP (by decide) dX7_isRuler_14
  · have h := k_f c_1 h
    refine lv_iload_n hx hb dX7_isRuler_4 rfl (lv_at hl 0 rfl) ?_
    refine lv_iconst (v := (2 : Int32)) hx hb dX7_isRuler_5 (by decide) ?_
    refine lv_icmp_gt (tgt := 13) hx hb dX7_isRuler_6 (by decide) (fun c_2 => ?_) (fun c_2 => ?_)
    · have h := k_t c_2 h
      refine lv_iconst (v := (0 : Int32)) hx hb dX7_isRuler_13 (by decide) ?_
      obtain ⟨rfl, rfl⟩ := k_inj h
      exact krz C hS hP (by decide) dX7_isRuler_14
    · have h := k_f c_2 h
      refine lv_iconst (v := (1 : Int32)) hx hb dX7_isRuler_9 (by decide) ?_
      refine lv_goto (tgt := 14) hx hb dX7_isRuler_10 (by decide) ?_
      obtain ⟨rfl, rfl⟩ := k_inj h
      exact krz C hS hP (by decide) dX7_isRuler_14
def f_X7_isRuler (F : Nat) (σ : kS) (x0 : Int32) : Option (Int32 × kS) := s_X7_isRuler_0 F σ x0
set_option maxRecDepth 100000 in
theorem c_X7_isRuler (E : kE) (hE : kap E) (F : Nat) (σ : kS) (x0 : Int32) (h : f_X7_isRuler F σ x0 = some (r, σr)) : Met l yX7_isRuler (kWs yX7_isRuler cX7_isRuler 1 (some .boolean)) (kR 0 0) (kPre (cP E) E [.int x0] σ) (kQi (cP E) (inC E) r σr) 0 0 (inC E) :=
  kst hE (by decide +kernel) (Nat.le_of_ble_eq_true rfl) (fun p e s m below meth c ls C hP hl => w_X7_isRuler_0 C F σ x0 h s.heap [] hP va_S.rf ls hl)
end

section
variable {p : Program} {l : Launch} {e : Env} {s : State} {m : MethodId} {args : Array Value} {below : List Frame} {meth : Method} {c : Code} {E : kE} {σr : kS}
variable {r : Int32}
def s_X2_minutesOfRound_0 (F : Nat) (σ : kS) : Option (Int32 × kS) :=
  some ((if (1 : Int32) < (kI σ 8) then (kI σ 8) else (1 : Int32)), σ)
set_option maxRecDepth 100000 in
set_option maxHeartbeats 4000000 in
theorem w_X2_minutesOfRound_0 (C : Cx E p s m args meth c cX2_minutesOfRound 1 RX2 (some .int)) (F : Nat) (σ : kS) (h : s_X2_minutesOfRound_0 F σ = some (r, σr)) (H : Heap) (locs : List Loc) (hP : cP E σ H) (hS : va_S (inC E) s.heap H locs) (ls : Array Slot) (hl : lv_has ls 1 [(0, .ref (eA E 6))]) : W p l e (kR 1 23) s m args below meth c H locs 0 0 (MQ below (kQi (cP E) (inC E) r σr) args s 0 0 (inC E)) (F0 m 0 ls []) := by
  obtain ⟨-, hx, hb, hml, hown, hts, hK, -, -⟩ := id C
  unfold s_X2_minutesOfRound_0 at h
  refine lv_iconst (v := (1 : Int32)) hx hb dX2_minutesOfRound_0 (by decide) ?_
  refine lv_aload_n hx hb dX2_minutesOfRound_1 rfl (lv_at hl 0 rfl) ?_
  refine gf_6_0 C hP (v := (kI σ 8)) rfl w_86 dX2_minutesOfRound_2 ?_
  refine kmax C hl.1 w_393 (Nat.le_of_ble_eq_true rfl) (Nat.le_of_ble_eq_true rfl) dX2_minutesOfRound_5 ?_
  obtain ⟨rfl, rfl⟩ := k_inj h
  exact kri C hS hP dX2_minutesOfRound_8
def f_X2_minutesOfRound (F : Nat) (σ : kS) : Option (Int32 × kS) := s_X2_minutesOfRound_0 F σ
set_option maxRecDepth 100000 in
theorem c_X2_minutesOfRound (E : kE) (hE : kap E) (F : Nat) (σ : kS) (h : f_X2_minutesOfRound F σ = some (r, σr)) : Met l yX2_minutesOfRound (kWs yX2_minutesOfRound cX2_minutesOfRound 1 (some .int)) (kR 1 23) (kPre (cP E) E [.ref (eA E 6)] σ) (kQi (cP E) (inC E) r σr) 0 0 (inC E) :=
  kst hE (by decide +kernel) (Nat.le_of_ble_eq_true rfl) (fun p e s m below meth c ls C hP hl => w_X2_minutesOfRound_0 C F σ h s.heap [] hP va_S.rf ls hl)
end

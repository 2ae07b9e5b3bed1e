section
variable {p : Program} {l : Launch} {e : Env} {s : State} {m : MethodId} {args : Array Value} {below : List Frame} {meth : Method} {c : Code} {E : kE} {σr : kS}
variable {r : Int32}
def s_X8_forged_46 (F : Nat) (rec4 : (kS × Int32 × Int32 → Option (Int32 × kS))) (σ : kS) (x2 : Int32) (y0 : Int32) (y1 : Int32) : Option (Int32 × kS) :=
  rec4 (σ, (y1 ||| y0), (x2 + (1 : Int32)))
set_option maxRecDepth 100000 in
set_option maxHeartbeats 4000000 in
theorem w_X8_forged_46 (C : Cx E p s m args meth c cX8_forged 3 RX8 (some .int)) (F : Nat) (rec4 : (kS × Int32 × Int32 → Option (Int32 × kS))) (hrec4 : ∀ (σ : kS) (x1 : Int32) (x2 : Int32), rec4 (σ, x1, x2) = some (r, σr) → ∀ (H : Heap) (locs : List Loc), mP E σ H → va_S (inM E) s.heap H locs → ∀ (ls : Array Slot), lv_has ls 3 [(0, .ref (eA E 27)), (1, .int x1), (2, .int x2)] → W p l e (kR 1 30) s m args below meth c H locs 0 0 (MQ below (kQi (mP E) (inM E) r σr) args s 0 0 (inM E)) (F0 m 4 ls [])) (σ : kS) (x2 : Int32) (y0 : Int32) (y1 : Int32) (h : s_X8_forged_46 F rec4 σ x2 y0 y1 = some (r, σr)) (H : Heap) (locs : List Loc) (hP : mP E σ H) (hS : va_S (inM E) s.heap H locs) (ls : Array Slot) (hl : lv_has ls 3 [(0, .ref (eA E 27)), (2, .int x2)]) : W p l e (kR 1 30) s m args below meth c H locs 0 0 (MQ below (kQi (mP E) (inM E) r σr) args s 0 0 (inM E)) (F0 m 46 ls [.int y0, .int y1]) := by
  obtain ⟨-, hx, hb, hml, hown, hts, hK, -, -⟩ := id C
  unfold s_X8_forged_46 at h
  refine lv_ior hx hb dX8_forged_46 ?_
  refine lv_istore_n (lv' := [(1, .int (y1 ||| y0)), (0, .ref (eA E 27)), (2, .int x2)]) hx hb dX8_forged_47 rfl hl (by decide) rfl (fun ls hl => ?_)
  refine lv_iinc (v := (x2 + (1 : Int32))) (lv' := [(2, .int (x2 + (1 : Int32))), (1, .int (y1 ||| y0)), (0, .ref (eA E 27))]) hx hb dX8_forged_48 hl (k := 2) rfl rfl (by decide) rfl (fun ls hl => ?_)
  refine lv_goto (tgt := 4) hx hb dX8_forged_51 (by decide) ?_
  exact hrec4 σ (y1 ||| y0) (x2 + (1 : Int32)) h H locs hP hS ls (lv_sub hl [2, 1, 0] rfl)
def s_X8_forged_4 (F : Nat) (rec4 : (kS × Int32 × Int32 → Option (Int32 × kS))) (σ : kS) (x1 : Int32) (x2 : Int32) : Option (Int32 × kS) :=
  (if (kI σ 5) ≤ x2 then some (x1, σ) else (if ((2 : Int32) * x2) < 0 ∨ 20 ≤ ((2 : Int32) * x2).toNatClampNeg then none else (kb (f_X8_ruler F σ (kA σ 7 ((2 : Int32) * x2).toNatClampNeg).toInt64) fun v_3 σ_4 => (if (((2 : Int32) * x2) + (1 : Int32)) < 0 ∨ 20 ≤ (((2 : Int32) * x2) + (1 : Int32)).toNatClampNeg then none else (if v_3 = (kA σ_4 7 (((2 : Int32) * x2) + (1 : Int32)).toNatClampNeg) then s_X8_forged_46 F rec4 σ_4 x2 (0 : Int32) x1 else s_X8_forged_46 F rec4 σ_4 x2 ((1 : Int32) <<< (x2 &&& 31)) x1)))))
set_option maxRecDepth 100000 in
set_option maxHeartbeats 4000000 in
theorem w_X8_forged_4 (C : Cx E p s m args meth c cX8_forged 3 RX8 (some .int)) (F : Nat) (rec4 : (kS × Int32 × Int32 → Option (Int32 × kS))) (hrec4 : ∀ (σ : kS) (x1 : Int32) (x2 : Int32), rec4 (σ, x1, x2) = some (r, σr) → ∀ (H : Heap) (locs : List Loc), mP E σ H → va_S (inM E) s.heap H locs → ∀ (ls : Array Slot), lv_has ls 3 [(0, .ref (eA E 27)), (1, .int x1), (2, .int x2)] → W p l e (kR 1 30) s m args below meth c H locs 0 0 (MQ below (kQi (mP E) (inM E) r σr) args s 0 0 (inM E)) (F0 m 4 ls [])) (σ : kS) (x1 : Int32) (x2 : Int32) (h : s_X8_forged_4 F rec4 σ x1 x2 = some (r, σr)) (H : Heap) (locs : List Loc) (hP : mP E σ H) (hS : va_S (inM E) s.heap H locs) (ls : Array Slot) (hl : lv_has ls 3 [(0, .ref (eA E 27)), (1, .int x1), (2, .int x2)]) : W p l e (kR 1 30) s m args below meth c H locs 0 0 (MQ below (kQi (mP E) (inM E) r σr) args s 0 0 (inM E)) (F0 m 4 ls []) := by
  obtain ⟨-, hx, hb, hml, hown, hts, hK, -, -⟩ := id C
  unfold s_X8_forged_4 at h
  refine lv_iload_n hx hb dX8_forged_4 rfl (lv_at hl 2 rfl) ?_
  refine lv_aload_n hx hb dX8_forged_5 rfl (lv_at hl 0 rfl) ?_
  refine gf_27_14 C hP (v := (kI σ 5)) rfl w_689 dX8_forged_6 ?_
  refine lv_icmp_ge (tgt := 54) hx hb dX8_forged_9 (by decide) (fun c_1 => ?_) (fun c_1 => ?_)
  · have h := k_t c_1 h
    refine lv_iload_n hx hb dX8_forged_54 rfl (lv_at hl 1 rfl) ?_
    obtain ⟨rfl, rfl⟩ := k_inj h
    exact kri C hS hP dX8_forged_55
  · have h := k_f c_1 h
    refine lv_iload_n hx hb dX8_forged_12 rfl (lv_at hl 1 rfl) ?_
    refine lv_aload_n hx hb dX8_forged_13 rfl (lv_at hl 0 rfl) ?_
    refine lv_aload_n hx hb dX8_forged_14 rfl (lv_at hl 0 rfl) ?_
    refine gf_27_15 C hP w_690 dX8_forged_15 ?_
    refine lv_iconst (v := (2 : Int32)) hx hb dX8_forged_18 (by decide) ?_
    refine lv_iload_n hx hb dX8_forged_19 rfl (lv_at hl 2 rfl) ?_
    refine lv_imul hx hb dX8_forged_20 ?_
    obtain ⟨n_2, h⟩ := k_no h
    refine al_37 C hP (v := (kA σ 7 ((2 : Int32) * x2).toNatClampNeg)) rfl n_2 dX8_forged_21 ?_
    refine lv_i2l (v := (kA σ 7 ((2 : Int32) * x2).toNatClampNeg).toInt64) hx hb dX8_forged_22 rfl ?_
    obtain ⟨v_3, σ_4, hc_5, h⟩ := kb_ok h
    refine kci (krunV (As := [.long (kA σ 7 ((2 : Int32) * x2).toNatClampNeg).toInt64]) C hP (c_X8_ruler E C.1 F σ (kA σ 7 ((2 : Int32) * x2).toNatClampNeg).toInt64 hc_5) w_795 kv_X8_ruler ⟨Nat.le_of_ble_eq_true rfl, Nat.le_of_ble_eq_true rfl⟩ (rc_27 C hP) rfl hl.1 rfl (Nat.le_of_ble_eq_true rfl) dX8_forged_23) hS (fun H locs hP hS => ?_)
    refine lv_aload_n hx hb dX8_forged_26 rfl (lv_at hl 0 rfl) ?_
    refine gf_27_15 C hP w_690 dX8_forged_27 ?_
    refine lv_iconst (v := (2 : Int32)) hx hb dX8_forged_30 (by decide) ?_
    refine lv_iload_n hx hb dX8_forged_31 rfl (lv_at hl 2 rfl) ?_
    refine lv_imul hx hb dX8_forged_32 ?_
    refine lv_iconst (v := (1 : Int32)) hx hb dX8_forged_33 (by decide) ?_
    refine lv_iadd hx hb dX8_forged_34 ?_
    obtain ⟨n_6, h⟩ := k_no h
    refine al_37 C hP (v := (kA σ_4 7 (((2 : Int32) * x2) + (1 : Int32)).toNatClampNeg)) rfl n_6 dX8_forged_35 ?_
    refine lv_icmp_ne (tgt := 43) hx hb dX8_forged_36 (by decide) (fun c_7 => ?_) (fun c_7 => ?_)
    · have h := k_f c_7 h
      refine lv_iconst (v := (1 : Int32)) hx hb dX8_forged_43 (by decide) ?_
      refine lv_iload_n hx hb dX8_forged_44 rfl (lv_at hl 2 rfl) ?_
      refine lv_ishl hx hb dX8_forged_45 ?_
      exact w_X8_forged_46 C F rec4 hrec4 σ_4 x2 ((1 : Int32) <<< (x2 &&& 31)) x1 h H locs hP hS ls (lv_sub hl [0, 2] rfl)
    · have h := k_t c_7 h
      refine lv_iconst (v := (0 : Int32)) hx hb dX8_forged_39 (by decide) ?_
      refine lv_goto (tgt := 46) hx hb dX8_forged_40 (by decide) ?_
      exact w_X8_forged_46 C F rec4 hrec4 σ_4 x2 (0 : Int32) x1 h H locs hP hS ls (lv_sub hl [0, 2] rfl)
def f_X8_forged_4 (F : Nat) : kS × Int32 × Int32 → Option (Int32 × kS) := itr (fun rec4 q => s_X8_forged_4 F rec4 q.1 q.2.1 q.2.2) F
theorem wf_X8_forged_4 (C : Cx E p s m args meth c cX8_forged 3 RX8 (some .int)) (F : Nat) (σ : kS) (x1 : Int32) (x2 : Int32) (h : f_X8_forged_4 F (σ, x1, x2) = some (r, σr)) (H : Heap) (locs : List Loc) (hP : mP E σ H) (hS : va_S (inM E) s.heap H locs) (ls : Array Slot) (hl : lv_has ls 3 [(0, .ref (eA E 27)), (1, .int x1), (2, .int x2)]) : W p l e (kR 1 30) s m args below meth c H locs 0 0 (MQ below (kQi (mP E) (inM E) r σr) args s 0 0 (inM E)) (F0 m 4 ls []) :=
  itr_ok (r := (r, σr)) (G := fun q => ∀ (H : Heap) (locs : List Loc), mP E q.1 H → va_S (inM E) s.heap H locs → ∀ (ls : Array Slot), lv_has ls 3 [(0, .ref (eA E 27)), (1, .int (q.2.1)), (2, .int (q.2.2))] → W p l e (kR 1 30) s m args below meth c H locs 0 0 (MQ below (kQi (mP E) (inM E) r σr) args s 0 0 (inM E)) (F0 m 4 ls [])) (fun rec4 hrec4 q h => w_X8_forged_4 C F rec4 (fun σ x1 x2 => hrec4 (σ, x1, x2)) q.1 q.2.1 q.2.2 h) F (σ, x1, x2) h H locs hP hS ls hl
def s_X8_forged_0 (F : Nat) (σ : kS) : Option (Int32 × kS) :=
  f_X8_forged_4 F (σ, (0 : Int32), (0 : Int32))
set_option maxRecDepth 100000 in
set_option maxHeartbeats 4000000 in
theorem w_X8_forged_0 (C : Cx E p s m args meth c cX8_forged 3 RX8 (some .int)) (F : Nat) (σ : kS) (h : s_X8_forged_0 F σ = some (r, σr)) (H : Heap) (locs : List Loc) (hP : mP E σ H) (hS : va_S (inM E) s.heap H locs) (ls : Array Slot) (hl : lv_has ls 3 [(0, .ref (eA E 27))]) : W p l e (kR 1 30) s m args below meth c H locs 0 0 (MQ below (kQi (mP E) (inM E) r σr) args s 0 0 (inM E)) (F0 m 0 ls []) := by
  obtain ⟨-, hx, hb, hml, hown, hts, hK, -, -⟩ := id C
  unfold s_X8_forged_0 at h
  refine lv_iconst (v := (0 : Int32)) hx hb dX8_forged_0 (by decide) ?_
  refine lv_istore_n (lv' := [(1, .int (0 : Int32)), (0, .ref (eA E 27))]) hx hb dX8_forged_1 rfl hl (by decide) rfl (fun ls hl => ?_)
  refine lv_iconst (v := (0 : Int32)) hx hb dX8_forged_2 (by decide) ?_
  refine lv_istore_n (lv' := [(2, .int (0 : Int32)), (1, .int (0 : Int32)), (0, .ref (eA E 27))]) hx hb dX8_forged_3 rfl hl (by decide) rfl (fun ls hl => ?_)
  exact wf_X8_forged_4 C F σ (0 : Int32) (0 : Int32) h H locs hP hS ls (lv_sub hl [2, 1, 0] rfl)
def f_X8_forged (F : Nat) (σ : kS) : Option (Int32 × kS) := s_X8_forged_0 F σ
set_option maxRecDepth 100000 in
theorem c_X8_forged (E : kE) (hE : kap E) (F : Nat) (σ : kS) (h : f_X8_forged F σ = some (r, σr)) : Met l yX8_forged (kWs yX8_forged cX8_forged 3 (some .int)) (kR 1 30) (kPre (mP E) E [.ref (eA E 27)] σ) (kQi (mP E) (inM E) r σr) 0 0 (inM E) :=
  kst hE (by decide +kernel) (Nat.le_of_ble_eq_true rfl) (fun p e s m below meth c ls C hP hl => w_X8_forged_0 C F σ h s.heap [] hP va_S.rf ls hl)
end

section
variable {p : Program} {l : Launch} {e : Env} {s : State} {m : MethodId} {args : Array Value} {below : List Frame} {meth : Method} {c : Code} {E : kE} {σr : kS}
variable {r : Int32}
def s_X8_so_61 (F : Nat) (rec4 : (kS × Int32 × Int32 × Int32 → Option (Int32 × kS))) (σ : kS) (x1 : Int32) (x3 : Int32) (y0 : Int32) (y1 : Int32) : Option (Int32 × kS) :=
  rec4 (σ, x1, (y1 + y0), (x3 + (1 : Int32)))
set_option maxRecDepth 100000 in
set_option maxHeartbeats 4000000 in
theorem w_X8_so_61 (C : Cx E p s m args meth c cX8_so 6 RX8 (some .int)) (F : Nat) (rec4 : (kS × Int32 × Int32 × Int32 → Option (Int32 × kS))) (hrec4 : ∀ (σ : kS) (x1 : Int32) (x2 : Int32) (x3 : Int32), rec4 (σ, x1, x2, x3) = some (r, σr) → ∀ (H : Heap) (locs : List Loc), mP E σ H → va_S (inM E) s.heap H locs → ∀ (ls : Array Slot), lv_has ls 6 [(0, .ref (eA E 27)), (1, .int x1), (2, .int x2), (3, .int x3)] → W p l e (kR 1 30) s m args below meth c H locs 0 0 (MQ below (kQi (mP E) (inM E) r σr) args s 0 0 (inM E)) (F0 m 4 ls [])) (σ : kS) (x1 : Int32) (x3 : Int32) (y0 : Int32) (y1 : Int32) (h : s_X8_so_61 F rec4 σ x1 x3 y0 y1 = some (r, σr)) (H : Heap) (locs : List Loc) (hP : mP E σ H) (hS : va_S (inM E) s.heap H locs) (ls : Array Slot) (hl : lv_has ls 6 [(0, .ref (eA E 27)), (1, .int x1), (3, .int x3)]) : W p l e (kR 1 30) s m args below meth c H locs 0 0 (MQ below (kQi (mP E) (inM E) r σr) args s 0 0 (inM E)) (F0 m 61 ls [.int y0, .int y1]) := by
  obtain ⟨-, hx, hb, hml, hown, hts, hK, -, -⟩ := id C
  unfold s_X8_so_61 at h
  refine lv_iadd hx hb dX8_so_61 ?_
  refine lv_istore_n (lv' := [(2, .int (y1 + y0)), (0, .ref (eA E 27)), (1, .int x1), (3, .int x3)]) hx hb dX8_so_62 rfl hl (by decide) rfl (fun ls hl => ?_)
  refine lv_iinc (v := (x3 + (1 : Int32))) (lv' := [(3, .int (x3 + (1 : Int32))), (2, .int (y1 + y0)), (0, .ref (eA E 27)), (1, .int x1)]) hx hb dX8_so_63 hl (k := 3) rfl rfl (by decide) rfl (fun ls hl => ?_)
  refine lv_goto (tgt := 4) hx hb dX8_so_66 (by decide) ?_
  exact hrec4 σ x1 (y1 + y0) (x3 + (1 : Int32)) h H locs hP hS ls (lv_sub hl [2, 3, 1, 0] rfl)
def s_X8_so_40 (F : Nat) (rec4 : (kS × Int32 × Int32 × Int32 → Option (Int32 × kS))) (σ : kS) (x1 : Int32) (x3 : Int32) (y0 : Int64) (y2 : Int32) : Option (Int32 × kS) :=
  (kb (f_X8_ruler F σ y0) fun v_1 σ_2 => (if (((2 : Int32) * x3) + (1 : Int32)) < 0 ∨ 20 ≤ (((2 : Int32) * x3) + (1 : Int32)).toNatClampNeg then none else (if v_1 = (kA σ_2 7 (((2 : Int32) * x3) + (1 : Int32)).toNatClampNeg) then s_X8_so_61 F rec4 σ_2 x1 x3 (1 : Int32) y2 else s_X8_so_61 F rec4 σ_2 x1 x3 (0 : Int32) y2)))
set_option maxRecDepth 100000 in
set_option maxHeartbeats 4000000 in
theorem w_X8_so_40 (C : Cx E p s m args meth c cX8_so 6 RX8 (some .int)) (F : Nat) (rec4 : (kS × Int32 × Int32 × Int32 → Option (Int32 × kS))) (hrec4 : ∀ (σ : kS) (x1 : Int32) (x2 : Int32) (x3 : Int32), rec4 (σ, x1, x2, x3) = some (r, σr) → ∀ (H : Heap) (locs : List Loc), mP E σ H → va_S (inM E) s.heap H locs → ∀ (ls : Array Slot), lv_has ls 6 [(0, .ref (eA E 27)), (1, .int x1), (2, .int x2), (3, .int x3)] → W p l e (kR 1 30) s m args below meth c H locs 0 0 (MQ below (kQi (mP E) (inM E) r σr) args s 0 0 (inM E)) (F0 m 4 ls [])) (σ : kS) (x1 : Int32) (x3 : Int32) (y0 : Int64) (y2 : Int32) (h : s_X8_so_40 F rec4 σ x1 x3 y0 y2 = some (r, σr)) (H : Heap) (locs : List Loc) (hP : mP E σ H) (hS : va_S (inM E) s.heap H locs) (ls : Array Slot) (hl : lv_has ls 6 [(0, .ref (eA E 27)), (1, .int x1), (3, .int x3)]) : W p l e (kR 1 30) s m args below meth c H locs 0 0 (MQ below (kQi (mP E) (inM E) r σr) args s 0 0 (inM E)) (F0 m 40 ls [.long y0, .ref (eA E 27), .int y2]) := by
  obtain ⟨-, hx, hb, hml, hown, hts, hK, -, -⟩ := id C
  unfold s_X8_so_40 at h
  obtain ⟨v_1, σ_2, hc_3, h⟩ := kb_ok h
  refine kci (krunV (As := [.long y0]) C hP (c_X8_ruler E C.1 F σ y0 hc_3) w_795 kv_X8_ruler ⟨Nat.le_of_ble_eq_true rfl, Nat.le_of_ble_eq_true rfl⟩ (rc_27 C hP) rfl hl.1 rfl (Nat.le_of_ble_eq_true rfl) dX8_so_40) hS (fun H locs hP hS => ?_)
  refine lv_aload_n hx hb dX8_so_43 rfl (lv_at hl 0 rfl) ?_
  refine gf_27_15 C hP w_690 dX8_so_44 ?_
  refine lv_iconst (v := (2 : Int32)) hx hb dX8_so_47 (by decide) ?_
  refine lv_iload_n hx hb dX8_so_48 rfl (lv_at hl 2 rfl) ?_
  refine lv_imul hx hb dX8_so_49 ?_
  refine lv_iconst (v := (1 : Int32)) hx hb dX8_so_50 (by decide) ?_
  refine lv_iadd hx hb dX8_so_51 ?_
  obtain ⟨n_4, h⟩ := k_no h
  refine al_37 C hP (v := (kA σ_2 7 (((2 : Int32) * x3) + (1 : Int32)).toNatClampNeg)) rfl n_4 dX8_so_52 ?_
  refine lv_icmp_ne (tgt := 60) hx hb dX8_so_53 (by decide) (fun c_5 => ?_) (fun c_5 => ?_)
  · have h := k_f c_5 h
    refine lv_iconst (v := (0 : Int32)) hx hb dX8_so_60 (by decide) ?_
    exact w_X8_so_61 C F rec4 hrec4 σ_2 x1 x3 (0 : Int32) y2 h H locs hP hS ls hl
  · have h := k_t c_5 h
    refine lv_iconst (v := (1 : Int32)) hx hb dX8_so_56 (by decide) ?_
    refine lv_goto (tgt := 61) hx hb dX8_so_57 (by decide) ?_
    exact w_X8_so_61 C F rec4 hrec4 σ_2 x1 x3 (1 : Int32) y2 h H locs hP hS ls hl
def s_X8_so_4 (F : Nat) (rec4 : (kS × Int32 × Int32 × Int32 → Option (Int32 × kS))) (σ : kS) (x1 : Int32) (x2 : Int32) (x3 : Int32) : Option (Int32 × kS) :=
  (if (kI σ 5) ≤ x3 then some (x2, σ) else (if ((2 : Int32) * x3) < 0 ∨ 20 ≤ ((2 : Int32) * x3).toNatClampNeg then none else (kn ((kA σ 7 ((2 : Int32) * x3).toNatClampNeg) + x1).toInt64 (fun x4_3 => (if 0 ≤ (lg_cmp x4_3 (0 : Int64)) then s_X8_so_40 F rec4 σ x1 x3 x4_3 x2 else s_X8_so_40 F rec4 σ x1 x3 (0 : Int64) x2)))))
set_option maxRecDepth 100000 in
set_option maxHeartbeats 4000000 in
theorem w_X8_so_4 (C : Cx E p s m args meth c cX8_so 6 RX8 (some .int)) (F : Nat) (rec4 : (kS × Int32 × Int32 × Int32 → Option (Int32 × kS))) (hrec4 : ∀ (σ : kS) (x1 : Int32) (x2 : Int32) (x3 : Int32), rec4 (σ, x1, x2, x3) = some (r, σr) → ∀ (H : Heap) (locs : List Loc), mP E σ H → va_S (inM E) s.heap H locs → ∀ (ls : Array Slot), lv_has ls 6 [(0, .ref (eA E 27)), (1, .int x1), (2, .int x2), (3, .int x3)] → W p l e (kR 1 30) s m args below meth c H locs 0 0 (MQ below (kQi (mP E) (inM E) r σr) args s 0 0 (inM E)) (F0 m 4 ls [])) (σ : kS) (x1 : Int32) (x2 : Int32) (x3 : Int32) (h : s_X8_so_4 F rec4 σ x1 x2 x3 = some (r, σr)) (H : Heap) (locs : List Loc) (hP : mP E σ H) (hS : va_S (inM E) s.heap H locs) (ls : Array Slot) (hl : lv_has ls 6 [(0, .ref (eA E 27)), (1, .int x1), (2, .int x2), (3, .int x3)]) : W p l e (kR 1 30) s m args below meth c H locs 0 0 (MQ below (kQi (mP E) (inM E) r σr) args s 0 0 (inM E)) (F0 m 4 ls []) := by
  obtain ⟨-, hx, hb, hml, hown, hts, hK, -, -⟩ := id C
  unfold s_X8_so_4 at h
  refine lv_iload_n hx hb dX8_so_4 rfl (lv_at hl 3 rfl) ?_
  refine lv_aload_n hx hb dX8_so_5 rfl (lv_at hl 0 rfl) ?_
  refine gf_27_14 C hP (v := (kI σ 5)) rfl w_689 dX8_so_6 ?_
  refine lv_icmp_ge (tgt := 69) hx hb dX8_so_9 (by decide) (fun c_1 => ?_) (fun c_1 => ?_)
  · have h := k_t c_1 h
    refine lv_iload_n hx hb dX8_so_69 rfl (lv_at hl 2 rfl) ?_
    obtain ⟨rfl, rfl⟩ := k_inj h
    exact kri C hS hP dX8_so_70
  · have h := k_f c_1 h
    refine lv_aload_n hx hb dX8_so_12 rfl (lv_at hl 0 rfl) ?_
    refine gf_27_15 C hP w_690 dX8_so_13 ?_
    refine lv_iconst (v := (2 : Int32)) hx hb dX8_so_16 (by decide) ?_
    refine lv_iload_n hx hb dX8_so_17 rfl (lv_at hl 3 rfl) ?_
    refine lv_imul hx hb dX8_so_18 ?_
    obtain ⟨n_2, h⟩ := k_no h
    refine al_37 C hP (v := (kA σ 7 ((2 : Int32) * x3).toNatClampNeg)) rfl n_2 dX8_so_19 ?_
    refine lv_iload_n hx hb dX8_so_20 rfl (lv_at hl 1 rfl) ?_
    refine lv_iadd hx hb dX8_so_21 ?_
    refine lv_i2l (v := ((kA σ 7 ((2 : Int32) * x3).toNatClampNeg) + x1).toInt64) hx hb dX8_so_22 rfl ?_
    refine lv_topl (fun x4_3 ex4_3 => ?_)
    have h := kn_to ex4_3 h
    refine lv_lstore (lv' := [(4, .long x4_3), (0, .ref (eA E 27)), (1, .int x1), (2, .int x2), (3, .int x3)]) hx hb dX8_so_23 hl (by decide) rfl (fun ls hl => ?_)
    refine lv_iload_n hx hb dX8_so_25 rfl (lv_at hl 3 rfl) ?_
    refine lv_aload_n hx hb dX8_so_26 rfl (lv_at hl 1 rfl) ?_
    refine lv_lload hx hb dX8_so_27 (lv_at hl 0 rfl) ?_
    refine lv_lconst (v := (0 : Int64)) hx hb dX8_so_29 (by decide) ?_
    refine W.lcmp hx hb dX8_so_30 ?_
    refine lv_if_ge (tgt := 38) hx hb dX8_so_31 (by decide) (fun c_4 => ?_) (fun c_4 => ?_)
    · have h := k_t c_4 h
      refine lv_lload hx hb dX8_so_38 (lv_at hl 0 rfl) ?_
      exact w_X8_so_40 C F rec4 hrec4 σ x1 x3 x4_3 x2 h H locs hP hS ls (lv_sub hl [1, 2, 4] rfl)
    · have h := k_f c_4 h
      refine lv_lconst (v := (0 : Int64)) hx hb dX8_so_34 (by decide) ?_
      refine lv_goto (tgt := 40) hx hb dX8_so_35 (by decide) ?_
      exact w_X8_so_40 C F rec4 hrec4 σ x1 x3 (0 : Int64) x2 h H locs hP hS ls (lv_sub hl [1, 2, 4] rfl)
def f_X8_so_4 (F : Nat) : kS × Int32 × Int32 × Int32 → Option (Int32 × kS) := itr (fun rec4 q => s_X8_so_4 F rec4 q.1 q.2.1 q.2.2.1 q.2.2.2) F
theorem wf_X8_so_4 (C : Cx E p s m args meth c cX8_so 6 RX8 (some .int)) (F : Nat) (σ : kS) (x1 : Int32) (x2 : Int32) (x3 : Int32) (h : f_X8_so_4 F (σ, x1, x2, x3) = some (r, σr)) (H : Heap) (locs : List Loc) (hP : mP E σ H) (hS : va_S (inM E) s.heap H locs) (ls : Array Slot) (hl : lv_has ls 6 [(0, .ref (eA E 27)), (1, .int x1), (2, .int x2), (3, .int x3)]) : W p l e (kR 1 30) s m args below meth c H locs 0 0 (MQ below (kQi (mP E) (inM E) r σr) args s 0 0 (inM E)) (F0 m 4 ls []) :=
  itr_ok (r := (r, σr)) (G := fun q => ∀ (H : Heap) (locs : List Loc), mP E q.1 H → va_S (inM E) s.heap H locs → ∀ (ls : Array Slot), lv_has ls 6 [(0, .ref (eA E 27)), (1, .int (q.2.1)), (2, .int (q.2.2.1)), (3, .int (q.2.2.2))] → W p l e (kR 1 30) s m args below meth c H locs 0 0 (MQ below (kQi (mP E) (inM E) r σr) args s 0 0 (inM E)) (F0 m 4 ls [])) (fun rec4 hrec4 q h => w_X8_so_4 C F rec4 (fun σ x1 x2 x3 => hrec4 (σ, x1, x2, x3)) q.1 q.2.1 q.2.2.1 q.2.2.2 h) F (σ, x1, x2, x3) h H locs hP hS ls hl
def s_X8_so_0 (F : Nat) (σ : kS) (x1 : Int32) : Option (Int32 × kS) :=
  f_X8_so_4 F (σ, x1, (0 : Int32), (0 : Int32))
set_option maxRecDepth 100000 in
set_option maxHeartbeats 4000000 in
theorem w_X8_so_0 (C : Cx E p s m args meth c cX8_so 6 RX8 (some .int)) (F : Nat) (σ : kS) (x1 : Int32) (h : s_X8_so_0 F σ x1 = some (r, σr)) (H : Heap) (locs : List Loc) (hP : mP E σ H) (hS : va_S (inM E) s.heap H locs) (ls : Array Slot) (hl : lv_has ls 6 [(0, .ref (eA E 27)), (1, .int x1)]) : W p l e (kR 1 30) s m args below meth c H locs 0 0 (MQ below (kQi (mP E) (inM E) r σr) args s 0 0 (inM E)) (F0 m 0 ls []) := by
  obtain ⟨-, hx, hb, hml, hown, hts, hK, -, -⟩ := id C
  unfold s_X8_so_0 at h
  refine lv_iconst (v := (0 : Int32)) hx hb dX8_so_0 (by decide) ?_
  refine lv_istore_n (lv' := [(2, .int (0 : Int32)), (0, .ref (eA E 27)), (1, .int x1)]) hx hb dX8_so_1 rfl hl (by decide) rfl (fun ls hl => ?_)
  refine lv_iconst (v := (0 : Int32)) hx hb dX8_so_2 (by decide) ?_
  refine lv_istore_n (lv' := [(3, .int (0 : Int32)), (2, .int (0 : Int32)), (0, .ref (eA E 27)), (1, .int x1)]) hx hb dX8_so_3 rfl hl (by decide) rfl (fun ls hl => ?_)
  exact wf_X8_so_4 C F σ x1 (0 : Int32) (0 : Int32) h H locs hP hS ls (lv_sub hl [2, 3, 1, 0] rfl)
def f_X8_so (F : Nat) (σ : kS) (x1 : Int32) : Option (Int32 × kS) := s_X8_so_0 F σ x1
set_option maxRecDepth 100000 in
theorem c_X8_so (E : kE) (hE : kap E) (F : Nat) (σ : kS) (x1 : Int32) (h : f_X8_so F σ x1 = some (r, σr)) : Met l yX8_so (kWs yX8_so cX8_so 6 (some .int)) (kR 1 30) (kPre (mP E) E [.ref (eA E 27), .int x1] σ) (kQi (mP E) (inM E) r σr) 0 0 (inM E) :=
  kst hE (by decide +kernel) (Nat.le_of_ble_eq_true rfl) (fun p e s m below meth c ls C hP hl => w_X8_so_0 C F σ x1 h s.heap [] hP va_S.rf ls hl)
end

section
variable {p : Program} {l : Launch} {e : Env} {s : State} {m : MethodId} {args : Array Value} {below : List Frame} {meth : Method} {c : Code} {E : kE} {σr : kS}
variable {r : Int32}
def s_X8_shift_83 (F : Nat) (rec25 : (kS × Int32 × Int32 × Int32 → Option (Int32 × kS))) (rec34 : (kS × Int32 × Int32 × Int32 × Int32 → Option (Int32 × kS))) (σ : kS) (x1 : Int32) (x3 : Int32) (x4 : Int32) (y0 : Int32) : Option (Int32 × kS) :=
  rec34 (σ, x1, y0, x3, (x4 + (2 : Int32)))
set_option maxRecDepth 100000 in
set_option maxHeartbeats 4000000 in
theorem w_X8_shift_83 (C : Cx E p s m args meth c cX8_shift 6 RX8 (some .int)) (F : Nat) (rec25 : (kS × Int32 × Int32 × Int32 → Option (Int32 × kS))) (hrec25 : ∀ (σ : kS) (x1 : Int32) (x2 : Int32) (x3 : Int32), rec25 (σ, x1, x2, x3) = some (r, σr) → ∀ (H : Heap) (locs : List Loc), mP E σ H → va_S (inM E) s.heap H locs → ∀ (ls : Array Slot), lv_has ls 6 [(0, .ref (eA E 27)), (1, .int x1), (2, .int x2), (3, .int x3)] → W p l e (kR 2 55) s m args below meth c H locs 0 0 (MQ below (kQi (mP E) (inM E) r σr) args s 0 0 (inM E)) (F0 m 25 ls [])) (rec34 : (kS × Int32 × Int32 × Int32 × Int32 → Option (Int32 × kS))) (hrec34 : ∀ (σ : kS) (x1 : Int32) (x2 : Int32) (x3 : Int32) (x4 : Int32), rec34 (σ, x1, x2, x3, x4) = some (r, σr) → ∀ (H : Heap) (locs : List Loc), mP E σ H → va_S (inM E) s.heap H locs → ∀ (ls : Array Slot), lv_has ls 6 [(0, .ref (eA E 27)), (1, .int x1), (2, .int x2), (3, .int x3), (4, .int x4)] → W p l e (kR 2 55) s m args below meth c H locs 0 0 (MQ below (kQi (mP E) (inM E) r σr) args s 0 0 (inM E)) (F0 m 34 ls [])) (σ : kS) (x1 : Int32) (x3 : Int32) (x4 : Int32) (y0 : Int32) (h : s_X8_shift_83 F rec25 rec34 σ x1 x3 x4 y0 = some (r, σr)) (H : Heap) (locs : List Loc) (hP : mP E σ H) (hS : va_S (inM E) s.heap H locs) (ls : Array Slot) (hl : lv_has ls 6 [(0, .ref (eA E 27)), (1, .int x1), (3, .int x3), (4, .int x4)]) : W p l e (kR 2 55) s m args below meth c H locs 0 0 (MQ below (kQi (mP E) (inM E) r σr) args s 0 0 (inM E)) (F0 m 83 ls [.int y0]) := by
  obtain ⟨-, hx, hb, hml, hown, hts, hK, -, -⟩ := id C
  unfold s_X8_shift_83 at h
  refine lv_istore_n (lv' := [(2, .int y0), (0, .ref (eA E 27)), (1, .int x1), (3, .int x3), (4, .int x4)]) hx hb dX8_shift_83 rfl hl (by decide) rfl (fun ls hl => ?_)
  refine lv_iinc (v := (x4 + (2 : Int32))) (lv' := [(4, .int (x4 + (2 : Int32))), (2, .int y0), (0, .ref (eA E 27)), (1, .int x1), (3, .int x3)]) hx hb dX8_shift_84 hl (k := 4) rfl rfl (by decide) rfl (fun ls hl => ?_)
  refine lv_goto (tgt := 34) hx hb dX8_shift_87 (by decide) ?_
  exact hrec34 σ x1 y0 x3 (x4 + (2 : Int32)) h H locs hP hS ls (lv_sub hl [2, 3, 1, 4, 0] rfl)
def s_X8_shift_68 (F : Nat) (rec25 : (kS × Int32 × Int32 × Int32 → Option (Int32 × kS))) (rec34 : (kS × Int32 × Int32 × Int32 × Int32 → Option (Int32 × kS))) (σ : kS) (x1 : Int32) (x2 : Int32) (x3 : Int32) (x4 : Int32) (x5 : Int32) (y0 : Int32) : Option (Int32 × kS) :=
  (if x5 ≤ x2 then s_X8_shift_83 F rec25 rec34 (jI σ 6 y0) x1 x3 x4 x2 else s_X8_shift_83 F rec25 rec34 (jI σ 6 y0) x1 x3 x4 x5)
set_option maxRecDepth 100000 in
set_option maxHeartbeats 4000000 in
theorem w_X8_shift_68 (C : Cx E p s m args meth c cX8_shift 6 RX8 (some .int)) (F : Nat) (rec25 : (kS × Int32 × Int32 × Int32 → Option (Int32 × kS))) (hrec25 : ∀ (σ : kS) (x1 : Int32) (x2 : Int32) (x3 : Int32), rec25 (σ, x1, x2, x3) = some (r, σr) → ∀ (H : Heap) (locs : List Loc), mP E σ H → va_S (inM E) s.heap H locs → ∀ (ls : Array Slot), lv_has ls 6 [(0, .ref (eA E 27)), (1, .int x1), (2, .int x2), (3, .int x3)] → W p l e (kR 2 55) s m args below meth c H locs 0 0 (MQ below (kQi (mP E) (inM E) r σr) args s 0 0 (inM E)) (F0 m 25 ls [])) (rec34 : (kS × Int32 × Int32 × Int32 × Int32 → Option (Int32 × kS))) (hrec34 : ∀ (σ : kS) (x1 : Int32) (x2 : Int32) (x3 : Int32) (x4 : Int32), rec34 (σ, x1, x2, x3, x4) = some (r, σr) → ∀ (H : Heap) (locs : List Loc), mP E σ H → va_S (inM E) s.heap H locs → ∀ (ls : Array Slot), lv_has ls 6 [(0, .ref (eA E 27)), (1, .int x1), (2, .int x2), (3, .int x3), (4, .int x4)] → W p l e (kR 2 55) s m args below meth c H locs 0 0 (MQ below (kQi (mP E) (inM E) r σr) args s 0 0 (inM E)) (F0 m 34 ls [])) (σ : kS) (x1 : Int32) (x2 : Int32) (x3 : Int32) (x4 : Int32) (x5 : Int32) (y0 : Int32) (h : s_X8_shift_68 F rec25 rec34 σ x1 x2 x3 x4 x5 y0 = some (r, σr)) (H : Heap) (locs : List Loc) (hP : mP E σ H) (hS : va_S (inM E) s.heap H locs) (ls : Array Slot) (hl : lv_has ls 6 [(0, .ref (eA E 27)), (1, .int x1), (2, .int x2), (3, .int x3), (4, .int x4), (5, .int x5)]) : W p l e (kR 2 55) s m args below meth c H locs 0 0 (MQ below (kQi (mP E) (inM E) r σr) args s 0 0 (inM E)) (F0 m 68 ls [.int y0, .ref (eA E 27)]) := by
  obtain ⟨-, hx, hb, hml, hown, hts, hK, -, -⟩ := id C
  unfold s_X8_shift_68 at h
  refine pf_27_16 C hP hS w_691 dX8_shift_68 (fun H locs hP hS => ?_)
  refine lv_iload hx hb dX8_shift_71 (lv_at hl 5 rfl) ?_
  refine lv_iload_n hx hb dX8_shift_73 rfl (lv_at hl 2 rfl) ?_
  refine lv_icmp_le (tgt := 82) hx hb dX8_shift_74 (by decide) (fun c_1 => ?_) (fun c_1 => ?_)
  · have h := k_t c_1 h
    refine lv_iload_n hx hb dX8_shift_82 rfl (lv_at hl 2 rfl) ?_
    exact w_X8_shift_83 C F rec25 hrec25 rec34 hrec34 (jI σ 6 y0) x1 x3 x4 x2 h H locs hP hS ls (lv_sub hl [0, 1, 3, 4] rfl)
  · have h := k_f c_1 h
    refine lv_iload hx hb dX8_shift_77 (lv_at hl 5 rfl) ?_
    refine lv_goto (tgt := 83) hx hb dX8_shift_79 (by decide) ?_
    exact w_X8_shift_83 C F rec25 hrec25 rec34 hrec34 (jI σ 6 y0) x1 x3 x4 x5 h H locs hP hS ls (lv_sub hl [0, 1, 3, 4] rfl)
def s_X8_shift_34 (F : Nat) (rec25 : (kS × Int32 × Int32 × Int32 → Option (Int32 × kS))) (rec34 : (kS × Int32 × Int32 × Int32 × Int32 → Option (Int32 × kS))) (σ : kS) (x1 : Int32) (x2 : Int32) (x3 : Int32) (x4 : Int32) : Option (Int32 × kS) :=
  (if (2 : Int32) ≤ x4 then rec25 (σ, x1, x2, (x3 + (1 : Int32))) else (kb (f_X8_so F σ (x4 * x3)) fun v_2 σ_3 => (if v_2 ≤ x2 then s_X8_shift_68 F rec25 rec34 σ_3 x1 x2 x3 x4 v_2 (kI σ_3 6) else s_X8_shift_68 F rec25 rec34 σ_3 x1 x2 x3 x4 v_2 (x4 * x3))))
set_option maxRecDepth 100000 in
set_option maxHeartbeats 4000000 in
theorem w_X8_shift_34 (C : Cx E p s m args meth c cX8_shift 6 RX8 (some .int)) (F : Nat) (rec25 : (kS × Int32 × Int32 × Int32 → Option (Int32 × kS))) (hrec25 : ∀ (σ : kS) (x1 : Int32) (x2 : Int32) (x3 : Int32), rec25 (σ, x1, x2, x3) = some (r, σr) → ∀ (H : Heap) (locs : List Loc), mP E σ H → va_S (inM E) s.heap H locs → ∀ (ls : Array Slot), lv_has ls 6 [(0, .ref (eA E 27)), (1, .int x1), (2, .int x2), (3, .int x3)] → W p l e (kR 2 55) s m args below meth c H locs 0 0 (MQ below (kQi (mP E) (inM E) r σr) args s 0 0 (inM E)) (F0 m 25 ls [])) (rec34 : (kS × Int32 × Int32 × Int32 × Int32 → Option (Int32 × kS))) (hrec34 : ∀ (σ : kS) (x1 : Int32) (x2 : Int32) (x3 : Int32) (x4 : Int32), rec34 (σ, x1, x2, x3, x4) = some (r, σr) → ∀ (H : Heap) (locs : List Loc), mP E σ H → va_S (inM E) s.heap H locs → ∀ (ls : Array Slot), lv_has ls 6 [(0, .ref (eA E 27)), (1, .int x1), (2, .int x2), (3, .int x3), (4, .int x4)] → W p l e (kR 2 55) s m args below meth c H locs 0 0 (MQ below (kQi (mP E) (inM E) r σr) args s 0 0 (inM E)) (F0 m 34 ls [])) (σ : kS) (x1 : Int32) (x2 : Int32) (x3 : Int32) (x4 : Int32) (h : s_X8_shift_34 F rec25 rec34 σ x1 x2 x3 x4 = some (r, σr)) (H : Heap) (locs : List Loc) (hP : mP E σ H) (hS : va_S (inM E) s.heap H locs) (ls : Array Slot) (hl : lv_has ls 6 [(0, .ref (eA E 27)), (1, .int x1), (2, .int x2), (3, .int x3), (4, .int x4)]) : W p l e (kR 2 55) s m args below meth c H locs 0 0 (MQ below (kQi (mP E) (inM E) r σr) args s 0 0 (inM E)) (F0 m 34 ls []) := by
  obtain ⟨-, hx, hb, hml, hown, hts, hK, -, -⟩ := id C
  unfold s_X8_shift_34 at h
  refine lv_iload hx hb dX8_shift_34 (lv_at hl 4 rfl) ?_
  refine lv_iconst (v := (2 : Int32)) hx hb dX8_shift_36 (by decide) ?_
  refine lv_icmp_ge (tgt := 90) hx hb dX8_shift_37 (by decide) (fun c_1 => ?_) (fun c_1 => ?_)
  · have h := k_t c_1 h
    refine lv_iinc (v := (x3 + (1 : Int32))) (lv' := [(3, .int (x3 + (1 : Int32))), (0, .ref (eA E 27)), (1, .int x1), (2, .int x2), (4, .int x4)]) hx hb dX8_shift_90 hl (k := 3) rfl rfl (by decide) rfl (fun ls hl => ?_)
    refine lv_goto (tgt := 25) hx hb dX8_shift_93 (by decide) ?_
    exact hrec25 σ x1 x2 (x3 + (1 : Int32)) h H locs hP hS ls (lv_sub hl [1, 2, 3, 0] rfl)
  · have h := k_f c_1 h
    refine lv_aload_n hx hb dX8_shift_40 rfl (lv_at hl 0 rfl) ?_
    refine lv_iload hx hb dX8_shift_41 (lv_at hl 4 rfl) ?_
    refine lv_iload_n hx hb dX8_shift_43 rfl (lv_at hl 3 rfl) ?_
    refine lv_imul hx hb dX8_shift_44 ?_
    obtain ⟨v_2, σ_3, hc_4, h⟩ := kb_ok h
    refine kci (krunV (As := [.int (x4 * x3)]) C hP (c_X8_so E C.1 F σ (x4 * x3) hc_4) w_932 kv_X8_so ⟨Nat.le_of_ble_eq_true rfl, Nat.le_of_ble_eq_true rfl⟩ (rc_27 C hP) rfl hl.1 rfl (Nat.le_of_ble_eq_true rfl) dX8_shift_45) hS (fun H locs hP hS => ?_)
    refine lv_istore (lv' := [(5, .int v_2), (0, .ref (eA E 27)), (1, .int x1), (2, .int x2), (3, .int x3), (4, .int x4)]) hx hb dX8_shift_48 hl (by decide) rfl (fun ls hl => ?_)
    refine lv_aload_n hx hb dX8_shift_50 rfl (lv_at hl 1 rfl) ?_
    refine lv_iload hx hb dX8_shift_51 (lv_at hl 0 rfl) ?_
    refine lv_iload_n hx hb dX8_shift_53 rfl (lv_at hl 3 rfl) ?_
    refine lv_icmp_le (tgt := 64) hx hb dX8_shift_54 (by decide) (fun c_5 => ?_) (fun c_5 => ?_)
    · have h := k_t c_5 h
      refine lv_aload_n hx hb dX8_shift_64 rfl (lv_at hl 1 rfl) ?_
      refine gf_27_16 C hP (v := (kI σ_3 6)) rfl w_691 dX8_shift_65 ?_
      exact w_X8_shift_68 C F rec25 hrec25 rec34 hrec34 σ_3 x1 x2 x3 x4 v_2 (kI σ_3 6) h H locs hP hS ls (lv_sub hl [1, 2, 3, 4, 5, 0] rfl)
    · have h := k_f c_5 h
      refine lv_iload hx hb dX8_shift_57 (lv_at hl 5 rfl) ?_
      refine lv_iload_n hx hb dX8_shift_59 rfl (lv_at hl 4 rfl) ?_
      refine lv_imul hx hb dX8_shift_60 ?_
      refine lv_goto (tgt := 68) hx hb dX8_shift_61 (by decide) ?_
      exact w_X8_shift_68 C F rec25 hrec25 rec34 hrec34 σ_3 x1 x2 x3 x4 v_2 (x4 * x3) h H locs hP hS ls (lv_sub hl [1, 2, 3, 4, 5, 0] rfl)
def f_X8_shift_34 (F : Nat) (rec25 : (kS × Int32 × Int32 × Int32 → Option (Int32 × kS))) : kS × Int32 × Int32 × Int32 × Int32 → Option (Int32 × kS) := itr (fun rec34 q => s_X8_shift_34 F rec25 rec34 q.1 q.2.1 q.2.2.1 q.2.2.2.1 q.2.2.2.2) F
theorem wf_X8_shift_34 (C : Cx E p s m args meth c cX8_shift 6 RX8 (some .int)) (F : Nat) (rec25 : (kS × Int32 × Int32 × Int32 → Option (Int32 × kS))) (hrec25 : ∀ (σ : kS) (x1 : Int32) (x2 : Int32) (x3 : Int32), rec25 (σ, x1, x2, x3) = some (r, σr) → ∀ (H : Heap) (locs : List Loc), mP E σ H → va_S (inM E) s.heap H locs → ∀ (ls : Array Slot), lv_has ls 6 [(0, .ref (eA E 27)), (1, .int x1), (2, .int x2), (3, .int x3)] → W p l e (kR 2 55) s m args below meth c H locs 0 0 (MQ below (kQi (mP E) (inM E) r σr) args s 0 0 (inM E)) (F0 m 25 ls [])) (σ : kS) (x1 : Int32) (x2 : Int32) (x3 : Int32) (x4 : Int32) (h : f_X8_shift_34 F rec25 (σ, x1, x2, x3, x4) = some (r, σr)) (H : Heap) (locs : List Loc) (hP : mP E σ H) (hS : va_S (inM E) s.heap H locs) (ls : Array Slot) (hl : lv_has ls 6 [(0, .ref (eA E 27)), (1, .int x1), (2, .int x2), (3, .int x3), (4, .int x4)]) : W p l e (kR 2 55) s m args below meth c H locs 0 0 (MQ below (kQi (mP E) (inM E) r σr) args s 0 0 (inM E)) (F0 m 34 ls []) :=
  itr_ok (r := (r, σr)) (G := fun q => ∀ (H : Heap) (locs : List Loc), mP E q.1 H → va_S (inM E) s.heap H locs → ∀ (ls : Array Slot), lv_has ls 6 [(0, .ref (eA E 27)), (1, .int (q.2.1)), (2, .int (q.2.2.1)), (3, .int (q.2.2.2.1)), (4, .int (q.2.2.2.2))] → W p l e (kR 2 55) s m args below meth c H locs 0 0 (MQ below (kQi (mP E) (inM E) r σr) args s 0 0 (inM E)) (F0 m 34 ls [])) (fun rec34 hrec34 q h => w_X8_shift_34 C F rec25 hrec25 rec34 (fun σ x1 x2 x3 x4 => hrec34 (σ, x1, x2, x3, x4)) q.1 q.2.1 q.2.2.1 q.2.2.2.1 q.2.2.2.2 h) F (σ, x1, x2, x3, x4) h H locs hP hS ls hl
def s_X8_shift_25 (F : Nat) (rec25 : (kS × Int32 × Int32 × Int32 → Option (Int32 × kS))) (σ : kS) (x1 : Int32) (x2 : Int32) (x3 : Int32) : Option (Int32 × kS) :=
  (if (30 : Int32) < x3 then (if x1 = 0 then some (x2, σ) else some (((kI σ 6) + (30 : Int32)), σ)) else f_X8_shift_34 F rec25 (σ, x1, x2, x3, (-1 : Int32)))
set_option maxRecDepth 100000 in
set_option maxHeartbeats 4000000 in
theorem w_X8_shift_25 (C : Cx E p s m args meth c cX8_shift 6 RX8 (some .int)) (F : Nat) (rec25 : (kS × Int32 × Int32 × Int32 → Option (Int32 × kS))) (hrec25 : ∀ (σ : kS) (x1 : Int32) (x2 : Int32) (x3 : Int32), rec25 (σ, x1, x2, x3) = some (r, σr) → ∀ (H : Heap) (locs : List Loc), mP E σ H → va_S (inM E) s.heap H locs → ∀ (ls : Array Slot), lv_has ls 6 [(0, .ref (eA E 27)), (1, .int x1), (2, .int x2), (3, .int x3)] → W p l e (kR 2 55) s m args below meth c H locs 0 0 (MQ below (kQi (mP E) (inM E) r σr) args s 0 0 (inM E)) (F0 m 25 ls [])) (σ : kS) (x1 : Int32) (x2 : Int32) (x3 : Int32) (h : s_X8_shift_25 F rec25 σ x1 x2 x3 = some (r, σr)) (H : Heap) (locs : List Loc) (hP : mP E σ H) (hS : va_S (inM E) s.heap H locs) (ls : Array Slot) (hl : lv_has ls 6 [(0, .ref (eA E 27)), (1, .int x1), (2, .int x2), (3, .int x3)]) : W p l e (kR 2 55) s m args below meth c H locs 0 0 (MQ below (kQi (mP E) (inM E) r σr) args s 0 0 (inM E)) (F0 m 25 ls []) := by
  obtain ⟨-, hx, hb, hml, hown, hts, hK, -, -⟩ := id C
  unfold s_X8_shift_25 at h
  refine lv_iload_n hx hb dX8_shift_25 rfl (lv_at hl 3 rfl) ?_
  refine lv_bipush (v := (30 : Int32)) hx hb dX8_shift_26 (by decide) ?_
  refine lv_icmp_gt (tgt := 96) hx hb dX8_shift_28 (by decide) (fun c_1 => ?_) (fun c_1 => ?_)
  · have h := k_t c_1 h
    refine lv_iload_n hx hb dX8_shift_96 rfl (lv_at hl 1 rfl) ?_
    refine lv_if_ne (tgt := 104) hx hb dX8_shift_97 (by decide) (fun c_2 => ?_) (fun c_2 => ?_)
    · have h := k_f c_2 h
      refine lv_aload_n hx hb dX8_shift_104 rfl (lv_at hl 0 rfl) ?_
      refine gf_27_16 C hP (v := (kI σ 6)) rfl w_691 dX8_shift_105 ?_
      refine lv_bipush (v := (30 : Int32)) hx hb dX8_shift_108 (by decide) ?_
      refine lv_iadd hx hb dX8_shift_110 ?_
      obtain ⟨rfl, rfl⟩ := k_inj h
      exact kri C hS hP dX8_shift_111
    · have h := k_t c_2 h
      refine lv_iload_n hx hb dX8_shift_100 rfl (lv_at hl 2 rfl) ?_
      refine lv_goto (tgt := 111) hx hb dX8_shift_101 (by decide) ?_
      obtain ⟨rfl, rfl⟩ := k_inj h
      exact kri C hS hP dX8_shift_111
  · have h := k_f c_1 h
    refine lv_iconst (v := (-1 : Int32)) hx hb dX8_shift_31 (by decide) ?_
    refine lv_istore (lv' := [(4, .int (-1 : Int32)), (0, .ref (eA E 27)), (1, .int x1), (2, .int x2), (3, .int x3)]) hx hb dX8_shift_32 hl (by decide) rfl (fun ls hl => ?_)
    exact wf_X8_shift_34 C F rec25 hrec25 σ x1 x2 x3 (-1 : Int32) h H locs hP hS ls (lv_sub hl [1, 2, 3, 4, 0] rfl)
def f_X8_shift_25 (F : Nat) : kS × Int32 × Int32 × Int32 → Option (Int32 × kS) := itr (fun rec25 q => s_X8_shift_25 F rec25 q.1 q.2.1 q.2.2.1 q.2.2.2) F
theorem wf_X8_shift_25 (C : Cx E p s m args meth c cX8_shift 6 RX8 (some .int)) (F : Nat) (σ : kS) (x1 : Int32) (x2 : Int32) (x3 : Int32) (h : f_X8_shift_25 F (σ, x1, x2, x3) = some (r, σr)) (H : Heap) (locs : List Loc) (hP : mP E σ H) (hS : va_S (inM E) s.heap H locs) (ls : Array Slot) (hl : lv_has ls 6 [(0, .ref (eA E 27)), (1, .int x1), (2, .int x2), (3, .int x3)]) : W p l e (kR 2 55) s m args below meth c H locs 0 0 (MQ below (kQi (mP E) (inM E) r σr) args s 0 0 (inM E)) (F0 m 25 ls []) :=
  itr_ok (r := (r, σr)) (G := fun q => ∀ (H : Heap) (locs : List Loc), mP E q.1 H → va_S (inM E) s.heap H locs → ∀ (ls : Array Slot), lv_has ls 6 [(0, .ref (eA E 27)), (1, .int (q.2.1)), (2, .int (q.2.2.1)), (3, .int (q.2.2.2))] → W p l e (kR 2 55) s m args below meth c H locs 0 0 (MQ below (kQi (mP E) (inM E) r σr) args s 0 0 (inM E)) (F0 m 25 ls [])) (fun rec25 hrec25 q h => w_X8_shift_25 C F rec25 (fun σ x1 x2 x3 => hrec25 (σ, x1, x2, x3)) q.1 q.2.1 q.2.2.1 q.2.2.2 h) F (σ, x1, x2, x3) h H locs hP hS ls hl
def s_X8_shift_0 (F : Nat) (σ : kS) (x1 : Int32) : Option (Int32 × kS) :=
  (kb (f_X8_in F σ x1.toInt64 (0 : Int64) (1 : Int64)) fun v_1 σ_2 => (if v_1 = 0 then some ((-1 : Int32), σ_2) else (kb (f_X8_so F σ_2 (0 : Int32)) fun v_5 σ_6 => f_X8_shift_25 F ((jI σ_6 6 (0 : Int32)), x1, v_5, (1 : Int32)))))
set_option maxRecDepth 100000 in
set_option maxHeartbeats 4000000 in
theorem w_X8_shift_0 (C : Cx E p s m args meth c cX8_shift 6 RX8 (some .int)) (F : Nat) (σ : kS) (x1 : Int32) (h : s_X8_shift_0 F σ x1 = some (r, σr)) (H : Heap) (locs : List Loc) (hP : mP E σ H) (hS : va_S (inM E) s.heap H locs) (ls : Array Slot) (hl : lv_has ls 6 [(0, .ref (eA E 27)), (1, .int x1)]) : W p l e (kR 2 55) s m args below meth c H locs 0 0 (MQ below (kQi (mP E) (inM E) r σr) args s 0 0 (inM E)) (F0 m 0 ls []) := by
  obtain ⟨-, hx, hb, hml, hown, hts, hK, -, -⟩ := id C
  unfold s_X8_shift_0 at h
  refine lv_iload_n hx hb dX8_shift_0 rfl (lv_at hl 1 rfl) ?_
  refine lv_i2l (v := x1.toInt64) hx hb dX8_shift_1 rfl ?_
  refine lv_lconst (v := (0 : Int64)) hx hb dX8_shift_2 (by decide) ?_
  refine lv_lconst (v := (1 : Int64)) hx hb dX8_shift_3 (by decide) ?_
  obtain ⟨v_1, σ_2, hc_3, h⟩ := kb_ok h
  refine kci (krunS (As := [.long x1.toInt64, .long (0 : Int64), .long (1 : Int64)]) C hP (c_X8_in E C.1 F σ x1.toInt64 (0 : Int64) (1 : Int64) hc_3) w_735 kt_X8_in ⟨Nat.le_of_ble_eq_true rfl, Nat.le_of_ble_eq_true rfl⟩ rfl hl.1 rfl (Nat.le_of_ble_eq_true rfl) dX8_shift_4) hS (fun H locs hP hS => ?_)
  refine lv_if_ne (tgt := 12) hx hb dX8_shift_7 (by decide) (fun c_4 => ?_) (fun c_4 => ?_)
  · have h := k_f c_4 h
    refine lv_aload_n hx hb dX8_shift_12 rfl (lv_at hl 0 rfl) ?_
    refine lv_iconst (v := (0 : Int32)) hx hb dX8_shift_13 (by decide) ?_
    obtain ⟨v_5, σ_6, hc_7, h⟩ := kb_ok h
    refine kci (krunV (As := [.int (0 : Int32)]) C hP (c_X8_so E C.1 F σ_2 (0 : Int32) hc_7) w_932 kv_X8_so ⟨Nat.le_of_ble_eq_true rfl, Nat.le_of_ble_eq_true rfl⟩ (rc_27 C hP) rfl hl.1 rfl (Nat.le_of_ble_eq_true rfl) dX8_shift_14) hS (fun H locs hP hS => ?_)
    refine lv_istore_n (lv' := [(2, .int v_5), (0, .ref (eA E 27)), (1, .int x1)]) hx hb dX8_shift_17 rfl hl (by decide) rfl (fun ls hl => ?_)
    refine lv_aload_n hx hb dX8_shift_18 rfl (lv_at hl 1 rfl) ?_
    refine lv_iconst (v := (0 : Int32)) hx hb dX8_shift_19 (by decide) ?_
    refine pf_27_16 C hP hS w_691 dX8_shift_20 (fun H locs hP hS => ?_)
    refine lv_iconst (v := (1 : Int32)) hx hb dX8_shift_23 (by decide) ?_
    refine lv_istore_n (lv' := [(3, .int (1 : Int32)), (2, .int v_5), (0, .ref (eA E 27)), (1, .int x1)]) hx hb dX8_shift_24 rfl hl (by decide) rfl (fun ls hl => ?_)
    exact wf_X8_shift_25 C F (jI σ_6 6 (0 : Int32)) x1 v_5 (1 : Int32) h H locs hP hS ls (lv_sub hl [2, 3, 1, 0] rfl)
  · have h := k_t c_4 h
    refine lv_iconst (v := (-1 : Int32)) hx hb dX8_shift_10 (by decide) ?_
    obtain ⟨rfl, rfl⟩ := k_inj h
    exact kri C hS hP dX8_shift_11
def f_X8_shift (F : Nat) (σ : kS) (x1 : Int32) : Option (Int32 × kS) := s_X8_shift_0 F σ x1
set_option maxRecDepth 100000 in
theorem c_X8_shift (E : kE) (hE : kap E) (F : Nat) (σ : kS) (x1 : Int32) (h : f_X8_shift F σ x1 = some (r, σr)) : Met l yX8_shift (kWs yX8_shift cX8_shift 6 (some .int)) (kR 2 55) (kPre (mP E) E [.ref (eA E 27), .int x1] σ) (kQi (mP E) (inM E) r σr) 0 0 (inM E) :=
  kst hE (by decide +kernel) (Nat.le_of_ble_eq_true rfl) (fun p e s m below meth c ls C hP hl => w_X8_shift_0 C F σ x1 h s.heap [] hP va_S.rf ls hl)
end

section
variable {p : Program} {l : Launch} {e : Env} {s : State} {m : MethodId} {args : Array Value} {below : List Frame} {meth : Method} {c : Code} {E : kE} {σr : kS}
variable {r : Int32}
def s_X8_wreck_84 (F : Nat) (rec84 : (kS × Int32 × Int32 × Int32 × Int32 × Int32 → Option (Int32 × kS))) (σ : kS) (x5 : Int32) (x6 : Int32) (x7 : Int32) (x8 : Int32) (x9 : Int32) : Option (Int32 × kS) :=
  (if x9 = 0 then (if x5 = 0 then (if x8 = 0 then none else some ((x6 / x8), σ)) else (if x8 = 0 then none else some ((x7 / x8), σ))) else (if x9 = 0 then none else (kn (x8 - x8 / x9 * x9) (fun x10_6 => rec84 (σ, x5, x6, x7, x9, x10_6)))))
set_option maxRecDepth 100000 in
set_option maxHeartbeats 4000000 in
theorem w_X8_wreck_84 (C : Cx E p s m args meth c cX8_wreck 11 RX8 (some .int)) (F : Nat) (rec84 : (kS × Int32 × Int32 × Int32 × Int32 × Int32 → Option (Int32 × kS))) (hrec84 : ∀ (σ : kS) (x5 : Int32) (x6 : Int32) (x7 : Int32) (x8 : Int32) (x9 : Int32), rec84 (σ, x5, x6, x7, x8, x9) = some (r, σr) → ∀ (H : Heap) (locs : List Loc), mP E σ H → va_S (inM E) s.heap H locs → ∀ (ls : Array Slot), lv_has ls 11 [(5, .int x5), (6, .int x6), (7, .int x7), (8, .int x8), (9, .int x9)] → W p l e (kR 2 56) s m args below meth c H locs 0 0 (MQ below (kQi (mP E) (inM E) r σr) args s 0 0 (inM E)) (F0 m 84 ls [])) (σ : kS) (x5 : Int32) (x6 : Int32) (x7 : Int32) (x8 : Int32) (x9 : Int32) (h : s_X8_wreck_84 F rec84 σ x5 x6 x7 x8 x9 = some (r, σr)) (H : Heap) (locs : List Loc) (hP : mP E σ H) (hS : va_S (inM E) s.heap H locs) (ls : Array Slot) (hl : lv_has ls 11 [(5, .int x5), (6, .int x6), (7, .int x7), (8, .int x8), (9, .int x9)]) : W p l e (kR 2 56) s m args below meth c H locs 0 0 (MQ below (kQi (mP E) (inM E) r σr) args s 0 0 (inM E)) (F0 m 84 ls []) := by
  obtain ⟨-, hx, hb, hml, hown, hts, hK, -, -⟩ := id C
  unfold s_X8_wreck_84 at h
  refine lv_iload hx hb dX8_wreck_84 (lv_at hl 4 rfl) ?_
  refine lv_if_eq (tgt := 107) hx hb dX8_wreck_86 (by decide) (fun c_1 => ?_) (fun c_1 => ?_)
  · have h := k_t c_1 h
    refine lv_iload hx hb dX8_wreck_107 (lv_at hl 0 rfl) ?_
    refine lv_if_ne (tgt := 120) hx hb dX8_wreck_109 (by decide) (fun c_2 => ?_) (fun c_2 => ?_)
    · have h := k_f c_2 h
      refine lv_iload hx hb dX8_wreck_120 (lv_at hl 2 rfl) ?_
      refine lv_iload hx hb dX8_wreck_122 (lv_at hl 3 rfl) ?_
      obtain ⟨n_3, h⟩ := k_no h
      refine lv_idiv hx hb dX8_wreck_124 n_3 ?_
      obtain ⟨rfl, rfl⟩ := k_inj h
      exact kri C hS hP dX8_wreck_125
    · have h := k_t c_2 h
      refine lv_iload hx hb dX8_wreck_112 (lv_at hl 1 rfl) ?_
      refine lv_iload hx hb dX8_wreck_114 (lv_at hl 3 rfl) ?_
      obtain ⟨n_4, h⟩ := k_no h
      refine lv_idiv hx hb dX8_wreck_116 n_4 ?_
      refine lv_goto (tgt := 125) hx hb dX8_wreck_117 (by decide) ?_
      obtain ⟨rfl, rfl⟩ := k_inj h
      exact kri C hS hP dX8_wreck_125
  · have h := k_f c_1 h
    refine lv_iload hx hb dX8_wreck_89 (lv_at hl 3 rfl) ?_
    refine lv_iload hx hb dX8_wreck_91 (lv_at hl 4 rfl) ?_
    obtain ⟨n_5, h⟩ := k_no h
    refine lv_irem hx hb dX8_wreck_93 n_5 ?_
    refine lv_topi (fun x10_6 ex10_6 => ?_)
    have h := kn_to ex10_6 h
    refine lv_istore (lv' := [(10, .int x10_6), (5, .int x5), (6, .int x6), (7, .int x7), (8, .int x8), (9, .int x9)]) hx hb dX8_wreck_94 hl (by decide) rfl (fun ls hl => ?_)
    refine lv_iload hx hb dX8_wreck_96 (lv_at hl 5 rfl) ?_
    refine lv_istore (lv' := [(8, .int x9), (10, .int x10_6), (5, .int x5), (6, .int x6), (7, .int x7), (9, .int x9)]) hx hb dX8_wreck_98 hl (by decide) rfl (fun ls hl => ?_)
    refine lv_iload hx hb dX8_wreck_100 (lv_at hl 1 rfl) ?_
    refine lv_istore (lv' := [(9, .int x10_6), (8, .int x9), (10, .int x10_6), (5, .int x5), (6, .int x6), (7, .int x7)]) hx hb dX8_wreck_102 hl (by decide) rfl (fun ls hl => ?_)
    refine lv_goto (tgt := 84) hx hb dX8_wreck_104 (by decide) ?_
    exact hrec84 σ x5 x6 x7 x9 x10_6 h H locs hP hS ls (lv_sub hl [3, 4, 5, 1, 0] rfl)
def f_X8_wreck_84 (F : Nat) : kS × Int32 × Int32 × Int32 × Int32 × Int32 → Option (Int32 × kS) := itr (fun rec84 q => s_X8_wreck_84 F rec84 q.1 q.2.1 q.2.2.1 q.2.2.2.1 q.2.2.2.2.1 q.2.2.2.2.2) F
theorem wf_X8_wreck_84 (C : Cx E p s m args meth c cX8_wreck 11 RX8 (some .int)) (F : Nat) (σ : kS) (x5 : Int32) (x6 : Int32) (x7 : Int32) (x8 : Int32) (x9 : Int32) (h : f_X8_wreck_84 F (σ, x5, x6, x7, x8, x9) = some (r, σr)) (H : Heap) (locs : List Loc) (hP : mP E σ H) (hS : va_S (inM E) s.heap H locs) (ls : Array Slot) (hl : lv_has ls 11 [(5, .int x5), (6, .int x6), (7, .int x7), (8, .int x8), (9, .int x9)]) : W p l e (kR 2 56) s m args below meth c H locs 0 0 (MQ below (kQi (mP E) (inM E) r σr) args s 0 0 (inM E)) (F0 m 84 ls []) :=
  itr_ok (r := (r, σr)) (G := fun q => ∀ (H : Heap) (locs : List Loc), mP E q.1 H → va_S (inM E) s.heap H locs → ∀ (ls : Array Slot), lv_has ls 11 [(5, .int (q.2.1)), (6, .int (q.2.2.1)), (7, .int (q.2.2.2.1)), (8, .int (q.2.2.2.2.1)), (9, .int (q.2.2.2.2.2))] → W p l e (kR 2 56) s m args below meth c H locs 0 0 (MQ below (kQi (mP E) (inM E) r σr) args s 0 0 (inM E)) (F0 m 84 ls [])) (fun rec84 hrec84 q h => w_X8_wreck_84 C F rec84 (fun σ x5 x6 x7 x8 x9 => hrec84 (σ, x5, x6, x7, x8, x9)) q.1 q.2.1 q.2.2.1 q.2.2.2.1 q.2.2.2.2.1 q.2.2.2.2.2 h) F (σ, x5, x6, x7, x8, x9) h H locs hP hS ls hl
def s_X8_wreck_0 (F : Nat) (σ : kS) (x1 : Int64) (x3 : Int32) (x4 : Int32) (x5 : Int32) : Option (Int32 × kS) :=
  (kb (f_X8_isMinute F σ x1) fun v_1 σ_2 => (if v_1 = 0 then some ((-1 : Int32), σ_2) else (kb (f_X8_in F σ_2 x3.toInt64 (1 : Int64) (10000 : Int64)) fun v_5 σ_6 => (if v_5 = 0 then some ((-1 : Int32), σ_6) else (kb (f_X8_in F σ_6 x4.toInt64 (0 : Int64) (1 : Int64)) fun v_9 σ_10 => (if v_9 = 0 then some ((-1 : Int32), σ_10) else (kb (f_X8_in F σ_10 x5.toInt64 (0 : Int64) (1 : Int64)) fun v_13 σ_14 => (if v_13 = 0 then some ((-1 : Int32), σ_14) else (kb (f_X8_counted F σ_14 x1 x3 x4) fun v_17 σ_18 => (kb (f_X8_counted F σ_18 x1 x3 ((1 : Int32) - x4)) fun v_20 σ_21 => (if (v_17 + v_20) = 0 then some ((-4 : Int32), σ_21) else f_X8_wreck_84 F (σ_21, x5, v_17, (v_17 + v_20), v_17, (v_17 + v_20)))))))))))))
set_option maxRecDepth 100000 in
set_option maxHeartbeats 4000000 in
theorem w_X8_wreck_0 (C : Cx E p s m args meth c cX8_wreck 11 RX8 (some .int)) (F : Nat) (σ : kS) (x1 : Int64) (x3 : Int32) (x4 : Int32) (x5 : Int32) (h : s_X8_wreck_0 F σ x1 x3 x4 x5 = some (r, σr)) (H : Heap) (locs : List Loc) (hP : mP E σ H) (hS : va_S (inM E) s.heap H locs) (ls : Array Slot) (hl : lv_has ls 11 [(0, .ref (eA E 27)), (1, .long x1), (3, .int x3), (4, .int x4), (5, .int x5)]) : W p l e (kR 2 56) s m args below meth c H locs 0 0 (MQ below (kQi (mP E) (inM E) r σr) args s 0 0 (inM E)) (F0 m 0 ls []) := by
  obtain ⟨-, hx, hb, hml, hown, hts, hK, -, -⟩ := id C
  unfold s_X8_wreck_0 at h
  refine lv_lload_n hx hb dX8_wreck_0 rfl (lv_at hl 1 rfl) ?_
  obtain ⟨v_1, σ_2, hc_3, h⟩ := kb_ok h
  refine kci (krunS (As := [.long x1]) C hP (c_X8_isMinute E C.1 F σ x1 hc_3) w_791 kt_X8_isMinute ⟨Nat.le_of_ble_eq_true rfl, Nat.le_of_ble_eq_true rfl⟩ rfl hl.1 rfl (Nat.le_of_ble_eq_true rfl) dX8_wreck_1) hS (fun H locs hP hS => ?_)
  refine lv_if_eq (tgt := 41) hx hb dX8_wreck_4 (by decide) (fun c_4 => ?_) (fun c_4 => ?_)
  · have h := k_t c_4 h
    refine lv_iconst (v := (-1 : Int32)) hx hb dX8_wreck_41 (by decide) ?_
    obtain ⟨rfl, rfl⟩ := k_inj h
    exact kri C hS hP dX8_wreck_42
  · have h := k_f c_4 h
    refine lv_iload_n hx hb dX8_wreck_7 rfl (lv_at hl 2 rfl) ?_
    refine lv_i2l (v := x3.toInt64) hx hb dX8_wreck_8 rfl ?_
    refine lv_lconst (v := (1 : Int64)) hx hb dX8_wreck_9 (by decide) ?_
    refine lv_ldc2 (v := (10000 : Int64)) hx hb hown (hts _ w_940) dX8_wreck_10 ?_
    obtain ⟨v_5, σ_6, hc_7, h⟩ := kb_ok h
    refine kci (krunS (As := [.long x3.toInt64, .long (1 : Int64), .long (10000 : Int64)]) C hP (c_X8_in E C.1 F σ_2 x3.toInt64 (1 : Int64) (10000 : Int64) hc_7) w_735 kt_X8_in ⟨Nat.le_of_ble_eq_true rfl, Nat.le_of_ble_eq_true rfl⟩ rfl hl.1 rfl (Nat.le_of_ble_eq_true rfl) dX8_wreck_13) hS (fun H locs hP hS => ?_)
    refine lv_if_eq (tgt := 41) hx hb dX8_wreck_16 (by decide) (fun c_8 => ?_) (fun c_8 => ?_)
    · have h := k_t c_8 h
      refine lv_iconst (v := (-1 : Int32)) hx hb dX8_wreck_41 (by decide) ?_
      obtain ⟨rfl, rfl⟩ := k_inj h
      exact kri C hS hP dX8_wreck_42
    · have h := k_f c_8 h
      refine lv_iload hx hb dX8_wreck_19 (lv_at hl 3 rfl) ?_
      refine lv_i2l (v := x4.toInt64) hx hb dX8_wreck_21 rfl ?_
      refine lv_lconst (v := (0 : Int64)) hx hb dX8_wreck_22 (by decide) ?_
      refine lv_lconst (v := (1 : Int64)) hx hb dX8_wreck_23 (by decide) ?_
      obtain ⟨v_9, σ_10, hc_11, h⟩ := kb_ok h
      refine kci (krunS (As := [.long x4.toInt64, .long (0 : Int64), .long (1 : Int64)]) C hP (c_X8_in E C.1 F σ_6 x4.toInt64 (0 : Int64) (1 : Int64) hc_11) w_735 kt_X8_in ⟨Nat.le_of_ble_eq_true rfl, Nat.le_of_ble_eq_true rfl⟩ rfl hl.1 rfl (Nat.le_of_ble_eq_true rfl) dX8_wreck_24) hS (fun H locs hP hS => ?_)
      refine lv_if_eq (tgt := 41) hx hb dX8_wreck_27 (by decide) (fun c_12 => ?_) (fun c_12 => ?_)
      · have h := k_t c_12 h
        refine lv_iconst (v := (-1 : Int32)) hx hb dX8_wreck_41 (by decide) ?_
        obtain ⟨rfl, rfl⟩ := k_inj h
        exact kri C hS hP dX8_wreck_42
      · have h := k_f c_12 h
        refine lv_iload hx hb dX8_wreck_30 (lv_at hl 4 rfl) ?_
        refine lv_i2l (v := x5.toInt64) hx hb dX8_wreck_32 rfl ?_
        refine lv_lconst (v := (0 : Int64)) hx hb dX8_wreck_33 (by decide) ?_
        refine lv_lconst (v := (1 : Int64)) hx hb dX8_wreck_34 (by decide) ?_
        obtain ⟨v_13, σ_14, hc_15, h⟩ := kb_ok h
        refine kci (krunS (As := [.long x5.toInt64, .long (0 : Int64), .long (1 : Int64)]) C hP (c_X8_in E C.1 F σ_10 x5.toInt64 (0 : Int64) (1 : Int64) hc_15) w_735 kt_X8_in ⟨Nat.le_of_ble_eq_true rfl, Nat.le_of_ble_eq_true rfl⟩ rfl hl.1 rfl (Nat.le_of_ble_eq_true rfl) dX8_wreck_35) hS (fun H locs hP hS => ?_)
        refine lv_if_ne (tgt := 43) hx hb dX8_wreck_38 (by decide) (fun c_16 => ?_) (fun c_16 => ?_)
        · have h := k_f c_16 h
          refine lv_aload_n hx hb dX8_wreck_43 rfl (lv_at hl 0 rfl) ?_
          refine lv_lload_n hx hb dX8_wreck_44 rfl (lv_at hl 1 rfl) ?_
          refine lv_iload_n hx hb dX8_wreck_45 rfl (lv_at hl 2 rfl) ?_
          refine lv_iload hx hb dX8_wreck_46 (lv_at hl 3 rfl) ?_
          obtain ⟨v_17, σ_18, hc_19, h⟩ := kb_ok h
          refine kci (krunV (As := [.long x1, .int x3, .int x4]) C hP (c_X8_counted E C.1 F σ_14 x1 x3 x4 hc_19) w_805 kv_X8_counted ⟨Nat.le_of_ble_eq_true rfl, Nat.le_of_ble_eq_true rfl⟩ (rc_27 C hP) rfl hl.1 rfl (Nat.le_of_ble_eq_true rfl) dX8_wreck_48) hS (fun H locs hP hS => ?_)
          refine lv_istore (lv' := [(6, .int v_17), (0, .ref (eA E 27)), (1, .long x1), (3, .int x3), (4, .int x4), (5, .int x5)]) hx hb dX8_wreck_51 hl (by decide) rfl (fun ls hl => ?_)
          refine lv_iload hx hb dX8_wreck_53 (lv_at hl 0 rfl) ?_
          refine lv_aload_n hx hb dX8_wreck_55 rfl (lv_at hl 1 rfl) ?_
          refine lv_lload_n hx hb dX8_wreck_56 rfl (lv_at hl 2 rfl) ?_
          refine lv_iload_n hx hb dX8_wreck_57 rfl (lv_at hl 3 rfl) ?_
          refine lv_iconst (v := (1 : Int32)) hx hb dX8_wreck_58 (by decide) ?_
          refine lv_iload hx hb dX8_wreck_59 (lv_at hl 4 rfl) ?_
          refine lv_isub hx hb dX8_wreck_61 ?_
          obtain ⟨v_20, σ_21, hc_22, h⟩ := kb_ok h
          refine kci (krunV (As := [.long x1, .int x3, .int ((1 : Int32) - x4)]) C hP (c_X8_counted E C.1 F σ_18 x1 x3 ((1 : Int32) - x4) hc_22) w_805 kv_X8_counted ⟨Nat.le_of_ble_eq_true rfl, Nat.le_of_ble_eq_true rfl⟩ (rc_27 C hP) rfl hl.1 rfl (Nat.le_of_ble_eq_true rfl) dX8_wreck_62) hS (fun H locs hP hS => ?_)
          refine lv_iadd hx hb dX8_wreck_65 ?_
          refine lv_istore (lv' := [(7, .int (v_17 + v_20)), (6, .int v_17), (0, .ref (eA E 27)), (1, .long x1), (3, .int x3), (4, .int x4), (5, .int x5)]) hx hb dX8_wreck_66 hl (by decide) rfl (fun ls hl => ?_)
          refine lv_iload hx hb dX8_wreck_68 (lv_at hl 0 rfl) ?_
          refine lv_if_ne (tgt := 76) hx hb dX8_wreck_70 (by decide) (fun c_23 => ?_) (fun c_23 => ?_)
          · have h := k_f c_23 h
            refine lv_iload hx hb dX8_wreck_76 (lv_at hl 1 rfl) ?_
            refine lv_istore (lv' := [(8, .int v_17), (7, .int (v_17 + v_20)), (6, .int v_17), (0, .ref (eA E 27)), (1, .long x1), (3, .int x3), (4, .int x4), (5, .int x5)]) hx hb dX8_wreck_78 hl (by decide) rfl (fun ls hl => ?_)
            refine lv_iload hx hb dX8_wreck_80 (lv_at hl 1 rfl) ?_
            refine lv_istore (lv' := [(9, .int (v_17 + v_20)), (8, .int v_17), (7, .int (v_17 + v_20)), (6, .int v_17), (0, .ref (eA E 27)), (1, .long x1), (3, .int x3), (4, .int x4), (5, .int x5)]) hx hb dX8_wreck_82 hl (by decide) rfl (fun ls hl => ?_)
            exact wf_X8_wreck_84 C F σ_21 x5 v_17 (v_17 + v_20) v_17 (v_17 + v_20) h H locs hP hS ls (lv_sub hl [8, 3, 2, 1, 0] rfl)
          · have h := k_t c_23 h
            refine lv_bipush (v := (-4 : Int32)) hx hb dX8_wreck_73 (by decide) ?_
            obtain ⟨rfl, rfl⟩ := k_inj h
            exact kri C hS hP dX8_wreck_75
        · have h := k_t c_16 h
          refine lv_iconst (v := (-1 : Int32)) hx hb dX8_wreck_41 (by decide) ?_
          obtain ⟨rfl, rfl⟩ := k_inj h
          exact kri C hS hP dX8_wreck_42
def f_X8_wreck (F : Nat) (σ : kS) (x1 : Int64) (x3 : Int32) (x4 : Int32) (x5 : Int32) : Option (Int32 × kS) := s_X8_wreck_0 F σ x1 x3 x4 x5
set_option maxRecDepth 100000 in
theorem c_X8_wreck (E : kE) (hE : kap E) (F : Nat) (σ : kS) (x1 : Int64) (x3 : Int32) (x4 : Int32) (x5 : Int32) (h : f_X8_wreck F σ x1 x3 x4 x5 = some (r, σr)) : Met l yX8_wreck (kWs yX8_wreck cX8_wreck 11 (some .int)) (kR 2 56) (kPre (mP E) E [.ref (eA E 27), .long x1, .int x3, .int x4, .int x5] σ) (kQi (mP E) (inM E) r σr) 0 0 (inM E) :=
  kst hE (by decide +kernel) (Nat.le_of_ble_eq_true rfl) (fun p e s m below meth c ls C hP hl => w_X8_wreck_0 C F σ x1 x3 x4 x5 h s.heap [] hP va_S.rf ls hl)
end

section
variable {p : Program} {l : Launch} {e : Env} {s : State} {m : MethodId} {args : Array Value} {below : List Frame} {meth : Method} {c : Code} {E : kE} {σr : kS}
variable {r : Int32}
def s_X8_drawn_86 (F : Nat) (rec31 : (kS × Int32 × Int32 × Int32 × Int32 → Option (Int32 × kS))) (σ : kS) (x1 : Int32) (x2 : Int32) (x4 : Int32) (y0 : Int32) (y1 : Int32) : Option (Int32 × kS) :=
  rec31 (σ, x1, x2, (y1 + y0), (x4 + (1 : Int32)))
set_option maxRecDepth 100000 in
set_option maxHeartbeats 4000000 in
theorem w_X8_drawn_86 (C : Cx E p s m args meth c cX8_drawn 7 RX8 (some .int)) (F : Nat) (rec31 : (kS × Int32 × Int32 × Int32 × Int32 → Option (Int32 × kS))) (hrec31 : ∀ (σ : kS) (x1 : Int32) (x2 : Int32) (x3 : Int32) (x4 : Int32), rec31 (σ, x1, x2, x3, x4) = some (r, σr) → ∀ (H : Heap) (locs : List Loc), mP E σ H → va_S (inM E) s.heap H locs → ∀ (ls : Array Slot), lv_has ls 7 [(0, .ref (eA E 27)), (1, .int x1), (2, .int x2), (3, .int x3), (4, .int x4)] → W p l e (kR 3 80) s m args below meth c H locs 0 0 (MQ below (kQi (mP E) (inM E) r σr) args s 0 0 (inM E)) (F0 m 31 ls [])) (σ : kS) (x1 : Int32) (x2 : Int32) (x4 : Int32) (y0 : Int32) (y1 : Int32) (h : s_X8_drawn_86 F rec31 σ x1 x2 x4 y0 y1 = some (r, σr)) (H : Heap) (locs : List Loc) (hP : mP E σ H) (hS : va_S (inM E) s.heap H locs) (ls : Array Slot) (hl : lv_has ls 7 [(0, .ref (eA E 27)), (1, .int x1), (2, .int x2), (4, .int x4)]) : W p l e (kR 3 80) s m args below meth c H locs 0 0 (MQ below (kQi (mP E) (inM E) r σr) args s 0 0 (inM E)) (F0 m 86 ls [.int y0, .int y1]) := by
  obtain ⟨-, hx, hb, hml, hown, hts, hK, -, -⟩ := id C
  unfold s_X8_drawn_86 at h
  refine lv_iadd hx hb dX8_drawn_86 ?_
  refine lv_istore_n (lv' := [(3, .int (y1 + y0)), (0, .ref (eA E 27)), (1, .int x1), (2, .int x2), (4, .int x4)]) hx hb dX8_drawn_87 rfl hl (by decide) rfl (fun ls hl => ?_)
  refine lv_iinc (v := (x4 + (1 : Int32))) (lv' := [(4, .int (x4 + (1 : Int32))), (3, .int (y1 + y0)), (0, .ref (eA E 27)), (1, .int x1), (2, .int x2)]) hx hb dX8_drawn_88 hl (k := 4) rfl rfl (by decide) rfl (fun ls hl => ?_)
  refine lv_goto (tgt := 31) hx hb dX8_drawn_91 (by decide) ?_
  exact hrec31 σ x1 x2 (y1 + y0) (x4 + (1 : Int32)) h H locs hP hS ls (lv_sub hl [2, 3, 4, 1, 0] rfl)
def s_X8_drawn_31 (F : Nat) (rec31 : (kS × Int32 × Int32 × Int32 × Int32 → Option (Int32 × kS))) (σ : kS) (x1 : Int32) (x2 : Int32) (x3 : Int32) (x4 : Int32) : Option (Int32 × kS) :=
  (if x2 ≤ x4 then some (x3, σ) else (kn ((((7919 : Int64) * x1.toInt64) + ((6151 : Int64) * x4.toInt64)) + (1 : Int64)) (fun x5_2 => (if (kA σ 2 0) = 0 then none else (kb (f_X8_isLawful F σ (x4 - x4 / (kA σ 2 0) * (kA σ 2 0)) ((x5_2 * x5_2) - (x5_2 * x5_2) / (65521 : Int64) * (65521 : Int64))) fun v_4 σ_5 => (if v_4 = 0 then s_X8_drawn_86 F rec31 σ_5 x1 x2 x4 (0 : Int32) x3 else s_X8_drawn_86 F rec31 σ_5 x1 x2 x4 (1 : Int32) x3))))))
set_option maxRecDepth 100000 in
set_option maxHeartbeats 4000000 in
theorem w_X8_drawn_31 (C : Cx E p s m args meth c cX8_drawn 7 RX8 (some .int)) (F : Nat) (rec31 : (kS × Int32 × Int32 × Int32 × Int32 → Option (Int32 × kS))) (hrec31 : ∀ (σ : kS) (x1 : Int32) (x2 : Int32) (x3 : Int32) (x4 : Int32), rec31 (σ, x1, x2, x3, x4) = some (r, σr) → ∀ (H : Heap) (locs : List Loc), mP E σ H → va_S (inM E) s.heap H locs → ∀ (ls : Array Slot), lv_has ls 7 [(0, .ref (eA E 27)), (1, .int x1), (2, .int x2), (3, .int x3), (4, .int x4)] → W p l e (kR 3 80) s m args below meth c H locs 0 0 (MQ below (kQi (mP E) (inM E) r σr) args s 0 0 (inM E)) (F0 m 31 ls [])) (σ : kS) (x1 : Int32) (x2 : Int32) (x3 : Int32) (x4 : Int32) (h : s_X8_drawn_31 F rec31 σ x1 x2 x3 x4 = some (r, σr)) (H : Heap) (locs : List Loc) (hP : mP E σ H) (hS : va_S (inM E) s.heap H locs) (ls : Array Slot) (hl : lv_has ls 7 [(0, .ref (eA E 27)), (1, .int x1), (2, .int x2), (3, .int x3), (4, .int x4)]) : W p l e (kR 3 80) s m args below meth c H locs 0 0 (MQ below (kQi (mP E) (inM E) r σr) args s 0 0 (inM E)) (F0 m 31 ls []) := by
  obtain ⟨-, hx, hb, hml, hown, hts, hK, -, -⟩ := id C
  unfold s_X8_drawn_31 at h
  refine lv_iload hx hb dX8_drawn_31 (lv_at hl 4 rfl) ?_
  refine lv_iload_n hx hb dX8_drawn_33 rfl (lv_at hl 2 rfl) ?_
  refine lv_icmp_ge (tgt := 94) hx hb dX8_drawn_34 (by decide) (fun c_1 => ?_) (fun c_1 => ?_)
  · have h := k_t c_1 h
    refine lv_iload_n hx hb dX8_drawn_94 rfl (lv_at hl 3 rfl) ?_
    obtain ⟨rfl, rfl⟩ := k_inj h
    exact kri C hS hP dX8_drawn_95
  · have h := k_f c_1 h
    refine lv_ldc2 (v := (7919 : Int64)) hx hb hown (hts _ w_946) dX8_drawn_37 ?_
    refine lv_iload_n hx hb dX8_drawn_40 rfl (lv_at hl 1 rfl) ?_
    refine lv_i2l (v := x1.toInt64) hx hb dX8_drawn_41 rfl ?_
    refine lv_lmul hx hb dX8_drawn_42 ?_
    refine lv_ldc2 (v := (6151 : Int64)) hx hb hown (hts _ w_947) dX8_drawn_43 ?_
    refine lv_iload hx hb dX8_drawn_46 (lv_at hl 4 rfl) ?_
    refine lv_i2l (v := x4.toInt64) hx hb dX8_drawn_48 rfl ?_
    refine lv_lmul hx hb dX8_drawn_49 ?_
    refine lv_ladd hx hb dX8_drawn_50 ?_
    refine lv_lconst (v := (1 : Int64)) hx hb dX8_drawn_51 (by decide) ?_
    refine lv_ladd hx hb dX8_drawn_52 ?_
    refine lv_topl (fun x5_2 ex5_2 => ?_)
    have h := kn_to ex5_2 h
    refine lv_lstore (lv' := [(5, .long x5_2), (0, .ref (eA E 27)), (1, .int x1), (2, .int x2), (3, .int x3), (4, .int x4)]) hx hb dX8_drawn_53 hl (by decide) rfl (fun ls hl => ?_)
    refine lv_iload_n hx hb dX8_drawn_55 rfl (lv_at hl 4 rfl) ?_
    refine lv_aload_n hx hb dX8_drawn_56 rfl (lv_at hl 1 rfl) ?_
    refine lv_iload hx hb dX8_drawn_57 (lv_at hl 5 rfl) ?_
    refine lv_aload_n hx hb dX8_drawn_59 rfl (lv_at hl 1 rfl) ?_
    refine gf_27_4 C hP w_679 dX8_drawn_60 ?_
    refine lv_iconst (v := (0 : Int32)) hx hb dX8_drawn_63 (by decide) ?_
    refine al_30 C hP (v := (kA σ 2 0)) rfl (by unfold vp_in; decide) dX8_drawn_64 ?_
    obtain ⟨n_3, h⟩ := k_no h
    refine lv_irem hx hb dX8_drawn_65 n_3 ?_
    refine lv_lload hx hb dX8_drawn_66 (lv_at hl 0 rfl) ?_
    refine lv_lload hx hb dX8_drawn_68 (lv_at hl 0 rfl) ?_
    refine lv_lmul hx hb dX8_drawn_70 ?_
    refine lv_ldc2 (v := (65521 : Int64)) hx hb hown (hts _ w_948) dX8_drawn_71 ?_
    refine lv_lrem hx hb dX8_drawn_74 (by decide) ?_
    obtain ⟨v_4, σ_5, hc_6, h⟩ := kb_ok h
    refine kci (krunV (As := [.int (x4 - x4 / (kA σ 2 0) * (kA σ 2 0)), .long ((x5_2 * x5_2) - (x5_2 * x5_2) / (65521 : Int64) * (65521 : Int64))]) C hP (c_X8_isLawful E C.1 F σ (x4 - x4 / (kA σ 2 0) * (kA σ 2 0)) ((x5_2 * x5_2) - (x5_2 * x5_2) / (65521 : Int64) * (65521 : Int64)) hc_6) w_820 kv_X8_isLawful ⟨Nat.le_of_ble_eq_true rfl, Nat.le_of_ble_eq_true rfl⟩ (rc_27 C hP) rfl hl.1 rfl (Nat.le_of_ble_eq_true rfl) dX8_drawn_75) hS (fun H locs hP hS => ?_)
    refine lv_if_eq (tgt := 85) hx hb dX8_drawn_78 (by decide) (fun c_7 => ?_) (fun c_7 => ?_)
    · have h := k_t c_7 h
      refine lv_iconst (v := (0 : Int32)) hx hb dX8_drawn_85 (by decide) ?_
      exact w_X8_drawn_86 C F rec31 hrec31 σ_5 x1 x2 x4 (0 : Int32) x3 h H locs hP hS ls (lv_sub hl [1, 2, 3, 5] rfl)
    · have h := k_f c_7 h
      refine lv_iconst (v := (1 : Int32)) hx hb dX8_drawn_81 (by decide) ?_
      refine lv_goto (tgt := 86) hx hb dX8_drawn_82 (by decide) ?_
      exact w_X8_drawn_86 C F rec31 hrec31 σ_5 x1 x2 x4 (1 : Int32) x3 h H locs hP hS ls (lv_sub hl [1, 2, 3, 5] rfl)
def f_X8_drawn_31 (F : Nat) : kS × Int32 × Int32 × Int32 × Int32 → Option (Int32 × kS) := itr (fun rec31 q => s_X8_drawn_31 F rec31 q.1 q.2.1 q.2.2.1 q.2.2.2.1 q.2.2.2.2) F
theorem wf_X8_drawn_31 (C : Cx E p s m args meth c cX8_drawn 7 RX8 (some .int)) (F : Nat) (σ : kS) (x1 : Int32) (x2 : Int32) (x3 : Int32) (x4 : Int32) (h : f_X8_drawn_31 F (σ, x1, x2, x3, x4) = some (r, σr)) (H : Heap) (locs : List Loc) (hP : mP E σ H) (hS : va_S (inM E) s.heap H locs) (ls : Array Slot) (hl : lv_has ls 7 [(0, .ref (eA E 27)), (1, .int x1), (2, .int x2), (3, .int x3), (4, .int x4)]) : W p l e (kR 3 80) s m args below meth c H locs 0 0 (MQ below (kQi (mP E) (inM E) r σr) args s 0 0 (inM E)) (F0 m 31 ls []) :=
  itr_ok (r := (r, σr)) (G := fun q => ∀ (H : Heap) (locs : List Loc), mP E q.1 H → va_S (inM E) s.heap H locs → ∀ (ls : Array Slot), lv_has ls 7 [(0, .ref (eA E 27)), (1, .int (q.2.1)), (2, .int (q.2.2.1)), (3, .int (q.2.2.2.1)), (4, .int (q.2.2.2.2))] → W p l e (kR 3 80) s m args below meth c H locs 0 0 (MQ below (kQi (mP E) (inM E) r σr) args s 0 0 (inM E)) (F0 m 31 ls [])) (fun rec31 hrec31 q h => w_X8_drawn_31 C F rec31 (fun σ x1 x2 x3 x4 => hrec31 (σ, x1, x2, x3, x4)) q.1 q.2.1 q.2.2.1 q.2.2.2.1 q.2.2.2.2 h) F (σ, x1, x2, x3, x4) h H locs hP hS ls hl
def s_X8_drawn_0 (F : Nat) (σ : kS) (x1 : Int32) (x2 : Int32) : Option (Int32 × kS) :=
  (kb (f_X8_in F σ x1.toInt64 (0 : Int64) (9999 : Int64)) fun v_1 σ_2 => (if v_1 = 0 then some ((-1 : Int32), σ_2) else (kb (f_X8_in F σ_2 x2.toInt64 (1 : Int64) (200 : Int64)) fun v_5 σ_6 => (if v_5 = 0 then some ((-1 : Int32), σ_6) else f_X8_drawn_31 F (σ_6, x1, x2, (0 : Int32), (0 : Int32))))))
set_option maxRecDepth 100000 in
set_option maxHeartbeats 4000000 in
theorem w_X8_drawn_0 (C : Cx E p s m args meth c cX8_drawn 7 RX8 (some .int)) (F : Nat) (σ : kS) (x1 : Int32) (x2 : Int32) (h : s_X8_drawn_0 F σ x1 x2 = some (r, σr)) (H : Heap) (locs : List Loc) (hP : mP E σ H) (hS : va_S (inM E) s.heap H locs) (ls : Array Slot) (hl : lv_has ls 7 [(0, .ref (eA E 27)), (1, .int x1), (2, .int x2)]) : W p l e (kR 3 80) s m args below meth c H locs 0 0 (MQ below (kQi (mP E) (inM E) r σr) args s 0 0 (inM E)) (F0 m 0 ls []) := by
  obtain ⟨-, hx, hb, hml, hown, hts, hK, -, -⟩ := id C
  unfold s_X8_drawn_0 at h
  refine lv_iload_n hx hb dX8_drawn_0 rfl (lv_at hl 1 rfl) ?_
  refine lv_i2l (v := x1.toInt64) hx hb dX8_drawn_1 rfl ?_
  refine lv_lconst (v := (0 : Int64)) hx hb dX8_drawn_2 (by decide) ?_
  refine lv_ldc2 (v := (9999 : Int64)) hx hb hown (hts _ w_849) dX8_drawn_3 ?_
  obtain ⟨v_1, σ_2, hc_3, h⟩ := kb_ok h
  refine kci (krunS (As := [.long x1.toInt64, .long (0 : Int64), .long (9999 : Int64)]) C hP (c_X8_in E C.1 F σ x1.toInt64 (0 : Int64) (9999 : Int64) hc_3) w_735 kt_X8_in ⟨Nat.le_of_ble_eq_true rfl, Nat.le_of_ble_eq_true rfl⟩ rfl hl.1 rfl (Nat.le_of_ble_eq_true rfl) dX8_drawn_6) hS (fun H locs hP hS => ?_)
  refine lv_if_eq (tgt := 24) hx hb dX8_drawn_9 (by decide) (fun c_4 => ?_) (fun c_4 => ?_)
  · have h := k_t c_4 h
    refine lv_iconst (v := (-1 : Int32)) hx hb dX8_drawn_24 (by decide) ?_
    obtain ⟨rfl, rfl⟩ := k_inj h
    exact kri C hS hP dX8_drawn_25
  · have h := k_f c_4 h
    refine lv_iload_n hx hb dX8_drawn_12 rfl (lv_at hl 2 rfl) ?_
    refine lv_i2l (v := x2.toInt64) hx hb dX8_drawn_13 rfl ?_
    refine lv_lconst (v := (1 : Int64)) hx hb dX8_drawn_14 (by decide) ?_
    refine lv_ldc2 (v := (200 : Int64)) hx hb hown (hts _ w_945) dX8_drawn_15 ?_
    obtain ⟨v_5, σ_6, hc_7, h⟩ := kb_ok h
    refine kci (krunS (As := [.long x2.toInt64, .long (1 : Int64), .long (200 : Int64)]) C hP (c_X8_in E C.1 F σ_2 x2.toInt64 (1 : Int64) (200 : Int64) hc_7) w_735 kt_X8_in ⟨Nat.le_of_ble_eq_true rfl, Nat.le_of_ble_eq_true rfl⟩ rfl hl.1 rfl (Nat.le_of_ble_eq_true rfl) dX8_drawn_18) hS (fun H locs hP hS => ?_)
    refine lv_if_ne (tgt := 26) hx hb dX8_drawn_21 (by decide) (fun c_8 => ?_) (fun c_8 => ?_)
    · have h := k_f c_8 h
      refine lv_iconst (v := (0 : Int32)) hx hb dX8_drawn_26 (by decide) ?_
      refine lv_istore_n (lv' := [(3, .int (0 : Int32)), (0, .ref (eA E 27)), (1, .int x1), (2, .int x2)]) hx hb dX8_drawn_27 rfl hl (by decide) rfl (fun ls hl => ?_)
      refine lv_iconst (v := (0 : Int32)) hx hb dX8_drawn_28 (by decide) ?_
      refine lv_istore (lv' := [(4, .int (0 : Int32)), (3, .int (0 : Int32)), (0, .ref (eA E 27)), (1, .int x1), (2, .int x2)]) hx hb dX8_drawn_29 hl (by decide) rfl (fun ls hl => ?_)
      exact wf_X8_drawn_31 C F σ_6 x1 x2 (0 : Int32) (0 : Int32) h H locs hP hS ls (lv_sub hl [2, 3, 4, 1, 0] rfl)
    · have h := k_t c_8 h
      refine lv_iconst (v := (-1 : Int32)) hx hb dX8_drawn_24 (by decide) ?_
      obtain ⟨rfl, rfl⟩ := k_inj h
      exact kri C hS hP dX8_drawn_25
def f_X8_drawn (F : Nat) (σ : kS) (x1 : Int32) (x2 : Int32) : Option (Int32 × kS) := s_X8_drawn_0 F σ x1 x2
set_option maxRecDepth 100000 in
theorem c_X8_drawn (E : kE) (hE : kap E) (F : Nat) (σ : kS) (x1 : Int32) (x2 : Int32) (h : f_X8_drawn F σ x1 x2 = some (r, σr)) : Met l yX8_drawn (kWs yX8_drawn cX8_drawn 7 (some .int)) (kR 3 80) (kPre (mP E) E [.ref (eA E 27), .int x1, .int x2] σ) (kQi (mP E) (inM E) r σr) 0 0 (inM E) :=
  kst hE (by decide +kernel) (Nat.le_of_ble_eq_true rfl) (fun p e s m below meth c ls C hP hl => w_X8_drawn_0 C F σ x1 x2 h s.heap [] hP va_S.rf ls hl)
end

section
variable {p : Program} {l : Launch} {e : Env} {s : State} {m : MethodId} {args : Array Value} {below : List Frame} {meth : Method} {c : Code} {E : kE} {σr : kS}
variable {r : Unit}
def s_X8_copies_38 (F : Nat) (rec38 : (kS × Int32 × Int32 × Int32 → Option (Unit × kS))) (σ : kS) (x1 : Int32) (x2 : Int32) (x3 : Int32) : Option (Unit × kS) :=
  (if (4 : Int32) ≤ x3 then some ((), σ) else (if (((4 : Int32) * x1) + x3) < 0 ∨ 12 ≤ (((4 : Int32) * x1) + x3).toNatClampNeg then none else (if (((4 : Int32) * x2) + x3) < 0 ∨ 12 ≤ (((4 : Int32) * x2) + x3).toNatClampNeg then none else rec38 ((jB σ 0 (((4 : Int32) * x2) + x3).toNatClampNeg (kB σ 0 (((4 : Int32) * x1) + x3).toNatClampNeg)), x1, x2, (x3 + (1 : Int32))))))
set_option maxRecDepth 100000 in
set_option maxHeartbeats 4000000 in
theorem w_X8_copies_38 (C : Cx E p s m args meth c cX8_copies 4 RX8 none) (F : Nat) (rec38 : (kS × Int32 × Int32 × Int32 → Option (Unit × kS))) (hrec38 : ∀ (σ : kS) (x1 : Int32) (x2 : Int32) (x3 : Int32), rec38 (σ, x1, x2, x3) = some (r, σr) → ∀ (H : Heap) (locs : List Loc), mP E σ H → va_S (inM E) s.heap H locs → ∀ (ls : Array Slot), lv_has ls 4 [(0, .ref (eA E 27)), (1, .int x1), (2, .int x2), (3, .int x3)] → W p l e (kR 0 0) s m args below meth c H locs 0 0 (MQ below (kQv (mP E) (inM E) r σr) args s 0 0 (inM E)) (F0 m 38 ls [])) (σ : kS) (x1 : Int32) (x2 : Int32) (x3 : Int32) (h : s_X8_copies_38 F rec38 σ x1 x2 x3 = some (r, σr)) (H : Heap) (locs : List Loc) (hP : mP E σ H) (hS : va_S (inM E) s.heap H locs) (ls : Array Slot) (hl : lv_has ls 4 [(0, .ref (eA E 27)), (1, .int x1), (2, .int x2), (3, .int x3)]) : W p l e (kR 0 0) s m args below meth c H locs 0 0 (MQ below (kQv (mP E) (inM E) r σr) args s 0 0 (inM E)) (F0 m 38 ls []) := by
  obtain ⟨-, hx, hb, hml, hown, hts, hK, -, -⟩ := id C
  unfold s_X8_copies_38 at h
  refine lv_iload_n hx hb dX8_copies_38 rfl (lv_at hl 3 rfl) ?_
  refine lv_iconst (v := (4 : Int32)) hx hb dX8_copies_39 (by decide) ?_
  refine lv_icmp_ge (tgt := 69) hx hb dX8_copies_40 (by decide) (fun c_1 => ?_) (fun c_1 => ?_)
  · have h := k_t c_1 h
    obtain ⟨rfl, rfl⟩ := k_inj h
    exact krv C hS hP dX8_copies_69
  · have h := k_f c_1 h
    refine lv_aload_n hx hb dX8_copies_43 rfl (lv_at hl 0 rfl) ?_
    refine gf_27_7 C hP w_682 dX8_copies_44 ?_
    refine lv_iconst (v := (4 : Int32)) hx hb dX8_copies_47 (by decide) ?_
    refine lv_iload_n hx hb dX8_copies_48 rfl (lv_at hl 2 rfl) ?_
    refine lv_imul hx hb dX8_copies_49 ?_
    refine lv_iload_n hx hb dX8_copies_50 rfl (lv_at hl 3 rfl) ?_
    refine lv_iadd hx hb dX8_copies_51 ?_
    refine lv_aload_n hx hb dX8_copies_52 rfl (lv_at hl 0 rfl) ?_
    refine gf_27_7 C hP w_682 dX8_copies_53 ?_
    refine lv_iconst (v := (4 : Int32)) hx hb dX8_copies_56 (by decide) ?_
    refine lv_iload_n hx hb dX8_copies_57 rfl (lv_at hl 1 rfl) ?_
    refine lv_imul hx hb dX8_copies_58 ?_
    refine lv_iload_n hx hb dX8_copies_59 rfl (lv_at hl 3 rfl) ?_
    refine lv_iadd hx hb dX8_copies_60 ?_
    obtain ⟨n_2, h⟩ := k_no h
    refine al_33 C hP (v := (kB σ 0 (((4 : Int32) * x1) + x3).toNatClampNeg)) rfl n_2 dX8_copies_61 ?_
    obtain ⟨n_3, h⟩ := k_no h
    refine as_33 C hP hS (σ2 := (jB σ 0 (((4 : Int32) * x2) + x3).toNatClampNeg (kB σ 0 (((4 : Int32) * x1) + x3).toNatClampNeg))) rfl n_3 dX8_copies_62 (fun H locs hP hS => ?_)
    refine lv_iinc (v := (x3 + (1 : Int32))) (lv' := [(3, .int (x3 + (1 : Int32))), (0, .ref (eA E 27)), (1, .int x1), (2, .int x2)]) hx hb dX8_copies_63 hl (k := 3) rfl rfl (by decide) rfl (fun ls hl => ?_)
    refine lv_goto (tgt := 38) hx hb dX8_copies_66 (by decide) ?_
    exact hrec38 (jB σ 0 (((4 : Int32) * x2) + x3).toNatClampNeg (kB σ 0 (((4 : Int32) * x1) + x3).toNatClampNeg)) x1 x2 (x3 + (1 : Int32)) h H locs hP hS ls (lv_sub hl [1, 2, 3, 0] rfl)
def f_X8_copies_38 (F : Nat) : kS × Int32 × Int32 × Int32 → Option (Unit × kS) := itr (fun rec38 q => s_X8_copies_38 F rec38 q.1 q.2.1 q.2.2.1 q.2.2.2) F
theorem wf_X8_copies_38 (C : Cx E p s m args meth c cX8_copies 4 RX8 none) (F : Nat) (σ : kS) (x1 : Int32) (x2 : Int32) (x3 : Int32) (h : f_X8_copies_38 F (σ, x1, x2, x3) = some (r, σr)) (H : Heap) (locs : List Loc) (hP : mP E σ H) (hS : va_S (inM E) s.heap H locs) (ls : Array Slot) (hl : lv_has ls 4 [(0, .ref (eA E 27)), (1, .int x1), (2, .int x2), (3, .int x3)]) : W p l e (kR 0 0) s m args below meth c H locs 0 0 (MQ below (kQv (mP E) (inM E) r σr) args s 0 0 (inM E)) (F0 m 38 ls []) :=
  itr_ok (r := (r, σr)) (G := fun q => ∀ (H : Heap) (locs : List Loc), mP E q.1 H → va_S (inM E) s.heap H locs → ∀ (ls : Array Slot), lv_has ls 4 [(0, .ref (eA E 27)), (1, .int (q.2.1)), (2, .int (q.2.2.1)), (3, .int (q.2.2.2))] → W p l e (kR 0 0) s m args below meth c H locs 0 0 (MQ below (kQv (mP E) (inM E) r σr) args s 0 0 (inM E)) (F0 m 38 ls [])) (fun rec38 hrec38 q h => w_X8_copies_38 C F rec38 (fun σ x1 x2 x3 => hrec38 (σ, x1, x2, x3)) q.1 q.2.1 q.2.2.1 q.2.2.2 h) F (σ, x1, x2, x3) h H locs hP hS ls hl
def s_X8_copies_2 (F : Nat) (rec2 : (kS × Int32 × Int32 × Int32 → Option (Unit × kS))) (σ : kS) (x1 : Int32) (x2 : Int32) (x3 : Int32) : Option (Unit × kS) :=
  (if (6 : Int32) ≤ x3 then f_X8_copies_38 F (σ, x1, x2, (0 : Int32)) else (if (((6 : Int32) * x1) + x3) < 0 ∨ 18 ≤ (((6 : Int32) * x1) + x3).toNatClampNeg then none else (if (((6 : Int32) * x2) + x3) < 0 ∨ 18 ≤ (((6 : Int32) * x2) + x3).toNatClampNeg then none else rec2 ((jA σ 4 (((6 : Int32) * x2) + x3).toNatClampNeg (kA σ 4 (((6 : Int32) * x1) + x3).toNatClampNeg)), x1, x2, (x3 + (1 : Int32))))))
set_option maxRecDepth 100000 in
set_option maxHeartbeats 4000000 in
theorem w_X8_copies_2 (C : Cx E p s m args meth c cX8_copies 4 RX8 none) (F : Nat) (rec2 : (kS × Int32 × Int32 × Int32 → Option (Unit × kS))) (hrec2 : ∀ (σ : kS) (x1 : Int32) (x2 : Int32) (x3 : Int32), rec2 (σ, x1, x2, x3) = some (r, σr) → ∀ (H : Heap) (locs : List Loc), mP E σ H → va_S (inM E) s.heap H locs → ∀ (ls : Array Slot), lv_has ls 4 [(0, .ref (eA E 27)), (1, .int x1), (2, .int x2), (3, .int x3)] → W p l e (kR 0 0) s m args below meth c H locs 0 0 (MQ below (kQv (mP E) (inM E) r σr) args s 0 0 (inM E)) (F0 m 2 ls [])) (σ : kS) (x1 : Int32) (x2 : Int32) (x3 : Int32) (h : s_X8_copies_2 F rec2 σ x1 x2 x3 = some (r, σr)) (H : Heap) (locs : List Loc) (hP : mP E σ H) (hS : va_S (inM E) s.heap H locs) (ls : Array Slot) (hl : lv_has ls 4 [(0, .ref (eA E 27)), (1, .int x1), (2, .int x2), (3, .int x3)]) : W p l e (kR 0 0) s m args below meth c H locs 0 0 (MQ below (kQv (mP E) (inM E) r σr) args s 0 0 (inM E)) (F0 m 2 ls []) := by
  obtain ⟨-, hx, hb, hml, hown, hts, hK, -, -⟩ := id C
  unfold s_X8_copies_2 at h
  refine lv_iload_n hx hb dX8_copies_2 rfl (lv_at hl 3 rfl) ?_
  refine lv_bipush (v := (6 : Int32)) hx hb dX8_copies_3 (by decide) ?_
  refine lv_icmp_ge (tgt := 36) hx hb dX8_copies_5 (by decide) (fun c_1 => ?_) (fun c_1 => ?_)
  · have h := k_t c_1 h
    refine lv_iconst (v := (0 : Int32)) hx hb dX8_copies_36 (by decide) ?_
    refine lv_istore_n (lv' := [(3, .int (0 : Int32)), (0, .ref (eA E 27)), (1, .int x1), (2, .int x2)]) hx hb dX8_copies_37 rfl hl (by decide) rfl (fun ls hl => ?_)
    exact wf_X8_copies_38 C F σ x1 x2 (0 : Int32) h H locs hP hS ls (lv_sub hl [1, 2, 3, 0] rfl)
  · have h := k_f c_1 h
    refine lv_aload_n hx hb dX8_copies_8 rfl (lv_at hl 0 rfl) ?_
    refine gf_27_6 C hP w_681 dX8_copies_9 ?_
    refine lv_bipush (v := (6 : Int32)) hx hb dX8_copies_12 (by decide) ?_
    refine lv_iload_n hx hb dX8_copies_14 rfl (lv_at hl 2 rfl) ?_
    refine lv_imul hx hb dX8_copies_15 ?_
    refine lv_iload_n hx hb dX8_copies_16 rfl (lv_at hl 3 rfl) ?_
    refine lv_iadd hx hb dX8_copies_17 ?_
    refine lv_aload_n hx hb dX8_copies_18 rfl (lv_at hl 0 rfl) ?_
    refine gf_27_6 C hP w_681 dX8_copies_19 ?_
    refine lv_bipush (v := (6 : Int32)) hx hb dX8_copies_22 (by decide) ?_
    refine lv_iload_n hx hb dX8_copies_24 rfl (lv_at hl 1 rfl) ?_
    refine lv_imul hx hb dX8_copies_25 ?_
    refine lv_iload_n hx hb dX8_copies_26 rfl (lv_at hl 3 rfl) ?_
    refine lv_iadd hx hb dX8_copies_27 ?_
    obtain ⟨n_2, h⟩ := k_no h
    refine al_32 C hP (v := (kA σ 4 (((6 : Int32) * x1) + x3).toNatClampNeg)) rfl n_2 dX8_copies_28 ?_
    obtain ⟨n_3, h⟩ := k_no h
    refine as_32 C hP hS (σ2 := (jA σ 4 (((6 : Int32) * x2) + x3).toNatClampNeg (kA σ 4 (((6 : Int32) * x1) + x3).toNatClampNeg))) rfl n_3 dX8_copies_29 (fun H locs hP hS => ?_)
    refine lv_iinc (v := (x3 + (1 : Int32))) (lv' := [(3, .int (x3 + (1 : Int32))), (0, .ref (eA E 27)), (1, .int x1), (2, .int x2)]) hx hb dX8_copies_30 hl (k := 3) rfl rfl (by decide) rfl (fun ls hl => ?_)
    refine lv_goto (tgt := 2) hx hb dX8_copies_33 (by decide) ?_
    exact hrec2 (jA σ 4 (((6 : Int32) * x2) + x3).toNatClampNeg (kA σ 4 (((6 : Int32) * x1) + x3).toNatClampNeg)) x1 x2 (x3 + (1 : Int32)) h H locs hP hS ls (lv_sub hl [1, 2, 3, 0] rfl)
def f_X8_copies_2 (F : Nat) : kS × Int32 × Int32 × Int32 → Option (Unit × kS) := itr (fun rec2 q => s_X8_copies_2 F rec2 q.1 q.2.1 q.2.2.1 q.2.2.2) F
theorem wf_X8_copies_2 (C : Cx E p s m args meth c cX8_copies 4 RX8 none) (F : Nat) (σ : kS) (x1 : Int32) (x2 : Int32) (x3 : Int32) (h : f_X8_copies_2 F (σ, x1, x2, x3) = some (r, σr)) (H : Heap) (locs : List Loc) (hP : mP E σ H) (hS : va_S (inM E) s.heap H locs) (ls : Array Slot) (hl : lv_has ls 4 [(0, .ref (eA E 27)), (1, .int x1), (2, .int x2), (3, .int x3)]) : W p l e (kR 0 0) s m args below meth c H locs 0 0 (MQ below (kQv (mP E) (inM E) r σr) args s 0 0 (inM E)) (F0 m 2 ls []) :=
  itr_ok (r := (r, σr)) (G := fun q => ∀ (H : Heap) (locs : List Loc), mP E q.1 H → va_S (inM E) s.heap H locs → ∀ (ls : Array Slot), lv_has ls 4 [(0, .ref (eA E 27)), (1, .int (q.2.1)), (2, .int (q.2.2.1)), (3, .int (q.2.2.2))] → W p l e (kR 0 0) s m args below meth c H locs 0 0 (MQ below (kQv (mP E) (inM E) r σr) args s 0 0 (inM E)) (F0 m 2 ls [])) (fun rec2 hrec2 q h => w_X8_copies_2 C F rec2 (fun σ x1 x2 x3 => hrec2 (σ, x1, x2, x3)) q.1 q.2.1 q.2.2.1 q.2.2.2 h) F (σ, x1, x2, x3) h H locs hP hS ls hl
def s_X8_copies_0 (F : Nat) (σ : kS) (x1 : Int32) (x2 : Int32) : Option (Unit × kS) :=
  f_X8_copies_2 F (σ, x1, x2, (0 : Int32))
set_option maxRecDepth 100000 in
set_option maxHeartbeats 4000000 in
theorem w_X8_copies_0 (C : Cx E p s m args meth c cX8_copies 4 RX8 none) (F : Nat) (σ : kS) (x1 : Int32) (x2 : Int32) (h : s_X8_copies_0 F σ x1 x2 = some (r, σr)) (H : Heap) (locs : List Loc) (hP : mP E σ H) (hS : va_S (inM E) s.heap H locs) (ls : Array Slot) (hl : lv_has ls 4 [(0, .ref (eA E 27)), (1, .int x1), (2, .int x2)]) : W p l e (kR 0 0) s m args below meth c H locs 0 0 (MQ below (kQv (mP E) (inM E) r σr) args s 0 0 (inM E)) (F0 m 0 ls []) := by
  obtain ⟨-, hx, hb, hml, hown, hts, hK, -, -⟩ := id C
  unfold s_X8_copies_0 at h
  refine lv_iconst (v := (0 : Int32)) hx hb dX8_copies_0 (by decide) ?_
  refine lv_istore_n (lv' := [(3, .int (0 : Int32)), (0, .ref (eA E 27)), (1, .int x1), (2, .int x2)]) hx hb dX8_copies_1 rfl hl (by decide) rfl (fun ls hl => ?_)
  exact wf_X8_copies_2 C F σ x1 x2 (0 : Int32) h H locs hP hS ls (lv_sub hl [1, 2, 3, 0] rfl)
def f_X8_copies (F : Nat) (σ : kS) (x1 : Int32) (x2 : Int32) : Option (Unit × kS) := s_X8_copies_0 F σ x1 x2
set_option maxRecDepth 100000 in
theorem c_X8_copies (E : kE) (hE : kap E) (F : Nat) (σ : kS) (x1 : Int32) (x2 : Int32) (h : f_X8_copies F σ x1 x2 = some (r, σr)) : Met l yX8_copies (kWs yX8_copies cX8_copies 4 none) (kR 0 0) (kPre (mP E) E [.ref (eA E 27), .int x1, .int x2] σ) (kQv (mP E) (inM E) r σr) 0 0 (inM E) :=
  kst hE (by decide +kernel) (Nat.le_of_ble_eq_true rfl) (fun p e s m below meth c ls C hP hl => w_X8_copies_0 C F σ x1 x2 h s.heap [] hP va_S.rf ls hl)
end

section
variable {p : Program} {l : Launch} {e : Env} {s : State} {m : MethodId} {args : Array Value} {below : List Frame} {meth : Method} {c : Code} {E : kE} {σr : kS}
variable {r : Int32}
def s_X8_keep_0 (F : Nat) (σ : kS) : Option (Int32 × kS) :=
  (if (kI σ 2) = (2 : Int32) then some ((-3 : Int32), σ) else (kb (f_X8_copies F (jI σ 2 ((kI σ 2) + (1 : Int32))) (0 : Int32) ((kI σ 2) + (1 : Int32))) fun _ σ_3 => some ((kI σ_3 2), σ_3)))
set_option maxRecDepth 100000 in
set_option maxHeartbeats 4000000 in
theorem w_X8_keep_0 (C : Cx E p s m args meth c cX8_keep 1 RX8 (some .int)) (F : Nat) (σ : kS) (h : s_X8_keep_0 F σ = some (r, σr)) (H : Heap) (locs : List Loc) (hP : mP E σ H) (hS : va_S (inM E) s.heap H locs) (ls : Array Slot) (hl : lv_has ls 1 [(0, .ref (eA E 27))]) : W p l e (kR 1 23) s m args below meth c H locs 0 0 (MQ below (kQi (mP E) (inM E) r σr) args s 0 0 (inM E)) (F0 m 0 ls []) := by
  obtain ⟨-, hx, hb, hml, hown, hts, hK, -, -⟩ := id C
  unfold s_X8_keep_0 at h
  refine lv_aload_n hx hb dX8_keep_0 rfl (lv_at hl 0 rfl) ?_
  refine gf_27_8 C hP (v := (kI σ 2)) rfl w_683 dX8_keep_1 ?_
  refine lv_iconst (v := (2 : Int32)) hx hb dX8_keep_4 (by decide) ?_
  refine lv_icmp_ne (tgt := 11) hx hb dX8_keep_5 (by decide) (fun c_1 => ?_) (fun c_1 => ?_)
  · have h := k_f c_1 h
    refine lv_aload_n hx hb dX8_keep_11 rfl (lv_at hl 0 rfl) ?_
    refine lv_dup hx hb dX8_keep_12 rfl ?_
    refine gf_27_8 C hP (v := (kI σ 2)) rfl w_683 dX8_keep_13 ?_
    refine lv_iconst (v := (1 : Int32)) hx hb dX8_keep_16 (by decide) ?_
    refine lv_iadd hx hb dX8_keep_17 ?_
    refine pf_27_8 C hP hS w_683 dX8_keep_18 (fun H locs hP hS => ?_)
    refine lv_aload_n hx hb dX8_keep_21 rfl (lv_at hl 0 rfl) ?_
    refine lv_iconst (v := (0 : Int32)) hx hb dX8_keep_22 (by decide) ?_
    refine lv_aload_n hx hb dX8_keep_23 rfl (lv_at hl 0 rfl) ?_
    refine gf_27_8 C hP (v := ((kI σ 2) + (1 : Int32))) rfl w_683 dX8_keep_24 ?_
    obtain ⟨v_2, σ_3, hc_4, h⟩ := kb_ok h
    refine kcv (krunV (As := [.int (0 : Int32), .int ((kI σ 2) + (1 : Int32))]) C hP (c_X8_copies E C.1 F (jI σ 2 ((kI σ 2) + (1 : Int32))) (0 : Int32) ((kI σ 2) + (1 : Int32)) hc_4) w_953 kv_X8_copies ⟨Nat.le_of_ble_eq_true rfl, Nat.le_of_ble_eq_true rfl⟩ (rc_27 C hP) rfl hl.1 rfl (Nat.le_of_ble_eq_true rfl) dX8_keep_27) hS (fun H locs hP hS => ?_)
    refine lv_aload_n hx hb dX8_keep_30 rfl (lv_at hl 0 rfl) ?_
    refine gf_27_8 C hP (v := (kI σ_3 2)) rfl w_683 dX8_keep_31 ?_
    obtain ⟨rfl, rfl⟩ := k_inj h
    exact kri C hS hP dX8_keep_34
  · have h := k_t c_1 h
    refine lv_bipush (v := (-3 : Int32)) hx hb dX8_keep_8 (by decide) ?_
    obtain ⟨rfl, rfl⟩ := k_inj h
    exact kri C hS hP dX8_keep_10
def f_X8_keep (F : Nat) (σ : kS) : Option (Int32 × kS) := s_X8_keep_0 F σ
set_option maxRecDepth 100000 in
theorem c_X8_keep (E : kE) (hE : kap E) (F : Nat) (σ : kS) (h : f_X8_keep F σ = some (r, σr)) : Met l yX8_keep (kWs yX8_keep cX8_keep 1 (some .int)) (kR 1 23) (kPre (mP E) E [.ref (eA E 27)] σ) (kQi (mP E) (inM E) r σr) 0 0 (inM E) :=
  kst hE (by decide +kernel) (Nat.le_of_ble_eq_true rfl) (fun p e s m below meth c ls C hP hl => w_X8_keep_0 C F σ h s.heap [] hP va_S.rf ls hl)
end

section
variable {p : Program} {l : Launch} {e : Env} {s : State} {m : MethodId} {args : Array Value} {below : List Frame} {meth : Method} {c : Code} {E : kE} {σr : kS}
variable {r : Int32}
def s_X8_back_0 (F : Nat) (σ : kS) : Option (Int32 × kS) :=
  (if (kI σ 2) = 0 then some ((-2 : Int32), σ) else (kb (f_X8_copies F σ (kI σ 2) (0 : Int32)) fun _ σ_3 => some (((kI σ_3 2) - (1 : Int32)), (jI (jI σ_3 2 ((kI σ_3 2) - (1 : Int32))) 3 (0 : Int32)))))
set_option maxRecDepth 100000 in
set_option maxHeartbeats 4000000 in
theorem w_X8_back_0 (C : Cx E p s m args meth c cX8_back 1 RX8 (some .int)) (F : Nat) (σ : kS) (h : s_X8_back_0 F σ = some (r, σr)) (H : Heap) (locs : List Loc) (hP : mP E σ H) (hS : va_S (inM E) s.heap H locs) (ls : Array Slot) (hl : lv_has ls 1 [(0, .ref (eA E 27))]) : W p l e (kR 1 23) s m args below meth c H locs 0 0 (MQ below (kQi (mP E) (inM E) r σr) args s 0 0 (inM E)) (F0 m 0 ls []) := by
  obtain ⟨-, hx, hb, hml, hown, hts, hK, -, -⟩ := id C
  unfold s_X8_back_0 at h
  refine lv_aload_n hx hb dX8_back_0 rfl (lv_at hl 0 rfl) ?_
  refine gf_27_8 C hP (v := (kI σ 2)) rfl w_683 dX8_back_1 ?_
  refine lv_if_ne (tgt := 10) hx hb dX8_back_4 (by decide) (fun c_1 => ?_) (fun c_1 => ?_)
  · have h := k_f c_1 h
    refine lv_aload_n hx hb dX8_back_10 rfl (lv_at hl 0 rfl) ?_
    refine lv_aload_n hx hb dX8_back_11 rfl (lv_at hl 0 rfl) ?_
    refine gf_27_8 C hP (v := (kI σ 2)) rfl w_683 dX8_back_12 ?_
    refine lv_iconst (v := (0 : Int32)) hx hb dX8_back_15 (by decide) ?_
    obtain ⟨v_2, σ_3, hc_4, h⟩ := kb_ok h
    refine kcv (krunV (As := [.int (kI σ 2), .int (0 : Int32)]) C hP (c_X8_copies E C.1 F σ (kI σ 2) (0 : Int32) hc_4) w_953 kv_X8_copies ⟨Nat.le_of_ble_eq_true rfl, Nat.le_of_ble_eq_true rfl⟩ (rc_27 C hP) rfl hl.1 rfl (Nat.le_of_ble_eq_true rfl) dX8_back_16) hS (fun H locs hP hS => ?_)
    refine lv_aload_n hx hb dX8_back_19 rfl (lv_at hl 0 rfl) ?_
    refine lv_dup hx hb dX8_back_20 rfl ?_
    refine gf_27_8 C hP (v := (kI σ_3 2)) rfl w_683 dX8_back_21 ?_
    refine lv_iconst (v := (1 : Int32)) hx hb dX8_back_24 (by decide) ?_
    refine lv_isub hx hb dX8_back_25 ?_
    refine pf_27_8 C hP hS w_683 dX8_back_26 (fun H locs hP hS => ?_)
    refine lv_aload_n hx hb dX8_back_29 rfl (lv_at hl 0 rfl) ?_
    refine lv_iconst (v := (0 : Int32)) hx hb dX8_back_30 (by decide) ?_
    refine pf_27_9 C hP hS w_684 dX8_back_31 (fun H locs hP hS => ?_)
    refine lv_aload_n hx hb dX8_back_34 rfl (lv_at hl 0 rfl) ?_
    refine gf_27_8 C hP (v := ((kI σ_3 2) - (1 : Int32))) rfl w_683 dX8_back_35 ?_
    obtain ⟨rfl, rfl⟩ := k_inj h
    exact kri C hS hP dX8_back_38
  · have h := k_t c_1 h
    refine lv_bipush (v := (-2 : Int32)) hx hb dX8_back_7 (by decide) ?_
    obtain ⟨rfl, rfl⟩ := k_inj h
    exact kri C hS hP dX8_back_9
def f_X8_back (F : Nat) (σ : kS) : Option (Int32 × kS) := s_X8_back_0 F σ
set_option maxRecDepth 100000 in
theorem c_X8_back (E : kE) (hE : kap E) (F : Nat) (σ : kS) (h : f_X8_back F σ = some (r, σr)) : Met l yX8_back (kWs yX8_back cX8_back 1 (some .int)) (kR 1 23) (kPre (mP E) E [.ref (eA E 27)] σ) (kQi (mP E) (inM E) r σr) 0 0 (inM E) :=
  kst hE (by decide +kernel) (Nat.le_of_ble_eq_true rfl) (fun p e s m below meth c ls C hP hl => w_X8_back_0 C F σ h s.heap [] hP va_S.rf ls hl)
end

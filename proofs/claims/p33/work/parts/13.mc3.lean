section
variable {p : Program} {l : Launch} {e : Env} {s : State} {m : MethodId} {args : Array Value} {below : List Frame} {meth : Method} {c : Code} {E : kE} {σr : kS}
variable {r : Int64}
def s_X7_soon_20 (F : Nat) (σ : kS) : Option (Int64 × kS) :=
  some ((-1 : Int64), σ)
set_option maxRecDepth 100000 in
set_option maxHeartbeats 4000000 in
theorem w_X7_soon_20 (C : Cx E p s m args meth c cX7_soon 9 RX7 (some .long)) (F : Nat) (σ : kS) (h : s_X7_soon_20 F σ = some (r, σr)) (H : Heap) (locs : List Loc) (hP : cP E σ H) (hS : va_S (inC E) s.heap H locs) (ls : Array Slot) (hl : lv_has ls 9 []) : W p l e (kR 6 149) s m args below meth c H locs 0 0 (MQ below (kQl (cP E) (inC E) r σr) args s 0 0 (inC E)) (F0 m 20 ls []) := by
  obtain ⟨-, hx, hb, hml, hown, hts, hK, -, -⟩ := id C
  unfold s_X7_soon_20 at h
  refine lv_ldc2 (v := (-1 : Int64)) hx hb hown (hts _ w_447) dX7_soon_20 ?_
  obtain ⟨rfl, rfl⟩ := k_inj h
  exact krl C hS hP dX7_soon_23
def s_X7_soon_30 (F : Nat) (rec30 : (kS × Int32 × Int64 × Int32 → Option (Int64 × kS))) (σ : kS) (x3 : Int32) (x4 : Int64) (x6 : Int32) : Option (Int64 × kS) :=
  (if (kI σ 26) ≤ x6 then some (x4, σ) else (if (8 : Int32) ≤ x6 then some (x4, σ) else (if x6 < 0 ∨ 8 ≤ x6.toNatClampNeg then none else (if x6 < 0 ∨ 8 ≤ x6.toNatClampNeg then none else (kb (f_X1_firstLawful F σ (kA σ 14 x6.toNatClampNeg) (kA σ 14 x6.toNatClampNeg) x4) fun v_5 σ_6 => (if (lg_cmp v_5 (-4 : Int64)) = 0 then some (v_5, σ_6) else (if x6 = x3 then some (v_5, σ_6) else (if x6 < 0 ∨ 8 ≤ x6.toNatClampNeg then none else (kb (f_X2_minutesTaken F σ_6 (kA σ_6 14 x6.toNatClampNeg)) fun v_11 σ_12 => (kn (v_5 + v_11.toInt64) (fun x4_14 => rec30 (σ_12, x3, x4_14, (x6 + (1 : Int32))))))))))))))
set_option maxRecDepth 100000 in
set_option maxHeartbeats 4000000 in
theorem w_X7_soon_30 (C : Cx E p s m args meth c cX7_soon 9 RX7 (some .long)) (F : Nat) (rec30 : (kS × Int32 × Int64 × Int32 → Option (Int64 × kS))) (hrec30 : ∀ (σ : kS) (x3 : Int32) (x4 : Int64) (x6 : Int32), rec30 (σ, x3, x4, x6) = some (r, σr) → ∀ (H : Heap) (locs : List Loc), cP E σ H → va_S (inC E) s.heap H locs → ∀ (ls : Array Slot), lv_has ls 9 [(0, .ref (eA E 0)), (3, .int x3), (4, .long x4), (6, .int x6)] → W p l e (kR 6 149) s m args below meth c H locs 0 0 (MQ below (kQl (cP E) (inC E) r σr) args s 0 0 (inC E)) (F0 m 30 ls [])) (σ : kS) (x3 : Int32) (x4 : Int64) (x6 : Int32) (h : s_X7_soon_30 F rec30 σ x3 x4 x6 = some (r, σr)) (H : Heap) (locs : List Loc) (hP : cP E σ H) (hS : va_S (inC E) s.heap H locs) (ls : Array Slot) (hl : lv_has ls 9 [(0, .ref (eA E 0)), (3, .int x3), (4, .long x4), (6, .int x6)]) : W p l e (kR 6 149) s m args below meth c H locs 0 0 (MQ below (kQl (cP E) (inC E) r σr) args s 0 0 (inC E)) (F0 m 30 ls []) := by
  obtain ⟨-, hx, hb, hml, hown, hts, hK, -, -⟩ := id C
  unfold s_X7_soon_30 at h
  refine lv_iload hx hb dX7_soon_30 (lv_at hl 3 rfl) ?_
  refine lv_aload_n hx hb dX7_soon_32 rfl (lv_at hl 0 rfl) ?_
  refine gf_0_10 C hP (v := (kI σ 26)) rfl w_259 dX7_soon_33 ?_
  refine lv_icmp_ge (tgt := 118) hx hb dX7_soon_36 (by decide) (fun c_1 => ?_) (fun c_1 => ?_)
  · have h := k_t c_1 h
    refine lv_lload hx hb dX7_soon_118 (lv_at hl 2 rfl) ?_
    obtain ⟨rfl, rfl⟩ := k_inj h
    exact krl C hS hP dX7_soon_120
  · have h := k_f c_1 h
    refine lv_iload hx hb dX7_soon_39 (lv_at hl 3 rfl) ?_
    refine lv_aload_n hx hb dX7_soon_41 rfl (lv_at hl 0 rfl) ?_
    refine gf_0_9 C hP w_258 dX7_soon_42 ?_
    refine an_26 C hP dX7_soon_45 ?_
    refine lv_icmp_ge (tgt := 118) hx hb dX7_soon_46 (by decide) (fun c_2 => ?_) (fun c_2 => ?_)
    · have h := k_t c_2 h
      refine lv_lload hx hb dX7_soon_118 (lv_at hl 2 rfl) ?_
      obtain ⟨rfl, rfl⟩ := k_inj h
      exact krl C hS hP dX7_soon_120
    · have h := k_f c_2 h
      refine lv_aload_n hx hb dX7_soon_49 rfl (lv_at hl 0 rfl) ?_
      refine gf_0_4 C hP w_253 dX7_soon_50 ?_
      refine lv_aload_n hx hb dX7_soon_53 rfl (lv_at hl 0 rfl) ?_
      refine gf_0_9 C hP w_258 dX7_soon_54 ?_
      refine lv_iload hx hb dX7_soon_57 (lv_at hl 3 rfl) ?_
      obtain ⟨n_3, h⟩ := k_no h
      refine al_26 C hP (v := (kA σ 14 x6.toNatClampNeg)) rfl n_3 dX7_soon_59 ?_
      refine lv_aload_n hx hb dX7_soon_60 rfl (lv_at hl 0 rfl) ?_
      refine gf_0_9 C hP w_258 dX7_soon_61 ?_
      refine lv_iload hx hb dX7_soon_64 (lv_at hl 3 rfl) ?_
      obtain ⟨n_4, h⟩ := k_no h
      refine al_26 C hP (v := (kA σ 14 x6.toNatClampNeg)) rfl n_4 dX7_soon_66 ?_
      refine lv_lload hx hb dX7_soon_67 (lv_at hl 2 rfl) ?_
      obtain ⟨v_5, σ_6, hc_7, h⟩ := kb_ok h
      refine kcl (krunV (As := [.int (kA σ 14 x6.toNatClampNeg), .int (kA σ 14 x6.toNatClampNeg), .long x4]) C hP (c_X1_firstLawful E C.1 F σ (kA σ 14 x6.toNatClampNeg) (kA σ 14 x6.toNatClampNeg) x4 hc_7) w_475 kv_X1_firstLawful ⟨Nat.le_of_ble_eq_true rfl, Nat.le_of_ble_eq_true rfl⟩ (rc_9 C hP) rfl hl.1 rfl (Nat.le_of_ble_eq_true rfl) dX7_soon_69) hS (fun H locs hP hS => ?_)
      refine lv_lstore (lv' := [(7, .long v_5), (0, .ref (eA E 0)), (3, .int x3), (4, .long x4), (6, .int x6)]) hx hb dX7_soon_72 hl (by decide) rfl (fun ls hl => ?_)
      refine lv_lload hx hb dX7_soon_74 (lv_at hl 0 rfl) ?_
      refine lv_ldc2 (v := (-4 : Int64)) hx hb hown (hts _ w_480) dX7_soon_76 ?_
      refine W.lcmp hx hb dX7_soon_79 ?_
      refine lv_if_eq (tgt := 89) hx hb dX7_soon_80 (by decide) (fun c_8 => ?_) (fun c_8 => ?_)
      · have h := k_t c_8 h
        refine lv_lload hx hb dX7_soon_89 (lv_at hl 0 rfl) ?_
        obtain ⟨rfl, rfl⟩ := k_inj h
        exact krl C hS hP dX7_soon_91
      · have h := k_f c_8 h
        refine lv_iload hx hb dX7_soon_83 (lv_at hl 4 rfl) ?_
        refine lv_iload_n hx hb dX7_soon_85 rfl (lv_at hl 2 rfl) ?_
        refine lv_icmp_ne (tgt := 92) hx hb dX7_soon_86 (by decide) (fun c_9 => ?_) (fun c_9 => ?_)
        · have h := k_f c_9 h
          refine lv_lload hx hb dX7_soon_92 (lv_at hl 0 rfl) ?_
          refine lv_aload_n hx hb dX7_soon_94 rfl (lv_at hl 1 rfl) ?_
          refine gf_0_2 C hP w_251 dX7_soon_95 ?_
          refine lv_aload_n hx hb dX7_soon_98 rfl (lv_at hl 1 rfl) ?_
          refine gf_0_9 C hP w_258 dX7_soon_99 ?_
          refine lv_iload hx hb dX7_soon_102 (lv_at hl 4 rfl) ?_
          obtain ⟨n_10, h⟩ := k_no h
          refine al_26 C hP (v := (kA σ_6 14 x6.toNatClampNeg)) rfl n_10 dX7_soon_104 ?_
          obtain ⟨v_11, σ_12, hc_13, h⟩ := kb_ok h
          refine kci (krunV (As := [.int (kA σ_6 14 x6.toNatClampNeg)]) C hP (c_X2_minutesTaken E C.1 F σ_6 (kA σ_6 14 x6.toNatClampNeg) hc_13) w_481 kv_X2_minutesTaken ⟨Nat.le_of_ble_eq_true rfl, Nat.le_of_ble_eq_true rfl⟩ (rc_6 C hP) rfl hl.1 rfl (Nat.le_of_ble_eq_true rfl) dX7_soon_105) hS (fun H locs hP hS => ?_)
          refine lv_i2l (v := v_11.toInt64) hx hb dX7_soon_108 rfl ?_
          refine lv_ladd hx hb dX7_soon_109 ?_
          refine lv_topl (fun x4_14 ex4_14 => ?_)
          have h := kn_to ex4_14 h
          refine lv_lstore (lv' := [(4, .long x4_14), (7, .long v_5), (0, .ref (eA E 0)), (3, .int x3), (6, .int x6)]) hx hb dX7_soon_110 hl (by decide) rfl (fun ls hl => ?_)
          refine lv_iinc (v := (x6 + (1 : Int32))) (lv' := [(6, .int (x6 + (1 : Int32))), (4, .long x4_14), (7, .long v_5), (0, .ref (eA E 0)), (3, .int x3)]) hx hb dX7_soon_112 hl (k := 4) rfl rfl (by decide) rfl (fun ls hl => ?_)
          refine lv_goto (tgt := 30) hx hb dX7_soon_115 (by decide) ?_
          exact hrec30 σ_12 x3 x4_14 (x6 + (1 : Int32)) h H locs hP hS ls (lv_sub hl [3, 4, 1, 0] rfl)
        · have h := k_t c_9 h
          refine lv_lload hx hb dX7_soon_89 (lv_at hl 0 rfl) ?_
          obtain ⟨rfl, rfl⟩ := k_inj h
          exact krl C hS hP dX7_soon_91
def f_X7_soon_30 (F : Nat) : kS × Int32 × Int64 × Int32 → Option (Int64 × kS) := itr (fun rec30 q => s_X7_soon_30 F rec30 q.1 q.2.1 q.2.2.1 q.2.2.2) F
theorem wf_X7_soon_30 (C : Cx E p s m args meth c cX7_soon 9 RX7 (some .long)) (F : Nat) (σ : kS) (x3 : Int32) (x4 : Int64) (x6 : Int32) (h : f_X7_soon_30 F (σ, x3, x4, x6) = some (r, σr)) (H : Heap) (locs : List Loc) (hP : cP E σ H) (hS : va_S (inC E) s.heap H locs) (ls : Array Slot) (hl : lv_has ls 9 [(0, .ref (eA E 0)), (3, .int x3), (4, .long x4), (6, .int x6)]) : W p l e (kR 6 149) s m args below meth c H locs 0 0 (MQ below (kQl (cP E) (inC E) r σr) args s 0 0 (inC E)) (F0 m 30 ls []) :=
  itr_ok (r := (r, σr)) (G := fun q => ∀ (H : Heap) (locs : List Loc), cP E q.1 H → va_S (inC E) s.heap H locs → ∀ (ls : Array Slot), lv_has ls 9 [(0, .ref (eA E 0)), (3, .int (q.2.1)), (4, .long (q.2.2.1)), (6, .int (q.2.2.2))] → W p l e (kR 6 149) s m args below meth c H locs 0 0 (MQ below (kQl (cP E) (inC E) r σr) args s 0 0 (inC E)) (F0 m 30 ls [])) (fun rec30 hrec30 q h => w_X7_soon_30 C F rec30 (fun σ x3 x4 x6 => hrec30 (σ, x3, x4, x6)) q.1 q.2.1 q.2.2.1 q.2.2.2 h) F (σ, x3, x4, x6) h H locs hP hS ls hl
def s_X7_soon_0 (F : Nat) (σ : kS) (x1 : Int64) (x3 : Int32) : Option (Int64 × kS) :=
  (kb (f_X7_isMinute F σ x1) fun v_1 σ_2 => (if v_1 = 0 then s_X7_soon_20 F σ_2 else (if x3 < (-1 : Int32) then s_X7_soon_20 F σ_2 else (if x3 < (kI σ_2 26) then f_X7_soon_30 F (σ_2, x3, x1, (0 : Int32)) else s_X7_soon_20 F σ_2))))
set_option maxRecDepth 100000 in
set_option maxHeartbeats 4000000 in
theorem w_X7_soon_0 (C : Cx E p s m args meth c cX7_soon 9 RX7 (some .long)) (F : Nat) (σ : kS) (x1 : Int64) (x3 : Int32) (h : s_X7_soon_0 F σ x1 x3 = some (r, σr)) (H : Heap) (locs : List Loc) (hP : cP E σ H) (hS : va_S (inC E) s.heap H locs) (ls : Array Slot) (hl : lv_has ls 9 [(0, .ref (eA E 0)), (1, .long x1), (3, .int x3)]) : W p l e (kR 6 149) s m args below meth c H locs 0 0 (MQ below (kQl (cP E) (inC E) r σr) args s 0 0 (inC E)) (F0 m 0 ls []) := by
  obtain ⟨-, hx, hb, hml, hown, hts, hK, -, -⟩ := id C
  unfold s_X7_soon_0 at h
  refine lv_lload_n hx hb dX7_soon_0 rfl (lv_at hl 1 rfl) ?_
  obtain ⟨v_1, σ_2, hc_3, h⟩ := kb_ok h
  refine kci (krunS (As := [.long x1]) C hP (c_X7_isMinute E C.1 F σ x1 hc_3) w_377 kt_X7_isMinute ⟨Nat.le_of_ble_eq_true rfl, Nat.le_of_ble_eq_true rfl⟩ rfl hl.1 rfl (Nat.le_of_ble_eq_true rfl) dX7_soon_1) hS (fun H locs hP hS => ?_)
  refine lv_if_eq (tgt := 20) hx hb dX7_soon_4 (by decide) (fun c_4 => ?_) (fun c_4 => ?_)
  · have h := k_t c_4 h
    exact w_X7_soon_20 C F σ_2 h H locs hP hS ls (lv_sub hl [] rfl)
  · have h := k_f c_4 h
    refine lv_iload_n hx hb dX7_soon_7 rfl (lv_at hl 2 rfl) ?_
    refine lv_iconst (v := (-1 : Int32)) hx hb dX7_soon_8 (by decide) ?_
    refine lv_icmp_lt (tgt := 20) hx hb dX7_soon_9 (by decide) (fun c_5 => ?_) (fun c_5 => ?_)
    · have h := k_t c_5 h
      exact w_X7_soon_20 C F σ_2 h H locs hP hS ls (lv_sub hl [] rfl)
    · have h := k_f c_5 h
      refine lv_iload_n hx hb dX7_soon_12 rfl (lv_at hl 2 rfl) ?_
      refine lv_aload_n hx hb dX7_soon_13 rfl (lv_at hl 0 rfl) ?_
      refine gf_0_10 C hP (v := (kI σ_2 26)) rfl w_259 dX7_soon_14 ?_
      refine lv_icmp_lt (tgt := 24) hx hb dX7_soon_17 (by decide) (fun c_6 => ?_) (fun c_6 => ?_)
      · have h := k_t c_6 h
        refine lv_lload_n hx hb dX7_soon_24 rfl (lv_at hl 1 rfl) ?_
        refine lv_lstore (lv' := [(4, .long x1), (0, .ref (eA E 0)), (1, .long x1), (3, .int x3)]) hx hb dX7_soon_25 hl (by decide) rfl (fun ls hl => ?_)
        refine lv_iconst (v := (0 : Int32)) hx hb dX7_soon_27 (by decide) ?_
        refine lv_istore (lv' := [(6, .int (0 : Int32)), (4, .long x1), (0, .ref (eA E 0)), (1, .long x1), (3, .int x3)]) hx hb dX7_soon_28 hl (by decide) rfl (fun ls hl => ?_)
        exact wf_X7_soon_30 C F σ_2 x3 x1 (0 : Int32) h H locs hP hS ls (lv_sub hl [2, 4, 1, 0] rfl)
      · have h := k_f c_6 h
        exact w_X7_soon_20 C F σ_2 h H locs hP hS ls (lv_sub hl [] rfl)
def f_X7_soon (F : Nat) (σ : kS) (x1 : Int64) (x3 : Int32) : Option (Int64 × kS) := s_X7_soon_0 F σ x1 x3
set_option maxRecDepth 100000 in
theorem c_X7_soon (E : kE) (hE : kap E) (F : Nat) (σ : kS) (x1 : Int64) (x3 : Int32) (h : f_X7_soon F σ x1 x3 = some (r, σr)) : Met l yX7_soon (kWs yX7_soon cX7_soon 9 (some .long)) (kR 6 149) (kPre (cP E) E [.ref (eA E 0), .long x1, .int x3] σ) (kQl (cP E) (inC E) r σr) 0 0 (inC E) :=
  kst hE (by decide +kernel) (Nat.le_of_ble_eq_true rfl) (fun p e s m below meth c ls C hP hl => w_X7_soon_0 C F σ x1 x3 h s.heap [] hP va_S.rf ls hl)
end

section
variable {p : Program} {l : Launch} {e : Env} {s : State} {m : MethodId} {args : Array Value} {below : List Frame} {meth : Method} {c : Code} {E : kE} {σr : kS}
variable {r : Unit}
def s_X5_put_16 (F : Nat) (σ : kS) : Option (Unit × kS) :=
  (if (kI σ 21) < 0 ∨ 8 ≤ (kI σ 21).toNatClampNeg then none else (if (kI σ 21) < 0 ∨ 8 ≤ (kI σ 21).toNatClampNeg then none else (if (kI σ 21) < 0 ∨ 8 ≤ (kI σ 21).toNatClampNeg then none else (if (kI σ 21) < 0 ∨ 8 ≤ (kI σ 21).toNatClampNeg then none else (if (kI σ 21) < 0 ∨ 8 ≤ (kI σ 21).toNatClampNeg then none else some ((), (jI (jI (jA (jA (jA (jA (jB σ 0 (kI σ 21).toNatClampNeg (kG σ 0)) 6 (kI σ 21).toNatClampNeg (kI σ 15)) 7 (kI σ 21).toNatClampNeg (kI σ 16)) 8 (kI σ 21).toNatClampNeg (kI σ 17)) 9 (kI σ 21).toNatClampNeg (kI σ 18)) 21 ((kI σ 21) + (1 : Int32))) 22 (if (kI σ 20) < ((kI σ 22) + (1 : Int32)) then (kI σ 20) else ((kI σ 22) + (1 : Int32))))))))))
set_option maxRecDepth 100000 in
set_option maxHeartbeats 4000000 in
theorem w_X5_put_16 (C : Cx E p s m args meth c cX5_put 2 RX5 none) (F : Nat) (σ : kS) (h : s_X5_put_16 F σ = some (r, σr)) (H : Heap) (locs : List Loc) (hP : cP E σ H) (hS : va_S (inC E) s.heap H locs) (ls : Array Slot) (hl : lv_has ls 2 [(0, .ref (eA E 14)), (1, .ref (eA E 8))]) : W p l e (kR 1 23) s m args below meth c H locs 0 0 (MQ below (kQv (cP E) (inC E) r σr) args s 0 0 (inC E)) (F0 m 16 ls []) := by
  obtain ⟨-, hx, hb, hml, hown, hts, hK, -, -⟩ := id C
  unfold s_X5_put_16 at h
  refine lv_aload_n hx hb dX5_put_16 rfl (lv_at hl 0 rfl) ?_
  refine gf_14_1 C hP w_204 dX5_put_17 ?_
  refine lv_aload_n hx hb dX5_put_20 rfl (lv_at hl 0 rfl) ?_
  refine gf_14_6 C hP (v := (kI σ 21)) rfl w_209 dX5_put_21 ?_
  refine lv_aload_n hx hb dX5_put_24 rfl (lv_at hl 1 rfl) ?_
  refine gf_8_0 C hP (v := (kG σ 0)) rfl w_120 dX5_put_25 ?_
  obtain ⟨n_1, h⟩ := k_no h
  refine as_15 C hP hS (σ2 := (jB σ 0 (kI σ 21).toNatClampNeg (kG σ 0))) rfl n_1 dX5_put_28 (fun H locs hP hS => ?_)
  refine lv_aload_n hx hb dX5_put_29 rfl (lv_at hl 0 rfl) ?_
  refine gf_14_2 C hP w_205 dX5_put_30 ?_
  refine lv_aload_n hx hb dX5_put_33 rfl (lv_at hl 0 rfl) ?_
  refine gf_14_6 C hP (v := (kI σ 21)) rfl w_209 dX5_put_34 ?_
  refine lv_aload_n hx hb dX5_put_37 rfl (lv_at hl 1 rfl) ?_
  refine gf_8_1 C hP (v := (kI σ 15)) rfl w_124 dX5_put_38 ?_
  obtain ⟨n_2, h⟩ := k_no h
  refine as_16 C hP hS (σ2 := (jA (jB σ 0 (kI σ 21).toNatClampNeg (kG σ 0)) 6 (kI σ 21).toNatClampNeg (kI σ 15))) rfl n_2 dX5_put_41 (fun H locs hP hS => ?_)
  refine lv_aload_n hx hb dX5_put_42 rfl (lv_at hl 0 rfl) ?_
  refine gf_14_3 C hP w_206 dX5_put_43 ?_
  refine lv_aload_n hx hb dX5_put_46 rfl (lv_at hl 0 rfl) ?_
  refine gf_14_6 C hP (v := (kI σ 21)) rfl w_209 dX5_put_47 ?_
  refine lv_aload_n hx hb dX5_put_50 rfl (lv_at hl 1 rfl) ?_
  refine gf_8_2 C hP (v := (kI σ 16)) rfl w_127 dX5_put_51 ?_
  obtain ⟨n_3, h⟩ := k_no h
  refine as_17 C hP hS (σ2 := (jA (jA (jB σ 0 (kI σ 21).toNatClampNeg (kG σ 0)) 6 (kI σ 21).toNatClampNeg (kI σ 15)) 7 (kI σ 21).toNatClampNeg (kI σ 16))) rfl n_3 dX5_put_54 (fun H locs hP hS => ?_)
  refine lv_aload_n hx hb dX5_put_55 rfl (lv_at hl 0 rfl) ?_
  refine gf_14_4 C hP w_207 dX5_put_56 ?_
  refine lv_aload_n hx hb dX5_put_59 rfl (lv_at hl 0 rfl) ?_
  refine gf_14_6 C hP (v := (kI σ 21)) rfl w_209 dX5_put_60 ?_
  refine lv_aload_n hx hb dX5_put_63 rfl (lv_at hl 1 rfl) ?_
  refine gf_8_3 C hP (v := (kI σ 17)) rfl w_130 dX5_put_64 ?_
  obtain ⟨n_4, h⟩ := k_no h
  refine as_18 C hP hS (σ2 := (jA (jA (jA (jB σ 0 (kI σ 21).toNatClampNeg (kG σ 0)) 6 (kI σ 21).toNatClampNeg (kI σ 15)) 7 (kI σ 21).toNatClampNeg (kI σ 16)) 8 (kI σ 21).toNatClampNeg (kI σ 17))) rfl n_4 dX5_put_67 (fun H locs hP hS => ?_)
  refine lv_aload_n hx hb dX5_put_68 rfl (lv_at hl 0 rfl) ?_
  refine gf_14_5 C hP w_208 dX5_put_69 ?_
  refine lv_aload_n hx hb dX5_put_72 rfl (lv_at hl 0 rfl) ?_
  refine gf_14_6 C hP (v := (kI σ 21)) rfl w_209 dX5_put_73 ?_
  refine lv_aload_n hx hb dX5_put_76 rfl (lv_at hl 1 rfl) ?_
  refine gf_8_4 C hP (v := (kI σ 18)) rfl w_133 dX5_put_77 ?_
  obtain ⟨n_5, h⟩ := k_no h
  refine as_19 C hP hS (σ2 := (jA (jA (jA (jA (jB σ 0 (kI σ 21).toNatClampNeg (kG σ 0)) 6 (kI σ 21).toNatClampNeg (kI σ 15)) 7 (kI σ 21).toNatClampNeg (kI σ 16)) 8 (kI σ 21).toNatClampNeg (kI σ 17)) 9 (kI σ 21).toNatClampNeg (kI σ 18))) rfl n_5 dX5_put_80 (fun H locs hP hS => ?_)
  refine lv_aload_n hx hb dX5_put_81 rfl (lv_at hl 0 rfl) ?_
  refine lv_dup hx hb dX5_put_82 rfl ?_
  refine gf_14_6 C hP (v := (kI σ 21)) rfl w_209 dX5_put_83 ?_
  refine lv_iconst (v := (1 : Int32)) hx hb dX5_put_86 (by decide) ?_
  refine lv_iadd hx hb dX5_put_87 ?_
  refine pf_14_6 C hP hS w_209 dX5_put_88 (fun H locs hP hS => ?_)
  refine lv_aload_n hx hb dX5_put_91 rfl (lv_at hl 0 rfl) ?_
  refine lv_aload_n hx hb dX5_put_92 rfl (lv_at hl 0 rfl) ?_
  refine gf_14_7 C hP (v := (kI σ 22)) rfl w_210 dX5_put_93 ?_
  refine lv_iconst (v := (1 : Int32)) hx hb dX5_put_96 (by decide) ?_
  refine lv_iadd hx hb dX5_put_97 ?_
  refine lv_aload_n hx hb dX5_put_98 rfl (lv_at hl 0 rfl) ?_
  refine gf_14_0 C hP (v := (kI σ 20)) rfl w_203 dX5_put_99 ?_
  refine kmin C hl.1 w_493 (Nat.le_of_ble_eq_true rfl) (Nat.le_of_ble_eq_true rfl) dX5_put_102 ?_
  refine pf_14_7 C hP hS w_210 dX5_put_105 (fun H locs hP hS => ?_)
  obtain ⟨rfl, rfl⟩ := k_inj h
  exact krv C hS hP dX5_put_108
def s_X5_put_0 (F : Nat) (σ : kS) : Option (Unit × kS) :=
  (if (kI σ 21) < (kI σ 20) then s_X5_put_16 F σ else s_X5_put_16 F (jI σ 21 (0 : Int32)))
set_option maxRecDepth 100000 in
set_option maxHeartbeats 4000000 in
theorem w_X5_put_0 (C : Cx E p s m args meth c cX5_put 2 RX5 none) (F : Nat) (σ : kS) (h : s_X5_put_0 F σ = some (r, σr)) (H : Heap) (locs : List Loc) (hP : cP E σ H) (hS : va_S (inC E) s.heap H locs) (ls : Array Slot) (hl : lv_has ls 2 [(0, .ref (eA E 14)), (1, .ref (eA E 8))]) : W p l e (kR 1 23) s m args below meth c H locs 0 0 (MQ below (kQv (cP E) (inC E) r σr) args s 0 0 (inC E)) (F0 m 0 ls []) := by
  obtain ⟨-, hx, hb, hml, hown, hts, hK, -, -⟩ := id C
  unfold s_X5_put_0 at h
  refine lv_aload_n hx hb dX5_put_0 rfl (lv_at hl 0 rfl) ?_
  refine gf_14_6 C hP (v := (kI σ 21)) rfl w_209 dX5_put_1 ?_
  refine lv_aload_n hx hb dX5_put_4 rfl (lv_at hl 0 rfl) ?_
  refine gf_14_0 C hP (v := (kI σ 20)) rfl w_203 dX5_put_5 ?_
  refine lv_icmp_lt (tgt := 16) hx hb dX5_put_8 (by decide) (fun c_1 => ?_) (fun c_1 => ?_)
  · have h := k_t c_1 h
    exact w_X5_put_16 C F σ h H locs hP hS ls hl
  · have h := k_f c_1 h
    refine lv_aload_n hx hb dX5_put_11 rfl (lv_at hl 0 rfl) ?_
    refine lv_iconst (v := (0 : Int32)) hx hb dX5_put_12 (by decide) ?_
    refine pf_14_6 C hP hS w_209 dX5_put_13 (fun H locs hP hS => ?_)
    exact w_X5_put_16 C F (jI σ 21 (0 : Int32)) h H locs hP hS ls hl
def f_X5_put (F : Nat) (σ : kS) : Option (Unit × kS) := s_X5_put_0 F σ
set_option maxRecDepth 100000 in
theorem c_X5_put (E : kE) (hE : kap E) (F : Nat) (σ : kS) (h : f_X5_put F σ = some (r, σr)) : Met l yX5_put (kWs yX5_put cX5_put 2 none) (kR 1 23) (kPre (cP E) E [.ref (eA E 14), .ref (eA E 8)] σ) (kQv (cP E) (inC E) r σr) 0 0 (inC E) :=
  kst hE (by decide +kernel) (Nat.le_of_ble_eq_true rfl) (fun p e s m below meth c ls C hP hl => w_X5_put_0 C F σ h s.heap [] hP va_S.rf ls hl)
end

section
variable {p : Program} {l : Launch} {e : Env} {s : State} {m : MethodId} {args : Array Value} {below : List Frame} {meth : Method} {c : Code} {E : kE} {σr : kS}
variable {r : Int64}
def s_X7_pass_12 (F : Nat) (σ : kS) : Option (Int64 × kS) :=
  some ((-1 : Int64), σ)
set_option maxRecDepth 100000 in
set_option maxHeartbeats 4000000 in
theorem w_X7_pass_12 (C : Cx E p s m args meth c cX7_pass 2 RX7 (some .long)) (F : Nat) (σ : kS) (h : s_X7_pass_12 F σ = some (r, σr)) (H : Heap) (locs : List Loc) (hP : cP E σ H) (hS : va_S (inC E) s.heap H locs) (ls : Array Slot) (hl : lv_has ls 2 []) : W p l e (kR 2 44) s m args below meth c H locs 0 0 (MQ below (kQl (cP E) (inC E) r σr) args s 0 0 (inC E)) (F0 m 12 ls []) := by
  obtain ⟨-, hx, hb, hml, hown, hts, hK, -, -⟩ := id C
  unfold s_X7_pass_12 at h
  refine lv_ldc2 (v := (-1 : Int64)) hx hb hown (hts _ w_447) dX7_pass_12 ?_
  obtain ⟨rfl, rfl⟩ := k_inj h
  exact krl C hS hP dX7_pass_15
def s_X7_pass_0 (F : Nat) (σ : kS) (x1 : Int32) : Option (Int64 × kS) :=
  (if x1 < (1 : Int32) then s_X7_pass_12 F σ else (if x1 ≤ (9999 : Int32) then (kb (f_X5_put F σ) fun _ σ_4 => some (((kG σ_4 0) + x1.toInt64), (jG σ_4 0 ((kG σ_4 0) + x1.toInt64)))) else s_X7_pass_12 F σ))
set_option maxRecDepth 100000 in
set_option maxHeartbeats 4000000 in
theorem w_X7_pass_0 (C : Cx E p s m args meth c cX7_pass 2 RX7 (some .long)) (F : Nat) (σ : kS) (x1 : Int32) (h : s_X7_pass_0 F σ x1 = some (r, σr)) (H : Heap) (locs : List Loc) (hP : cP E σ H) (hS : va_S (inC E) s.heap H locs) (ls : Array Slot) (hl : lv_has ls 2 [(0, .ref (eA E 0)), (1, .int x1)]) : W p l e (kR 2 44) s m args below meth c H locs 0 0 (MQ below (kQl (cP E) (inC E) r σr) args s 0 0 (inC E)) (F0 m 0 ls []) := by
  obtain ⟨-, hx, hb, hml, hown, hts, hK, -, -⟩ := id C
  unfold s_X7_pass_0 at h
  refine lv_iload_n hx hb dX7_pass_0 rfl (lv_at hl 1 rfl) ?_
  refine lv_iconst (v := (1 : Int32)) hx hb dX7_pass_1 (by decide) ?_
  refine lv_icmp_lt (tgt := 12) hx hb dX7_pass_2 (by decide) (fun c_1 => ?_) (fun c_1 => ?_)
  · have h := k_t c_1 h
    exact w_X7_pass_12 C F σ h H locs hP hS ls (lv_sub hl [] rfl)
  · have h := k_f c_1 h
    refine lv_iload_n hx hb dX7_pass_5 rfl (lv_at hl 1 rfl) ?_
    refine lv_sipush (v := (9999 : Int32)) hx hb dX7_pass_6 (by decide) ?_
    refine lv_icmp_le (tgt := 16) hx hb dX7_pass_9 (by decide) (fun c_2 => ?_) (fun c_2 => ?_)
    · have h := k_t c_2 h
      refine lv_aload_n hx hb dX7_pass_16 rfl (lv_at hl 0 rfl) ?_
      refine gf_0_7 C hP w_256 dX7_pass_17 ?_
      refine lv_aload_n hx hb dX7_pass_20 rfl (lv_at hl 0 rfl) ?_
      refine gf_0_3 C hP w_252 dX7_pass_21 ?_
      obtain ⟨v_3, σ_4, hc_5, h⟩ := kb_ok h
      refine kcv (krunV (As := [.ref (eA E 8)]) C hP (c_X5_put E C.1 F σ hc_5) w_489 kv_X5_put ⟨Nat.le_of_ble_eq_true rfl, Nat.le_of_ble_eq_true rfl⟩ (rc_14 C hP) rfl hl.1 rfl (Nat.le_of_ble_eq_true rfl) dX7_pass_24) hS (fun H locs hP hS => ?_)
      refine lv_aload_n hx hb dX7_pass_27 rfl (lv_at hl 0 rfl) ?_
      refine gf_0_3 C hP w_252 dX7_pass_28 ?_
      refine lv_dup hx hb dX7_pass_31 rfl ?_
      refine gf_8_0 C hP (v := (kG σ_4 0)) rfl w_121 dX7_pass_32 ?_
      refine lv_iload_n hx hb dX7_pass_35 rfl (lv_at hl 1 rfl) ?_
      refine lv_i2l (v := x1.toInt64) hx hb dX7_pass_36 rfl ?_
      refine lv_ladd hx hb dX7_pass_37 ?_
      refine pf_8_0 C hP hS w_121 dX7_pass_38 (fun H locs hP hS => ?_)
      refine lv_aload_n hx hb dX7_pass_41 rfl (lv_at hl 0 rfl) ?_
      refine gf_0_3 C hP w_252 dX7_pass_42 ?_
      refine gf_8_0 C hP (v := ((kG σ_4 0) + x1.toInt64)) rfl w_121 dX7_pass_45 ?_
      obtain ⟨rfl, rfl⟩ := k_inj h
      exact krl C hS hP dX7_pass_48
    · have h := k_f c_2 h
      exact w_X7_pass_12 C F σ h H locs hP hS ls (lv_sub hl [] rfl)
def f_X7_pass (F : Nat) (σ : kS) (x1 : Int32) : Option (Int64 × kS) := s_X7_pass_0 F σ x1
set_option maxRecDepth 100000 in
theorem c_X7_pass (E : kE) (hE : kap E) (F : Nat) (σ : kS) (x1 : Int32) (h : f_X7_pass F σ x1 = some (r, σr)) : Met l yX7_pass (kWs yX7_pass cX7_pass 2 (some .long)) (kR 2 44) (kPre (cP E) E [.ref (eA E 0), .int x1] σ) (kQl (cP E) (inC E) r σr) 0 0 (inC E) :=
  kst hE (by decide +kernel) (Nat.le_of_ble_eq_true rfl) (fun p e s m below meth c ls C hP hl => w_X7_pass_0 C F σ x1 h s.heap [] hP va_S.rf ls hl)
end

section
variable {p : Program} {l : Launch} {e : Env} {s : State} {m : MethodId} {args : Array Value} {below : List Frame} {meth : Method} {c : Code} {E : kE} {σr : kS}
variable {r : Int32}
def s_X2_worth_11 (F : Nat) (σ : kS) (y0 : Int32) (y1 : Int32) : Option (Int32 × kS) :=
  (kb (f_X2_numberOf F σ y1 y0) fun v_1 σ_2 => some ((v_1 - (50 : Int32)), σ_2))
set_option maxRecDepth 100000 in
set_option maxHeartbeats 4000000 in
theorem w_X2_worth_11 (C : Cx E p s m args meth c cX2_worth 3 RX2 (some .int)) (F : Nat) (σ : kS) (y0 : Int32) (y1 : Int32) (h : s_X2_worth_11 F σ y0 y1 = some (r, σr)) (H : Heap) (locs : List Loc) (hP : cP E σ H) (hS : va_S (inC E) s.heap H locs) (ls : Array Slot) (hl : lv_has ls 3 []) : W p l e (kR 1 23) s m args below meth c H locs 0 0 (MQ below (kQi (cP E) (inC E) r σr) args s 0 0 (inC E)) (F0 m 11 ls [.int y0, .int y1, .ref (eA E 6)]) := by
  obtain ⟨-, hx, hb, hml, hown, hts, hK, -, -⟩ := id C
  unfold s_X2_worth_11 at h
  obtain ⟨v_1, σ_2, hc_3, h⟩ := kb_ok h
  refine kci (krunV (As := [.int y1, .int y0]) C hP (c_X2_numberOf E C.1 F σ y1 y0 hc_3) w_238 kv_X2_numberOf ⟨Nat.le_of_ble_eq_true rfl, Nat.le_of_ble_eq_true rfl⟩ (rc_6 C hP) rfl hl.1 rfl (Nat.le_of_ble_eq_true rfl) dX2_worth_11) hS (fun H locs hP hS => ?_)
  refine lv_bipush (v := (50 : Int32)) hx hb dX2_worth_14 (by decide) ?_
  refine lv_isub hx hb dX2_worth_16 ?_
  obtain ⟨rfl, rfl⟩ := k_inj h
  exact kri C hS hP dX2_worth_17
def s_X2_worth_0 (F : Nat) (σ : kS) (x1 : Int32) (x2 : Int32) : Option (Int32 × kS) :=
  (if x2 = 0 then s_X2_worth_11 F σ (3 : Int32) x1 else s_X2_worth_11 F σ (4 : Int32) x1)
set_option maxRecDepth 100000 in
set_option maxHeartbeats 4000000 in
theorem w_X2_worth_0 (C : Cx E p s m args meth c cX2_worth 3 RX2 (some .int)) (F : Nat) (σ : kS) (x1 : Int32) (x2 : Int32) (h : s_X2_worth_0 F σ x1 x2 = some (r, σr)) (H : Heap) (locs : List Loc) (hP : cP E σ H) (hS : va_S (inC E) s.heap H locs) (ls : Array Slot) (hl : lv_has ls 3 [(0, .ref (eA E 6)), (1, .int x1), (2, .int x2)]) : W p l e (kR 1 23) s m args below meth c H locs 0 0 (MQ below (kQi (cP E) (inC E) r σr) args s 0 0 (inC E)) (F0 m 0 ls []) := by
  obtain ⟨-, hx, hb, hml, hown, hts, hK, -, -⟩ := id C
  unfold s_X2_worth_0 at h
  refine lv_aload_n hx hb dX2_worth_0 rfl (lv_at hl 0 rfl) ?_
  refine lv_iload_n hx hb dX2_worth_1 rfl (lv_at hl 1 rfl) ?_
  refine lv_iload_n hx hb dX2_worth_2 rfl (lv_at hl 2 rfl) ?_
  refine lv_if_ne (tgt := 10) hx hb dX2_worth_3 (by decide) (fun c_1 => ?_) (fun c_1 => ?_)
  · have h := k_f c_1 h
    refine lv_iconst (v := (4 : Int32)) hx hb dX2_worth_10 (by decide) ?_
    exact w_X2_worth_11 C F σ (4 : Int32) x1 h H locs hP hS ls (lv_sub hl [] rfl)
  · have h := k_t c_1 h
    refine lv_iconst (v := (3 : Int32)) hx hb dX2_worth_6 (by decide) ?_
    refine lv_goto (tgt := 11) hx hb dX2_worth_7 (by decide) ?_
    exact w_X2_worth_11 C F σ (3 : Int32) x1 h H locs hP hS ls (lv_sub hl [] rfl)
def f_X2_worth (F : Nat) (σ : kS) (x1 : Int32) (x2 : Int32) : Option (Int32 × kS) := s_X2_worth_0 F σ x1 x2
set_option maxRecDepth 100000 in
theorem c_X2_worth (E : kE) (hE : kap E) (F : Nat) (σ : kS) (x1 : Int32) (x2 : Int32) (h : f_X2_worth F σ x1 x2 = some (r, σr)) : Met l yX2_worth (kWs yX2_worth cX2_worth 3 (some .int)) (kR 1 23) (kPre (cP E) E [.ref (eA E 6), .int x1, .int x2] σ) (kQi (cP E) (inC E) r σr) 0 0 (inC E) :=
  kst hE (by decide +kernel) (Nat.le_of_ble_eq_true rfl) (fun p e s m below meth c ls C hP hl => w_X2_worth_0 C F σ x1 x2 h s.heap [] hP va_S.rf ls hl)
end

section
variable {p : Program} {l : Launch} {e : Env} {s : State} {m : MethodId} {args : Array Value} {below : List Frame} {meth : Method} {c : Code} {E : kE} {σr : kS}
variable {r : Int64}
def s_X7_doAct_0 (F : Nat) (σ : kS) (x1 : Int32) : Option (Int64 × kS) :=
  (kb (f_X7_isAct F σ x1) fun v_1 σ_2 => (if v_1 = 0 then some ((-1 : Int64), σ_2) else (kb (f_X1_isLawful F σ_2 x1 (kG σ_2 0)) fun v_5 σ_6 => (if v_5 = 0 then some ((-2 : Int64), σ_6) else (kb (f_X5_put F σ_6) fun _ σ_10 => (kb (f_X2_minutesTaken F σ_10 x1) fun v_12 σ_13 => (kb (f_X2_worth F (jG σ_13 0 ((kG σ_10 0) + v_12.toInt64)) x1 (0 : Int32)) fun v_15 σ_16 => (kb (f_X2_worth F (jI σ_16 16 ((kI σ_13 16) + v_15)) x1 (1 : Int32)) fun v_18 σ_19 => some ((kG σ_19 0), (jI σ_19 17 ((kI σ_16 17) + v_18)))))))))))
set_option maxRecDepth 100000 in
set_option maxHeartbeats 4000000 in
theorem w_X7_doAct_0 (C : Cx E p s m args meth c cX7_doAct 2 RX7 (some .long)) (F : Nat) (σ : kS) (x1 : Int32) (h : s_X7_doAct_0 F σ x1 = some (r, σr)) (H : Heap) (locs : List Loc) (hP : cP E σ H) (hS : va_S (inC E) s.heap H locs) (ls : Array Slot) (hl : lv_has ls 2 [(0, .ref (eA E 0)), (1, .int x1)]) : W p l e (kR 5 122) s m args below meth c H locs 0 0 (MQ below (kQl (cP E) (inC E) r σr) args s 0 0 (inC E)) (F0 m 0 ls []) := by
  obtain ⟨-, hx, hb, hml, hown, hts, hK, -, -⟩ := id C
  unfold s_X7_doAct_0 at h
  refine lv_aload_n hx hb dX7_doAct_0 rfl (lv_at hl 0 rfl) ?_
  refine lv_iload_n hx hb dX7_doAct_1 rfl (lv_at hl 1 rfl) ?_
  obtain ⟨v_1, σ_2, hc_3, h⟩ := kb_ok h
  refine kci (krunV (As := [.int x1]) C hP (c_X7_isAct E C.1 F σ x1 hc_3) w_361 kv_X7_isAct ⟨Nat.le_of_ble_eq_true rfl, Nat.le_of_ble_eq_true rfl⟩ (rc_0 C hP) rfl hl.1 rfl (Nat.le_of_ble_eq_true rfl) dX7_doAct_2) hS (fun H locs hP hS => ?_)
  refine lv_if_ne (tgt := 12) hx hb dX7_doAct_5 (by decide) (fun c_4 => ?_) (fun c_4 => ?_)
  · have h := k_f c_4 h
    refine lv_aload_n hx hb dX7_doAct_12 rfl (lv_at hl 0 rfl) ?_
    refine gf_0_4 C hP w_253 dX7_doAct_13 ?_
    refine lv_iload_n hx hb dX7_doAct_16 rfl (lv_at hl 1 rfl) ?_
    refine lv_aload_n hx hb dX7_doAct_17 rfl (lv_at hl 0 rfl) ?_
    refine gf_0_3 C hP w_252 dX7_doAct_18 ?_
    refine gf_8_0 C hP (v := (kG σ_2 0)) rfl w_121 dX7_doAct_21 ?_
    obtain ⟨v_5, σ_6, hc_7, h⟩ := kb_ok h
    refine kci (krunV (As := [.int x1, .long (kG σ_2 0)]) C hP (c_X1_isLawful E C.1 F σ_2 x1 (kG σ_2 0) hc_7) w_457 kv_X1_isLawful ⟨Nat.le_of_ble_eq_true rfl, Nat.le_of_ble_eq_true rfl⟩ (rc_9 C hP) rfl hl.1 rfl (Nat.le_of_ble_eq_true rfl) dX7_doAct_24) hS (fun H locs hP hS => ?_)
    refine lv_if_ne (tgt := 34) hx hb dX7_doAct_27 (by decide) (fun c_8 => ?_) (fun c_8 => ?_)
    · have h := k_f c_8 h
      refine lv_aload_n hx hb dX7_doAct_34 rfl (lv_at hl 0 rfl) ?_
      refine gf_0_7 C hP w_256 dX7_doAct_35 ?_
      refine lv_aload_n hx hb dX7_doAct_38 rfl (lv_at hl 0 rfl) ?_
      refine gf_0_3 C hP w_252 dX7_doAct_39 ?_
      obtain ⟨v_9, σ_10, hc_11, h⟩ := kb_ok h
      refine kcv (krunV (As := [.ref (eA E 8)]) C hP (c_X5_put E C.1 F σ_6 hc_11) w_489 kv_X5_put ⟨Nat.le_of_ble_eq_true rfl, Nat.le_of_ble_eq_true rfl⟩ (rc_14 C hP) rfl hl.1 rfl (Nat.le_of_ble_eq_true rfl) dX7_doAct_42) hS (fun H locs hP hS => ?_)
      refine lv_aload_n hx hb dX7_doAct_45 rfl (lv_at hl 0 rfl) ?_
      refine gf_0_3 C hP w_252 dX7_doAct_46 ?_
      refine lv_dup hx hb dX7_doAct_49 rfl ?_
      refine gf_8_0 C hP (v := (kG σ_10 0)) rfl w_121 dX7_doAct_50 ?_
      refine lv_aload_n hx hb dX7_doAct_53 rfl (lv_at hl 0 rfl) ?_
      refine gf_0_2 C hP w_251 dX7_doAct_54 ?_
      refine lv_iload_n hx hb dX7_doAct_57 rfl (lv_at hl 1 rfl) ?_
      obtain ⟨v_12, σ_13, hc_14, h⟩ := kb_ok h
      refine kci (krunV (As := [.int x1]) C hP (c_X2_minutesTaken E C.1 F σ_10 x1 hc_14) w_481 kv_X2_minutesTaken ⟨Nat.le_of_ble_eq_true rfl, Nat.le_of_ble_eq_true rfl⟩ (rc_6 C hP) rfl hl.1 rfl (Nat.le_of_ble_eq_true rfl) dX7_doAct_58) hS (fun H locs hP hS => ?_)
      refine lv_i2l (v := v_12.toInt64) hx hb dX7_doAct_61 rfl ?_
      refine lv_ladd hx hb dX7_doAct_62 ?_
      refine pf_8_0 C hP hS w_121 dX7_doAct_63 (fun H locs hP hS => ?_)
      refine lv_aload_n hx hb dX7_doAct_66 rfl (lv_at hl 0 rfl) ?_
      refine gf_0_3 C hP w_252 dX7_doAct_67 ?_
      refine lv_dup hx hb dX7_doAct_70 rfl ?_
      refine gf_8_2 C hP (v := (kI σ_13 16)) rfl w_128 dX7_doAct_71 ?_
      refine lv_aload_n hx hb dX7_doAct_74 rfl (lv_at hl 0 rfl) ?_
      refine gf_0_2 C hP w_251 dX7_doAct_75 ?_
      refine lv_iload_n hx hb dX7_doAct_78 rfl (lv_at hl 1 rfl) ?_
      refine lv_iconst (v := (0 : Int32)) hx hb dX7_doAct_79 (by decide) ?_
      obtain ⟨v_15, σ_16, hc_17, h⟩ := kb_ok h
      refine kci (krunV (As := [.int x1, .int (0 : Int32)]) C hP (c_X2_worth E C.1 F (jG σ_13 0 ((kG σ_10 0) + v_12.toInt64)) x1 (0 : Int32) hc_17) w_499 kv_X2_worth ⟨Nat.le_of_ble_eq_true rfl, Nat.le_of_ble_eq_true rfl⟩ (rc_6 C hP) rfl hl.1 rfl (Nat.le_of_ble_eq_true rfl) dX7_doAct_80) hS (fun H locs hP hS => ?_)
      refine lv_iadd hx hb dX7_doAct_83 ?_
      refine pf_8_2 C hP hS w_128 dX7_doAct_84 (fun H locs hP hS => ?_)
      refine lv_aload_n hx hb dX7_doAct_87 rfl (lv_at hl 0 rfl) ?_
      refine gf_0_3 C hP w_252 dX7_doAct_88 ?_
      refine lv_dup hx hb dX7_doAct_91 rfl ?_
      refine gf_8_3 C hP (v := (kI σ_16 17)) rfl w_131 dX7_doAct_92 ?_
      refine lv_aload_n hx hb dX7_doAct_95 rfl (lv_at hl 0 rfl) ?_
      refine gf_0_2 C hP w_251 dX7_doAct_96 ?_
      refine lv_iload_n hx hb dX7_doAct_99 rfl (lv_at hl 1 rfl) ?_
      refine lv_iconst (v := (1 : Int32)) hx hb dX7_doAct_100 (by decide) ?_
      obtain ⟨v_18, σ_19, hc_20, h⟩ := kb_ok h
      refine kci (krunV (As := [.int x1, .int (1 : Int32)]) C hP (c_X2_worth E C.1 F (jI σ_16 16 ((kI σ_13 16) + v_15)) x1 (1 : Int32) hc_20) w_499 kv_X2_worth ⟨Nat.le_of_ble_eq_true rfl, Nat.le_of_ble_eq_true rfl⟩ (rc_6 C hP) rfl hl.1 rfl (Nat.le_of_ble_eq_true rfl) dX7_doAct_101) hS (fun H locs hP hS => ?_)
      refine lv_iadd hx hb dX7_doAct_104 ?_
      refine pf_8_3 C hP hS w_131 dX7_doAct_105 (fun H locs hP hS => ?_)
      refine lv_aload_n hx hb dX7_doAct_108 rfl (lv_at hl 0 rfl) ?_
      refine gf_0_3 C hP w_252 dX7_doAct_109 ?_
      refine gf_8_0 C hP (v := (kG σ_19 0)) rfl w_121 dX7_doAct_112 ?_
      obtain ⟨rfl, rfl⟩ := k_inj h
      exact krl C hS hP dX7_doAct_115
    · have h := k_t c_8 h
      refine lv_ldc2 (v := (-2 : Int64)) hx hb hown (hts _ w_498) dX7_doAct_30 ?_
      obtain ⟨rfl, rfl⟩ := k_inj h
      exact krl C hS hP dX7_doAct_33
  · have h := k_t c_4 h
    refine lv_ldc2 (v := (-1 : Int64)) hx hb hown (hts _ w_447) dX7_doAct_8 ?_
    obtain ⟨rfl, rfl⟩ := k_inj h
    exact krl C hS hP dX7_doAct_11
def f_X7_doAct (F : Nat) (σ : kS) (x1 : Int32) : Option (Int64 × kS) := s_X7_doAct_0 F σ x1
set_option maxRecDepth 100000 in
theorem c_X7_doAct (E : kE) (hE : kap E) (F : Nat) (σ : kS) (x1 : Int32) (h : f_X7_doAct F σ x1 = some (r, σr)) : Met l yX7_doAct (kWs yX7_doAct cX7_doAct 2 (some .long)) (kR 5 122) (kPre (cP E) E [.ref (eA E 0), .int x1] σ) (kQl (cP E) (inC E) r σr) 0 0 (inC E) :=
  kst hE (by decide +kernel) (Nat.le_of_ble_eq_true rfl) (fun p e s m below meth c ls C hP hl => w_X7_doAct_0 C F σ x1 h s.heap [] hP va_S.rf ls hl)
end

section
variable {p : Program} {l : Launch} {e : Env} {s : State} {m : MethodId} {args : Array Value} {below : List Frame} {meth : Method} {c : Code} {E : kE} {σr : kS}
variable {r : Int32}
def s_X7_isKing_9 (F : Nat) (σ : kS) : Option (Int32 × kS) :=
  some ((1 : Int32), σ)
set_option maxRecDepth 100000 in
set_option maxHeartbeats 4000000 in
theorem w_X7_isKing_9 (C : Cx E p s m args meth c cX7_isKing 1 RX7 (some .boolean)) (F : Nat) (σ : kS) (h : s_X7_isKing_9 F σ = some (r, σr)) (H : Heap) (locs : List Loc) (hP : cP E σ H) (hS : va_S (inC E) s.heap H locs) (ls : Array Slot) (hl : lv_has ls 1 []) : W p l e (kR 0 0) s m args below meth c H locs 0 0 (MQ below (kQi (cP E) (inC E) r σr) args s 0 0 (inC E)) (F0 m 9 ls []) := by
  obtain ⟨-, hx, hb, hml, hown, hts, hK, -, -⟩ := id C
  unfold s_X7_isKing_9 at h
  refine lv_iconst (v := (1 : Int32)) hx hb dX7_isKing_9 (by decide) ?_
  refine lv_goto (tgt := 14) hx hb dX7_isKing_10 (by decide) ?_
  obtain ⟨rfl, rfl⟩ := k_inj h
  exact krz C hS hP (by decide) dX7_isKing_14
def s_X7_isKing_0 (F : Nat) (σ : kS) (x0 : Int32) : Option (Int32 × kS) :=
  (if x0 = 0 then s_X7_isKing_9 F σ else (if x0 = (1 : Int32) then s_X7_isKing_9 F σ else some ((0 : Int32), σ)))
set_option maxRecDepth 100000 in
set_option maxHeartbeats 4000000 in
theorem w_X7_isKing_0 (C : Cx E p s m args meth c cX7_isKing 1 RX7 (some .boolean)) (F : Nat) (σ : kS) (x0 : Int32) (h : s_X7_isKing_0 F σ x0 = some (r, σr)) (H : Heap) (locs : List Loc) (hP : cP E σ H) (hS : va_S (inC E) s.heap H locs) (ls : Array Slot) (hl : lv_has ls 1 [(0, .int x0)]) : W p l e (kR 0 0) s m args below meth c H locs 0 0 (MQ below (kQi (cP E) (inC E) r σr) args s 0 0 (inC E)) (F0 m 0 ls []) := by
  obtain ⟨-, hx, hb, hml, hown, hts, hK, -, -⟩ := id C
  unfold s_X7_isKing_0 at h
  refine lv_iload_n hx hb dX7_isKing_0 rfl (lv_at hl 0 rfl) ?_
  refine lv_if_eq (tgt := 9) hx hb dX7_isKing_1 (by decide) (fun c_1 => ?_) (fun c_1 => ?_)
  · have h := k_t c_1 h
    exact w_X7_isKing_9 C F σ h H locs hP hS ls (lv_sub hl [] rfl)
  · have h := k_f c_1 h
    refine lv_iload_n hx hb dX7_isKing_4 rfl (lv_at hl 0 rfl) ?_
    refine lv_iconst (v := (1 : Int32)) hx hb dX7_isKing_5 (by decide) ?_
    refine lv_icmp_ne (tgt := 13) hx hb dX7_isKing_6 (by decide) (fun c_2 => ?_) (fun c_2 => ?_)
    · have h := k_f c_2 h
      refine lv_iconst (v := (0 : Int32)) hx hb dX7_isKing_13 (by decide) ?_
      obtain ⟨rfl, rfl⟩ := k_inj h
      exact krz C hS hP (by decide) dX7_isKing_14
    · have h := k_t c_2 h
      exact w_X7_isKing_9 C F σ h H locs hP hS ls (lv_sub hl [] rfl)
def f_X7_isKing (F : Nat) (σ : kS) (x0 : Int32) : Option (Int32 × kS) := s_X7_isKing_0 F σ x0
set_option maxRecDepth 100000 in
theorem c_X7_isKing (E : kE) (hE : kap E) (F : Nat) (σ : kS) (x0 : Int32) (h : f_X7_isKing F σ x0 = some (r, σr)) : Met l yX7_isKing (kWs yX7_isKing cX7_isKing 1 (some .boolean)) (kR 0 0) (kPre (cP E) E [.int x0] σ) (kQi (cP E) (inC E) r σr) 0 0 (inC E) :=
  kst hE (by decide +kernel) (Nat.le_of_ble_eq_true rfl) (fun p e s m below meth c ls C hP hl => w_X7_isKing_0 C F σ x0 h s.heap [] hP va_S.rf ls hl)
end

section
variable {p : Program} {l : Launch} {e : Env} {s : State} {m : MethodId} {args : Array Value} {below : List Frame} {meth : Method} {c : Code} {E : kE} {σr : kS}
variable {r : Int32}
def s_X7_allow_88 (F : Nat) (σ : kS) (x4 : Int32) (y0 : Int32) : Option (Int32 × kS) :=
  some (x4, (jI σ 18 y0))
set_option maxRecDepth 100000 in
set_option maxHeartbeats 4000000 in
theorem w_X7_allow_88 (C : Cx E p s m args meth c cX7_allow 5 RX7 (some .int)) (F : Nat) (σ : kS) (x4 : Int32) (y0 : Int32) (h : s_X7_allow_88 F σ x4 y0 = some (r, σr)) (H : Heap) (locs : List Loc) (hP : cP E σ H) (hS : va_S (inC E) s.heap H locs) (ls : Array Slot) (hl : lv_has ls 5 [(4, .int x4)]) : W p l e (kR 2 44) s m args below meth c H locs 0 0 (MQ below (kQi (cP E) (inC E) r σr) args s 0 0 (inC E)) (F0 m 88 ls [.int y0, .ref (eA E 8)]) := by
  obtain ⟨-, hx, hb, hml, hown, hts, hK, -, -⟩ := id C
  unfold s_X7_allow_88 at h
  refine pf_8_4 C hP hS w_135 dX7_allow_88 (fun H locs hP hS => ?_)
  refine lv_iload hx hb dX7_allow_91 (lv_at hl 0 rfl) ?_
  obtain ⟨rfl, rfl⟩ := k_inj h
  exact kri C hS hP dX7_allow_93
def s_X7_allow_0 (F : Nat) (σ : kS) (x1 : Int32) (x2 : Int32) (x3 : Int32) : Option (Int32 × kS) :=
  (kb (f_X7_isAct F σ x1) fun v_1 σ_2 => (if v_1 = 0 then some ((-1 : Int32), σ_2) else (kb (f_X7_isKing F σ_2 x2) fun v_5 σ_6 => (if v_5 = 0 then some ((-1 : Int32), σ_6) else (kb (f_X7_lawOf F σ_6 (kI σ_6 18) x1) fun v_9 σ_10 => (kn ((v_9 >>> (x2 &&& 31)) &&& (1 : Int32)) (fun x4_12 => (kb (f_X5_put F σ_10) fun _ σ_14 => (if x3 = 0 then (kb (f_X7_lawBits F σ_14 x1 ((1 : Int32) <<< (x2 &&& 31))) fun v_17 σ_18 => s_X7_allow_88 F σ_18 x4_12 ((kI σ_14 18) &&& (v_17 ^^^ (-1 : Int32)))) else (kb (f_X7_lawBits F σ_14 x1 ((1 : Int32) <<< (x2 &&& 31))) fun v_20 σ_21 => s_X7_allow_88 F σ_21 x4_12 ((kI σ_14 18) ||| v_20)))))))))))
set_option maxRecDepth 100000 in
set_option maxHeartbeats 4000000 in
theorem w_X7_allow_0 (C : Cx E p s m args meth c cX7_allow 5 RX7 (some .int)) (F : Nat) (σ : kS) (x1 : Int32) (x2 : Int32) (x3 : Int32) (h : s_X7_allow_0 F σ x1 x2 x3 = some (r, σr)) (H : Heap) (locs : List Loc) (hP : cP E σ H) (hS : va_S (inC E) s.heap H locs) (ls : Array Slot) (hl : lv_has ls 5 [(0, .ref (eA E 0)), (1, .int x1), (2, .int x2), (3, .int x3)]) : W p l e (kR 2 44) s m args below meth c H locs 0 0 (MQ below (kQi (cP E) (inC E) r σr) args s 0 0 (inC E)) (F0 m 0 ls []) := by
  obtain ⟨-, hx, hb, hml, hown, hts, hK, -, -⟩ := id C
  unfold s_X7_allow_0 at h
  refine lv_aload_n hx hb dX7_allow_0 rfl (lv_at hl 0 rfl) ?_
  refine lv_iload_n hx hb dX7_allow_1 rfl (lv_at hl 1 rfl) ?_
  obtain ⟨v_1, σ_2, hc_3, h⟩ := kb_ok h
  refine kci (krunV (As := [.int x1]) C hP (c_X7_isAct E C.1 F σ x1 hc_3) w_361 kv_X7_isAct ⟨Nat.le_of_ble_eq_true rfl, Nat.le_of_ble_eq_true rfl⟩ (rc_0 C hP) rfl hl.1 rfl (Nat.le_of_ble_eq_true rfl) dX7_allow_2) hS (fun H locs hP hS => ?_)
  refine lv_if_eq (tgt := 15) hx hb dX7_allow_5 (by decide) (fun c_4 => ?_) (fun c_4 => ?_)
  · have h := k_t c_4 h
    refine lv_iconst (v := (-1 : Int32)) hx hb dX7_allow_15 (by decide) ?_
    obtain ⟨rfl, rfl⟩ := k_inj h
    exact kri C hS hP dX7_allow_16
  · have h := k_f c_4 h
    refine lv_iload_n hx hb dX7_allow_8 rfl (lv_at hl 2 rfl) ?_
    obtain ⟨v_5, σ_6, hc_7, h⟩ := kb_ok h
    refine kci (krunS (As := [.int x2]) C hP (c_X7_isKing E C.1 F σ_2 x2 hc_7) w_507 kt_X7_isKing ⟨Nat.le_of_ble_eq_true rfl, Nat.le_of_ble_eq_true rfl⟩ rfl hl.1 rfl (Nat.le_of_ble_eq_true rfl) dX7_allow_9) hS (fun H locs hP hS => ?_)
    refine lv_if_ne (tgt := 17) hx hb dX7_allow_12 (by decide) (fun c_8 => ?_) (fun c_8 => ?_)
    · have h := k_f c_8 h
      refine lv_aload_n hx hb dX7_allow_17 rfl (lv_at hl 0 rfl) ?_
      refine gf_0_3 C hP w_252 dX7_allow_18 ?_
      refine gf_8_4 C hP (v := (kI σ_6 18)) rfl w_135 dX7_allow_21 ?_
      refine lv_iload_n hx hb dX7_allow_24 rfl (lv_at hl 1 rfl) ?_
      obtain ⟨v_9, σ_10, hc_11, h⟩ := kb_ok h
      refine kci (krunS (As := [.int (kI σ_6 18), .int x1]) C hP (c_X7_lawOf E C.1 F σ_6 (kI σ_6 18) x1 hc_11) w_365 kt_X7_lawOf ⟨Nat.le_of_ble_eq_true rfl, Nat.le_of_ble_eq_true rfl⟩ rfl hl.1 rfl (Nat.le_of_ble_eq_true rfl) dX7_allow_25) hS (fun H locs hP hS => ?_)
      refine lv_iload_n hx hb dX7_allow_28 rfl (lv_at hl 2 rfl) ?_
      refine lv_ishr hx hb dX7_allow_29 ?_
      refine lv_iconst (v := (1 : Int32)) hx hb dX7_allow_30 (by decide) ?_
      refine lv_iand hx hb dX7_allow_31 ?_
      refine lv_topi (fun x4_12 ex4_12 => ?_)
      have h := kn_to ex4_12 h
      refine lv_istore (lv' := [(4, .int x4_12), (0, .ref (eA E 0)), (1, .int x1), (2, .int x2), (3, .int x3)]) hx hb dX7_allow_32 hl (by decide) rfl (fun ls hl => ?_)
      refine lv_aload_n hx hb dX7_allow_34 rfl (lv_at hl 1 rfl) ?_
      refine gf_0_7 C hP w_256 dX7_allow_35 ?_
      refine lv_aload_n hx hb dX7_allow_38 rfl (lv_at hl 1 rfl) ?_
      refine gf_0_3 C hP w_252 dX7_allow_39 ?_
      obtain ⟨v_13, σ_14, hc_15, h⟩ := kb_ok h
      refine kcv (krunV (As := [.ref (eA E 8)]) C hP (c_X5_put E C.1 F σ_10 hc_15) w_489 kv_X5_put ⟨Nat.le_of_ble_eq_true rfl, Nat.le_of_ble_eq_true rfl⟩ (rc_14 C hP) rfl hl.1 rfl (Nat.le_of_ble_eq_true rfl) dX7_allow_42) hS (fun H locs hP hS => ?_)
      refine lv_aload_n hx hb dX7_allow_45 rfl (lv_at hl 1 rfl) ?_
      refine gf_0_3 C hP w_252 dX7_allow_46 ?_
      refine lv_iload_n hx hb dX7_allow_49 rfl (lv_at hl 4 rfl) ?_
      refine lv_if_eq (tgt := 71) hx hb dX7_allow_50 (by decide) (fun c_16 => ?_) (fun c_16 => ?_)
      · have h := k_t c_16 h
        refine lv_aload_n hx hb dX7_allow_71 rfl (lv_at hl 1 rfl) ?_
        refine gf_0_3 C hP w_252 dX7_allow_72 ?_
        refine gf_8_4 C hP (v := (kI σ_14 18)) rfl w_135 dX7_allow_75 ?_
        refine lv_iload_n hx hb dX7_allow_78 rfl (lv_at hl 2 rfl) ?_
        refine lv_iconst (v := (1 : Int32)) hx hb dX7_allow_79 (by decide) ?_
        refine lv_iload_n hx hb dX7_allow_80 rfl (lv_at hl 3 rfl) ?_
        refine lv_ishl hx hb dX7_allow_81 ?_
        obtain ⟨v_17, σ_18, hc_19, h⟩ := kb_ok h
        refine kci (krunS (As := [.int x1, .int ((1 : Int32) <<< (x2 &&& 31))]) C hP (c_X7_lawBits E C.1 F σ_14 x1 ((1 : Int32) <<< (x2 &&& 31)) hc_19) w_510 kt_X7_lawBits ⟨Nat.le_of_ble_eq_true rfl, Nat.le_of_ble_eq_true rfl⟩ rfl hl.1 rfl (Nat.le_of_ble_eq_true rfl) dX7_allow_82) hS (fun H locs hP hS => ?_)
        refine lv_iconst (v := (-1 : Int32)) hx hb dX7_allow_85 (by decide) ?_
        refine lv_ixor hx hb dX7_allow_86 ?_
        refine lv_iand hx hb dX7_allow_87 ?_
        exact w_X7_allow_88 C F σ_18 x4_12 ((kI σ_14 18) &&& (v_17 ^^^ (-1 : Int32))) h H locs hP hS ls (lv_sub hl [0] rfl)
      · have h := k_f c_16 h
        refine lv_aload_n hx hb dX7_allow_53 rfl (lv_at hl 1 rfl) ?_
        refine gf_0_3 C hP w_252 dX7_allow_54 ?_
        refine gf_8_4 C hP (v := (kI σ_14 18)) rfl w_135 dX7_allow_57 ?_
        refine lv_iload_n hx hb dX7_allow_60 rfl (lv_at hl 2 rfl) ?_
        refine lv_iconst (v := (1 : Int32)) hx hb dX7_allow_61 (by decide) ?_
        refine lv_iload_n hx hb dX7_allow_62 rfl (lv_at hl 3 rfl) ?_
        refine lv_ishl hx hb dX7_allow_63 ?_
        obtain ⟨v_20, σ_21, hc_22, h⟩ := kb_ok h
        refine kci (krunS (As := [.int x1, .int ((1 : Int32) <<< (x2 &&& 31))]) C hP (c_X7_lawBits E C.1 F σ_14 x1 ((1 : Int32) <<< (x2 &&& 31)) hc_22) w_510 kt_X7_lawBits ⟨Nat.le_of_ble_eq_true rfl, Nat.le_of_ble_eq_true rfl⟩ rfl hl.1 rfl (Nat.le_of_ble_eq_true rfl) dX7_allow_64) hS (fun H locs hP hS => ?_)
        refine lv_ior hx hb dX7_allow_67 ?_
        refine lv_goto (tgt := 88) hx hb dX7_allow_68 (by decide) ?_
        exact w_X7_allow_88 C F σ_21 x4_12 ((kI σ_14 18) ||| v_20) h H locs hP hS ls (lv_sub hl [0] rfl)
    · have h := k_t c_8 h
      refine lv_iconst (v := (-1 : Int32)) hx hb dX7_allow_15 (by decide) ?_
      obtain ⟨rfl, rfl⟩ := k_inj h
      exact kri C hS hP dX7_allow_16
def f_X7_allow (F : Nat) (σ : kS) (x1 : Int32) (x2 : Int32) (x3 : Int32) : Option (Int32 × kS) := s_X7_allow_0 F σ x1 x2 x3
set_option maxRecDepth 100000 in
theorem c_X7_allow (E : kE) (hE : kap E) (F : Nat) (σ : kS) (x1 : Int32) (x2 : Int32) (x3 : Int32) (h : f_X7_allow F σ x1 x2 x3 = some (r, σr)) : Met l yX7_allow (kWs yX7_allow cX7_allow 5 (some .int)) (kR 2 44) (kPre (cP E) E [.ref (eA E 0), .int x1, .int x2, .int x3] σ) (kQi (cP E) (inC E) r σr) 0 0 (inC E) :=
  kst hE (by decide +kernel) (Nat.le_of_ble_eq_true rfl) (fun p e s m below meth c ls C hP hl => w_X7_allow_0 C F σ x1 x2 x3 h s.heap [] hP va_S.rf ls hl)
end

section
variable {p : Program} {l : Launch} {e : Env} {s : State} {m : MethodId} {args : Array Value} {below : List Frame} {meth : Method} {c : Code} {E : kE} {σr : kS}
variable {r : Unit}
def s_X5_takeInto_41 (F : Nat) (σ : kS) (y0 : Int32) : Option (Unit × kS) :=
  (if y0 < 0 ∨ 8 ≤ y0.toNatClampNeg then none else (if y0 < 0 ∨ 8 ≤ y0.toNatClampNeg then none else (if y0 < 0 ∨ 8 ≤ y0.toNatClampNeg then none else (if y0 < 0 ∨ 8 ≤ y0.toNatClampNeg then none else (if y0 < 0 ∨ 8 ≤ y0.toNatClampNeg then none else some ((), (jI (jI (jI (jI (jG (jI σ 21 y0) 0 (kB σ 0 y0.toNatClampNeg)) 15 (kA σ 6 y0.toNatClampNeg)) 16 (kA σ 7 y0.toNatClampNeg)) 17 (kA σ 8 y0.toNatClampNeg)) 18 (kA σ 9 y0.toNatClampNeg))))))))
set_option maxRecDepth 100000 in
set_option maxHeartbeats 4000000 in
theorem w_X5_takeInto_41 (C : Cx E p s m args meth c cX5_takeInto 2 RX5 none) (F : Nat) (σ : kS) (y0 : Int32) (h : s_X5_takeInto_41 F σ y0 = some (r, σr)) (H : Heap) (locs : List Loc) (hP : cP E σ H) (hS : va_S (inC E) s.heap H locs) (ls : Array Slot) (hl : lv_has ls 2 [(0, .ref (eA E 14)), (1, .ref (eA E 8))]) : W p l e (kR 0 0) s m args below meth c H locs 0 0 (MQ below (kQv (cP E) (inC E) r σr) args s 0 0 (inC E)) (F0 m 41 ls [.int y0, .ref (eA E 14)]) := by
  obtain ⟨-, hx, hb, hml, hown, hts, hK, -, -⟩ := id C
  unfold s_X5_takeInto_41 at h
  refine pf_14_6 C hP hS w_209 dX5_takeInto_41 (fun H locs hP hS => ?_)
  refine lv_aload_n hx hb dX5_takeInto_44 rfl (lv_at hl 1 rfl) ?_
  refine lv_aload_n hx hb dX5_takeInto_45 rfl (lv_at hl 0 rfl) ?_
  refine gf_14_1 C hP w_204 dX5_takeInto_46 ?_
  refine lv_aload_n hx hb dX5_takeInto_49 rfl (lv_at hl 0 rfl) ?_
  refine gf_14_6 C hP (v := y0) rfl w_209 dX5_takeInto_50 ?_
  obtain ⟨n_1, h⟩ := k_no h
  refine al_15 C hP (v := (kB σ 0 y0.toNatClampNeg)) rfl n_1 dX5_takeInto_53 ?_
  refine pf_8_0 C hP hS w_120 dX5_takeInto_54 (fun H locs hP hS => ?_)
  refine lv_aload_n hx hb dX5_takeInto_57 rfl (lv_at hl 1 rfl) ?_
  refine lv_aload_n hx hb dX5_takeInto_58 rfl (lv_at hl 0 rfl) ?_
  refine gf_14_2 C hP w_205 dX5_takeInto_59 ?_
  refine lv_aload_n hx hb dX5_takeInto_62 rfl (lv_at hl 0 rfl) ?_
  refine gf_14_6 C hP (v := y0) rfl w_209 dX5_takeInto_63 ?_
  obtain ⟨n_2, h⟩ := k_no h
  refine al_16 C hP (v := (kA σ 6 y0.toNatClampNeg)) rfl n_2 dX5_takeInto_66 ?_
  refine pf_8_1 C hP hS w_124 dX5_takeInto_67 (fun H locs hP hS => ?_)
  refine lv_aload_n hx hb dX5_takeInto_70 rfl (lv_at hl 1 rfl) ?_
  refine lv_aload_n hx hb dX5_takeInto_71 rfl (lv_at hl 0 rfl) ?_
  refine gf_14_3 C hP w_206 dX5_takeInto_72 ?_
  refine lv_aload_n hx hb dX5_takeInto_75 rfl (lv_at hl 0 rfl) ?_
  refine gf_14_6 C hP (v := y0) rfl w_209 dX5_takeInto_76 ?_
  obtain ⟨n_3, h⟩ := k_no h
  refine al_17 C hP (v := (kA σ 7 y0.toNatClampNeg)) rfl n_3 dX5_takeInto_79 ?_
  refine pf_8_2 C hP hS w_127 dX5_takeInto_80 (fun H locs hP hS => ?_)
  refine lv_aload_n hx hb dX5_takeInto_83 rfl (lv_at hl 1 rfl) ?_
  refine lv_aload_n hx hb dX5_takeInto_84 rfl (lv_at hl 0 rfl) ?_
  refine gf_14_4 C hP w_207 dX5_takeInto_85 ?_
  refine lv_aload_n hx hb dX5_takeInto_88 rfl (lv_at hl 0 rfl) ?_
  refine gf_14_6 C hP (v := y0) rfl w_209 dX5_takeInto_89 ?_
  obtain ⟨n_4, h⟩ := k_no h
  refine al_18 C hP (v := (kA σ 8 y0.toNatClampNeg)) rfl n_4 dX5_takeInto_92 ?_
  refine pf_8_3 C hP hS w_130 dX5_takeInto_93 (fun H locs hP hS => ?_)
  refine lv_aload_n hx hb dX5_takeInto_96 rfl (lv_at hl 1 rfl) ?_
  refine lv_aload_n hx hb dX5_takeInto_97 rfl (lv_at hl 0 rfl) ?_
  refine gf_14_5 C hP w_208 dX5_takeInto_98 ?_
  refine lv_aload_n hx hb dX5_takeInto_101 rfl (lv_at hl 0 rfl) ?_
  refine gf_14_6 C hP (v := y0) rfl w_209 dX5_takeInto_102 ?_
  obtain ⟨n_5, h⟩ := k_no h
  refine al_19 C hP (v := (kA σ 9 y0.toNatClampNeg)) rfl n_5 dX5_takeInto_105 ?_
  refine pf_8_4 C hP hS w_133 dX5_takeInto_106 (fun H locs hP hS => ?_)
  obtain ⟨rfl, rfl⟩ := k_inj h
  exact krv C hS hP dX5_takeInto_109
def s_X5_takeInto_0 (F : Nat) (σ : kS) : Option (Unit × kS) :=
  (if 0 < (kI σ 22) then (if (kI σ 21) ≤ 0 then s_X5_takeInto_41 F (jI σ 22 ((kI σ 22) - (1 : Int32))) ((kI σ 20) - (1 : Int32)) else s_X5_takeInto_41 F (jI σ 22 ((kI σ 22) - (1 : Int32))) ((kI σ 21) - (1 : Int32))) else some ((), σ))
set_option maxRecDepth 100000 in
set_option maxHeartbeats 4000000 in
theorem w_X5_takeInto_0 (C : Cx E p s m args meth c cX5_takeInto 2 RX5 none) (F : Nat) (σ : kS) (h : s_X5_takeInto_0 F σ = some (r, σr)) (H : Heap) (locs : List Loc) (hP : cP E σ H) (hS : va_S (inC E) s.heap H locs) (ls : Array Slot) (hl : lv_has ls 2 [(0, .ref (eA E 14)), (1, .ref (eA E 8))]) : W p l e (kR 0 0) s m args below meth c H locs 0 0 (MQ below (kQv (cP E) (inC E) r σr) args s 0 0 (inC E)) (F0 m 0 ls []) := by
  obtain ⟨-, hx, hb, hml, hown, hts, hK, -, -⟩ := id C
  unfold s_X5_takeInto_0 at h
  refine lv_aload_n hx hb dX5_takeInto_0 rfl (lv_at hl 0 rfl) ?_
  refine gf_14_7 C hP (v := (kI σ 22)) rfl w_210 dX5_takeInto_1 ?_
  refine lv_if_gt (tgt := 8) hx hb dX5_takeInto_4 (by decide) (fun c_1 => ?_) (fun c_1 => ?_)
  · have h := k_t c_1 h
    refine lv_aload_n hx hb dX5_takeInto_8 rfl (lv_at hl 0 rfl) ?_
    refine lv_dup hx hb dX5_takeInto_9 rfl ?_
    refine gf_14_7 C hP (v := (kI σ 22)) rfl w_210 dX5_takeInto_10 ?_
    refine lv_iconst (v := (1 : Int32)) hx hb dX5_takeInto_13 (by decide) ?_
    refine lv_isub hx hb dX5_takeInto_14 ?_
    refine pf_14_7 C hP hS w_210 dX5_takeInto_15 (fun H locs hP hS => ?_)
    refine lv_aload_n hx hb dX5_takeInto_18 rfl (lv_at hl 0 rfl) ?_
    refine lv_aload_n hx hb dX5_takeInto_19 rfl (lv_at hl 0 rfl) ?_
    refine gf_14_6 C hP (v := (kI σ 21)) rfl w_209 dX5_takeInto_20 ?_
    refine lv_if_le (tgt := 35) hx hb dX5_takeInto_23 (by decide) (fun c_2 => ?_) (fun c_2 => ?_)
    · have h := k_t c_2 h
      refine lv_aload_n hx hb dX5_takeInto_35 rfl (lv_at hl 0 rfl) ?_
      refine gf_14_0 C hP (v := (kI σ 20)) rfl w_203 dX5_takeInto_36 ?_
      refine lv_iconst (v := (1 : Int32)) hx hb dX5_takeInto_39 (by decide) ?_
      refine lv_isub hx hb dX5_takeInto_40 ?_
      exact w_X5_takeInto_41 C F (jI σ 22 ((kI σ 22) - (1 : Int32))) ((kI σ 20) - (1 : Int32)) h H locs hP hS ls hl
    · have h := k_f c_2 h
      refine lv_aload_n hx hb dX5_takeInto_26 rfl (lv_at hl 0 rfl) ?_
      refine gf_14_6 C hP (v := (kI σ 21)) rfl w_209 dX5_takeInto_27 ?_
      refine lv_iconst (v := (1 : Int32)) hx hb dX5_takeInto_30 (by decide) ?_
      refine lv_isub hx hb dX5_takeInto_31 ?_
      refine lv_goto (tgt := 41) hx hb dX5_takeInto_32 (by decide) ?_
      exact w_X5_takeInto_41 C F (jI σ 22 ((kI σ 22) - (1 : Int32))) ((kI σ 21) - (1 : Int32)) h H locs hP hS ls hl
  · have h := k_f c_1 h
    obtain ⟨rfl, rfl⟩ := k_inj h
    exact krv C hS hP dX5_takeInto_7
def f_X5_takeInto (F : Nat) (σ : kS) : Option (Unit × kS) := s_X5_takeInto_0 F σ
set_option maxRecDepth 100000 in
theorem c_X5_takeInto (E : kE) (hE : kap E) (F : Nat) (σ : kS) (h : f_X5_takeInto F σ = some (r, σr)) : Met l yX5_takeInto (kWs yX5_takeInto cX5_takeInto 2 none) (kR 0 0) (kPre (cP E) E [.ref (eA E 14), .ref (eA E 8)] σ) (kQv (cP E) (inC E) r σr) 0 0 (inC E) :=
  kst hE (by decide +kernel) (Nat.le_of_ble_eq_true rfl) (fun p e s m below meth c ls C hP hl => w_X5_takeInto_0 C F σ h s.heap [] hP va_S.rf ls hl)
end

section
variable {p : Program} {l : Launch} {e : Env} {s : State} {m : MethodId} {args : Array Value} {below : List Frame} {meth : Method} {c : Code} {E : kE} {σr : kS}
variable {r : Int32}
def s_X7_undo_0 (F : Nat) (σ : kS) : Option (Int32 × kS) :=
  (if (kI σ 22) = 0 then some ((-2 : Int32), σ) else (kb (f_X5_takeInto F σ) fun _ σ_3 => some ((kI σ_3 22), (jI σ_3 15 (kI σ 15)))))
set_option maxRecDepth 100000 in
set_option maxHeartbeats 4000000 in
theorem w_X7_undo_0 (C : Cx E p s m args meth c cX7_undo 2 RX7 (some .int)) (F : Nat) (σ : kS) (h : s_X7_undo_0 F σ = some (r, σr)) (H : Heap) (locs : List Loc) (hP : cP E σ H) (hS : va_S (inC E) s.heap H locs) (ls : Array Slot) (hl : lv_has ls 2 [(0, .ref (eA E 0))]) : W p l e (kR 1 21) s m args below meth c H locs 0 0 (MQ below (kQi (cP E) (inC E) r σr) args s 0 0 (inC E)) (F0 m 0 ls []) := by
  obtain ⟨-, hx, hb, hml, hown, hts, hK, -, -⟩ := id C
  unfold s_X7_undo_0 at h
  refine lv_aload_n hx hb dX7_undo_0 rfl (lv_at hl 0 rfl) ?_
  refine gf_0_7 C hP w_256 dX7_undo_1 ?_
  refine gf_14_7 C hP (v := (kI σ 22)) rfl w_211 dX7_undo_4 ?_
  refine lv_if_ne (tgt := 13) hx hb dX7_undo_7 (by decide) (fun c_1 => ?_) (fun c_1 => ?_)
  · have h := k_f c_1 h
    refine lv_aload_n hx hb dX7_undo_13 rfl (lv_at hl 0 rfl) ?_
    refine gf_0_3 C hP w_252 dX7_undo_14 ?_
    refine gf_8_1 C hP (v := (kI σ 15)) rfl w_125 dX7_undo_17 ?_
    refine lv_istore_n (lv' := [(1, .int (kI σ 15)), (0, .ref (eA E 0))]) hx hb dX7_undo_20 rfl hl (by decide) rfl (fun ls hl => ?_)
    refine lv_aload_n hx hb dX7_undo_21 rfl (lv_at hl 1 rfl) ?_
    refine gf_0_7 C hP w_256 dX7_undo_22 ?_
    refine lv_aload_n hx hb dX7_undo_25 rfl (lv_at hl 1 rfl) ?_
    refine gf_0_3 C hP w_252 dX7_undo_26 ?_
    obtain ⟨v_2, σ_3, hc_4, h⟩ := kb_ok h
    refine kcv (krunV (As := [.ref (eA E 8)]) C hP (c_X5_takeInto E C.1 F σ hc_4) w_515 kv_X5_takeInto ⟨Nat.le_of_ble_eq_true rfl, Nat.le_of_ble_eq_true rfl⟩ (rc_14 C hP) rfl hl.1 rfl (Nat.le_of_ble_eq_true rfl) dX7_undo_29) hS (fun H locs hP hS => ?_)
    refine lv_aload_n hx hb dX7_undo_32 rfl (lv_at hl 1 rfl) ?_
    refine gf_0_3 C hP w_252 dX7_undo_33 ?_
    refine lv_iload_n hx hb dX7_undo_36 rfl (lv_at hl 0 rfl) ?_
    refine pf_8_1 C hP hS w_125 dX7_undo_37 (fun H locs hP hS => ?_)
    refine lv_aload_n hx hb dX7_undo_40 rfl (lv_at hl 1 rfl) ?_
    refine gf_0_7 C hP w_256 dX7_undo_41 ?_
    refine gf_14_7 C hP (v := (kI σ_3 22)) rfl w_211 dX7_undo_44 ?_
    obtain ⟨rfl, rfl⟩ := k_inj h
    exact kri C hS hP dX7_undo_47
  · have h := k_t c_1 h
    refine lv_bipush (v := (-2 : Int32)) hx hb dX7_undo_10 (by decide) ?_
    obtain ⟨rfl, rfl⟩ := k_inj h
    exact kri C hS hP dX7_undo_12
def f_X7_undo (F : Nat) (σ : kS) : Option (Int32 × kS) := s_X7_undo_0 F σ
set_option maxRecDepth 100000 in
theorem c_X7_undo (E : kE) (hE : kap E) (F : Nat) (σ : kS) (h : f_X7_undo F σ = some (r, σr)) : Met l yX7_undo (kWs yX7_undo cX7_undo 2 (some .int)) (kR 1 21) (kPre (cP E) E [.ref (eA E 0)] σ) (kQi (cP E) (inC E) r σr) 0 0 (inC E) :=
  kst hE (by decide +kernel) (Nat.le_of_ble_eq_true rfl) (fun p e s m below meth c ls C hP hl => w_X7_undo_0 C F σ h s.heap [] hP va_S.rf ls hl)
end

section
variable {p : Program} {l : Launch} {e : Env} {s : State} {m : MethodId} {args : Array Value} {below : List Frame} {meth : Method} {c : Code} {E : kE} {σr : kS}
variable {r : Int32}
def s_X0_gainUnder_39 (F : Nat) (rec5 : (kS × Int32 × Int32 × Int32 × Int32 → Option (Int32 × kS))) (σ : kS) (x1 : Int32) (x2 : Int32) (x3 : Int32) (x4 : Int32) : Option (Int32 × kS) :=
  rec5 (σ, x1, x2, x3, (x4 + (1 : Int32)))
set_option maxRecDepth 100000 in
set_option maxHeartbeats 4000000 in
theorem w_X0_gainUnder_39 (C : Cx E p s m args meth c cX0_gainUnder 5 RX0 (some .int)) (F : Nat) (rec5 : (kS × Int32 × Int32 × Int32 × Int32 → Option (Int32 × kS))) (hrec5 : ∀ (σ : kS) (x1 : Int32) (x2 : Int32) (x3 : Int32) (x4 : Int32), rec5 (σ, x1, x2, x3, x4) = some (r, σr) → ∀ (H : Heap) (locs : List Loc), cP E σ H → va_S (inC E) s.heap H locs → ∀ (ls : Array Slot), lv_has ls 5 [(0, .ref (eA E 10)), (1, .int x1), (2, .int x2), (3, .int x3), (4, .int x4)] → W p l e (kR 2 45) s m args below meth c H locs 0 0 (MQ below (kQi (cP E) (inC E) r σr) args s 0 0 (inC E)) (F0 m 5 ls [])) (σ : kS) (x1 : Int32) (x2 : Int32) (x3 : Int32) (x4 : Int32) (h : s_X0_gainUnder_39 F rec5 σ x1 x2 x3 x4 = some (r, σr)) (H : Heap) (locs : List Loc) (hP : cP E σ H) (hS : va_S (inC E) s.heap H locs) (ls : Array Slot) (hl : lv_has ls 5 [(0, .ref (eA E 10)), (1, .int x1), (2, .int x2), (3, .int x3), (4, .int x4)]) : W p l e (kR 2 45) s m args below meth c H locs 0 0 (MQ below (kQi (cP E) (inC E) r σr) args s 0 0 (inC E)) (F0 m 39 ls []) := by
  obtain ⟨-, hx, hb, hml, hown, hts, hK, -, -⟩ := id C
  unfold s_X0_gainUnder_39 at h
  refine lv_iinc (v := (x4 + (1 : Int32))) (lv' := [(4, .int (x4 + (1 : Int32))), (0, .ref (eA E 10)), (1, .int x1), (2, .int x2), (3, .int x3)]) hx hb dX0_gainUnder_39 hl (k := 4) rfl rfl (by decide) rfl (fun ls hl => ?_)
  refine lv_goto (tgt := 5) hx hb dX0_gainUnder_42 (by decide) ?_
  exact hrec5 σ x1 x2 x3 (x4 + (1 : Int32)) h H locs hP hS ls (lv_sub hl [1, 2, 3, 4, 0] rfl)
def s_X0_gainUnder_5 (F : Nat) (rec5 : (kS × Int32 × Int32 × Int32 × Int32 → Option (Int32 × kS))) (σ : kS) (x1 : Int32) (x2 : Int32) (x3 : Int32) (x4 : Int32) : Option (Int32 × kS) :=
  (if (kI σ 14) ≤ x4 then some (x3, σ) else (kb (f_X7_lawOf F σ x1 x4) fun v_2 σ_3 => (if v_2 = 0 then s_X0_gainUnder_39 F rec5 σ_3 x1 x2 x3 x4 else (kb (f_X2_worth F σ_3 x4 x2) fun v_6 σ_7 => s_X0_gainUnder_39 F rec5 σ_7 x1 x2 (x3 + v_6) x4))))
set_option maxRecDepth 100000 in
set_option maxHeartbeats 4000000 in
theorem w_X0_gainUnder_5 (C : Cx E p s m args meth c cX0_gainUnder 5 RX0 (some .int)) (F : Nat) (rec5 : (kS × Int32 × Int32 × Int32 × Int32 → Option (Int32 × kS))) (hrec5 : ∀ (σ : kS) (x1 : Int32) (x2 : Int32) (x3 : Int32) (x4 : Int32), rec5 (σ, x1, x2, x3, x4) = some (r, σr) → ∀ (H : Heap) (locs : List Loc), cP E σ H → va_S (inC E) s.heap H locs → ∀ (ls : Array Slot), lv_has ls 5 [(0, .ref (eA E 10)), (1, .int x1), (2, .int x2), (3, .int x3), (4, .int x4)] → W p l e (kR 2 45) s m args below meth c H locs 0 0 (MQ below (kQi (cP E) (inC E) r σr) args s 0 0 (inC E)) (F0 m 5 ls [])) (σ : kS) (x1 : Int32) (x2 : Int32) (x3 : Int32) (x4 : Int32) (h : s_X0_gainUnder_5 F rec5 σ x1 x2 x3 x4 = some (r, σr)) (H : Heap) (locs : List Loc) (hP : cP E σ H) (hS : va_S (inC E) s.heap H locs) (ls : Array Slot) (hl : lv_has ls 5 [(0, .ref (eA E 10)), (1, .int x1), (2, .int x2), (3, .int x3), (4, .int x4)]) : W p l e (kR 2 45) s m args below meth c H locs 0 0 (MQ below (kQi (cP E) (inC E) r σr) args s 0 0 (inC E)) (F0 m 5 ls []) := by
  obtain ⟨-, hx, hb, hml, hown, hts, hK, -, -⟩ := id C
  unfold s_X0_gainUnder_5 at h
  refine lv_iload hx hb dX0_gainUnder_5 (lv_at hl 4 rfl) ?_
  refine lv_aload_n hx hb dX0_gainUnder_7 rfl (lv_at hl 0 rfl) ?_
  refine gf_10_0 C hP w_167 dX0_gainUnder_8 ?_
  refine gf_6_7 C hP (v := (kI σ 14)) rfl w_93 dX0_gainUnder_11 ?_
  refine lv_icmp_ge (tgt := 45) hx hb dX0_gainUnder_14 (by decide) (fun c_1 => ?_) (fun c_1 => ?_)
  · have h := k_t c_1 h
    refine lv_iload_n hx hb dX0_gainUnder_45 rfl (lv_at hl 3 rfl) ?_
    obtain ⟨rfl, rfl⟩ := k_inj h
    exact kri C hS hP dX0_gainUnder_46
  · have h := k_f c_1 h
    refine lv_iload_n hx hb dX0_gainUnder_17 rfl (lv_at hl 1 rfl) ?_
    refine lv_iload hx hb dX0_gainUnder_18 (lv_at hl 4 rfl) ?_
    obtain ⟨v_2, σ_3, hc_4, h⟩ := kb_ok h
    refine kci (krunN (As := [.int x1, .int x4]) C hP (c_X7_lawOf E C.1 F σ x1 x4 hc_4) (fun g => g.2.2.1) kt_X7_lawOf ⟨Nat.le_of_ble_eq_true rfl, Nat.le_of_ble_eq_true rfl⟩ rfl hl.1 rfl (Nat.le_of_ble_eq_true rfl) dX0_gainUnder_20) hS (fun H locs hP hS => ?_)
    refine lv_if_eq (tgt := 39) hx hb dX0_gainUnder_23 (by decide) (fun c_5 => ?_) (fun c_5 => ?_)
    · have h := k_t c_5 h
      exact w_X0_gainUnder_39 C F rec5 hrec5 σ_3 x1 x2 x3 x4 h H locs hP hS ls hl
    · have h := k_f c_5 h
      refine lv_iload_n hx hb dX0_gainUnder_26 rfl (lv_at hl 3 rfl) ?_
      refine lv_aload_n hx hb dX0_gainUnder_27 rfl (lv_at hl 0 rfl) ?_
      refine gf_10_0 C hP w_167 dX0_gainUnder_28 ?_
      refine lv_iload hx hb dX0_gainUnder_31 (lv_at hl 4 rfl) ?_
      refine lv_iload_n hx hb dX0_gainUnder_33 rfl (lv_at hl 2 rfl) ?_
      obtain ⟨v_6, σ_7, hc_8, h⟩ := kb_ok h
      refine kci (krunV (As := [.int x4, .int x2]) C hP (c_X2_worth E C.1 F σ_3 x4 x2 hc_8) w_528 kv_X2_worth ⟨Nat.le_of_ble_eq_true rfl, Nat.le_of_ble_eq_true rfl⟩ (rc_6 C hP) rfl hl.1 rfl (Nat.le_of_ble_eq_true rfl) dX0_gainUnder_34) hS (fun H locs hP hS => ?_)
      refine lv_iadd hx hb dX0_gainUnder_37 ?_
      refine lv_istore_n (lv' := [(3, .int (x3 + v_6)), (0, .ref (eA E 10)), (1, .int x1), (2, .int x2), (4, .int x4)]) hx hb dX0_gainUnder_38 rfl hl (by decide) rfl (fun ls hl => ?_)
      exact w_X0_gainUnder_39 C F rec5 hrec5 σ_7 x1 x2 (x3 + v_6) x4 h H locs hP hS ls (lv_sub hl [1, 2, 3, 0, 4] rfl)
def f_X0_gainUnder_5 (F : Nat) : kS × Int32 × Int32 × Int32 × Int32 → Option (Int32 × kS) := itr (fun rec5 q => s_X0_gainUnder_5 F rec5 q.1 q.2.1 q.2.2.1 q.2.2.2.1 q.2.2.2.2) F
theorem wf_X0_gainUnder_5 (C : Cx E p s m args meth c cX0_gainUnder 5 RX0 (some .int)) (F : Nat) (σ : kS) (x1 : Int32) (x2 : Int32) (x3 : Int32) (x4 : Int32) (h : f_X0_gainUnder_5 F (σ, x1, x2, x3, x4) = some (r, σr)) (H : Heap) (locs : List Loc) (hP : cP E σ H) (hS : va_S (inC E) s.heap H locs) (ls : Array Slot) (hl : lv_has ls 5 [(0, .ref (eA E 10)), (1, .int x1), (2, .int x2), (3, .int x3), (4, .int x4)]) : W p l e (kR 2 45) s m args below meth c H locs 0 0 (MQ below (kQi (cP E) (inC E) r σr) args s 0 0 (inC E)) (F0 m 5 ls []) :=
  itr_ok (r := (r, σr)) (G := fun q => ∀ (H : Heap) (locs : List Loc), cP E q.1 H → va_S (inC E) s.heap H locs → ∀ (ls : Array Slot), lv_has ls 5 [(0, .ref (eA E 10)), (1, .int (q.2.1)), (2, .int (q.2.2.1)), (3, .int (q.2.2.2.1)), (4, .int (q.2.2.2.2))] → W p l e (kR 2 45) s m args below meth c H locs 0 0 (MQ below (kQi (cP E) (inC E) r σr) args s 0 0 (inC E)) (F0 m 5 ls [])) (fun rec5 hrec5 q h => w_X0_gainUnder_5 C F rec5 (fun σ x1 x2 x3 x4 => hrec5 (σ, x1, x2, x3, x4)) q.1 q.2.1 q.2.2.1 q.2.2.2.1 q.2.2.2.2 h) F (σ, x1, x2, x3, x4) h H locs hP hS ls hl
def s_X0_gainUnder_0 (F : Nat) (σ : kS) (x1 : Int32) (x2 : Int32) : Option (Int32 × kS) :=
  f_X0_gainUnder_5 F (σ, x1, x2, (0 : Int32), (0 : Int32))
set_option maxRecDepth 100000 in
set_option maxHeartbeats 4000000 in
theorem w_X0_gainUnder_0 (C : Cx E p s m args meth c cX0_gainUnder 5 RX0 (some .int)) (F : Nat) (σ : kS) (x1 : Int32) (x2 : Int32) (h : s_X0_gainUnder_0 F σ x1 x2 = some (r, σr)) (H : Heap) (locs : List Loc) (hP : cP E σ H) (hS : va_S (inC E) s.heap H locs) (ls : Array Slot) (hl : lv_has ls 5 [(0, .ref (eA E 10)), (1, .int x1), (2, .int x2)]) : W p l e (kR 2 45) s m args below meth c H locs 0 0 (MQ below (kQi (cP E) (inC E) r σr) args s 0 0 (inC E)) (F0 m 0 ls []) := by
  obtain ⟨-, hx, hb, hml, hown, hts, hK, -, -⟩ := id C
  unfold s_X0_gainUnder_0 at h
  refine lv_iconst (v := (0 : Int32)) hx hb dX0_gainUnder_0 (by decide) ?_
  refine lv_istore_n (lv' := [(3, .int (0 : Int32)), (0, .ref (eA E 10)), (1, .int x1), (2, .int x2)]) hx hb dX0_gainUnder_1 rfl hl (by decide) rfl (fun ls hl => ?_)
  refine lv_iconst (v := (0 : Int32)) hx hb dX0_gainUnder_2 (by decide) ?_
  refine lv_istore (lv' := [(4, .int (0 : Int32)), (3, .int (0 : Int32)), (0, .ref (eA E 10)), (1, .int x1), (2, .int x2)]) hx hb dX0_gainUnder_3 hl (by decide) rfl (fun ls hl => ?_)
  exact wf_X0_gainUnder_5 C F σ x1 x2 (0 : Int32) (0 : Int32) h H locs hP hS ls (lv_sub hl [2, 3, 4, 1, 0] rfl)
def f_X0_gainUnder (F : Nat) (σ : kS) (x1 : Int32) (x2 : Int32) : Option (Int32 × kS) := s_X0_gainUnder_0 F σ x1 x2
set_option maxRecDepth 100000 in
theorem c_X0_gainUnder (E : kE) (hE : kap E) (F : Nat) (σ : kS) (x1 : Int32) (x2 : Int32) (h : f_X0_gainUnder F σ x1 x2 = some (r, σr)) : Met l yX0_gainUnder (kWs yX0_gainUnder cX0_gainUnder 5 (some .int)) (kR 2 45) (kPre (cP E) E [.ref (eA E 10), .int x1, .int x2] σ) (kQi (cP E) (inC E) r σr) 0 0 (inC E) :=
  kst hE (by decide +kernel) (Nat.le_of_ble_eq_true rfl) (fun p e s m below meth c ls C hP hl => w_X0_gainUnder_0 C F σ x1 x2 h s.heap [] hP va_S.rf ls hl)
end

section
variable {p : Program} {l : Launch} {e : Env} {s : State} {m : MethodId} {args : Array Value} {below : List Frame} {meth : Method} {c : Code} {E : kE} {σr : kS}
variable {r : Int32}
def s_X7_gain_0 (F : Nat) (σ : kS) (x1 : Int32) : Option (Int32 × kS) :=
  (kb (f_X7_isKing F σ x1) fun v_1 σ_2 => (if v_1 = 0 then some ((-1 : Int32), σ_2) else (kb (f_X0_gainUnder F σ_2 (kI σ_2 18) x1) fun v_5 σ_6 => some ((v_5 + (1000 : Int32)), σ_6))))
set_option maxRecDepth 100000 in
set_option maxHeartbeats 4000000 in
theorem w_X7_gain_0 (C : Cx E p s m args meth c cX7_gain 2 RX7 (some .int)) (F : Nat) (σ : kS) (x1 : Int32) (h : s_X7_gain_0 F σ x1 = some (r, σr)) (H : Heap) (locs : List Loc) (hP : cP E σ H) (hS : va_S (inC E) s.heap H locs) (ls : Array Slot) (hl : lv_has ls 2 [(0, .ref (eA E 0)), (1, .int x1)]) : W p l e (kR 3 69) s m args below meth c H locs 0 0 (MQ below (kQi (cP E) (inC E) r σr) args s 0 0 (inC E)) (F0 m 0 ls []) := by
  obtain ⟨-, hx, hb, hml, hown, hts, hK, -, -⟩ := id C
  unfold s_X7_gain_0 at h
  refine lv_iload_n hx hb dX7_gain_0 rfl (lv_at hl 1 rfl) ?_
  obtain ⟨v_1, σ_2, hc_3, h⟩ := kb_ok h
  refine kci (krunS (As := [.int x1]) C hP (c_X7_isKing E C.1 F σ x1 hc_3) w_507 kt_X7_isKing ⟨Nat.le_of_ble_eq_true rfl, Nat.le_of_ble_eq_true rfl⟩ rfl hl.1 rfl (Nat.le_of_ble_eq_true rfl) dX7_gain_1) hS (fun H locs hP hS => ?_)
  refine lv_if_eq (tgt := 29) hx hb dX7_gain_4 (by decide) (fun c_4 => ?_) (fun c_4 => ?_)
  · have h := k_t c_4 h
    refine lv_iconst (v := (-1 : Int32)) hx hb dX7_gain_29 (by decide) ?_
    obtain ⟨rfl, rfl⟩ := k_inj h
    exact kri C hS hP dX7_gain_30
  · have h := k_f c_4 h
    refine lv_aload_n hx hb dX7_gain_7 rfl (lv_at hl 0 rfl) ?_
    refine gf_0_5 C hP w_254 dX7_gain_8 ?_
    refine lv_aload_n hx hb dX7_gain_11 rfl (lv_at hl 0 rfl) ?_
    refine gf_0_3 C hP w_252 dX7_gain_12 ?_
    refine gf_8_4 C hP (v := (kI σ_2 18)) rfl w_135 dX7_gain_15 ?_
    refine lv_iload_n hx hb dX7_gain_18 rfl (lv_at hl 1 rfl) ?_
    obtain ⟨v_5, σ_6, hc_7, h⟩ := kb_ok h
    refine kci (krunV (As := [.int (kI σ_2 18), .int x1]) C hP (c_X0_gainUnder E C.1 F σ_2 (kI σ_2 18) x1 hc_7) w_523 kv_X0_gainUnder ⟨Nat.le_of_ble_eq_true rfl, Nat.le_of_ble_eq_true rfl⟩ (rc_10 C hP) rfl hl.1 rfl (Nat.le_of_ble_eq_true rfl) dX7_gain_19) hS (fun H locs hP hS => ?_)
    refine lv_sipush (v := (1000 : Int32)) hx hb dX7_gain_22 (by decide) ?_
    refine lv_iadd hx hb dX7_gain_25 ?_
    refine lv_goto (tgt := 30) hx hb dX7_gain_26 (by decide) ?_
    obtain ⟨rfl, rfl⟩ := k_inj h
    exact kri C hS hP dX7_gain_30
def f_X7_gain (F : Nat) (σ : kS) (x1 : Int32) : Option (Int32 × kS) := s_X7_gain_0 F σ x1
set_option maxRecDepth 100000 in
theorem c_X7_gain (E : kE) (hE : kap E) (F : Nat) (σ : kS) (x1 : Int32) (h : f_X7_gain F σ x1 = some (r, σr)) : Met l yX7_gain (kWs yX7_gain cX7_gain 2 (some .int)) (kR 3 69) (kPre (cP E) E [.ref (eA E 0), .int x1] σ) (kQi (cP E) (inC E) r σr) 0 0 (inC E) :=
  kst hE (by decide +kernel) (Nat.le_of_ble_eq_true rfl) (fun p e s m below meth c ls C hP hl => w_X7_gain_0 C F σ x1 h s.heap [] hP va_S.rf ls hl)
end

section
variable {p : Program} {l : Launch} {e : Env} {s : State} {m : MethodId} {args : Array Value} {below : List Frame} {meth : Method} {c : Code} {E : kE} {σr : kS}
variable {r : Int32}
def s_X7_isActOrNone_13 (F : Nat) (σ : kS) : Option (Int32 × kS) :=
  some ((1 : Int32), σ)
set_option maxRecDepth 100000 in
set_option maxHeartbeats 4000000 in
theorem w_X7_isActOrNone_13 (C : Cx E p s m args meth c cX7_isActOrNone 2 RX7 (some .boolean)) (F : Nat) (σ : kS) (h : s_X7_isActOrNone_13 F σ = some (r, σr)) (H : Heap) (locs : List Loc) (hP : cP E σ H) (hS : va_S (inC E) s.heap H locs) (ls : Array Slot) (hl : lv_has ls 2 []) : W p l e (kR 1 21) s m args below meth c H locs 0 0 (MQ below (kQi (cP E) (inC E) r σr) args s 0 0 (inC E)) (F0 m 13 ls []) := by
  obtain ⟨-, hx, hb, hml, hown, hts, hK, -, -⟩ := id C
  unfold s_X7_isActOrNone_13 at h
  refine lv_iconst (v := (1 : Int32)) hx hb dX7_isActOrNone_13 (by decide) ?_
  refine lv_goto (tgt := 18) hx hb dX7_isActOrNone_14 (by decide) ?_
  obtain ⟨rfl, rfl⟩ := k_inj h
  exact krz C hS hP (by decide) dX7_isActOrNone_18
def s_X7_isActOrNone_0 (F : Nat) (σ : kS) (x1 : Int32) : Option (Int32 × kS) :=
  (if x1 = (-1 : Int32) then s_X7_isActOrNone_13 F σ else (kb (f_X7_isAct F σ x1) fun v_2 σ_3 => (if v_2 = 0 then some ((0 : Int32), σ_3) else s_X7_isActOrNone_13 F σ_3)))
set_option maxRecDepth 100000 in
set_option maxHeartbeats 4000000 in
theorem w_X7_isActOrNone_0 (C : Cx E p s m args meth c cX7_isActOrNone 2 RX7 (some .boolean)) (F : Nat) (σ : kS) (x1 : Int32) (h : s_X7_isActOrNone_0 F σ x1 = some (r, σr)) (H : Heap) (locs : List Loc) (hP : cP E σ H) (hS : va_S (inC E) s.heap H locs) (ls : Array Slot) (hl : lv_has ls 2 [(0, .ref (eA E 0)), (1, .int x1)]) : W p l e (kR 1 21) s m args below meth c H locs 0 0 (MQ below (kQi (cP E) (inC E) r σr) args s 0 0 (inC E)) (F0 m 0 ls []) := by
  obtain ⟨-, hx, hb, hml, hown, hts, hK, -, -⟩ := id C
  unfold s_X7_isActOrNone_0 at h
  refine lv_iload_n hx hb dX7_isActOrNone_0 rfl (lv_at hl 1 rfl) ?_
  refine lv_iconst (v := (-1 : Int32)) hx hb dX7_isActOrNone_1 (by decide) ?_
  refine lv_icmp_eq (tgt := 13) hx hb dX7_isActOrNone_2 (by decide) (fun c_1 => ?_) (fun c_1 => ?_)
  · have h := k_t c_1 h
    exact w_X7_isActOrNone_13 C F σ h H locs hP hS ls (lv_sub hl [] rfl)
  · have h := k_f c_1 h
    refine lv_aload_n hx hb dX7_isActOrNone_5 rfl (lv_at hl 0 rfl) ?_
    refine lv_iload_n hx hb dX7_isActOrNone_6 rfl (lv_at hl 1 rfl) ?_
    obtain ⟨v_2, σ_3, hc_4, h⟩ := kb_ok h
    refine kci (krunV (As := [.int x1]) C hP (c_X7_isAct E C.1 F σ x1 hc_4) w_361 kv_X7_isAct ⟨Nat.le_of_ble_eq_true rfl, Nat.le_of_ble_eq_true rfl⟩ (rc_0 C hP) rfl hl.1 rfl (Nat.le_of_ble_eq_true rfl) dX7_isActOrNone_7) hS (fun H locs hP hS => ?_)
    refine lv_if_eq (tgt := 17) hx hb dX7_isActOrNone_10 (by decide) (fun c_5 => ?_) (fun c_5 => ?_)
    · have h := k_t c_5 h
      refine lv_iconst (v := (0 : Int32)) hx hb dX7_isActOrNone_17 (by decide) ?_
      obtain ⟨rfl, rfl⟩ := k_inj h
      exact krz C hS hP (by decide) dX7_isActOrNone_18
    · have h := k_f c_5 h
      exact w_X7_isActOrNone_13 C F σ_3 h H locs hP hS ls (lv_sub hl [] rfl)
def f_X7_isActOrNone (F : Nat) (σ : kS) (x1 : Int32) : Option (Int32 × kS) := s_X7_isActOrNone_0 F σ x1
set_option maxRecDepth 100000 in
theorem c_X7_isActOrNone (E : kE) (hE : kap E) (F : Nat) (σ : kS) (x1 : Int32) (h : f_X7_isActOrNone F σ x1 = some (r, σr)) : Met l yX7_isActOrNone (kWs yX7_isActOrNone cX7_isActOrNone 2 (some .boolean)) (kR 1 21) (kPre (cP E) E [.ref (eA E 0), .int x1] σ) (kQi (cP E) (inC E) r σr) 0 0 (inC E) :=
  kst hE (by decide +kernel) (Nat.le_of_ble_eq_true rfl) (fun p e s m below meth c ls C hP hl => w_X7_isActOrNone_0 C F σ x1 h s.heap [] hP va_S.rf ls hl)
end

section
variable {p : Program} {l : Launch} {e : Env} {s : State} {m : MethodId} {args : Array Value} {below : List Frame} {meth : Method} {c : Code} {E : kE} {σr : kS}
variable {r : Int32}
def s_X0_gainIfForbidden_41 (F : Nat) (σ : kS) (x3 : Int32) (x4 : Int32) : Option (Int32 × kS) :=
  (kb (f_X0_gainUnder F σ x4 x3) fun v_1 σ_2 => some (v_1, σ_2))
set_option maxRecDepth 100000 in
set_option maxHeartbeats 4000000 in
theorem w_X0_gainIfForbidden_41 (C : Cx E p s m args meth c cX0_gainIfForbidden 5 RX0 (some .int)) (F : Nat) (σ : kS) (x3 : Int32) (x4 : Int32) (h : s_X0_gainIfForbidden_41 F σ x3 x4 = some (r, σr)) (H : Heap) (locs : List Loc) (hP : cP E σ H) (hS : va_S (inC E) s.heap H locs) (ls : Array Slot) (hl : lv_has ls 5 [(0, .ref (eA E 10)), (3, .int x3), (4, .int x4)]) : W p l e (kR 3 69) s m args below meth c H locs 0 0 (MQ below (kQi (cP E) (inC E) r σr) args s 0 0 (inC E)) (F0 m 41 ls []) := by
  obtain ⟨-, hx, hb, hml, hown, hts, hK, -, -⟩ := id C
  unfold s_X0_gainIfForbidden_41 at h
  refine lv_aload_n hx hb dX0_gainIfForbidden_41 rfl (lv_at hl 0 rfl) ?_
  refine lv_iload hx hb dX0_gainIfForbidden_42 (lv_at hl 2 rfl) ?_
  refine lv_iload_n hx hb dX0_gainIfForbidden_44 rfl (lv_at hl 1 rfl) ?_
  obtain ⟨v_1, σ_2, hc_3, h⟩ := kb_ok h
  refine kci (krunV (As := [.int x4, .int x3]) C hP (c_X0_gainUnder E C.1 F σ x4 x3 hc_3) w_542 kv_X0_gainUnder ⟨Nat.le_of_ble_eq_true rfl, Nat.le_of_ble_eq_true rfl⟩ (rc_10 C hP) rfl hl.1 rfl (Nat.le_of_ble_eq_true rfl) dX0_gainIfForbidden_45) hS (fun H locs hP hS => ?_)
  obtain ⟨rfl, rfl⟩ := k_inj h
  exact kri C hS hP dX0_gainIfForbidden_48
def s_X0_gainIfForbidden_25 (F : Nat) (σ : kS) (x2 : Int32) (x3 : Int32) (x4 : Int32) : Option (Int32 × kS) :=
  (if x2 < 0 then s_X0_gainIfForbidden_41 F σ x3 x4 else (kb (f_X7_lawBits F σ x2 (2 : Int32)) fun v_2 σ_3 => (kn (x4 &&& (v_2 ^^^ (-1 : Int32))) (fun x4_5 => s_X0_gainIfForbidden_41 F σ_3 x3 x4_5))))
set_option maxRecDepth 100000 in
set_option maxHeartbeats 4000000 in
theorem w_X0_gainIfForbidden_25 (C : Cx E p s m args meth c cX0_gainIfForbidden 5 RX0 (some .int)) (F : Nat) (σ : kS) (x2 : Int32) (x3 : Int32) (x4 : Int32) (h : s_X0_gainIfForbidden_25 F σ x2 x3 x4 = some (r, σr)) (H : Heap) (locs : List Loc) (hP : cP E σ H) (hS : va_S (inC E) s.heap H locs) (ls : Array Slot) (hl : lv_has ls 5 [(0, .ref (eA E 10)), (2, .int x2), (3, .int x3), (4, .int x4)]) : W p l e (kR 3 69) s m args below meth c H locs 0 0 (MQ below (kQi (cP E) (inC E) r σr) args s 0 0 (inC E)) (F0 m 25 ls []) := by
  obtain ⟨-, hx, hb, hml, hown, hts, hK, -, -⟩ := id C
  unfold s_X0_gainIfForbidden_25 at h
  refine lv_iload_n hx hb dX0_gainIfForbidden_25 rfl (lv_at hl 1 rfl) ?_
  refine lv_if_lt (tgt := 41) hx hb dX0_gainIfForbidden_26 (by decide) (fun c_1 => ?_) (fun c_1 => ?_)
  · have h := k_t c_1 h
    exact w_X0_gainIfForbidden_41 C F σ x3 x4 h H locs hP hS ls (lv_sub hl [0, 2, 3] rfl)
  · have h := k_f c_1 h
    refine lv_iload hx hb dX0_gainIfForbidden_29 (lv_at hl 3 rfl) ?_
    refine lv_iload_n hx hb dX0_gainIfForbidden_31 rfl (lv_at hl 1 rfl) ?_
    refine lv_iconst (v := (2 : Int32)) hx hb dX0_gainIfForbidden_32 (by decide) ?_
    obtain ⟨v_2, σ_3, hc_4, h⟩ := kb_ok h
    refine kci (krunN (As := [.int x2, .int (2 : Int32)]) C hP (c_X7_lawBits E C.1 F σ x2 (2 : Int32) hc_4) (fun g => g.2.2.2) kt_X7_lawBits ⟨Nat.le_of_ble_eq_true rfl, Nat.le_of_ble_eq_true rfl⟩ rfl hl.1 rfl (Nat.le_of_ble_eq_true rfl) dX0_gainIfForbidden_33) hS (fun H locs hP hS => ?_)
    refine lv_iconst (v := (-1 : Int32)) hx hb dX0_gainIfForbidden_36 (by decide) ?_
    refine lv_ixor hx hb dX0_gainIfForbidden_37 ?_
    refine lv_iand hx hb dX0_gainIfForbidden_38 ?_
    refine lv_topi (fun x4_5 ex4_5 => ?_)
    have h := kn_to ex4_5 h
    refine lv_istore (lv' := [(4, .int x4_5), (0, .ref (eA E 10)), (2, .int x2), (3, .int x3)]) hx hb dX0_gainIfForbidden_39 hl (by decide) rfl (fun ls hl => ?_)
    exact w_X0_gainIfForbidden_41 C F σ_3 x3 x4_5 h H locs hP hS ls (lv_sub hl [1, 3, 0] rfl)
def s_X0_gainIfForbidden_0 (F : Nat) (σ : kS) (x1 : Int32) (x2 : Int32) (x3 : Int32) : Option (Int32 × kS) :=
  (if x1 < 0 then s_X0_gainIfForbidden_25 F σ x2 x3 (kI σ 18) else (kb (f_X7_lawBits F σ x1 (1 : Int32)) fun v_2 σ_3 => (kn ((kI σ 18) &&& (v_2 ^^^ (-1 : Int32))) (fun x4_5 => s_X0_gainIfForbidden_25 F σ_3 x2 x3 x4_5))))
set_option maxRecDepth 100000 in
set_option maxHeartbeats 4000000 in
theorem w_X0_gainIfForbidden_0 (C : Cx E p s m args meth c cX0_gainIfForbidden 5 RX0 (some .int)) (F : Nat) (σ : kS) (x1 : Int32) (x2 : Int32) (x3 : Int32) (h : s_X0_gainIfForbidden_0 F σ x1 x2 x3 = some (r, σr)) (H : Heap) (locs : List Loc) (hP : cP E σ H) (hS : va_S (inC E) s.heap H locs) (ls : Array Slot) (hl : lv_has ls 5 [(0, .ref (eA E 10)), (1, .int x1), (2, .int x2), (3, .int x3)]) : W p l e (kR 3 69) s m args below meth c H locs 0 0 (MQ below (kQi (cP E) (inC E) r σr) args s 0 0 (inC E)) (F0 m 0 ls []) := by
  obtain ⟨-, hx, hb, hml, hown, hts, hK, -, -⟩ := id C
  unfold s_X0_gainIfForbidden_0 at h
  refine lv_aload_n hx hb dX0_gainIfForbidden_0 rfl (lv_at hl 0 rfl) ?_
  refine gf_10_1 C hP w_168 dX0_gainIfForbidden_1 ?_
  refine gf_8_4 C hP (v := (kI σ 18)) rfl w_134 dX0_gainIfForbidden_4 ?_
  refine lv_istore (lv' := [(4, .int (kI σ 18)), (0, .ref (eA E 10)), (1, .int x1), (2, .int x2), (3, .int x3)]) hx hb dX0_gainIfForbidden_7 hl (by decide) rfl (fun ls hl => ?_)
  refine lv_iload_n hx hb dX0_gainIfForbidden_9 rfl (lv_at hl 2 rfl) ?_
  refine lv_if_lt (tgt := 25) hx hb dX0_gainIfForbidden_10 (by decide) (fun c_1 => ?_) (fun c_1 => ?_)
  · have h := k_t c_1 h
    exact w_X0_gainIfForbidden_25 C F σ x2 x3 (kI σ 18) h H locs hP hS ls (lv_sub hl [1, 3, 4, 0] rfl)
  · have h := k_f c_1 h
    refine lv_iload hx hb dX0_gainIfForbidden_13 (lv_at hl 0 rfl) ?_
    refine lv_iload_n hx hb dX0_gainIfForbidden_15 rfl (lv_at hl 2 rfl) ?_
    refine lv_iconst (v := (1 : Int32)) hx hb dX0_gainIfForbidden_16 (by decide) ?_
    obtain ⟨v_2, σ_3, hc_4, h⟩ := kb_ok h
    refine kci (krunN (As := [.int x1, .int (1 : Int32)]) C hP (c_X7_lawBits E C.1 F σ x1 (1 : Int32) hc_4) (fun g => g.2.2.2) kt_X7_lawBits ⟨Nat.le_of_ble_eq_true rfl, Nat.le_of_ble_eq_true rfl⟩ rfl hl.1 rfl (Nat.le_of_ble_eq_true rfl) dX0_gainIfForbidden_17) hS (fun H locs hP hS => ?_)
    refine lv_iconst (v := (-1 : Int32)) hx hb dX0_gainIfForbidden_20 (by decide) ?_
    refine lv_ixor hx hb dX0_gainIfForbidden_21 ?_
    refine lv_iand hx hb dX0_gainIfForbidden_22 ?_
    refine lv_topi (fun x4_5 ex4_5 => ?_)
    have h := kn_to ex4_5 h
    refine lv_istore (lv' := [(4, .int x4_5), (0, .ref (eA E 10)), (1, .int x1), (2, .int x2), (3, .int x3)]) hx hb dX0_gainIfForbidden_23 hl (by decide) rfl (fun ls hl => ?_)
    exact w_X0_gainIfForbidden_25 C F σ_3 x2 x3 x4_5 h H locs hP hS ls (lv_sub hl [1, 3, 4, 0] rfl)
def f_X0_gainIfForbidden (F : Nat) (σ : kS) (x1 : Int32) (x2 : Int32) (x3 : Int32) : Option (Int32 × kS) := s_X0_gainIfForbidden_0 F σ x1 x2 x3
set_option maxRecDepth 100000 in
theorem c_X0_gainIfForbidden (E : kE) (hE : kap E) (F : Nat) (σ : kS) (x1 : Int32) (x2 : Int32) (x3 : Int32) (h : f_X0_gainIfForbidden F σ x1 x2 x3 = some (r, σr)) : Met l yX0_gainIfForbidden (kWs yX0_gainIfForbidden cX0_gainIfForbidden 5 (some .int)) (kR 3 69) (kPre (cP E) E [.ref (eA E 10), .int x1, .int x2, .int x3] σ) (kQi (cP E) (inC E) r σr) 0 0 (inC E) :=
  kst hE (by decide +kernel) (Nat.le_of_ble_eq_true rfl) (fun p e s m below meth c ls C hP hl => w_X0_gainIfForbidden_0 C F σ x1 x2 x3 h s.heap [] hP va_S.rf ls hl)
end

section
variable {p : Program} {l : Launch} {e : Env} {s : State} {m : MethodId} {args : Array Value} {below : List Frame} {meth : Method} {c : Code} {E : kE} {σr : kS}
variable {r : Int32}
def s_X7_forbid_0 (F : Nat) (σ : kS) (x1 : Int32) (x2 : Int32) (x3 : Int32) : Option (Int32 × kS) :=
  (kb (f_X7_isActOrNone F σ x1) fun v_1 σ_2 => (if v_1 = 0 then some ((-1 : Int32), σ_2) else (kb (f_X7_isActOrNone F σ_2 x2) fun v_5 σ_6 => (if v_5 = 0 then some ((-1 : Int32), σ_6) else (kb (f_X7_isKing F σ_6 x3) fun v_9 σ_10 => (if v_9 = 0 then some ((-1 : Int32), σ_10) else (kb (f_X0_gainIfForbidden F σ_10 x1 x2 x3) fun v_13 σ_14 => some ((v_13 + (1000 : Int32)), σ_14))))))))
set_option maxRecDepth 100000 in
set_option maxHeartbeats 4000000 in
theorem w_X7_forbid_0 (C : Cx E p s m args meth c cX7_forbid 4 RX7 (some .int)) (F : Nat) (σ : kS) (x1 : Int32) (x2 : Int32) (x3 : Int32) (h : s_X7_forbid_0 F σ x1 x2 x3 = some (r, σr)) (H : Heap) (locs : List Loc) (hP : cP E σ H) (hS : va_S (inC E) s.heap H locs) (ls : Array Slot) (hl : lv_has ls 4 [(0, .ref (eA E 0)), (1, .int x1), (2, .int x2), (3, .int x3)]) : W p l e (kR 4 93) s m args below meth c H locs 0 0 (MQ below (kQi (cP E) (inC E) r σr) args s 0 0 (inC E)) (F0 m 0 ls []) := by
  obtain ⟨-, hx, hb, hml, hown, hts, hK, -, -⟩ := id C
  unfold s_X7_forbid_0 at h
  refine lv_aload_n hx hb dX7_forbid_0 rfl (lv_at hl 0 rfl) ?_
  refine lv_iload_n hx hb dX7_forbid_1 rfl (lv_at hl 1 rfl) ?_
  obtain ⟨v_1, σ_2, hc_3, h⟩ := kb_ok h
  refine kci (krunV (As := [.int x1]) C hP (c_X7_isActOrNone E C.1 F σ x1 hc_3) w_533 kv_X7_isActOrNone ⟨Nat.le_of_ble_eq_true rfl, Nat.le_of_ble_eq_true rfl⟩ (rc_0 C hP) rfl hl.1 rfl (Nat.le_of_ble_eq_true rfl) dX7_forbid_2) hS (fun H locs hP hS => ?_)
  refine lv_if_eq (tgt := 23) hx hb dX7_forbid_5 (by decide) (fun c_4 => ?_) (fun c_4 => ?_)
  · have h := k_t c_4 h
    refine lv_iconst (v := (-1 : Int32)) hx hb dX7_forbid_23 (by decide) ?_
    obtain ⟨rfl, rfl⟩ := k_inj h
    exact kri C hS hP dX7_forbid_24
  · have h := k_f c_4 h
    refine lv_aload_n hx hb dX7_forbid_8 rfl (lv_at hl 0 rfl) ?_
    refine lv_iload_n hx hb dX7_forbid_9 rfl (lv_at hl 2 rfl) ?_
    obtain ⟨v_5, σ_6, hc_7, h⟩ := kb_ok h
    refine kci (krunV (As := [.int x2]) C hP (c_X7_isActOrNone E C.1 F σ_2 x2 hc_7) w_533 kv_X7_isActOrNone ⟨Nat.le_of_ble_eq_true rfl, Nat.le_of_ble_eq_true rfl⟩ (rc_0 C hP) rfl hl.1 rfl (Nat.le_of_ble_eq_true rfl) dX7_forbid_10) hS (fun H locs hP hS => ?_)
    refine lv_if_eq (tgt := 23) hx hb dX7_forbid_13 (by decide) (fun c_8 => ?_) (fun c_8 => ?_)
    · have h := k_t c_8 h
      refine lv_iconst (v := (-1 : Int32)) hx hb dX7_forbid_23 (by decide) ?_
      obtain ⟨rfl, rfl⟩ := k_inj h
      exact kri C hS hP dX7_forbid_24
    · have h := k_f c_8 h
      refine lv_iload_n hx hb dX7_forbid_16 rfl (lv_at hl 3 rfl) ?_
      obtain ⟨v_9, σ_10, hc_11, h⟩ := kb_ok h
      refine kci (krunS (As := [.int x3]) C hP (c_X7_isKing E C.1 F σ_6 x3 hc_11) w_507 kt_X7_isKing ⟨Nat.le_of_ble_eq_true rfl, Nat.le_of_ble_eq_true rfl⟩ rfl hl.1 rfl (Nat.le_of_ble_eq_true rfl) dX7_forbid_17) hS (fun H locs hP hS => ?_)
      refine lv_if_ne (tgt := 25) hx hb dX7_forbid_20 (by decide) (fun c_12 => ?_) (fun c_12 => ?_)
      · have h := k_f c_12 h
        refine lv_aload_n hx hb dX7_forbid_25 rfl (lv_at hl 0 rfl) ?_
        refine gf_0_5 C hP w_254 dX7_forbid_26 ?_
        refine lv_iload_n hx hb dX7_forbid_29 rfl (lv_at hl 1 rfl) ?_
        refine lv_iload_n hx hb dX7_forbid_30 rfl (lv_at hl 2 rfl) ?_
        refine lv_iload_n hx hb dX7_forbid_31 rfl (lv_at hl 3 rfl) ?_
        obtain ⟨v_13, σ_14, hc_15, h⟩ := kb_ok h
        refine kci (krunV (As := [.int x1, .int x2, .int x3]) C hP (c_X0_gainIfForbidden E C.1 F σ_10 x1 x2 x3 hc_15) w_537 kv_X0_gainIfForbidden ⟨Nat.le_of_ble_eq_true rfl, Nat.le_of_ble_eq_true rfl⟩ (rc_10 C hP) rfl hl.1 rfl (Nat.le_of_ble_eq_true rfl) dX7_forbid_32) hS (fun H locs hP hS => ?_)
        refine lv_sipush (v := (1000 : Int32)) hx hb dX7_forbid_35 (by decide) ?_
        refine lv_iadd hx hb dX7_forbid_38 ?_
        obtain ⟨rfl, rfl⟩ := k_inj h
        exact kri C hS hP dX7_forbid_39
      · have h := k_t c_12 h
        refine lv_iconst (v := (-1 : Int32)) hx hb dX7_forbid_23 (by decide) ?_
        obtain ⟨rfl, rfl⟩ := k_inj h
        exact kri C hS hP dX7_forbid_24
def f_X7_forbid (F : Nat) (σ : kS) (x1 : Int32) (x2 : Int32) (x3 : Int32) : Option (Int32 × kS) := s_X7_forbid_0 F σ x1 x2 x3
set_option maxRecDepth 100000 in
theorem c_X7_forbid (E : kE) (hE : kap E) (F : Nat) (σ : kS) (x1 : Int32) (x2 : Int32) (x3 : Int32) (h : f_X7_forbid F σ x1 x2 x3 = some (r, σr)) : Met l yX7_forbid (kWs yX7_forbid cX7_forbid 4 (some .int)) (kR 4 93) (kPre (cP E) E [.ref (eA E 0), .int x1, .int x2, .int x3] σ) (kQi (cP E) (inC E) r σr) 0 0 (inC E) :=
  kst hE (by decide +kernel) (Nat.le_of_ble_eq_true rfl) (fun p e s m below meth c ls C hP hl => w_X7_forbid_0 C F σ x1 x2 x3 h s.heap [] hP va_S.rf ls hl)
end

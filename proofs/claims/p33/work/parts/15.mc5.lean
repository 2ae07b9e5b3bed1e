section
variable {p : Program} {l : Launch} {e : Env} {s : State} {m : MethodId} {args : Array Value} {below : List Frame} {meth : Method} {c : Code} {E : kE} {σr : kS}
variable {r : Int64}
def s_X7_bargain_28 (F : Nat) (σ : kS) : Option (Int64 × kS) :=
  some ((-1 : Int64), σ)
set_option maxRecDepth 100000 in
set_option maxHeartbeats 4000000 in
theorem w_X7_bargain_28 (C : Cx E p s m args meth c cX7_bargain 5 RX7 (some .long)) (F : Nat) (σ : kS) (h : s_X7_bargain_28 F σ = some (r, σr)) (H : Heap) (locs : List Loc) (hP : cP E σ H) (hS : va_S (inC E) s.heap H locs) (ls : Array Slot) (hl : lv_has ls 5 []) : W p l e (kR 6 149) s m args below meth c H locs 0 0 (MQ below (kQl (cP E) (inC E) r σr) args s 0 0 (inC E)) (F0 m 28 ls []) := by
  obtain ⟨-, hx, hb, hml, hown, hts, hK, -, -⟩ := id C
  unfold s_X7_bargain_28 at h
  refine lv_ldc2 (v := (-1 : Int64)) hx hb hown (hts _ w_447) dX7_bargain_28 ?_
  obtain ⟨rfl, rfl⟩ := k_inj h
  exact krl C hS hP dX7_bargain_31
def s_X7_bargain_0 (F : Nat) (σ : kS) (x1 : Int32) (x2 : Int32) (x3 : Int64) : Option (Int64 × kS) :=
  (kb (f_X7_isAct F σ x1) fun v_1 σ_2 => (if v_1 = 0 then s_X7_bargain_28 F σ_2 else (kb (f_X7_isAct F σ_2 x2) fun v_5 σ_6 => (if v_5 = 0 then s_X7_bargain_28 F σ_6 else (if x1 = x2 then s_X7_bargain_28 F σ_6 else (kb (f_X7_isMinute F σ_6 x3) fun v_10 σ_11 => (if v_10 = 0 then s_X7_bargain_28 F σ_11 else (kb (f_X1_firstLawful F σ_11 x1 x2 x3) fun v_14 σ_15 => some (v_14, σ_15)))))))))
set_option maxRecDepth 100000 in
set_option maxHeartbeats 4000000 in
theorem w_X7_bargain_0 (C : Cx E p s m args meth c cX7_bargain 5 RX7 (some .long)) (F : Nat) (σ : kS) (x1 : Int32) (x2 : Int32) (x3 : Int64) (h : s_X7_bargain_0 F σ x1 x2 x3 = some (r, σr)) (H : Heap) (locs : List Loc) (hP : cP E σ H) (hS : va_S (inC E) s.heap H locs) (ls : Array Slot) (hl : lv_has ls 5 [(0, .ref (eA E 0)), (1, .int x1), (2, .int x2), (3, .long x3)]) : W p l e (kR 6 149) s m args below meth c H locs 0 0 (MQ below (kQl (cP E) (inC E) r σr) args s 0 0 (inC E)) (F0 m 0 ls []) := by
  obtain ⟨-, hx, hb, hml, hown, hts, hK, -, -⟩ := id C
  unfold s_X7_bargain_0 at h
  refine lv_aload_n hx hb dX7_bargain_0 rfl (lv_at hl 0 rfl) ?_
  refine lv_iload_n hx hb dX7_bargain_1 rfl (lv_at hl 1 rfl) ?_
  obtain ⟨v_1, σ_2, hc_3, h⟩ := kb_ok h
  refine kci (krunV (As := [.int x1]) C hP (c_X7_isAct E C.1 F σ x1 hc_3) w_361 kv_X7_isAct ⟨Nat.le_of_ble_eq_true rfl, Nat.le_of_ble_eq_true rfl⟩ (rc_0 C hP) rfl hl.1 rfl (Nat.le_of_ble_eq_true rfl) dX7_bargain_2) hS (fun H locs hP hS => ?_)
  refine lv_if_eq (tgt := 28) hx hb dX7_bargain_5 (by decide) (fun c_4 => ?_) (fun c_4 => ?_)
  · have h := k_t c_4 h
    exact w_X7_bargain_28 C F σ_2 h H locs hP hS ls (lv_sub hl [] rfl)
  · have h := k_f c_4 h
    refine lv_aload_n hx hb dX7_bargain_8 rfl (lv_at hl 0 rfl) ?_
    refine lv_iload_n hx hb dX7_bargain_9 rfl (lv_at hl 2 rfl) ?_
    obtain ⟨v_5, σ_6, hc_7, h⟩ := kb_ok h
    refine kci (krunV (As := [.int x2]) C hP (c_X7_isAct E C.1 F σ_2 x2 hc_7) w_361 kv_X7_isAct ⟨Nat.le_of_ble_eq_true rfl, Nat.le_of_ble_eq_true rfl⟩ (rc_0 C hP) rfl hl.1 rfl (Nat.le_of_ble_eq_true rfl) dX7_bargain_10) hS (fun H locs hP hS => ?_)
    refine lv_if_eq (tgt := 28) hx hb dX7_bargain_13 (by decide) (fun c_8 => ?_) (fun c_8 => ?_)
    · have h := k_t c_8 h
      exact w_X7_bargain_28 C F σ_6 h H locs hP hS ls (lv_sub hl [] rfl)
    · have h := k_f c_8 h
      refine lv_iload_n hx hb dX7_bargain_16 rfl (lv_at hl 1 rfl) ?_
      refine lv_iload_n hx hb dX7_bargain_17 rfl (lv_at hl 2 rfl) ?_
      refine lv_icmp_eq (tgt := 28) hx hb dX7_bargain_18 (by decide) (fun c_9 => ?_) (fun c_9 => ?_)
      · have h := k_t c_9 h
        exact w_X7_bargain_28 C F σ_6 h H locs hP hS ls (lv_sub hl [] rfl)
      · have h := k_f c_9 h
        refine lv_lload_n hx hb dX7_bargain_21 rfl (lv_at hl 3 rfl) ?_
        obtain ⟨v_10, σ_11, hc_12, h⟩ := kb_ok h
        refine kci (krunS (As := [.long x3]) C hP (c_X7_isMinute E C.1 F σ_6 x3 hc_12) w_377 kt_X7_isMinute ⟨Nat.le_of_ble_eq_true rfl, Nat.le_of_ble_eq_true rfl⟩ rfl hl.1 rfl (Nat.le_of_ble_eq_true rfl) dX7_bargain_22) hS (fun H locs hP hS => ?_)
        refine lv_if_ne (tgt := 32) hx hb dX7_bargain_25 (by decide) (fun c_13 => ?_) (fun c_13 => ?_)
        · have h := k_f c_13 h
          refine lv_aload_n hx hb dX7_bargain_32 rfl (lv_at hl 0 rfl) ?_
          refine gf_0_4 C hP w_253 dX7_bargain_33 ?_
          refine lv_iload_n hx hb dX7_bargain_36 rfl (lv_at hl 1 rfl) ?_
          refine lv_iload_n hx hb dX7_bargain_37 rfl (lv_at hl 2 rfl) ?_
          refine lv_lload_n hx hb dX7_bargain_38 rfl (lv_at hl 3 rfl) ?_
          obtain ⟨v_14, σ_15, hc_16, h⟩ := kb_ok h
          refine kcl (krunV (As := [.int x1, .int x2, .long x3]) C hP (c_X1_firstLawful E C.1 F σ_11 x1 x2 x3 hc_16) w_475 kv_X1_firstLawful ⟨Nat.le_of_ble_eq_true rfl, Nat.le_of_ble_eq_true rfl⟩ (rc_9 C hP) rfl hl.1 rfl (Nat.le_of_ble_eq_true rfl) dX7_bargain_39) hS (fun H locs hP hS => ?_)
          obtain ⟨rfl, rfl⟩ := k_inj h
          exact krl C hS hP dX7_bargain_42
        · have h := k_t c_13 h
          exact w_X7_bargain_28 C F σ_11 h H locs hP hS ls (lv_sub hl [] rfl)
def f_X7_bargain (F : Nat) (σ : kS) (x1 : Int32) (x2 : Int32) (x3 : Int64) : Option (Int64 × kS) := s_X7_bargain_0 F σ x1 x2 x3
set_option maxRecDepth 100000 in
theorem c_X7_bargain (E : kE) (hE : kap E) (F : Nat) (σ : kS) (x1 : Int32) (x2 : Int32) (x3 : Int64) (h : f_X7_bargain F σ x1 x2 x3 = some (r, σr)) : Met l yX7_bargain (kWs yX7_bargain cX7_bargain 5 (some .long)) (kR 6 149) (kPre (cP E) E [.ref (eA E 0), .int x1, .int x2, .long x3] σ) (kQl (cP E) (inC E) r σr) 0 0 (inC E) :=
  kst hE (by decide +kernel) (Nat.le_of_ble_eq_true rfl) (fun p e s m below meth c ls C hP hl => w_X7_bargain_0 C F σ x1 x2 x3 h s.heap [] hP va_S.rf ls hl)
end

section
variable {p : Program} {l : Launch} {e : Env} {s : State} {m : MethodId} {args : Array Value} {below : List Frame} {meth : Method} {c : Code} {E : kE} {σr : kS}
variable {r : Int32}
def s_X6_addLine_0 (F : Nat) (σ : kS) (x1 : Int32) (x2 : Int32) : Option (Int32 × kS) :=
  (if (kI σ 19) < 0 then some ((0 : Int32), σ) else (if (kI σ 19) < (10 : Int32) then (if (kI σ 19) < 0 ∨ 10 ≤ (kI σ 19).toNatClampNeg then none else (if (kI σ 19) < 0 ∨ 10 ≤ (kI σ 19).toNatClampNeg then none else some ((1 : Int32), (jI (jA (jA σ 4 (kI σ 19).toNatClampNeg x1) 5 (kI σ 19).toNatClampNeg x2) 19 ((kI σ 19) + (1 : Int32)))))) else some ((0 : Int32), σ)))
set_option maxRecDepth 100000 in
set_option maxHeartbeats 4000000 in
theorem w_X6_addLine_0 (C : Cx E p s m args meth c cX6_addLine 3 RX6 (some .boolean)) (F : Nat) (σ : kS) (x1 : Int32) (x2 : Int32) (h : s_X6_addLine_0 F σ x1 x2 = some (r, σr)) (H : Heap) (locs : List Loc) (hP : cP E σ H) (hS : va_S (inC E) s.heap H locs) (ls : Array Slot) (hl : lv_has ls 3 [(0, .ref (eA E 11)), (1, .int x1), (2, .int x2)]) : W p l e (kR 0 0) s m args below meth c H locs 0 0 (MQ below (kQi (cP E) (inC E) r σr) args s 0 0 (inC E)) (F0 m 0 ls []) := by
  obtain ⟨-, hx, hb, hml, hown, hts, hK, -, -⟩ := id C
  unfold s_X6_addLine_0 at h
  refine lv_aload_n hx hb dX6_addLine_0 rfl (lv_at hl 0 rfl) ?_
  refine gf_11_3 C hP (v := (kI σ 19)) rfl w_183 dX6_addLine_1 ?_
  refine lv_if_lt (tgt := 16) hx hb dX6_addLine_4 (by decide) (fun c_1 => ?_) (fun c_1 => ?_)
  · have h := k_t c_1 h
    refine lv_iconst (v := (0 : Int32)) hx hb dX6_addLine_16 (by decide) ?_
    obtain ⟨rfl, rfl⟩ := k_inj h
    exact krz C hS hP (by decide) dX6_addLine_17
  · have h := k_f c_1 h
    refine lv_aload_n hx hb dX6_addLine_7 rfl (lv_at hl 0 rfl) ?_
    refine gf_11_3 C hP (v := (kI σ 19)) rfl w_183 dX6_addLine_8 ?_
    refine lv_bipush (v := (10 : Int32)) hx hb dX6_addLine_11 (by decide) ?_
    refine lv_icmp_lt (tgt := 18) hx hb dX6_addLine_13 (by decide) (fun c_2 => ?_) (fun c_2 => ?_)
    · have h := k_t c_2 h
      refine lv_aload_n hx hb dX6_addLine_18 rfl (lv_at hl 0 rfl) ?_
      refine gf_11_1 C hP w_181 dX6_addLine_19 ?_
      refine lv_aload_n hx hb dX6_addLine_22 rfl (lv_at hl 0 rfl) ?_
      refine gf_11_3 C hP (v := (kI σ 19)) rfl w_183 dX6_addLine_23 ?_
      refine lv_iload_n hx hb dX6_addLine_26 rfl (lv_at hl 1 rfl) ?_
      obtain ⟨n_3, h⟩ := k_no h
      refine as_12 C hP hS (σ2 := (jA σ 4 (kI σ 19).toNatClampNeg x1)) rfl n_3 dX6_addLine_27 (fun H locs hP hS => ?_)
      refine lv_aload_n hx hb dX6_addLine_28 rfl (lv_at hl 0 rfl) ?_
      refine gf_11_2 C hP w_182 dX6_addLine_29 ?_
      refine lv_aload_n hx hb dX6_addLine_32 rfl (lv_at hl 0 rfl) ?_
      refine gf_11_3 C hP (v := (kI σ 19)) rfl w_183 dX6_addLine_33 ?_
      refine lv_iload_n hx hb dX6_addLine_36 rfl (lv_at hl 2 rfl) ?_
      obtain ⟨n_4, h⟩ := k_no h
      refine as_13 C hP hS (σ2 := (jA (jA σ 4 (kI σ 19).toNatClampNeg x1) 5 (kI σ 19).toNatClampNeg x2)) rfl n_4 dX6_addLine_37 (fun H locs hP hS => ?_)
      refine lv_aload_n hx hb dX6_addLine_38 rfl (lv_at hl 0 rfl) ?_
      refine lv_dup hx hb dX6_addLine_39 rfl ?_
      refine gf_11_3 C hP (v := (kI σ 19)) rfl w_183 dX6_addLine_40 ?_
      refine lv_iconst (v := (1 : Int32)) hx hb dX6_addLine_43 (by decide) ?_
      refine lv_iadd hx hb dX6_addLine_44 ?_
      refine pf_11_3 C hP hS w_183 dX6_addLine_45 (fun H locs hP hS => ?_)
      refine lv_iconst (v := (1 : Int32)) hx hb dX6_addLine_48 (by decide) ?_
      obtain ⟨rfl, rfl⟩ := k_inj h
      exact krz C hS hP (by decide) dX6_addLine_49
    · have h := k_f c_2 h
      refine lv_iconst (v := (0 : Int32)) hx hb dX6_addLine_16 (by decide) ?_
      obtain ⟨rfl, rfl⟩ := k_inj h
      exact krz C hS hP (by decide) dX6_addLine_17
def f_X6_addLine (F : Nat) (σ : kS) (x1 : Int32) (x2 : Int32) : Option (Int32 × kS) := s_X6_addLine_0 F σ x1 x2
set_option maxRecDepth 100000 in
theorem c_X6_addLine (E : kE) (hE : kap E) (F : Nat) (σ : kS) (x1 : Int32) (x2 : Int32) (h : f_X6_addLine F σ x1 x2 = some (r, σr)) : Met l yX6_addLine (kWs yX6_addLine cX6_addLine 3 (some .boolean)) (kR 0 0) (kPre (cP E) E [.ref (eA E 11), .int x1, .int x2] σ) (kQi (cP E) (inC E) r σr) 0 0 (inC E) :=
  kst hE (by decide +kernel) (Nat.le_of_ble_eq_true rfl) (fun p e s m below meth c ls C hP hl => w_X6_addLine_0 C F σ x1 x2 h s.heap [] hP va_S.rf ls hl)
end

section
variable {p : Program} {l : Launch} {e : Env} {s : State} {m : MethodId} {args : Array Value} {below : List Frame} {meth : Method} {c : Code} {E : kE} {σr : kS}
variable {r : Int32}
def s_X7_line_0 (F : Nat) (σ : kS) (x1 : Int32) (x2 : Int32) : Option (Int32 × kS) :=
  (if x1 < 0 then some ((-1 : Int32), σ) else (if (1000000 : Int32) < x1 then some ((-1 : Int32), σ) else (kb (f_X7_isRuler F σ x2) fun v_3 σ_4 => (if v_3 = 0 then some ((-1 : Int32), σ_4) else (kb (f_X6_addLine F σ_4 x1 x2) fun v_7 σ_8 => (if v_7 = 0 then some ((-3 : Int32), σ_8) else some ((kI σ_8 19), σ_8)))))))
set_option maxRecDepth 100000 in
set_option maxHeartbeats 4000000 in
theorem w_X7_line_0 (C : Cx E p s m args meth c cX7_line 3 RX7 (some .int)) (F : Nat) (σ : kS) (x1 : Int32) (x2 : Int32) (h : s_X7_line_0 F σ x1 x2 = some (r, σr)) (H : Heap) (locs : List Loc) (hP : cP E σ H) (hS : va_S (inC E) s.heap H locs) (ls : Array Slot) (hl : lv_has ls 3 [(0, .ref (eA E 0)), (1, .int x1), (2, .int x2)]) : W p l e (kR 1 22) s m args below meth c H locs 0 0 (MQ below (kQi (cP E) (inC E) r σr) args s 0 0 (inC E)) (F0 m 0 ls []) := by
  obtain ⟨-, hx, hb, hml, hown, hts, hK, -, -⟩ := id C
  unfold s_X7_line_0 at h
  refine lv_iload_n hx hb dX7_line_0 rfl (lv_at hl 1 rfl) ?_
  refine lv_if_lt (tgt := 17) hx hb dX7_line_1 (by decide) (fun c_1 => ?_) (fun c_1 => ?_)
  · have h := k_t c_1 h
    refine lv_iconst (v := (-1 : Int32)) hx hb dX7_line_17 (by decide) ?_
    obtain ⟨rfl, rfl⟩ := k_inj h
    exact kri C hS hP dX7_line_18
  · have h := k_f c_1 h
    refine lv_iload_n hx hb dX7_line_4 rfl (lv_at hl 1 rfl) ?_
    refine lv_ldc (v := (1000000 : Int32)) hx hb hown (hts _ w_598) dX7_line_5 ?_
    refine lv_icmp_gt (tgt := 17) hx hb dX7_line_7 (by decide) (fun c_2 => ?_) (fun c_2 => ?_)
    · have h := k_t c_2 h
      refine lv_iconst (v := (-1 : Int32)) hx hb dX7_line_17 (by decide) ?_
      obtain ⟨rfl, rfl⟩ := k_inj h
      exact kri C hS hP dX7_line_18
    · have h := k_f c_2 h
      refine lv_iload_n hx hb dX7_line_10 rfl (lv_at hl 2 rfl) ?_
      obtain ⟨v_3, σ_4, hc_5, h⟩ := kb_ok h
      refine kci (krunS (As := [.int x2]) C hP (c_X7_isRuler E C.1 F σ x2 hc_5) w_416 kt_X7_isRuler ⟨Nat.le_of_ble_eq_true rfl, Nat.le_of_ble_eq_true rfl⟩ rfl hl.1 rfl (Nat.le_of_ble_eq_true rfl) dX7_line_11) hS (fun H locs hP hS => ?_)
      refine lv_if_ne (tgt := 19) hx hb dX7_line_14 (by decide) (fun c_6 => ?_) (fun c_6 => ?_)
      · have h := k_f c_6 h
        refine lv_aload_n hx hb dX7_line_19 rfl (lv_at hl 0 rfl) ?_
        refine gf_0_6 C hP w_255 dX7_line_20 ?_
        refine lv_iload_n hx hb dX7_line_23 rfl (lv_at hl 1 rfl) ?_
        refine lv_iload_n hx hb dX7_line_24 rfl (lv_at hl 2 rfl) ?_
        obtain ⟨v_7, σ_8, hc_9, h⟩ := kb_ok h
        refine kci (krunV (As := [.int x1, .int x2]) C hP (c_X6_addLine E C.1 F σ_4 x1 x2 hc_9) w_599 kv_X6_addLine ⟨Nat.le_of_ble_eq_true rfl, Nat.le_of_ble_eq_true rfl⟩ (rc_11 C hP) rfl hl.1 rfl (Nat.le_of_ble_eq_true rfl) dX7_line_25) hS (fun H locs hP hS => ?_)
        refine lv_if_eq (tgt := 41) hx hb dX7_line_28 (by decide) (fun c_10 => ?_) (fun c_10 => ?_)
        · have h := k_t c_10 h
          refine lv_bipush (v := (-3 : Int32)) hx hb dX7_line_41 (by decide) ?_
          obtain ⟨rfl, rfl⟩ := k_inj h
          exact kri C hS hP dX7_line_43
        · have h := k_f c_10 h
          refine lv_aload_n hx hb dX7_line_31 rfl (lv_at hl 0 rfl) ?_
          refine gf_0_6 C hP w_255 dX7_line_32 ?_
          refine gf_11_3 C hP (v := (kI σ_8 19)) rfl w_184 dX7_line_35 ?_
          refine lv_goto (tgt := 43) hx hb dX7_line_38 (by decide) ?_
          obtain ⟨rfl, rfl⟩ := k_inj h
          exact kri C hS hP dX7_line_43
      · have h := k_t c_6 h
        refine lv_iconst (v := (-1 : Int32)) hx hb dX7_line_17 (by decide) ?_
        obtain ⟨rfl, rfl⟩ := k_inj h
        exact kri C hS hP dX7_line_18
def f_X7_line (F : Nat) (σ : kS) (x1 : Int32) (x2 : Int32) : Option (Int32 × kS) := s_X7_line_0 F σ x1 x2
set_option maxRecDepth 100000 in
theorem c_X7_line (E : kE) (hE : kap E) (F : Nat) (σ : kS) (x1 : Int32) (x2 : Int32) (h : f_X7_line F σ x1 x2 = some (r, σr)) : Met l yX7_line (kWs yX7_line cX7_line 3 (some .int)) (kR 1 22) (kPre (cP E) E [.ref (eA E 0), .int x1, .int x2] σ) (kQi (cP E) (inC E) r σr) 0 0 (inC E) :=
  kst hE (by decide +kernel) (Nat.le_of_ble_eq_true rfl) (fun p e s m below meth c ls C hP hl => w_X7_line_0 C F σ x1 x2 h s.heap [] hP va_S.rf ls hl)
end

section
variable {p : Program} {l : Launch} {e : Env} {s : State} {m : MethodId} {args : Array Value} {below : List Frame} {meth : Method} {c : Code} {E : kE} {σr : kS}
variable {r : Int32}
def s_X7_noTable_0 (F : Nat) (σ : kS) : Option (Int32 × kS) :=
  some ((kI σ 19), (jI σ 19 (0 : Int32)))
set_option maxRecDepth 100000 in
set_option maxHeartbeats 4000000 in
theorem w_X7_noTable_0 (C : Cx E p s m args meth c cX7_noTable 2 RX7 (some .int)) (F : Nat) (σ : kS) (h : s_X7_noTable_0 F σ = some (r, σr)) (H : Heap) (locs : List Loc) (hP : cP E σ H) (hS : va_S (inC E) s.heap H locs) (ls : Array Slot) (hl : lv_has ls 2 [(0, .ref (eA E 0))]) : W p l e (kR 0 0) s m args below meth c H locs 0 0 (MQ below (kQi (cP E) (inC E) r σr) args s 0 0 (inC E)) (F0 m 0 ls []) := by
  obtain ⟨-, hx, hb, hml, hown, hts, hK, -, -⟩ := id C
  unfold s_X7_noTable_0 at h
  refine lv_aload_n hx hb dX7_noTable_0 rfl (lv_at hl 0 rfl) ?_
  refine gf_0_6 C hP w_255 dX7_noTable_1 ?_
  refine gf_11_3 C hP (v := (kI σ 19)) rfl w_184 dX7_noTable_4 ?_
  refine lv_istore_n (lv' := [(1, .int (kI σ 19)), (0, .ref (eA E 0))]) hx hb dX7_noTable_7 rfl hl (by decide) rfl (fun ls hl => ?_)
  refine lv_aload_n hx hb dX7_noTable_8 rfl (lv_at hl 1 rfl) ?_
  refine gf_0_6 C hP w_255 dX7_noTable_9 ?_
  refine lv_iconst (v := (0 : Int32)) hx hb dX7_noTable_12 (by decide) ?_
  refine pf_11_3 C hP hS w_184 dX7_noTable_13 (fun H locs hP hS => ?_)
  refine lv_iload_n hx hb dX7_noTable_16 rfl (lv_at hl 0 rfl) ?_
  obtain ⟨rfl, rfl⟩ := k_inj h
  exact kri C hS hP dX7_noTable_17
def f_X7_noTable (F : Nat) (σ : kS) : Option (Int32 × kS) := s_X7_noTable_0 F σ
set_option maxRecDepth 100000 in
theorem c_X7_noTable (E : kE) (hE : kap E) (F : Nat) (σ : kS) (h : f_X7_noTable F σ = some (r, σr)) : Met l yX7_noTable (kWs yX7_noTable cX7_noTable 2 (some .int)) (kR 0 0) (kPre (cP E) E [.ref (eA E 0)] σ) (kQi (cP E) (inC E) r σr) 0 0 (inC E) :=
  kst hE (by decide +kernel) (Nat.le_of_ble_eq_true rfl) (fun p e s m below meth c ls C hP hl => w_X7_noTable_0 C F σ h s.heap [] hP va_S.rf ls hl)
end

section
variable {p : Program} {l : Launch} {e : Env} {s : State} {m : MethodId} {args : Array Value} {below : List Frame} {meth : Method} {c : Code} {E : kE} {σr : kS}
variable {r : Int32}
def s_X6_isSo_0 (F : Nat) (σ : kS) (x1 : Int32) (x2 : Int32) : Option (Int32 × kS) :=
  (if x1 < 0 ∨ 10 ≤ x1.toNatClampNeg then none else (kb (f_X1_rulerAt F σ (if (0 : Int32) < ((kA σ 4 x1.toNatClampNeg) + x2) then ((kA σ 4 x1.toNatClampNeg) + x2) else (0 : Int32)).toInt64) fun v_2 σ_3 => (if x1 < 0 ∨ 10 ≤ x1.toNatClampNeg then none else (if v_2 = (kA σ_3 5 x1.toNatClampNeg) then some ((1 : Int32), σ_3) else some ((0 : Int32), σ_3)))))
set_option maxRecDepth 100000 in
set_option maxHeartbeats 4000000 in
theorem w_X6_isSo_0 (C : Cx E p s m args meth c cX6_isSo 3 RX6 (some .boolean)) (F : Nat) (σ : kS) (x1 : Int32) (x2 : Int32) (h : s_X6_isSo_0 F σ x1 x2 = some (r, σr)) (H : Heap) (locs : List Loc) (hP : cP E σ H) (hS : va_S (inC E) s.heap H locs) (ls : Array Slot) (hl : lv_has ls 3 [(0, .ref (eA E 11)), (1, .int x1), (2, .int x2)]) : W p l e (kR 4 91) s m args below meth c H locs 0 0 (MQ below (kQi (cP E) (inC E) r σr) args s 0 0 (inC E)) (F0 m 0 ls []) := by
  obtain ⟨-, hx, hb, hml, hown, hts, hK, -, -⟩ := id C
  unfold s_X6_isSo_0 at h
  refine lv_aload_n hx hb dX6_isSo_0 rfl (lv_at hl 0 rfl) ?_
  refine gf_11_0 C hP w_180 dX6_isSo_1 ?_
  refine lv_iconst (v := (0 : Int32)) hx hb dX6_isSo_4 (by decide) ?_
  refine lv_aload_n hx hb dX6_isSo_5 rfl (lv_at hl 0 rfl) ?_
  refine gf_11_1 C hP w_181 dX6_isSo_6 ?_
  refine lv_iload_n hx hb dX6_isSo_9 rfl (lv_at hl 1 rfl) ?_
  obtain ⟨n_1, h⟩ := k_no h
  refine al_12 C hP (v := (kA σ 4 x1.toNatClampNeg)) rfl n_1 dX6_isSo_10 ?_
  refine lv_iload_n hx hb dX6_isSo_11 rfl (lv_at hl 2 rfl) ?_
  refine lv_iadd hx hb dX6_isSo_12 ?_
  refine kmax C hl.1 w_619 (Nat.le_of_ble_eq_true rfl) (Nat.le_of_ble_eq_true rfl) dX6_isSo_13 ?_
  refine lv_i2l (v := (if (0 : Int32) < ((kA σ 4 x1.toNatClampNeg) + x2) then ((kA σ 4 x1.toNatClampNeg) + x2) else (0 : Int32)).toInt64) hx hb dX6_isSo_16 rfl ?_
  obtain ⟨v_2, σ_3, hc_4, h⟩ := kb_ok h
  refine kci (krunV (As := [.long (if (0 : Int32) < ((kA σ 4 x1.toNatClampNeg) + x2) then ((kA σ 4 x1.toNatClampNeg) + x2) else (0 : Int32)).toInt64]) C hP (c_X1_rulerAt E C.1 F σ (if (0 : Int32) < ((kA σ 4 x1.toNatClampNeg) + x2) then ((kA σ 4 x1.toNatClampNeg) + x2) else (0 : Int32)).toInt64 hc_4) w_620 kv_X1_rulerAt ⟨Nat.le_of_ble_eq_true rfl, Nat.le_of_ble_eq_true rfl⟩ (rc_9 C hP) rfl hl.1 rfl (Nat.le_of_ble_eq_true rfl) dX6_isSo_17) hS (fun H locs hP hS => ?_)
  refine lv_aload_n hx hb dX6_isSo_20 rfl (lv_at hl 0 rfl) ?_
  refine gf_11_2 C hP w_182 dX6_isSo_21 ?_
  refine lv_iload_n hx hb dX6_isSo_24 rfl (lv_at hl 1 rfl) ?_
  obtain ⟨n_5, h⟩ := k_no h
  refine al_13 C hP (v := (kA σ_3 5 x1.toNatClampNeg)) rfl n_5 dX6_isSo_25 ?_
  refine lv_icmp_ne (tgt := 33) hx hb dX6_isSo_26 (by decide) (fun c_6 => ?_) (fun c_6 => ?_)
  · have h := k_f c_6 h
    refine lv_iconst (v := (0 : Int32)) hx hb dX6_isSo_33 (by decide) ?_
    obtain ⟨rfl, rfl⟩ := k_inj h
    exact krz C hS hP (by decide) dX6_isSo_34
  · have h := k_t c_6 h
    refine lv_iconst (v := (1 : Int32)) hx hb dX6_isSo_29 (by decide) ?_
    refine lv_goto (tgt := 34) hx hb dX6_isSo_30 (by decide) ?_
    obtain ⟨rfl, rfl⟩ := k_inj h
    exact krz C hS hP (by decide) dX6_isSo_34
def f_X6_isSo (F : Nat) (σ : kS) (x1 : Int32) (x2 : Int32) : Option (Int32 × kS) := s_X6_isSo_0 F σ x1 x2
set_option maxRecDepth 100000 in
theorem c_X6_isSo (E : kE) (hE : kap E) (F : Nat) (σ : kS) (x1 : Int32) (x2 : Int32) (h : f_X6_isSo F σ x1 x2 = some (r, σr)) : Met l yX6_isSo (kWs yX6_isSo cX6_isSo 3 (some .boolean)) (kR 4 91) (kPre (cP E) E [.ref (eA E 11), .int x1, .int x2] σ) (kQi (cP E) (inC E) r σr) 0 0 (inC E) :=
  kst hE (by decide +kernel) (Nat.le_of_ble_eq_true rfl) (fun p e s m below meth c ls C hP hl => w_X6_isSo_0 C F σ x1 x2 h s.heap [] hP va_S.rf ls hl)
end

section
variable {p : Program} {l : Launch} {e : Env} {s : State} {m : MethodId} {args : Array Value} {below : List Frame} {meth : Method} {c : Code} {E : kE} {σr : kS}
variable {r : Int32}
def s_X6_forgedBits_33 (F : Nat) (rec4 : (kS × Int32 × Int32 → Option (Int32 × kS))) (σ : kS) (x1 : Int32) (x2 : Int32) : Option (Int32 × kS) :=
  rec4 (σ, x1, (x2 + (1 : Int32)))
set_option maxRecDepth 100000 in
set_option maxHeartbeats 4000000 in
theorem w_X6_forgedBits_33 (C : Cx E p s m args meth c cX6_forgedBits 3 RX6 (some .int)) (F : Nat) (rec4 : (kS × Int32 × Int32 → Option (Int32 × kS))) (hrec4 : ∀ (σ : kS) (x1 : Int32) (x2 : Int32), rec4 (σ, x1, x2) = some (r, σr) → ∀ (H : Heap) (locs : List Loc), cP E σ H → va_S (inC E) s.heap H locs → ∀ (ls : Array Slot), lv_has ls 3 [(0, .ref (eA E 11)), (1, .int x1), (2, .int x2)] → W p l e (kR 5 113) s m args below meth c H locs 0 0 (MQ below (kQi (cP E) (inC E) r σr) args s 0 0 (inC E)) (F0 m 4 ls [])) (σ : kS) (x1 : Int32) (x2 : Int32) (h : s_X6_forgedBits_33 F rec4 σ x1 x2 = some (r, σr)) (H : Heap) (locs : List Loc) (hP : cP E σ H) (hS : va_S (inC E) s.heap H locs) (ls : Array Slot) (hl : lv_has ls 3 [(0, .ref (eA E 11)), (1, .int x1), (2, .int x2)]) : W p l e (kR 5 113) s m args below meth c H locs 0 0 (MQ below (kQi (cP E) (inC E) r σr) args s 0 0 (inC E)) (F0 m 33 ls []) := by
  obtain ⟨-, hx, hb, hml, hown, hts, hK, -, -⟩ := id C
  unfold s_X6_forgedBits_33 at h
  refine lv_iinc (v := (x2 + (1 : Int32))) (lv' := [(2, .int (x2 + (1 : Int32))), (0, .ref (eA E 11)), (1, .int x1)]) hx hb dX6_forgedBits_33 hl (k := 2) rfl rfl (by decide) rfl (fun ls hl => ?_)
  refine lv_goto (tgt := 4) hx hb dX6_forgedBits_36 (by decide) ?_
  exact hrec4 σ x1 (x2 + (1 : Int32)) h H locs hP hS ls (lv_sub hl [1, 2, 0] rfl)
def s_X6_forgedBits_4 (F : Nat) (rec4 : (kS × Int32 × Int32 → Option (Int32 × kS))) (σ : kS) (x1 : Int32) (x2 : Int32) : Option (Int32 × kS) :=
  (if (kI σ 19) ≤ x2 then some (x1, σ) else (if (10 : Int32) ≤ x2 then some (x1, σ) else (kb (f_X6_isSo F σ x2 (0 : Int32)) fun v_3 σ_4 => (if v_3 = 0 then (kn (x1 ||| ((1 : Int32) <<< (x2 &&& 31))) (fun x1_7 => s_X6_forgedBits_33 F rec4 σ_4 x1_7 x2)) else s_X6_forgedBits_33 F rec4 σ_4 x1 x2))))
set_option maxRecDepth 100000 in
set_option maxHeartbeats 4000000 in
theorem w_X6_forgedBits_4 (C : Cx E p s m args meth c cX6_forgedBits 3 RX6 (some .int)) (F : Nat) (rec4 : (kS × Int32 × Int32 → Option (Int32 × kS))) (hrec4 : ∀ (σ : kS) (x1 : Int32) (x2 : Int32), rec4 (σ, x1, x2) = some (r, σr) → ∀ (H : Heap) (locs : List Loc), cP E σ H → va_S (inC E) s.heap H locs → ∀ (ls : Array Slot), lv_has ls 3 [(0, .ref (eA E 11)), (1, .int x1), (2, .int x2)] → W p l e (kR 5 113) s m args below meth c H locs 0 0 (MQ below (kQi (cP E) (inC E) r σr) args s 0 0 (inC E)) (F0 m 4 ls [])) (σ : kS) (x1 : Int32) (x2 : Int32) (h : s_X6_forgedBits_4 F rec4 σ x1 x2 = some (r, σr)) (H : Heap) (locs : List Loc) (hP : cP E σ H) (hS : va_S (inC E) s.heap H locs) (ls : Array Slot) (hl : lv_has ls 3 [(0, .ref (eA E 11)), (1, .int x1), (2, .int x2)]) : W p l e (kR 5 113) s m args below meth c H locs 0 0 (MQ below (kQi (cP E) (inC E) r σr) args s 0 0 (inC E)) (F0 m 4 ls []) := by
  obtain ⟨-, hx, hb, hml, hown, hts, hK, -, -⟩ := id C
  unfold s_X6_forgedBits_4 at h
  refine lv_iload_n hx hb dX6_forgedBits_4 rfl (lv_at hl 2 rfl) ?_
  refine lv_aload_n hx hb dX6_forgedBits_5 rfl (lv_at hl 0 rfl) ?_
  refine gf_11_3 C hP (v := (kI σ 19)) rfl w_183 dX6_forgedBits_6 ?_
  refine lv_icmp_ge (tgt := 39) hx hb dX6_forgedBits_9 (by decide) (fun c_1 => ?_) (fun c_1 => ?_)
  · have h := k_t c_1 h
    refine lv_iload_n hx hb dX6_forgedBits_39 rfl (lv_at hl 1 rfl) ?_
    obtain ⟨rfl, rfl⟩ := k_inj h
    exact kri C hS hP dX6_forgedBits_40
  · have h := k_f c_1 h
    refine lv_iload_n hx hb dX6_forgedBits_12 rfl (lv_at hl 2 rfl) ?_
    refine lv_bipush (v := (10 : Int32)) hx hb dX6_forgedBits_13 (by decide) ?_
    refine lv_icmp_ge (tgt := 39) hx hb dX6_forgedBits_15 (by decide) (fun c_2 => ?_) (fun c_2 => ?_)
    · have h := k_t c_2 h
      refine lv_iload_n hx hb dX6_forgedBits_39 rfl (lv_at hl 1 rfl) ?_
      obtain ⟨rfl, rfl⟩ := k_inj h
      exact kri C hS hP dX6_forgedBits_40
    · have h := k_f c_2 h
      refine lv_aload_n hx hb dX6_forgedBits_18 rfl (lv_at hl 0 rfl) ?_
      refine lv_iload_n hx hb dX6_forgedBits_19 rfl (lv_at hl 2 rfl) ?_
      refine lv_iconst (v := (0 : Int32)) hx hb dX6_forgedBits_20 (by decide) ?_
      obtain ⟨v_3, σ_4, hc_5, h⟩ := kb_ok h
      refine kci (krunV (As := [.int x2, .int (0 : Int32)]) C hP (c_X6_isSo E C.1 F σ x2 (0 : Int32) hc_5) w_615 kv_X6_isSo ⟨Nat.le_of_ble_eq_true rfl, Nat.le_of_ble_eq_true rfl⟩ (rc_11 C hP) rfl hl.1 rfl (Nat.le_of_ble_eq_true rfl) dX6_forgedBits_21) hS (fun H locs hP hS => ?_)
      refine lv_if_ne (tgt := 33) hx hb dX6_forgedBits_24 (by decide) (fun c_6 => ?_) (fun c_6 => ?_)
      · have h := k_f c_6 h
        exact w_X6_forgedBits_33 C F rec4 hrec4 σ_4 x1 x2 h H locs hP hS ls hl
      · have h := k_t c_6 h
        refine lv_iload_n hx hb dX6_forgedBits_27 rfl (lv_at hl 1 rfl) ?_
        refine lv_iconst (v := (1 : Int32)) hx hb dX6_forgedBits_28 (by decide) ?_
        refine lv_iload_n hx hb dX6_forgedBits_29 rfl (lv_at hl 2 rfl) ?_
        refine lv_ishl hx hb dX6_forgedBits_30 ?_
        refine lv_ior hx hb dX6_forgedBits_31 ?_
        refine lv_topi (fun x1_7 ex1_7 => ?_)
        have h := kn_to ex1_7 h
        refine lv_istore_n (lv' := [(1, .int x1_7), (0, .ref (eA E 11)), (2, .int x2)]) hx hb dX6_forgedBits_32 rfl hl (by decide) rfl (fun ls hl => ?_)
        exact w_X6_forgedBits_33 C F rec4 hrec4 σ_4 x1_7 x2 h H locs hP hS ls (lv_sub hl [1, 0, 2] rfl)
def f_X6_forgedBits_4 (F : Nat) : kS × Int32 × Int32 → Option (Int32 × kS) := itr (fun rec4 q => s_X6_forgedBits_4 F rec4 q.1 q.2.1 q.2.2) F
theorem wf_X6_forgedBits_4 (C : Cx E p s m args meth c cX6_forgedBits 3 RX6 (some .int)) (F : Nat) (σ : kS) (x1 : Int32) (x2 : Int32) (h : f_X6_forgedBits_4 F (σ, x1, x2) = some (r, σr)) (H : Heap) (locs : List Loc) (hP : cP E σ H) (hS : va_S (inC E) s.heap H locs) (ls : Array Slot) (hl : lv_has ls 3 [(0, .ref (eA E 11)), (1, .int x1), (2, .int x2)]) : W p l e (kR 5 113) s m args below meth c H locs 0 0 (MQ below (kQi (cP E) (inC E) r σr) args s 0 0 (inC E)) (F0 m 4 ls []) :=
  itr_ok (r := (r, σr)) (G := fun q => ∀ (H : Heap) (locs : List Loc), cP E q.1 H → va_S (inC E) s.heap H locs → ∀ (ls : Array Slot), lv_has ls 3 [(0, .ref (eA E 11)), (1, .int (q.2.1)), (2, .int (q.2.2))] → W p l e (kR 5 113) s m args below meth c H locs 0 0 (MQ below (kQi (cP E) (inC E) r σr) args s 0 0 (inC E)) (F0 m 4 ls [])) (fun rec4 hrec4 q h => w_X6_forgedBits_4 C F rec4 (fun σ x1 x2 => hrec4 (σ, x1, x2)) q.1 q.2.1 q.2.2 h) F (σ, x1, x2) h H locs hP hS ls hl
def s_X6_forgedBits_0 (F : Nat) (σ : kS) : Option (Int32 × kS) :=
  f_X6_forgedBits_4 F (σ, (0 : Int32), (0 : Int32))
set_option maxRecDepth 100000 in
set_option maxHeartbeats 4000000 in
theorem w_X6_forgedBits_0 (C : Cx E p s m args meth c cX6_forgedBits 3 RX6 (some .int)) (F : Nat) (σ : kS) (h : s_X6_forgedBits_0 F σ = some (r, σr)) (H : Heap) (locs : List Loc) (hP : cP E σ H) (hS : va_S (inC E) s.heap H locs) (ls : Array Slot) (hl : lv_has ls 3 [(0, .ref (eA E 11))]) : W p l e (kR 5 113) s m args below meth c H locs 0 0 (MQ below (kQi (cP E) (inC E) r σr) args s 0 0 (inC E)) (F0 m 0 ls []) := by
  obtain ⟨-, hx, hb, hml, hown, hts, hK, -, -⟩ := id C
  unfold s_X6_forgedBits_0 at h
  refine lv_iconst (v := (0 : Int32)) hx hb dX6_forgedBits_0 (by decide) ?_
  refine lv_istore_n (lv' := [(1, .int (0 : Int32)), (0, .ref (eA E 11))]) hx hb dX6_forgedBits_1 rfl hl (by decide) rfl (fun ls hl => ?_)
  refine lv_iconst (v := (0 : Int32)) hx hb dX6_forgedBits_2 (by decide) ?_
  refine lv_istore_n (lv' := [(2, .int (0 : Int32)), (1, .int (0 : Int32)), (0, .ref (eA E 11))]) hx hb dX6_forgedBits_3 rfl hl (by decide) rfl (fun ls hl => ?_)
  exact wf_X6_forgedBits_4 C F σ (0 : Int32) (0 : Int32) h H locs hP hS ls (lv_sub hl [2, 1, 0] rfl)
def f_X6_forgedBits (F : Nat) (σ : kS) : Option (Int32 × kS) := s_X6_forgedBits_0 F σ
set_option maxRecDepth 100000 in
theorem c_X6_forgedBits (E : kE) (hE : kap E) (F : Nat) (σ : kS) (h : f_X6_forgedBits F σ = some (r, σr)) : Met l yX6_forgedBits (kWs yX6_forgedBits cX6_forgedBits 3 (some .int)) (kR 5 113) (kPre (cP E) E [.ref (eA E 11)] σ) (kQi (cP E) (inC E) r σr) 0 0 (inC E) :=
  kst hE (by decide +kernel) (Nat.le_of_ble_eq_true rfl) (fun p e s m below meth c ls C hP hl => w_X6_forgedBits_0 C F σ h s.heap [] hP va_S.rf ls hl)
end

section
variable {p : Program} {l : Launch} {e : Env} {s : State} {m : MethodId} {args : Array Value} {below : List Frame} {meth : Method} {c : Code} {E : kE} {σr : kS}
variable {r : Int32}
def s_X7_forged_0 (F : Nat) (σ : kS) : Option (Int32 × kS) :=
  (kb (f_X6_forgedBits F σ) fun v_1 σ_2 => some (v_1, σ_2))
set_option maxRecDepth 100000 in
set_option maxHeartbeats 4000000 in
theorem w_X7_forged_0 (C : Cx E p s m args meth c cX7_forged 1 RX7 (some .int)) (F : Nat) (σ : kS) (h : s_X7_forged_0 F σ = some (r, σr)) (H : Heap) (locs : List Loc) (hP : cP E σ H) (hS : va_S (inC E) s.heap H locs) (ls : Array Slot) (hl : lv_has ls 1 [(0, .ref (eA E 0))]) : W p l e (kR 6 135) s m args below meth c H locs 0 0 (MQ below (kQi (cP E) (inC E) r σr) args s 0 0 (inC E)) (F0 m 0 ls []) := by
  obtain ⟨-, hx, hb, hml, hown, hts, hK, -, -⟩ := id C
  unfold s_X7_forged_0 at h
  refine lv_aload_n hx hb dX7_forged_0 rfl (lv_at hl 0 rfl) ?_
  refine gf_0_6 C hP w_255 dX7_forged_1 ?_
  obtain ⟨v_1, σ_2, hc_3, h⟩ := kb_ok h
  refine kci (krunV (As := []) C hP (c_X6_forgedBits E C.1 F σ hc_3) w_611 kv_X6_forgedBits ⟨Nat.le_of_ble_eq_true rfl, Nat.le_of_ble_eq_true rfl⟩ (rc_11 C hP) rfl hl.1 rfl (Nat.le_of_ble_eq_true rfl) dX7_forged_4) hS (fun H locs hP hS => ?_)
  obtain ⟨rfl, rfl⟩ := k_inj h
  exact kri C hS hP dX7_forged_7
def f_X7_forged (F : Nat) (σ : kS) : Option (Int32 × kS) := s_X7_forged_0 F σ
set_option maxRecDepth 100000 in
theorem c_X7_forged (E : kE) (hE : kap E) (F : Nat) (σ : kS) (h : f_X7_forged F σ = some (r, σr)) : Met l yX7_forged (kWs yX7_forged cX7_forged 1 (some .int)) (kR 6 135) (kPre (cP E) E [.ref (eA E 0)] σ) (kQi (cP E) (inC E) r σr) 0 0 (inC E) :=
  kst hE (by decide +kernel) (Nat.le_of_ble_eq_true rfl) (fun p e s m below meth c ls C hP hl => w_X7_forged_0 C F σ h s.heap [] hP va_S.rf ls hl)
end

section
variable {p : Program} {l : Launch} {e : Env} {s : State} {m : MethodId} {args : Array Value} {below : List Frame} {meth : Method} {c : Code} {E : kE} {σr : kS}
variable {r : Int32}
def s_X6_linesSo_30 (F : Nat) (rec4 : (kS × Int32 × Int32 × Int32 → Option (Int32 × kS))) (σ : kS) (x1 : Int32) (x2 : Int32) (x3 : Int32) : Option (Int32 × kS) :=
  rec4 (σ, x1, x2, (x3 + (1 : Int32)))
set_option maxRecDepth 100000 in
set_option maxHeartbeats 4000000 in
theorem w_X6_linesSo_30 (C : Cx E p s m args meth c cX6_linesSo 4 RX6 (some .int)) (F : Nat) (rec4 : (kS × Int32 × Int32 × Int32 → Option (Int32 × kS))) (hrec4 : ∀ (σ : kS) (x1 : Int32) (x2 : Int32) (x3 : Int32), rec4 (σ, x1, x2, x3) = some (r, σr) → ∀ (H : Heap) (locs : List Loc), cP E σ H → va_S (inC E) s.heap H locs → ∀ (ls : Array Slot), lv_has ls 4 [(0, .ref (eA E 11)), (1, .int x1), (2, .int x2), (3, .int x3)] → W p l e (kR 5 113) s m args below meth c H locs 0 0 (MQ below (kQi (cP E) (inC E) r σr) args s 0 0 (inC E)) (F0 m 4 ls [])) (σ : kS) (x1 : Int32) (x2 : Int32) (x3 : Int32) (h : s_X6_linesSo_30 F rec4 σ x1 x2 x3 = some (r, σr)) (H : Heap) (locs : List Loc) (hP : cP E σ H) (hS : va_S (inC E) s.heap H locs) (ls : Array Slot) (hl : lv_has ls 4 [(0, .ref (eA E 11)), (1, .int x1), (2, .int x2), (3, .int x3)]) : W p l e (kR 5 113) s m args below meth c H locs 0 0 (MQ below (kQi (cP E) (inC E) r σr) args s 0 0 (inC E)) (F0 m 30 ls []) := by
  obtain ⟨-, hx, hb, hml, hown, hts, hK, -, -⟩ := id C
  unfold s_X6_linesSo_30 at h
  refine lv_iinc (v := (x3 + (1 : Int32))) (lv' := [(3, .int (x3 + (1 : Int32))), (0, .ref (eA E 11)), (1, .int x1), (2, .int x2)]) hx hb dX6_linesSo_30 hl (k := 3) rfl rfl (by decide) rfl (fun ls hl => ?_)
  refine lv_goto (tgt := 4) hx hb dX6_linesSo_33 (by decide) ?_
  exact hrec4 σ x1 x2 (x3 + (1 : Int32)) h H locs hP hS ls (lv_sub hl [1, 2, 3, 0] rfl)
def s_X6_linesSo_4 (F : Nat) (rec4 : (kS × Int32 × Int32 × Int32 → Option (Int32 × kS))) (σ : kS) (x1 : Int32) (x2 : Int32) (x3 : Int32) : Option (Int32 × kS) :=
  (if (kI σ 19) ≤ x3 then some (x2, σ) else (if (10 : Int32) ≤ x3 then some (x2, σ) else (kb (f_X6_isSo F σ x3 x1) fun v_3 σ_4 => (if v_3 = 0 then s_X6_linesSo_30 F rec4 σ_4 x1 x2 x3 else s_X6_linesSo_30 F rec4 σ_4 x1 (x2 + (1 : Int32)) x3))))
set_option maxRecDepth 100000 in
set_option maxHeartbeats 4000000 in
theorem w_X6_linesSo_4 (C : Cx E p s m args meth c cX6_linesSo 4 RX6 (some .int)) (F : Nat) (rec4 : (kS × Int32 × Int32 × Int32 → Option (Int32 × kS))) (hrec4 : ∀ (σ : kS) (x1 : Int32) (x2 : Int32) (x3 : Int32), rec4 (σ, x1, x2, x3) = some (r, σr) → ∀ (H : Heap) (locs : List Loc), cP E σ H → va_S (inC E) s.heap H locs → ∀ (ls : Array Slot), lv_has ls 4 [(0, .ref (eA E 11)), (1, .int x1), (2, .int x2), (3, .int x3)] → W p l e (kR 5 113) s m args below meth c H locs 0 0 (MQ below (kQi (cP E) (inC E) r σr) args s 0 0 (inC E)) (F0 m 4 ls [])) (σ : kS) (x1 : Int32) (x2 : Int32) (x3 : Int32) (h : s_X6_linesSo_4 F rec4 σ x1 x2 x3 = some (r, σr)) (H : Heap) (locs : List Loc) (hP : cP E σ H) (hS : va_S (inC E) s.heap H locs) (ls : Array Slot) (hl : lv_has ls 4 [(0, .ref (eA E 11)), (1, .int x1), (2, .int x2), (3, .int x3)]) : W p l e (kR 5 113) s m args below meth c H locs 0 0 (MQ below (kQi (cP E) (inC E) r σr) args s 0 0 (inC E)) (F0 m 4 ls []) := by
  obtain ⟨-, hx, hb, hml, hown, hts, hK, -, -⟩ := id C
  unfold s_X6_linesSo_4 at h
  refine lv_iload_n hx hb dX6_linesSo_4 rfl (lv_at hl 3 rfl) ?_
  refine lv_aload_n hx hb dX6_linesSo_5 rfl (lv_at hl 0 rfl) ?_
  refine gf_11_3 C hP (v := (kI σ 19)) rfl w_183 dX6_linesSo_6 ?_
  refine lv_icmp_ge (tgt := 36) hx hb dX6_linesSo_9 (by decide) (fun c_1 => ?_) (fun c_1 => ?_)
  · have h := k_t c_1 h
    refine lv_iload_n hx hb dX6_linesSo_36 rfl (lv_at hl 2 rfl) ?_
    obtain ⟨rfl, rfl⟩ := k_inj h
    exact kri C hS hP dX6_linesSo_37
  · have h := k_f c_1 h
    refine lv_iload_n hx hb dX6_linesSo_12 rfl (lv_at hl 3 rfl) ?_
    refine lv_bipush (v := (10 : Int32)) hx hb dX6_linesSo_13 (by decide) ?_
    refine lv_icmp_ge (tgt := 36) hx hb dX6_linesSo_15 (by decide) (fun c_2 => ?_) (fun c_2 => ?_)
    · have h := k_t c_2 h
      refine lv_iload_n hx hb dX6_linesSo_36 rfl (lv_at hl 2 rfl) ?_
      obtain ⟨rfl, rfl⟩ := k_inj h
      exact kri C hS hP dX6_linesSo_37
    · have h := k_f c_2 h
      refine lv_aload_n hx hb dX6_linesSo_18 rfl (lv_at hl 0 rfl) ?_
      refine lv_iload_n hx hb dX6_linesSo_19 rfl (lv_at hl 3 rfl) ?_
      refine lv_iload_n hx hb dX6_linesSo_20 rfl (lv_at hl 1 rfl) ?_
      obtain ⟨v_3, σ_4, hc_5, h⟩ := kb_ok h
      refine kci (krunV (As := [.int x3, .int x1]) C hP (c_X6_isSo E C.1 F σ x3 x1 hc_5) w_615 kv_X6_isSo ⟨Nat.le_of_ble_eq_true rfl, Nat.le_of_ble_eq_true rfl⟩ (rc_11 C hP) rfl hl.1 rfl (Nat.le_of_ble_eq_true rfl) dX6_linesSo_21) hS (fun H locs hP hS => ?_)
      refine lv_if_eq (tgt := 30) hx hb dX6_linesSo_24 (by decide) (fun c_6 => ?_) (fun c_6 => ?_)
      · have h := k_t c_6 h
        exact w_X6_linesSo_30 C F rec4 hrec4 σ_4 x1 x2 x3 h H locs hP hS ls hl
      · have h := k_f c_6 h
        refine lv_iinc (v := (x2 + (1 : Int32))) (lv' := [(2, .int (x2 + (1 : Int32))), (0, .ref (eA E 11)), (1, .int x1), (3, .int x3)]) hx hb dX6_linesSo_27 hl (k := 2) rfl rfl (by decide) rfl (fun ls hl => ?_)
        exact w_X6_linesSo_30 C F rec4 hrec4 σ_4 x1 (x2 + (1 : Int32)) x3 h H locs hP hS ls (lv_sub hl [1, 2, 0, 3] rfl)
def f_X6_linesSo_4 (F : Nat) : kS × Int32 × Int32 × Int32 → Option (Int32 × kS) := itr (fun rec4 q => s_X6_linesSo_4 F rec4 q.1 q.2.1 q.2.2.1 q.2.2.2) F
theorem wf_X6_linesSo_4 (C : Cx E p s m args meth c cX6_linesSo 4 RX6 (some .int)) (F : Nat) (σ : kS) (x1 : Int32) (x2 : Int32) (x3 : Int32) (h : f_X6_linesSo_4 F (σ, x1, x2, x3) = some (r, σr)) (H : Heap) (locs : List Loc) (hP : cP E σ H) (hS : va_S (inC E) s.heap H locs) (ls : Array Slot) (hl : lv_has ls 4 [(0, .ref (eA E 11)), (1, .int x1), (2, .int x2), (3, .int x3)]) : W p l e (kR 5 113) s m args below meth c H locs 0 0 (MQ below (kQi (cP E) (inC E) r σr) args s 0 0 (inC E)) (F0 m 4 ls []) :=
  itr_ok (r := (r, σr)) (G := fun q => ∀ (H : Heap) (locs : List Loc), cP E q.1 H → va_S (inC E) s.heap H locs → ∀ (ls : Array Slot), lv_has ls 4 [(0, .ref (eA E 11)), (1, .int (q.2.1)), (2, .int (q.2.2.1)), (3, .int (q.2.2.2))] → W p l e (kR 5 113) s m args below meth c H locs 0 0 (MQ below (kQi (cP E) (inC E) r σr) args s 0 0 (inC E)) (F0 m 4 ls [])) (fun rec4 hrec4 q h => w_X6_linesSo_4 C F rec4 (fun σ x1 x2 x3 => hrec4 (σ, x1, x2, x3)) q.1 q.2.1 q.2.2.1 q.2.2.2 h) F (σ, x1, x2, x3) h H locs hP hS ls hl
def s_X6_linesSo_0 (F : Nat) (σ : kS) (x1 : Int32) : Option (Int32 × kS) :=
  f_X6_linesSo_4 F (σ, x1, (0 : Int32), (0 : Int32))
set_option maxRecDepth 100000 in
set_option maxHeartbeats 4000000 in
theorem w_X6_linesSo_0 (C : Cx E p s m args meth c cX6_linesSo 4 RX6 (some .int)) (F : Nat) (σ : kS) (x1 : Int32) (h : s_X6_linesSo_0 F σ x1 = some (r, σr)) (H : Heap) (locs : List Loc) (hP : cP E σ H) (hS : va_S (inC E) s.heap H locs) (ls : Array Slot) (hl : lv_has ls 4 [(0, .ref (eA E 11)), (1, .int x1)]) : W p l e (kR 5 113) s m args below meth c H locs 0 0 (MQ below (kQi (cP E) (inC E) r σr) args s 0 0 (inC E)) (F0 m 0 ls []) := by
  obtain ⟨-, hx, hb, hml, hown, hts, hK, -, -⟩ := id C
  unfold s_X6_linesSo_0 at h
  refine lv_iconst (v := (0 : Int32)) hx hb dX6_linesSo_0 (by decide) ?_
  refine lv_istore_n (lv' := [(2, .int (0 : Int32)), (0, .ref (eA E 11)), (1, .int x1)]) hx hb dX6_linesSo_1 rfl hl (by decide) rfl (fun ls hl => ?_)
  refine lv_iconst (v := (0 : Int32)) hx hb dX6_linesSo_2 (by decide) ?_
  refine lv_istore_n (lv' := [(3, .int (0 : Int32)), (2, .int (0 : Int32)), (0, .ref (eA E 11)), (1, .int x1)]) hx hb dX6_linesSo_3 rfl hl (by decide) rfl (fun ls hl => ?_)
  exact wf_X6_linesSo_4 C F σ x1 (0 : Int32) (0 : Int32) h H locs hP hS ls (lv_sub hl [2, 3, 1, 0] rfl)
def f_X6_linesSo (F : Nat) (σ : kS) (x1 : Int32) : Option (Int32 × kS) := s_X6_linesSo_0 F σ x1
set_option maxRecDepth 100000 in
theorem c_X6_linesSo (E : kE) (hE : kap E) (F : Nat) (σ : kS) (x1 : Int32) (h : f_X6_linesSo F σ x1 = some (r, σr)) : Met l yX6_linesSo (kWs yX6_linesSo cX6_linesSo 4 (some .int)) (kR 5 113) (kPre (cP E) E [.ref (eA E 11), .int x1] σ) (kQi (cP E) (inC E) r σr) 0 0 (inC E) :=
  kst hE (by decide +kernel) (Nat.le_of_ble_eq_true rfl) (fun p e s m below meth c ls C hP hl => w_X6_linesSo_0 C F σ x1 h s.heap [] hP va_S.rf ls hl)
end

section
variable {p : Program} {l : Launch} {e : Env} {s : State} {m : MethodId} {args : Array Value} {below : List Frame} {meth : Method} {c : Code} {E : kE} {σr : kS}
variable {r : Int32}
def s_X6_bestShift_46 (F : Nat) (rec10 : (kS × Int32 × Int32 × Int32 → Option (Int32 × kS))) (rec20 : (kS × Int32 × Int32 × Int32 × Int32 → Option (Int32 × kS))) (σ : kS) (x1 : Int32) (x2 : Int32) (x3 : Int32) (x4 : Int32) : Option (Int32 × kS) :=
  (kn (x4 + ((2 : Int32) * x3)) (fun x4_1 => rec20 (σ, x1, x2, x3, x4_1)))
set_option maxRecDepth 100000 in
set_option maxHeartbeats 4000000 in
theorem w_X6_bestShift_46 (C : Cx E p s m args meth c cX6_bestShift 6 RX6 (some .int)) (F : Nat) (rec10 : (kS × Int32 × Int32 × Int32 → Option (Int32 × kS))) (hrec10 : ∀ (σ : kS) (x1 : Int32) (x2 : Int32) (x3 : Int32), rec10 (σ, x1, x2, x3) = some (r, σr) → ∀ (H : Heap) (locs : List Loc), cP E σ H → va_S (inC E) s.heap H locs → ∀ (ls : Array Slot), lv_has ls 6 [(0, .ref (eA E 11)), (1, .int x1), (2, .int x2), (3, .int x3)] → W p l e (kR 6 136) s m args below meth c H locs 0 0 (MQ below (kQi (cP E) (inC E) r σr) args s 0 0 (inC E)) (F0 m 10 ls [])) (rec20 : (kS × Int32 × Int32 × Int32 × Int32 → Option (Int32 × kS))) (hrec20 : ∀ (σ : kS) (x1 : Int32) (x2 : Int32) (x3 : Int32) (x4 : Int32), rec20 (σ, x1, x2, x3, x4) = some (r, σr) → ∀ (H : Heap) (locs : List Loc), cP E σ H → va_S (inC E) s.heap H locs → ∀ (ls : Array Slot), lv_has ls 6 [(0, .ref (eA E 11)), (1, .int x1), (2, .int x2), (3, .int x3), (4, .int x4)] → W p l e (kR 6 136) s m args below meth c H locs 0 0 (MQ below (kQi (cP E) (inC E) r σr) args s 0 0 (inC E)) (F0 m 20 ls [])) (σ : kS) (x1 : Int32) (x2 : Int32) (x3 : Int32) (x4 : Int32) (h : s_X6_bestShift_46 F rec10 rec20 σ x1 x2 x3 x4 = some (r, σr)) (H : Heap) (locs : List Loc) (hP : cP E σ H) (hS : va_S (inC E) s.heap H locs) (ls : Array Slot) (hl : lv_has ls 6 [(0, .ref (eA E 11)), (1, .int x1), (2, .int x2), (3, .int x3), (4, .int x4)]) : W p l e (kR 6 136) s m args below meth c H locs 0 0 (MQ below (kQi (cP E) (inC E) r σr) args s 0 0 (inC E)) (F0 m 46 ls []) := by
  obtain ⟨-, hx, hb, hml, hown, hts, hK, -, -⟩ := id C
  unfold s_X6_bestShift_46 at h
  refine lv_iload hx hb dX6_bestShift_46 (lv_at hl 4 rfl) ?_
  refine lv_iconst (v := (2 : Int32)) hx hb dX6_bestShift_48 (by decide) ?_
  refine lv_iload_n hx hb dX6_bestShift_49 rfl (lv_at hl 3 rfl) ?_
  refine lv_imul hx hb dX6_bestShift_50 ?_
  refine lv_iadd hx hb dX6_bestShift_51 ?_
  refine lv_topi (fun x4_1 ex4_1 => ?_)
  have h := kn_to ex4_1 h
  refine lv_istore (lv' := [(4, .int x4_1), (0, .ref (eA E 11)), (1, .int x1), (2, .int x2), (3, .int x3)]) hx hb dX6_bestShift_52 hl (by decide) rfl (fun ls hl => ?_)
  refine lv_goto (tgt := 20) hx hb dX6_bestShift_54 (by decide) ?_
  exact hrec20 σ x1 x2 x3 x4_1 h H locs hP hS ls (lv_sub hl [1, 2, 3, 4, 0] rfl)
def s_X6_bestShift_20 (F : Nat) (rec10 : (kS × Int32 × Int32 × Int32 → Option (Int32 × kS))) (rec20 : (kS × Int32 × Int32 × Int32 × Int32 → Option (Int32 × kS))) (σ : kS) (x1 : Int32) (x2 : Int32) (x3 : Int32) (x4 : Int32) : Option (Int32 × kS) :=
  (if x3 < x4 then rec10 (σ, x1, x2, (x3 + (1 : Int32))) else (kb (f_X6_linesSo F σ x4) fun v_2 σ_3 => (if v_2 ≤ x2 then s_X6_bestShift_46 F rec10 rec20 σ_3 x1 x2 x3 x4 else s_X6_bestShift_46 F rec10 rec20 σ_3 x4 v_2 x3 x4)))
set_option maxRecDepth 100000 in
set_option maxHeartbeats 4000000 in
theorem w_X6_bestShift_20 (C : Cx E p s m args meth c cX6_bestShift 6 RX6 (some .int)) (F : Nat) (rec10 : (kS × Int32 × Int32 × Int32 → Option (Int32 × kS))) (hrec10 : ∀ (σ : kS) (x1 : Int32) (x2 : Int32) (x3 : Int32), rec10 (σ, x1, x2, x3) = some (r, σr) → ∀ (H : Heap) (locs : List Loc), cP E σ H → va_S (inC E) s.heap H locs → ∀ (ls : Array Slot), lv_has ls 6 [(0, .ref (eA E 11)), (1, .int x1), (2, .int x2), (3, .int x3)] → W p l e (kR 6 136) s m args below meth c H locs 0 0 (MQ below (kQi (cP E) (inC E) r σr) args s 0 0 (inC E)) (F0 m 10 ls [])) (rec20 : (kS × Int32 × Int32 × Int32 × Int32 → Option (Int32 × kS))) (hrec20 : ∀ (σ : kS) (x1 : Int32) (x2 : Int32) (x3 : Int32) (x4 : Int32), rec20 (σ, x1, x2, x3, x4) = some (r, σr) → ∀ (H : Heap) (locs : List Loc), cP E σ H → va_S (inC E) s.heap H locs → ∀ (ls : Array Slot), lv_has ls 6 [(0, .ref (eA E 11)), (1, .int x1), (2, .int x2), (3, .int x3), (4, .int x4)] → W p l e (kR 6 136) s m args below meth c H locs 0 0 (MQ below (kQi (cP E) (inC E) r σr) args s 0 0 (inC E)) (F0 m 20 ls [])) (σ : kS) (x1 : Int32) (x2 : Int32) (x3 : Int32) (x4 : Int32) (h : s_X6_bestShift_20 F rec10 rec20 σ x1 x2 x3 x4 = some (r, σr)) (H : Heap) (locs : List Loc) (hP : cP E σ H) (hS : va_S (inC E) s.heap H locs) (ls : Array Slot) (hl : lv_has ls 6 [(0, .ref (eA E 11)), (1, .int x1), (2, .int x2), (3, .int x3), (4, .int x4)]) : W p l e (kR 6 136) s m args below meth c H locs 0 0 (MQ below (kQi (cP E) (inC E) r σr) args s 0 0 (inC E)) (F0 m 20 ls []) := by
  obtain ⟨-, hx, hb, hml, hown, hts, hK, -, -⟩ := id C
  unfold s_X6_bestShift_20 at h
  refine lv_iload hx hb dX6_bestShift_20 (lv_at hl 4 rfl) ?_
  refine lv_iload_n hx hb dX6_bestShift_22 rfl (lv_at hl 3 rfl) ?_
  refine lv_icmp_gt (tgt := 57) hx hb dX6_bestShift_23 (by decide) (fun c_1 => ?_) (fun c_1 => ?_)
  · have h := k_t c_1 h
    refine lv_iinc (v := (x3 + (1 : Int32))) (lv' := [(3, .int (x3 + (1 : Int32))), (0, .ref (eA E 11)), (1, .int x1), (2, .int x2), (4, .int x4)]) hx hb dX6_bestShift_57 hl (k := 3) rfl rfl (by decide) rfl (fun ls hl => ?_)
    refine lv_goto (tgt := 10) hx hb dX6_bestShift_60 (by decide) ?_
    exact hrec10 σ x1 x2 (x3 + (1 : Int32)) h H locs hP hS ls (lv_sub hl [1, 2, 3, 0] rfl)
  · have h := k_f c_1 h
    refine lv_aload_n hx hb dX6_bestShift_26 rfl (lv_at hl 0 rfl) ?_
    refine lv_iload hx hb dX6_bestShift_27 (lv_at hl 4 rfl) ?_
    obtain ⟨v_2, σ_3, hc_4, h⟩ := kb_ok h
    refine kci (krunV (As := [.int x4]) C hP (c_X6_linesSo E C.1 F σ x4 hc_4) w_629 kv_X6_linesSo ⟨Nat.le_of_ble_eq_true rfl, Nat.le_of_ble_eq_true rfl⟩ (rc_11 C hP) rfl hl.1 rfl (Nat.le_of_ble_eq_true rfl) dX6_bestShift_29) hS (fun H locs hP hS => ?_)
    refine lv_istore (lv' := [(5, .int v_2), (0, .ref (eA E 11)), (1, .int x1), (2, .int x2), (3, .int x3), (4, .int x4)]) hx hb dX6_bestShift_32 hl (by decide) rfl (fun ls hl => ?_)
    refine lv_iload hx hb dX6_bestShift_34 (lv_at hl 0 rfl) ?_
    refine lv_iload_n hx hb dX6_bestShift_36 rfl (lv_at hl 3 rfl) ?_
    refine lv_icmp_le (tgt := 46) hx hb dX6_bestShift_37 (by decide) (fun c_5 => ?_) (fun c_5 => ?_)
    · have h := k_t c_5 h
      exact w_X6_bestShift_46 C F rec10 hrec10 rec20 hrec20 σ_3 x1 x2 x3 x4 h H locs hP hS ls (lv_sub hl [1, 2, 3, 4, 5] rfl)
    · have h := k_f c_5 h
      refine lv_iload hx hb dX6_bestShift_40 (lv_at hl 0 rfl) ?_
      refine lv_istore_n (lv' := [(2, .int v_2), (5, .int v_2), (0, .ref (eA E 11)), (1, .int x1), (3, .int x3), (4, .int x4)]) hx hb dX6_bestShift_42 rfl hl (by decide) rfl (fun ls hl => ?_)
      refine lv_iload hx hb dX6_bestShift_43 (lv_at hl 5 rfl) ?_
      refine lv_istore_n (lv' := [(1, .int x4), (2, .int v_2), (5, .int v_2), (0, .ref (eA E 11)), (3, .int x3), (4, .int x4)]) hx hb dX6_bestShift_45 rfl hl (by decide) rfl (fun ls hl => ?_)
      exact w_X6_bestShift_46 C F rec10 hrec10 rec20 hrec20 σ_3 x4 v_2 x3 x4 h H locs hP hS ls (lv_sub hl [3, 0, 1, 4, 5] rfl)
def f_X6_bestShift_20 (F : Nat) (rec10 : (kS × Int32 × Int32 × Int32 → Option (Int32 × kS))) : kS × Int32 × Int32 × Int32 × Int32 → Option (Int32 × kS) := itr (fun rec20 q => s_X6_bestShift_20 F rec10 rec20 q.1 q.2.1 q.2.2.1 q.2.2.2.1 q.2.2.2.2) F
theorem wf_X6_bestShift_20 (C : Cx E p s m args meth c cX6_bestShift 6 RX6 (some .int)) (F : Nat) (rec10 : (kS × Int32 × Int32 × Int32 → Option (Int32 × kS))) (hrec10 : ∀ (σ : kS) (x1 : Int32) (x2 : Int32) (x3 : Int32), rec10 (σ, x1, x2, x3) = some (r, σr) → ∀ (H : Heap) (locs : List Loc), cP E σ H → va_S (inC E) s.heap H locs → ∀ (ls : Array Slot), lv_has ls 6 [(0, .ref (eA E 11)), (1, .int x1), (2, .int x2), (3, .int x3)] → W p l e (kR 6 136) s m args below meth c H locs 0 0 (MQ below (kQi (cP E) (inC E) r σr) args s 0 0 (inC E)) (F0 m 10 ls [])) (σ : kS) (x1 : Int32) (x2 : Int32) (x3 : Int32) (x4 : Int32) (h : f_X6_bestShift_20 F rec10 (σ, x1, x2, x3, x4) = some (r, σr)) (H : Heap) (locs : List Loc) (hP : cP E σ H) (hS : va_S (inC E) s.heap H locs) (ls : Array Slot) (hl : lv_has ls 6 [(0, .ref (eA E 11)), (1, .int x1), (2, .int x2), (3, .int x3), (4, .int x4)]) : W p l e (kR 6 136) s m args below meth c H locs 0 0 (MQ below (kQi (cP E) (inC E) r σr) args s 0 0 (inC E)) (F0 m 20 ls []) :=
  itr_ok (r := (r, σr)) (G := fun q => ∀ (H : Heap) (locs : List Loc), cP E q.1 H → va_S (inC E) s.heap H locs → ∀ (ls : Array Slot), lv_has ls 6 [(0, .ref (eA E 11)), (1, .int (q.2.1)), (2, .int (q.2.2.1)), (3, .int (q.2.2.2.1)), (4, .int (q.2.2.2.2))] → W p l e (kR 6 136) s m args below meth c H locs 0 0 (MQ below (kQi (cP E) (inC E) r σr) args s 0 0 (inC E)) (F0 m 20 ls [])) (fun rec20 hrec20 q h => w_X6_bestShift_20 C F rec10 hrec10 rec20 (fun σ x1 x2 x3 x4 => hrec20 (σ, x1, x2, x3, x4)) q.1 q.2.1 q.2.2.1 q.2.2.2.1 q.2.2.2.2 h) F (σ, x1, x2, x3, x4) h H locs hP hS ls hl
def s_X6_bestShift_10 (F : Nat) (rec10 : (kS × Int32 × Int32 × Int32 → Option (Int32 × kS))) (σ : kS) (x1 : Int32) (x2 : Int32) (x3 : Int32) : Option (Int32 × kS) :=
  (if (30 : Int32) < x3 then some (x1, σ) else f_X6_bestShift_20 F rec10 (σ, x1, x2, x3, (-x3)))
set_option maxRecDepth 100000 in
set_option maxHeartbeats 4000000 in
theorem w_X6_bestShift_10 (C : Cx E p s m args meth c cX6_bestShift 6 RX6 (some .int)) (F : Nat) (rec10 : (kS × Int32 × Int32 × Int32 → Option (Int32 × kS))) (hrec10 : ∀ (σ : kS) (x1 : Int32) (x2 : Int32) (x3 : Int32), rec10 (σ, x1, x2, x3) = some (r, σr) → ∀ (H : Heap) (locs : List Loc), cP E σ H → va_S (inC E) s.heap H locs → ∀ (ls : Array Slot), lv_has ls 6 [(0, .ref (eA E 11)), (1, .int x1), (2, .int x2), (3, .int x3)] → W p l e (kR 6 136) s m args below meth c H locs 0 0 (MQ below (kQi (cP E) (inC E) r σr) args s 0 0 (inC E)) (F0 m 10 ls [])) (σ : kS) (x1 : Int32) (x2 : Int32) (x3 : Int32) (h : s_X6_bestShift_10 F rec10 σ x1 x2 x3 = some (r, σr)) (H : Heap) (locs : List Loc) (hP : cP E σ H) (hS : va_S (inC E) s.heap H locs) (ls : Array Slot) (hl : lv_has ls 6 [(0, .ref (eA E 11)), (1, .int x1), (2, .int x2), (3, .int x3)]) : W p l e (kR 6 136) s m args below meth c H locs 0 0 (MQ below (kQi (cP E) (inC E) r σr) args s 0 0 (inC E)) (F0 m 10 ls []) := by
  obtain ⟨-, hx, hb, hml, hown, hts, hK, -, -⟩ := id C
  unfold s_X6_bestShift_10 at h
  refine lv_iload_n hx hb dX6_bestShift_10 rfl (lv_at hl 3 rfl) ?_
  refine lv_bipush (v := (30 : Int32)) hx hb dX6_bestShift_11 (by decide) ?_
  refine lv_icmp_gt (tgt := 63) hx hb dX6_bestShift_13 (by decide) (fun c_1 => ?_) (fun c_1 => ?_)
  · have h := k_t c_1 h
    refine lv_iload_n hx hb dX6_bestShift_63 rfl (lv_at hl 1 rfl) ?_
    obtain ⟨rfl, rfl⟩ := k_inj h
    exact kri C hS hP dX6_bestShift_64
  · have h := k_f c_1 h
    refine lv_iload_n hx hb dX6_bestShift_16 rfl (lv_at hl 3 rfl) ?_
    refine lv_ineg hx hb dX6_bestShift_17 ?_
    refine lv_istore (lv' := [(4, .int (-x3)), (0, .ref (eA E 11)), (1, .int x1), (2, .int x2), (3, .int x3)]) hx hb dX6_bestShift_18 hl (by decide) rfl (fun ls hl => ?_)
    exact wf_X6_bestShift_20 C F rec10 hrec10 σ x1 x2 x3 (-x3) h H locs hP hS ls (lv_sub hl [1, 2, 3, 4, 0] rfl)
def f_X6_bestShift_10 (F : Nat) : kS × Int32 × Int32 × Int32 → Option (Int32 × kS) := itr (fun rec10 q => s_X6_bestShift_10 F rec10 q.1 q.2.1 q.2.2.1 q.2.2.2) F
theorem wf_X6_bestShift_10 (C : Cx E p s m args meth c cX6_bestShift 6 RX6 (some .int)) (F : Nat) (σ : kS) (x1 : Int32) (x2 : Int32) (x3 : Int32) (h : f_X6_bestShift_10 F (σ, x1, x2, x3) = some (r, σr)) (H : Heap) (locs : List Loc) (hP : cP E σ H) (hS : va_S (inC E) s.heap H locs) (ls : Array Slot) (hl : lv_has ls 6 [(0, .ref (eA E 11)), (1, .int x1), (2, .int x2), (3, .int x3)]) : W p l e (kR 6 136) s m args below meth c H locs 0 0 (MQ below (kQi (cP E) (inC E) r σr) args s 0 0 (inC E)) (F0 m 10 ls []) :=
  itr_ok (r := (r, σr)) (G := fun q => ∀ (H : Heap) (locs : List Loc), cP E q.1 H → va_S (inC E) s.heap H locs → ∀ (ls : Array Slot), lv_has ls 6 [(0, .ref (eA E 11)), (1, .int (q.2.1)), (2, .int (q.2.2.1)), (3, .int (q.2.2.2))] → W p l e (kR 6 136) s m args below meth c H locs 0 0 (MQ below (kQi (cP E) (inC E) r σr) args s 0 0 (inC E)) (F0 m 10 ls [])) (fun rec10 hrec10 q h => w_X6_bestShift_10 C F rec10 (fun σ x1 x2 x3 => hrec10 (σ, x1, x2, x3)) q.1 q.2.1 q.2.2.1 q.2.2.2 h) F (σ, x1, x2, x3) h H locs hP hS ls hl
def s_X6_bestShift_0 (F : Nat) (σ : kS) : Option (Int32 × kS) :=
  (kb (f_X6_linesSo F σ (0 : Int32)) fun v_1 σ_2 => f_X6_bestShift_10 F (σ_2, (0 : Int32), v_1, (1 : Int32)))
set_option maxRecDepth 100000 in
set_option maxHeartbeats 4000000 in
theorem w_X6_bestShift_0 (C : Cx E p s m args meth c cX6_bestShift 6 RX6 (some .int)) (F : Nat) (σ : kS) (h : s_X6_bestShift_0 F σ = some (r, σr)) (H : Heap) (locs : List Loc) (hP : cP E σ H) (hS : va_S (inC E) s.heap H locs) (ls : Array Slot) (hl : lv_has ls 6 [(0, .ref (eA E 11))]) : W p l e (kR 6 136) s m args below meth c H locs 0 0 (MQ below (kQi (cP E) (inC E) r σr) args s 0 0 (inC E)) (F0 m 0 ls []) := by
  obtain ⟨-, hx, hb, hml, hown, hts, hK, -, -⟩ := id C
  unfold s_X6_bestShift_0 at h
  refine lv_iconst (v := (0 : Int32)) hx hb dX6_bestShift_0 (by decide) ?_
  refine lv_istore_n (lv' := [(1, .int (0 : Int32)), (0, .ref (eA E 11))]) hx hb dX6_bestShift_1 rfl hl (by decide) rfl (fun ls hl => ?_)
  refine lv_aload_n hx hb dX6_bestShift_2 rfl (lv_at hl 1 rfl) ?_
  refine lv_iconst (v := (0 : Int32)) hx hb dX6_bestShift_3 (by decide) ?_
  obtain ⟨v_1, σ_2, hc_3, h⟩ := kb_ok h
  refine kci (krunV (As := [.int (0 : Int32)]) C hP (c_X6_linesSo E C.1 F σ (0 : Int32) hc_3) w_629 kv_X6_linesSo ⟨Nat.le_of_ble_eq_true rfl, Nat.le_of_ble_eq_true rfl⟩ (rc_11 C hP) rfl hl.1 rfl (Nat.le_of_ble_eq_true rfl) dX6_bestShift_4) hS (fun H locs hP hS => ?_)
  refine lv_istore_n (lv' := [(2, .int v_1), (1, .int (0 : Int32)), (0, .ref (eA E 11))]) hx hb dX6_bestShift_7 rfl hl (by decide) rfl (fun ls hl => ?_)
  refine lv_iconst (v := (1 : Int32)) hx hb dX6_bestShift_8 (by decide) ?_
  refine lv_istore_n (lv' := [(3, .int (1 : Int32)), (2, .int v_1), (1, .int (0 : Int32)), (0, .ref (eA E 11))]) hx hb dX6_bestShift_9 rfl hl (by decide) rfl (fun ls hl => ?_)
  exact wf_X6_bestShift_10 C F σ_2 (0 : Int32) v_1 (1 : Int32) h H locs hP hS ls (lv_sub hl [3, 2, 1, 0] rfl)
def f_X6_bestShift (F : Nat) (σ : kS) : Option (Int32 × kS) := s_X6_bestShift_0 F σ
set_option maxRecDepth 100000 in
theorem c_X6_bestShift (E : kE) (hE : kap E) (F : Nat) (σ : kS) (h : f_X6_bestShift F σ = some (r, σr)) : Met l yX6_bestShift (kWs yX6_bestShift cX6_bestShift 6 (some .int)) (kR 6 136) (kPre (cP E) E [.ref (eA E 11)] σ) (kQi (cP E) (inC E) r σr) 0 0 (inC E) :=
  kst hE (by decide +kernel) (Nat.le_of_ble_eq_true rfl) (fun p e s m below meth c ls C hP hl => w_X6_bestShift_0 C F σ h s.heap [] hP va_S.rf ls hl)
end

section
variable {p : Program} {l : Launch} {e : Env} {s : State} {m : MethodId} {args : Array Value} {below : List Frame} {meth : Method} {c : Code} {E : kE} {σr : kS}
variable {r : Int32}
def s_X7_shift_0 (F : Nat) (σ : kS) (x1 : Int32) : Option (Int32 × kS) :=
  (if x1 < 0 then some ((-1 : Int32), σ) else (if x1 ≤ (1 : Int32) then (kb (f_X6_bestShift F σ) fun v_3 σ_4 => (if x1 = 0 then (kb (f_X6_linesSo F σ_4 v_3) fun v_7 σ_8 => some (v_7, σ_8)) else some ((v_3 + (30 : Int32)), σ_4))) else some ((-1 : Int32), σ)))
set_option maxRecDepth 100000 in
set_option maxHeartbeats 4000000 in
theorem w_X7_shift_0 (C : Cx E p s m args meth c cX7_shift 3 RX7 (some .int)) (F : Nat) (σ : kS) (x1 : Int32) (h : s_X7_shift_0 F σ x1 = some (r, σr)) (H : Heap) (locs : List Loc) (hP : cP E σ H) (hS : va_S (inC E) s.heap H locs) (ls : Array Slot) (hl : lv_has ls 3 [(0, .ref (eA E 0)), (1, .int x1)]) : W p l e (kR 7 161) s m args below meth c H locs 0 0 (MQ below (kQi (cP E) (inC E) r σr) args s 0 0 (inC E)) (F0 m 0 ls []) := by
  obtain ⟨-, hx, hb, hml, hown, hts, hK, -, -⟩ := id C
  unfold s_X7_shift_0 at h
  refine lv_iload_n hx hb dX7_shift_0 rfl (lv_at hl 1 rfl) ?_
  refine lv_if_lt (tgt := 9) hx hb dX7_shift_1 (by decide) (fun c_1 => ?_) (fun c_1 => ?_)
  · have h := k_t c_1 h
    refine lv_iconst (v := (-1 : Int32)) hx hb dX7_shift_9 (by decide) ?_
    obtain ⟨rfl, rfl⟩ := k_inj h
    exact kri C hS hP dX7_shift_10
  · have h := k_f c_1 h
    refine lv_iload_n hx hb dX7_shift_4 rfl (lv_at hl 1 rfl) ?_
    refine lv_iconst (v := (1 : Int32)) hx hb dX7_shift_5 (by decide) ?_
    refine lv_icmp_le (tgt := 11) hx hb dX7_shift_6 (by decide) (fun c_2 => ?_) (fun c_2 => ?_)
    · have h := k_t c_2 h
      refine lv_aload_n hx hb dX7_shift_11 rfl (lv_at hl 0 rfl) ?_
      refine gf_0_6 C hP w_255 dX7_shift_12 ?_
      obtain ⟨v_3, σ_4, hc_5, h⟩ := kb_ok h
      refine kci (krunV (As := []) C hP (c_X6_bestShift E C.1 F σ hc_5) w_625 kv_X6_bestShift ⟨Nat.le_of_ble_eq_true rfl, Nat.le_of_ble_eq_true rfl⟩ (rc_11 C hP) rfl hl.1 rfl (Nat.le_of_ble_eq_true rfl) dX7_shift_15) hS (fun H locs hP hS => ?_)
      refine lv_istore_n (lv' := [(2, .int v_3), (0, .ref (eA E 0)), (1, .int x1)]) hx hb dX7_shift_18 rfl hl (by decide) rfl (fun ls hl => ?_)
      refine lv_iload_n hx hb dX7_shift_19 rfl (lv_at hl 2 rfl) ?_
      refine lv_if_ne (tgt := 34) hx hb dX7_shift_20 (by decide) (fun c_6 => ?_) (fun c_6 => ?_)
      · have h := k_f c_6 h
        refine lv_iload_n hx hb dX7_shift_34 rfl (lv_at hl 0 rfl) ?_
        refine lv_bipush (v := (30 : Int32)) hx hb dX7_shift_35 (by decide) ?_
        refine lv_iadd hx hb dX7_shift_37 ?_
        obtain ⟨rfl, rfl⟩ := k_inj h
        exact kri C hS hP dX7_shift_38
      · have h := k_t c_6 h
        refine lv_aload_n hx hb dX7_shift_23 rfl (lv_at hl 1 rfl) ?_
        refine gf_0_6 C hP w_255 dX7_shift_24 ?_
        refine lv_iload_n hx hb dX7_shift_27 rfl (lv_at hl 0 rfl) ?_
        obtain ⟨v_7, σ_8, hc_9, h⟩ := kb_ok h
        refine kci (krunV (As := [.int v_3]) C hP (c_X6_linesSo E C.1 F σ_4 v_3 hc_9) w_633 kv_X6_linesSo ⟨Nat.le_of_ble_eq_true rfl, Nat.le_of_ble_eq_true rfl⟩ (rc_11 C hP) rfl hl.1 rfl (Nat.le_of_ble_eq_true rfl) dX7_shift_28) hS (fun H locs hP hS => ?_)
        refine lv_goto (tgt := 38) hx hb dX7_shift_31 (by decide) ?_
        obtain ⟨rfl, rfl⟩ := k_inj h
        exact kri C hS hP dX7_shift_38
    · have h := k_f c_2 h
      refine lv_iconst (v := (-1 : Int32)) hx hb dX7_shift_9 (by decide) ?_
      obtain ⟨rfl, rfl⟩ := k_inj h
      exact kri C hS hP dX7_shift_10
def f_X7_shift (F : Nat) (σ : kS) (x1 : Int32) : Option (Int32 × kS) := s_X7_shift_0 F σ x1
set_option maxRecDepth 100000 in
theorem c_X7_shift (E : kE) (hE : kap E) (F : Nat) (σ : kS) (x1 : Int32) (h : f_X7_shift F σ x1 = some (r, σr)) : Met l yX7_shift (kWs yX7_shift cX7_shift 3 (some .int)) (kR 7 161) (kPre (cP E) E [.ref (eA E 0), .int x1] σ) (kQi (cP E) (inC E) r σr) 0 0 (inC E) :=
  kst hE (by decide +kernel) (Nat.le_of_ble_eq_true rfl) (fun p e s m below meth c ls C hP hl => w_X7_shift_0 C F σ x1 h s.heap [] hP va_S.rf ls hl)
end

section
variable {p : Program} {l : Launch} {e : Env} {s : State} {m : MethodId} {args : Array Value} {below : List Frame} {meth : Method} {c : Code} {E : kE} {σr : kS}
variable {r : Int32}
def s_X7_greatestDivisor_7 (F : Nat) (rec7 : (kS × Int32 × Int32 × Int32 → Option (Int32 × kS))) (σ : kS) (x2 : Int32) (x3 : Int32) (x4 : Int32) : Option (Int32 × kS) :=
  (if (50 : Int32) ≤ x4 then some (x2, σ) else (if x3 ≤ 0 then some (x2, σ) else (if x3 = 0 then none else (kn (x2 - x2 / x3 * x3) (fun x5_4 => rec7 (σ, x3, x5_4, (x4 + (1 : Int32))))))))
set_option maxRecDepth 100000 in
set_option maxHeartbeats 4000000 in
theorem w_X7_greatestDivisor_7 (C : Cx E p s m args meth c cX7_greatestDivisor 6 RX7 (some .int)) (F : Nat) (rec7 : (kS × Int32 × Int32 × Int32 → Option (Int32 × kS))) (hrec7 : ∀ (σ : kS) (x2 : Int32) (x3 : Int32) (x4 : Int32), rec7 (σ, x2, x3, x4) = some (r, σr) → ∀ (H : Heap) (locs : List Loc), cP E σ H → va_S (inC E) s.heap H locs → ∀ (ls : Array Slot), lv_has ls 6 [(2, .int x2), (3, .int x3), (4, .int x4)] → W p l e (kR 0 0) s m args below meth c H locs 0 0 (MQ below (kQi (cP E) (inC E) r σr) args s 0 0 (inC E)) (F0 m 7 ls [])) (σ : kS) (x2 : Int32) (x3 : Int32) (x4 : Int32) (h : s_X7_greatestDivisor_7 F rec7 σ x2 x3 x4 = some (r, σr)) (H : Heap) (locs : List Loc) (hP : cP E σ H) (hS : va_S (inC E) s.heap H locs) (ls : Array Slot) (hl : lv_has ls 6 [(2, .int x2), (3, .int x3), (4, .int x4)]) : W p l e (kR 0 0) s m args below meth c H locs 0 0 (MQ below (kQi (cP E) (inC E) r σr) args s 0 0 (inC E)) (F0 m 7 ls []) := by
  obtain ⟨-, hx, hb, hml, hown, hts, hK, -, -⟩ := id C
  unfold s_X7_greatestDivisor_7 at h
  refine lv_iload hx hb dX7_greatestDivisor_7 (lv_at hl 2 rfl) ?_
  refine lv_bipush (v := (50 : Int32)) hx hb dX7_greatestDivisor_9 (by decide) ?_
  refine lv_icmp_ge (tgt := 34) hx hb dX7_greatestDivisor_11 (by decide) (fun c_1 => ?_) (fun c_1 => ?_)
  · have h := k_t c_1 h
    refine lv_iload_n hx hb dX7_greatestDivisor_34 rfl (lv_at hl 0 rfl) ?_
    obtain ⟨rfl, rfl⟩ := k_inj h
    exact kri C hS hP dX7_greatestDivisor_35
  · have h := k_f c_1 h
    refine lv_iload_n hx hb dX7_greatestDivisor_14 rfl (lv_at hl 1 rfl) ?_
    refine lv_if_le (tgt := 34) hx hb dX7_greatestDivisor_15 (by decide) (fun c_2 => ?_) (fun c_2 => ?_)
    · have h := k_t c_2 h
      refine lv_iload_n hx hb dX7_greatestDivisor_34 rfl (lv_at hl 0 rfl) ?_
      obtain ⟨rfl, rfl⟩ := k_inj h
      exact kri C hS hP dX7_greatestDivisor_35
    · have h := k_f c_2 h
      refine lv_iload_n hx hb dX7_greatestDivisor_18 rfl (lv_at hl 0 rfl) ?_
      refine lv_iload_n hx hb dX7_greatestDivisor_19 rfl (lv_at hl 1 rfl) ?_
      obtain ⟨n_3, h⟩ := k_no h
      refine lv_irem hx hb dX7_greatestDivisor_20 n_3 ?_
      refine lv_topi (fun x5_4 ex5_4 => ?_)
      have h := kn_to ex5_4 h
      refine lv_istore (lv' := [(5, .int x5_4), (2, .int x2), (3, .int x3), (4, .int x4)]) hx hb dX7_greatestDivisor_21 hl (by decide) rfl (fun ls hl => ?_)
      refine lv_iload_n hx hb dX7_greatestDivisor_23 rfl (lv_at hl 2 rfl) ?_
      refine lv_istore_n (lv' := [(2, .int x3), (5, .int x5_4), (3, .int x3), (4, .int x4)]) hx hb dX7_greatestDivisor_24 rfl hl (by decide) rfl (fun ls hl => ?_)
      refine lv_iload hx hb dX7_greatestDivisor_25 (lv_at hl 1 rfl) ?_
      refine lv_istore_n (lv' := [(3, .int x5_4), (2, .int x3), (5, .int x5_4), (4, .int x4)]) hx hb dX7_greatestDivisor_27 rfl hl (by decide) rfl (fun ls hl => ?_)
      refine lv_iinc (v := (x4 + (1 : Int32))) (lv' := [(4, .int (x4 + (1 : Int32))), (3, .int x5_4), (2, .int x3), (5, .int x5_4)]) hx hb dX7_greatestDivisor_28 hl (k := 3) rfl rfl (by decide) rfl (fun ls hl => ?_)
      refine lv_goto (tgt := 7) hx hb dX7_greatestDivisor_31 (by decide) ?_
      exact hrec7 σ x3 x5_4 (x4 + (1 : Int32)) h H locs hP hS ls (lv_sub hl [2, 1, 0] rfl)
def f_X7_greatestDivisor_7 (F : Nat) : kS × Int32 × Int32 × Int32 → Option (Int32 × kS) := itr (fun rec7 q => s_X7_greatestDivisor_7 F rec7 q.1 q.2.1 q.2.2.1 q.2.2.2) F
theorem wf_X7_greatestDivisor_7 (C : Cx E p s m args meth c cX7_greatestDivisor 6 RX7 (some .int)) (F : Nat) (σ : kS) (x2 : Int32) (x3 : Int32) (x4 : Int32) (h : f_X7_greatestDivisor_7 F (σ, x2, x3, x4) = some (r, σr)) (H : Heap) (locs : List Loc) (hP : cP E σ H) (hS : va_S (inC E) s.heap H locs) (ls : Array Slot) (hl : lv_has ls 6 [(2, .int x2), (3, .int x3), (4, .int x4)]) : W p l e (kR 0 0) s m args below meth c H locs 0 0 (MQ below (kQi (cP E) (inC E) r σr) args s 0 0 (inC E)) (F0 m 7 ls []) :=
  itr_ok (r := (r, σr)) (G := fun q => ∀ (H : Heap) (locs : List Loc), cP E q.1 H → va_S (inC E) s.heap H locs → ∀ (ls : Array Slot), lv_has ls 6 [(2, .int (q.2.1)), (3, .int (q.2.2.1)), (4, .int (q.2.2.2))] → W p l e (kR 0 0) s m args below meth c H locs 0 0 (MQ below (kQi (cP E) (inC E) r σr) args s 0 0 (inC E)) (F0 m 7 ls [])) (fun rec7 hrec7 q h => w_X7_greatestDivisor_7 C F rec7 (fun σ x2 x3 x4 => hrec7 (σ, x2, x3, x4)) q.1 q.2.1 q.2.2.1 q.2.2.2 h) F (σ, x2, x3, x4) h H locs hP hS ls hl
def s_X7_greatestDivisor_0 (F : Nat) (σ : kS) (x0 : Int32) (x1 : Int32) : Option (Int32 × kS) :=
  f_X7_greatestDivisor_7 F (σ, x0, x1, (0 : Int32))
set_option maxRecDepth 100000 in
set_option maxHeartbeats 4000000 in
theorem w_X7_greatestDivisor_0 (C : Cx E p s m args meth c cX7_greatestDivisor 6 RX7 (some .int)) (F : Nat) (σ : kS) (x0 : Int32) (x1 : Int32) (h : s_X7_greatestDivisor_0 F σ x0 x1 = some (r, σr)) (H : Heap) (locs : List Loc) (hP : cP E σ H) (hS : va_S (inC E) s.heap H locs) (ls : Array Slot) (hl : lv_has ls 6 [(0, .int x0), (1, .int x1)]) : W p l e (kR 0 0) s m args below meth c H locs 0 0 (MQ below (kQi (cP E) (inC E) r σr) args s 0 0 (inC E)) (F0 m 0 ls []) := by
  obtain ⟨-, hx, hb, hml, hown, hts, hK, -, -⟩ := id C
  unfold s_X7_greatestDivisor_0 at h
  refine lv_iload_n hx hb dX7_greatestDivisor_0 rfl (lv_at hl 0 rfl) ?_
  refine lv_istore_n (lv' := [(2, .int x0), (0, .int x0), (1, .int x1)]) hx hb dX7_greatestDivisor_1 rfl hl (by decide) rfl (fun ls hl => ?_)
  refine lv_iload_n hx hb dX7_greatestDivisor_2 rfl (lv_at hl 2 rfl) ?_
  refine lv_istore_n (lv' := [(3, .int x1), (2, .int x0), (0, .int x0), (1, .int x1)]) hx hb dX7_greatestDivisor_3 rfl hl (by decide) rfl (fun ls hl => ?_)
  refine lv_iconst (v := (0 : Int32)) hx hb dX7_greatestDivisor_4 (by decide) ?_
  refine lv_istore (lv' := [(4, .int (0 : Int32)), (3, .int x1), (2, .int x0), (0, .int x0), (1, .int x1)]) hx hb dX7_greatestDivisor_5 hl (by decide) rfl (fun ls hl => ?_)
  exact wf_X7_greatestDivisor_7 C F σ x0 x1 (0 : Int32) h H locs hP hS ls (lv_sub hl [2, 1, 0] rfl)
def f_X7_greatestDivisor (F : Nat) (σ : kS) (x0 : Int32) (x1 : Int32) : Option (Int32 × kS) := s_X7_greatestDivisor_0 F σ x0 x1
set_option maxRecDepth 100000 in
theorem c_X7_greatestDivisor (E : kE) (hE : kap E) (F : Nat) (σ : kS) (x0 : Int32) (x1 : Int32) (h : f_X7_greatestDivisor F σ x0 x1 = some (r, σr)) : Met l yX7_greatestDivisor (kWs yX7_greatestDivisor cX7_greatestDivisor 6 (some .int)) (kR 0 0) (kPre (cP E) E [.int x0, .int x1] σ) (kQi (cP E) (inC E) r σr) 0 0 (inC E) :=
  kst hE (by decide +kernel) (Nat.le_of_ble_eq_true rfl) (fun p e s m below meth c ls C hP hl => w_X7_greatestDivisor_0 C F σ x0 x1 h s.heap [] hP va_S.rf ls hl)
end

section
variable {p : Program} {l : Launch} {e : Env} {s : State} {m : MethodId} {args : Array Value} {below : List Frame} {meth : Method} {c : Code} {E : kE} {σr : kS}
variable {r : Int32}
def s_X7_wreck_102 (F : Nat) (σ : kS) (x8 : Int32) (y0 : Int32) : Option (Int32 × kS) :=
  (if x8 = 0 then none else some ((y0 / x8), σ))
set_option maxRecDepth 100000 in
set_option maxHeartbeats 4000000 in
theorem w_X7_wreck_102 (C : Cx E p s m args meth c cX7_wreck 9 RX7 (some .int)) (F : Nat) (σ : kS) (x8 : Int32) (y0 : Int32) (h : s_X7_wreck_102 F σ x8 y0 = some (r, σr)) (H : Heap) (locs : List Loc) (hP : cP E σ H) (hS : va_S (inC E) s.heap H locs) (ls : Array Slot) (hl : lv_has ls 9 [(8, .int x8)]) : W p l e (kR 6 148) s m args below meth c H locs 0 0 (MQ below (kQi (cP E) (inC E) r σr) args s 0 0 (inC E)) (F0 m 102 ls [.int y0]) := by
  obtain ⟨-, hx, hb, hml, hown, hts, hK, -, -⟩ := id C
  unfold s_X7_wreck_102 at h
  refine lv_iload hx hb dX7_wreck_102 (lv_at hl 0 rfl) ?_
  obtain ⟨n_1, h⟩ := k_no h
  refine lv_idiv hx hb dX7_wreck_104 n_1 ?_
  obtain ⟨rfl, rfl⟩ := k_inj h
  exact kri C hS hP dX7_wreck_105
def s_X7_wreck_0 (F : Nat) (σ : kS) (x1 : Int64) (x3 : Int32) (x4 : Int32) (x5 : Int32) : Option (Int32 × kS) :=
  (kb (f_X7_isMinute F σ x1) fun v_1 σ_2 => (if v_1 = 0 then some ((-1 : Int32), σ_2) else (if x3 < (1 : Int32) then some ((-1 : Int32), σ_2) else (if x3 ≤ (10000 : Int32) then (kb (f_X7_isKing F σ_2 x4) fun v_7 σ_8 => (if v_7 = 0 then some ((-1 : Int32), σ_8) else (if x5 < 0 then some ((-1 : Int32), σ_8) else (if x5 ≤ (1 : Int32) then (kb (f_X1_minutesOf F σ_8 x4 x1 x3) fun v_13 σ_14 => (kb (f_X1_minutesOf F σ_14 (2 : Int32) x1 x3) fun v_16 σ_17 => (if 0 < (x3 - v_16) then (kb (f_X7_greatestDivisor F σ_17 (x3 - v_16) v_13) fun v_20 σ_21 => (kn (if (1 : Int32) < v_20 then v_20 else (1 : Int32)) (fun x8_23 => (if x5 = 0 then s_X7_wreck_102 F σ_21 x8_23 v_13 else s_X7_wreck_102 F σ_21 x8_23 (x3 - v_16))))) else some ((-4 : Int32), σ_17)))) else some ((-1 : Int32), σ_8))))) else some ((-1 : Int32), σ_2)))))
set_option maxRecDepth 100000 in
set_option maxHeartbeats 4000000 in
theorem w_X7_wreck_0 (C : Cx E p s m args meth c cX7_wreck 9 RX7 (some .int)) (F : Nat) (σ : kS) (x1 : Int64) (x3 : Int32) (x4 : Int32) (x5 : Int32) (h : s_X7_wreck_0 F σ x1 x3 x4 x5 = some (r, σr)) (H : Heap) (locs : List Loc) (hP : cP E σ H) (hS : va_S (inC E) s.heap H locs) (ls : Array Slot) (hl : lv_has ls 9 [(0, .ref (eA E 0)), (1, .long x1), (3, .int x3), (4, .int x4), (5, .int x5)]) : W p l e (kR 6 148) s m args below meth c H locs 0 0 (MQ below (kQi (cP E) (inC E) r σr) args s 0 0 (inC E)) (F0 m 0 ls []) := by
  obtain ⟨-, hx, hb, hml, hown, hts, hK, -, -⟩ := id C
  unfold s_X7_wreck_0 at h
  refine lv_lload_n hx hb dX7_wreck_0 rfl (lv_at hl 1 rfl) ?_
  obtain ⟨v_1, σ_2, hc_3, h⟩ := kb_ok h
  refine kci (krunS (As := [.long x1]) C hP (c_X7_isMinute E C.1 F σ x1 hc_3) w_377 kt_X7_isMinute ⟨Nat.le_of_ble_eq_true rfl, Nat.le_of_ble_eq_true rfl⟩ rfl hl.1 rfl (Nat.le_of_ble_eq_true rfl) dX7_wreck_1) hS (fun H locs hP hS => ?_)
  refine lv_if_eq (tgt := 19) hx hb dX7_wreck_4 (by decide) (fun c_4 => ?_) (fun c_4 => ?_)
  · have h := k_t c_4 h
    refine lv_iconst (v := (-1 : Int32)) hx hb dX7_wreck_19 (by decide) ?_
    obtain ⟨rfl, rfl⟩ := k_inj h
    exact kri C hS hP dX7_wreck_20
  · have h := k_f c_4 h
    refine lv_iload_n hx hb dX7_wreck_7 rfl (lv_at hl 2 rfl) ?_
    refine lv_iconst (v := (1 : Int32)) hx hb dX7_wreck_8 (by decide) ?_
    refine lv_icmp_lt (tgt := 19) hx hb dX7_wreck_9 (by decide) (fun c_5 => ?_) (fun c_5 => ?_)
    · have h := k_t c_5 h
      refine lv_iconst (v := (-1 : Int32)) hx hb dX7_wreck_19 (by decide) ?_
      obtain ⟨rfl, rfl⟩ := k_inj h
      exact kri C hS hP dX7_wreck_20
    · have h := k_f c_5 h
      refine lv_iload_n hx hb dX7_wreck_12 rfl (lv_at hl 2 rfl) ?_
      refine lv_sipush (v := (10000 : Int32)) hx hb dX7_wreck_13 (by decide) ?_
      refine lv_icmp_le (tgt := 21) hx hb dX7_wreck_16 (by decide) (fun c_6 => ?_) (fun c_6 => ?_)
      · have h := k_t c_6 h
        refine lv_iload hx hb dX7_wreck_21 (lv_at hl 3 rfl) ?_
        obtain ⟨v_7, σ_8, hc_9, h⟩ := kb_ok h
        refine kci (krunS (As := [.int x4]) C hP (c_X7_isKing E C.1 F σ_2 x4 hc_9) w_507 kt_X7_isKing ⟨Nat.le_of_ble_eq_true rfl, Nat.le_of_ble_eq_true rfl⟩ rfl hl.1 rfl (Nat.le_of_ble_eq_true rfl) dX7_wreck_23) hS (fun H locs hP hS => ?_)
        refine lv_if_eq (tgt := 40) hx hb dX7_wreck_26 (by decide) (fun c_10 => ?_) (fun c_10 => ?_)
        · have h := k_t c_10 h
          refine lv_iconst (v := (-1 : Int32)) hx hb dX7_wreck_40 (by decide) ?_
          obtain ⟨rfl, rfl⟩ := k_inj h
          exact kri C hS hP dX7_wreck_41
        · have h := k_f c_10 h
          refine lv_iload hx hb dX7_wreck_29 (lv_at hl 4 rfl) ?_
          refine lv_if_lt (tgt := 40) hx hb dX7_wreck_31 (by decide) (fun c_11 => ?_) (fun c_11 => ?_)
          · have h := k_t c_11 h
            refine lv_iconst (v := (-1 : Int32)) hx hb dX7_wreck_40 (by decide) ?_
            obtain ⟨rfl, rfl⟩ := k_inj h
            exact kri C hS hP dX7_wreck_41
          · have h := k_f c_11 h
            refine lv_iload hx hb dX7_wreck_34 (lv_at hl 4 rfl) ?_
            refine lv_iconst (v := (1 : Int32)) hx hb dX7_wreck_36 (by decide) ?_
            refine lv_icmp_le (tgt := 42) hx hb dX7_wreck_37 (by decide) (fun c_12 => ?_) (fun c_12 => ?_)
            · have h := k_t c_12 h
              refine lv_aload_n hx hb dX7_wreck_42 rfl (lv_at hl 0 rfl) ?_
              refine gf_0_4 C hP w_253 dX7_wreck_43 ?_
              refine lv_iload hx hb dX7_wreck_46 (lv_at hl 3 rfl) ?_
              refine lv_lload_n hx hb dX7_wreck_48 rfl (lv_at hl 1 rfl) ?_
              refine lv_iload_n hx hb dX7_wreck_49 rfl (lv_at hl 2 rfl) ?_
              obtain ⟨v_13, σ_14, hc_15, h⟩ := kb_ok h
              refine kci (krunV (As := [.int x4, .long x1, .int x3]) C hP (c_X1_minutesOf E C.1 F σ_8 x4 x1 x3 hc_15) w_419 kv_X1_minutesOf ⟨Nat.le_of_ble_eq_true rfl, Nat.le_of_ble_eq_true rfl⟩ (rc_9 C hP) rfl hl.1 rfl (Nat.le_of_ble_eq_true rfl) dX7_wreck_50) hS (fun H locs hP hS => ?_)
              refine lv_istore (lv' := [(6, .int v_13), (0, .ref (eA E 0)), (1, .long x1), (3, .int x3), (4, .int x4), (5, .int x5)]) hx hb dX7_wreck_53 hl (by decide) rfl (fun ls hl => ?_)
              refine lv_iload_n hx hb dX7_wreck_55 rfl (lv_at hl 3 rfl) ?_
              refine lv_aload_n hx hb dX7_wreck_56 rfl (lv_at hl 1 rfl) ?_
              refine gf_0_4 C hP w_253 dX7_wreck_57 ?_
              refine lv_iconst (v := (2 : Int32)) hx hb dX7_wreck_60 (by decide) ?_
              refine lv_lload_n hx hb dX7_wreck_61 rfl (lv_at hl 2 rfl) ?_
              refine lv_iload_n hx hb dX7_wreck_62 rfl (lv_at hl 3 rfl) ?_
              obtain ⟨v_16, σ_17, hc_18, h⟩ := kb_ok h
              refine kci (krunV (As := [.int (2 : Int32), .long x1, .int x3]) C hP (c_X1_minutesOf E C.1 F σ_14 (2 : Int32) x1 x3 hc_18) w_419 kv_X1_minutesOf ⟨Nat.le_of_ble_eq_true rfl, Nat.le_of_ble_eq_true rfl⟩ (rc_9 C hP) rfl hl.1 rfl (Nat.le_of_ble_eq_true rfl) dX7_wreck_63) hS (fun H locs hP hS => ?_)
              refine lv_isub hx hb dX7_wreck_66 ?_
              refine lv_istore (lv' := [(7, .int (x3 - v_16)), (6, .int v_13), (0, .ref (eA E 0)), (1, .long x1), (3, .int x3), (4, .int x4), (5, .int x5)]) hx hb dX7_wreck_67 hl (by decide) rfl (fun ls hl => ?_)
              refine lv_iload hx hb dX7_wreck_69 (lv_at hl 0 rfl) ?_
              refine lv_if_gt (tgt := 77) hx hb dX7_wreck_71 (by decide) (fun c_19 => ?_) (fun c_19 => ?_)
              · have h := k_t c_19 h
                refine lv_iconst (v := (1 : Int32)) hx hb dX7_wreck_77 (by decide) ?_
                refine lv_iload hx hb dX7_wreck_78 (lv_at hl 0 rfl) ?_
                refine lv_iload hx hb dX7_wreck_80 (lv_at hl 1 rfl) ?_
                obtain ⟨v_20, σ_21, hc_22, h⟩ := kb_ok h
                refine kci (krunS (As := [.int (x3 - v_16), .int v_13]) C hP (c_X7_greatestDivisor E C.1 F σ_17 (x3 - v_16) v_13 hc_22) w_638 kt_X7_greatestDivisor ⟨Nat.le_of_ble_eq_true rfl, Nat.le_of_ble_eq_true rfl⟩ rfl hl.1 rfl (Nat.le_of_ble_eq_true rfl) dX7_wreck_82) hS (fun H locs hP hS => ?_)
                refine kmax C hl.1 w_641 (Nat.le_of_ble_eq_true rfl) (Nat.le_of_ble_eq_true rfl) dX7_wreck_85 ?_
                refine lv_topi (fun x8_23 ex8_23 => ?_)
                have h := kn_to ex8_23 h
                refine lv_istore (lv' := [(8, .int x8_23), (7, .int (x3 - v_16)), (6, .int v_13), (0, .ref (eA E 0)), (1, .long x1), (3, .int x3), (4, .int x4), (5, .int x5)]) hx hb dX7_wreck_88 hl (by decide) rfl (fun ls hl => ?_)
                refine lv_iload hx hb dX7_wreck_90 (lv_at hl 7 rfl) ?_
                refine lv_if_ne (tgt := 100) hx hb dX7_wreck_92 (by decide) (fun c_24 => ?_) (fun c_24 => ?_)
                · have h := k_f c_24 h
                  refine lv_iload hx hb dX7_wreck_100 (lv_at hl 1 rfl) ?_
                  exact w_X7_wreck_102 C F σ_21 x8_23 (x3 - v_16) h H locs hP hS ls (lv_sub hl [0] rfl)
                · have h := k_t c_24 h
                  refine lv_iload hx hb dX7_wreck_95 (lv_at hl 2 rfl) ?_
                  refine lv_goto (tgt := 102) hx hb dX7_wreck_97 (by decide) ?_
                  exact w_X7_wreck_102 C F σ_21 x8_23 v_13 h H locs hP hS ls (lv_sub hl [0] rfl)
              · have h := k_f c_19 h
                refine lv_bipush (v := (-4 : Int32)) hx hb dX7_wreck_74 (by decide) ?_
                obtain ⟨rfl, rfl⟩ := k_inj h
                exact kri C hS hP dX7_wreck_76
            · have h := k_f c_12 h
              refine lv_iconst (v := (-1 : Int32)) hx hb dX7_wreck_40 (by decide) ?_
              obtain ⟨rfl, rfl⟩ := k_inj h
              exact kri C hS hP dX7_wreck_41
      · have h := k_f c_6 h
        refine lv_iconst (v := (-1 : Int32)) hx hb dX7_wreck_19 (by decide) ?_
        obtain ⟨rfl, rfl⟩ := k_inj h
        exact kri C hS hP dX7_wreck_20
def f_X7_wreck (F : Nat) (σ : kS) (x1 : Int64) (x3 : Int32) (x4 : Int32) (x5 : Int32) : Option (Int32 × kS) := s_X7_wreck_0 F σ x1 x3 x4 x5
set_option maxRecDepth 100000 in
theorem c_X7_wreck (E : kE) (hE : kap E) (F : Nat) (σ : kS) (x1 : Int64) (x3 : Int32) (x4 : Int32) (x5 : Int32) (h : f_X7_wreck F σ x1 x3 x4 x5 = some (r, σr)) : Met l yX7_wreck (kWs yX7_wreck cX7_wreck 9 (some .int)) (kR 6 148) (kPre (cP E) E [.ref (eA E 0), .long x1, .int x3, .int x4, .int x5] σ) (kQi (cP E) (inC E) r σr) 0 0 (inC E) :=
  kst hE (by decide +kernel) (Nat.le_of_ble_eq_true rfl) (fun p e s m below meth c ls C hP hl => w_X7_wreck_0 C F σ x1 x3 x4 x5 h s.heap [] hP va_S.rf ls hl)
end

section
variable {p : Program} {l : Launch} {e : Env} {s : State} {m : MethodId} {args : Array Value} {below : List Frame} {meth : Method} {c : Code} {E : kE} {σr : kS}
variable {r : Int32}
def s_X7_drawn_93 (F : Nat) (rec43 : (kS × Int32 × Int32 × Int32 × Int32 × Int32 → Option (Int32 × kS))) (σ : kS) (x1 : Int32) (x2 : Int32) (x3 : Int32) (x4 : Int32) (x5 : Int32) : Option (Int32 × kS) :=
  rec43 (σ, x1, x2, x3, x4, (x5 + (1 : Int32)))
set_option maxRecDepth 100000 in
set_option maxHeartbeats 4000000 in
theorem w_X7_drawn_93 (C : Cx E p s m args meth c cX7_drawn 8 RX7 (some .int)) (F : Nat) (rec43 : (kS × Int32 × Int32 × Int32 × Int32 × Int32 → Option (Int32 × kS))) (hrec43 : ∀ (σ : kS) (x1 : Int32) (x2 : Int32) (x3 : Int32) (x4 : Int32) (x5 : Int32), rec43 (σ, x1, x2, x3, x4, x5) = some (r, σr) → ∀ (H : Heap) (locs : List Loc), cP E σ H → va_S (inC E) s.heap H locs → ∀ (ls : Array Slot), lv_has ls 8 [(0, .ref (eA E 0)), (1, .int x1), (2, .int x2), (3, .int x3), (4, .int x4), (5, .int x5)] → W p l e (kR 5 122) s m args below meth c H locs 0 0 (MQ below (kQi (cP E) (inC E) r σr) args s 0 0 (inC E)) (F0 m 43 ls [])) (σ : kS) (x1 : Int32) (x2 : Int32) (x3 : Int32) (x4 : Int32) (x5 : Int32) (h : s_X7_drawn_93 F rec43 σ x1 x2 x3 x4 x5 = some (r, σr)) (H : Heap) (locs : List Loc) (hP : cP E σ H) (hS : va_S (inC E) s.heap H locs) (ls : Array Slot) (hl : lv_has ls 8 [(0, .ref (eA E 0)), (1, .int x1), (2, .int x2), (3, .int x3), (4, .int x4), (5, .int x5)]) : W p l e (kR 5 122) s m args below meth c H locs 0 0 (MQ below (kQi (cP E) (inC E) r σr) args s 0 0 (inC E)) (F0 m 93 ls []) := by
  obtain ⟨-, hx, hb, hml, hown, hts, hK, -, -⟩ := id C
  unfold s_X7_drawn_93 at h
  refine lv_iinc (v := (x5 + (1 : Int32))) (lv' := [(5, .int (x5 + (1 : Int32))), (0, .ref (eA E 0)), (1, .int x1), (2, .int x2), (3, .int x3), (4, .int x4)]) hx hb dX7_drawn_93 hl (k := 5) rfl rfl (by decide) rfl (fun ls hl => ?_)
  refine lv_goto (tgt := 43) hx hb dX7_drawn_96 (by decide) ?_
  exact hrec43 σ x1 x2 x3 x4 (x5 + (1 : Int32)) h H locs hP hS ls (lv_sub hl [1, 2, 3, 4, 5, 0] rfl)
def s_X7_drawn_43 (F : Nat) (rec43 : (kS × Int32 × Int32 × Int32 × Int32 × Int32 → Option (Int32 × kS))) (σ : kS) (x1 : Int32) (x2 : Int32) (x3 : Int32) (x4 : Int32) (x5 : Int32) : Option (Int32 × kS) :=
  (if x2 ≤ x5 then some (x4, σ) else (kn ((((7919 : Int64) * x1.toInt64) + ((6151 : Int64) * x5.toInt64)) + (1 : Int64)) (fun x6_2 => (if x3 = 0 then none else (kb (f_X1_isLawful F σ (x5 - x5 / x3 * x3) ((x6_2 * x6_2) - (x6_2 * x6_2) / (65521 : Int64) * (65521 : Int64))) fun v_4 σ_5 => (if v_4 = 0 then s_X7_drawn_93 F rec43 σ_5 x1 x2 x3 x4 x5 else s_X7_drawn_93 F rec43 σ_5 x1 x2 x3 (x4 + (1 : Int32)) x5))))))
set_option maxRecDepth 100000 in
set_option maxHeartbeats 4000000 in
theorem w_X7_drawn_43 (C : Cx E p s m args meth c cX7_drawn 8 RX7 (some .int)) (F : Nat) (rec43 : (kS × Int32 × Int32 × Int32 × Int32 × Int32 → Option (Int32 × kS))) (hrec43 : ∀ (σ : kS) (x1 : Int32) (x2 : Int32) (x3 : Int32) (x4 : Int32) (x5 : Int32), rec43 (σ, x1, x2, x3, x4, x5) = some (r, σr) → ∀ (H : Heap) (locs : List Loc), cP E σ H → va_S (inC E) s.heap H locs → ∀ (ls : Array Slot), lv_has ls 8 [(0, .ref (eA E 0)), (1, .int x1), (2, .int x2), (3, .int x3), (4, .int x4), (5, .int x5)] → W p l e (kR 5 122) s m args below meth c H locs 0 0 (MQ below (kQi (cP E) (inC E) r σr) args s 0 0 (inC E)) (F0 m 43 ls [])) (σ : kS) (x1 : Int32) (x2 : Int32) (x3 : Int32) (x4 : Int32) (x5 : Int32) (h : s_X7_drawn_43 F rec43 σ x1 x2 x3 x4 x5 = some (r, σr)) (H : Heap) (locs : List Loc) (hP : cP E σ H) (hS : va_S (inC E) s.heap H locs) (ls : Array Slot) (hl : lv_has ls 8 [(0, .ref (eA E 0)), (1, .int x1), (2, .int x2), (3, .int x3), (4, .int x4), (5, .int x5)]) : W p l e (kR 5 122) s m args below meth c H locs 0 0 (MQ below (kQi (cP E) (inC E) r σr) args s 0 0 (inC E)) (F0 m 43 ls []) := by
  obtain ⟨-, hx, hb, hml, hown, hts, hK, -, -⟩ := id C
  unfold s_X7_drawn_43 at h
  refine lv_iload hx hb dX7_drawn_43 (lv_at hl 5 rfl) ?_
  refine lv_iload_n hx hb dX7_drawn_45 rfl (lv_at hl 2 rfl) ?_
  refine lv_icmp_ge (tgt := 99) hx hb dX7_drawn_46 (by decide) (fun c_1 => ?_) (fun c_1 => ?_)
  · have h := k_t c_1 h
    refine lv_iload hx hb dX7_drawn_99 (lv_at hl 4 rfl) ?_
    obtain ⟨rfl, rfl⟩ := k_inj h
    exact kri C hS hP dX7_drawn_101
  · have h := k_f c_1 h
    refine lv_ldc2 (v := (7919 : Int64)) hx hb hown (hts _ w_646) dX7_drawn_49 ?_
    refine lv_iload_n hx hb dX7_drawn_52 rfl (lv_at hl 1 rfl) ?_
    refine lv_i2l (v := x1.toInt64) hx hb dX7_drawn_53 rfl ?_
    refine lv_lmul hx hb dX7_drawn_54 ?_
    refine lv_ldc2 (v := (6151 : Int64)) hx hb hown (hts _ w_647) dX7_drawn_55 ?_
    refine lv_iload hx hb dX7_drawn_58 (lv_at hl 5 rfl) ?_
    refine lv_i2l (v := x5.toInt64) hx hb dX7_drawn_60 rfl ?_
    refine lv_lmul hx hb dX7_drawn_61 ?_
    refine lv_ladd hx hb dX7_drawn_62 ?_
    refine lv_lconst (v := (1 : Int64)) hx hb dX7_drawn_63 (by decide) ?_
    refine lv_ladd hx hb dX7_drawn_64 ?_
    refine lv_topl (fun x6_2 ex6_2 => ?_)
    have h := kn_to ex6_2 h
    refine lv_lstore (lv' := [(6, .long x6_2), (0, .ref (eA E 0)), (1, .int x1), (2, .int x2), (3, .int x3), (4, .int x4), (5, .int x5)]) hx hb dX7_drawn_65 hl (by decide) rfl (fun ls hl => ?_)
    refine lv_aload_n hx hb dX7_drawn_67 rfl (lv_at hl 1 rfl) ?_
    refine gf_0_4 C hP w_253 dX7_drawn_68 ?_
    refine lv_iload hx hb dX7_drawn_71 (lv_at hl 6 rfl) ?_
    refine lv_iload_n hx hb dX7_drawn_73 rfl (lv_at hl 4 rfl) ?_
    obtain ⟨n_3, h⟩ := k_no h
    refine lv_irem hx hb dX7_drawn_74 n_3 ?_
    refine lv_lload hx hb dX7_drawn_75 (lv_at hl 0 rfl) ?_
    refine lv_lload hx hb dX7_drawn_77 (lv_at hl 0 rfl) ?_
    refine lv_lmul hx hb dX7_drawn_79 ?_
    refine lv_ldc2 (v := (65521 : Int64)) hx hb hown (hts _ w_648) dX7_drawn_80 ?_
    refine lv_lrem hx hb dX7_drawn_83 (by decide) ?_
    obtain ⟨v_4, σ_5, hc_6, h⟩ := kb_ok h
    refine kci (krunV (As := [.int (x5 - x5 / x3 * x3), .long ((x6_2 * x6_2) - (x6_2 * x6_2) / (65521 : Int64) * (65521 : Int64))]) C hP (c_X1_isLawful E C.1 F σ (x5 - x5 / x3 * x3) ((x6_2 * x6_2) - (x6_2 * x6_2) / (65521 : Int64) * (65521 : Int64)) hc_6) w_457 kv_X1_isLawful ⟨Nat.le_of_ble_eq_true rfl, Nat.le_of_ble_eq_true rfl⟩ (rc_9 C hP) rfl hl.1 rfl (Nat.le_of_ble_eq_true rfl) dX7_drawn_84) hS (fun H locs hP hS => ?_)
    refine lv_if_eq (tgt := 93) hx hb dX7_drawn_87 (by decide) (fun c_7 => ?_) (fun c_7 => ?_)
    · have h := k_t c_7 h
      exact w_X7_drawn_93 C F rec43 hrec43 σ_5 x1 x2 x3 x4 x5 h H locs hP hS ls (lv_sub hl [1, 2, 3, 4, 5, 6] rfl)
    · have h := k_f c_7 h
      refine lv_iinc (v := (x4 + (1 : Int32))) (lv' := [(4, .int (x4 + (1 : Int32))), (6, .long x6_2), (0, .ref (eA E 0)), (1, .int x1), (2, .int x2), (3, .int x3), (5, .int x5)]) hx hb dX7_drawn_90 hl (k := 5) rfl rfl (by decide) rfl (fun ls hl => ?_)
      exact w_X7_drawn_93 C F rec43 hrec43 σ_5 x1 x2 x3 (x4 + (1 : Int32)) x5 h H locs hP hS ls (lv_sub hl [2, 3, 4, 5, 0, 6] rfl)
def f_X7_drawn_43 (F : Nat) : kS × Int32 × Int32 × Int32 × Int32 × Int32 → Option (Int32 × kS) := itr (fun rec43 q => s_X7_drawn_43 F rec43 q.1 q.2.1 q.2.2.1 q.2.2.2.1 q.2.2.2.2.1 q.2.2.2.2.2) F
theorem wf_X7_drawn_43 (C : Cx E p s m args meth c cX7_drawn 8 RX7 (some .int)) (F : Nat) (σ : kS) (x1 : Int32) (x2 : Int32) (x3 : Int32) (x4 : Int32) (x5 : Int32) (h : f_X7_drawn_43 F (σ, x1, x2, x3, x4, x5) = some (r, σr)) (H : Heap) (locs : List Loc) (hP : cP E σ H) (hS : va_S (inC E) s.heap H locs) (ls : Array Slot) (hl : lv_has ls 8 [(0, .ref (eA E 0)), (1, .int x1), (2, .int x2), (3, .int x3), (4, .int x4), (5, .int x5)]) : W p l e (kR 5 122) s m args below meth c H locs 0 0 (MQ below (kQi (cP E) (inC E) r σr) args s 0 0 (inC E)) (F0 m 43 ls []) :=
  itr_ok (r := (r, σr)) (G := fun q => ∀ (H : Heap) (locs : List Loc), cP E q.1 H → va_S (inC E) s.heap H locs → ∀ (ls : Array Slot), lv_has ls 8 [(0, .ref (eA E 0)), (1, .int (q.2.1)), (2, .int (q.2.2.1)), (3, .int (q.2.2.2.1)), (4, .int (q.2.2.2.2.1)), (5, .int (q.2.2.2.2.2))] → W p l e (kR 5 122) s m args below meth c H locs 0 0 (MQ below (kQi (cP E) (inC E) r σr) args s 0 0 (inC E)) (F0 m 43 ls [])) (fun rec43 hrec43 q h => w_X7_drawn_43 C F rec43 (fun σ x1 x2 x3 x4 x5 => hrec43 (σ, x1, x2, x3, x4, x5)) q.1 q.2.1 q.2.2.1 q.2.2.2.1 q.2.2.2.2.1 q.2.2.2.2.2 h) F (σ, x1, x2, x3, x4, x5) h H locs hP hS ls hl
def s_X7_drawn_0 (F : Nat) (σ : kS) (x1 : Int32) (x2 : Int32) : Option (Int32 × kS) :=
  (if x1 < 0 then some ((-1 : Int32), σ) else (if (9999 : Int32) < x1 then some ((-1 : Int32), σ) else (if x2 < (1 : Int32) then some ((-1 : Int32), σ) else (if x2 ≤ (200 : Int32) then (kn (if (1 : Int32) < (kI σ 14) then (kI σ 14) else (1 : Int32)) (fun x3_5 => f_X7_drawn_43 F (σ, x1, x2, x3_5, (0 : Int32), (0 : Int32)))) else some ((-1 : Int32), σ)))))
set_option maxRecDepth 100000 in
set_option maxHeartbeats 4000000 in
theorem w_X7_drawn_0 (C : Cx E p s m args meth c cX7_drawn 8 RX7 (some .int)) (F : Nat) (σ : kS) (x1 : Int32) (x2 : Int32) (h : s_X7_drawn_0 F σ x1 x2 = some (r, σr)) (H : Heap) (locs : List Loc) (hP : cP E σ H) (hS : va_S (inC E) s.heap H locs) (ls : Array Slot) (hl : lv_has ls 8 [(0, .ref (eA E 0)), (1, .int x1), (2, .int x2)]) : W p l e (kR 5 122) s m args below meth c H locs 0 0 (MQ below (kQi (cP E) (inC E) r σr) args s 0 0 (inC E)) (F0 m 0 ls []) := by
  obtain ⟨-, hx, hb, hml, hown, hts, hK, -, -⟩ := id C
  unfold s_X7_drawn_0 at h
  refine lv_iload_n hx hb dX7_drawn_0 rfl (lv_at hl 1 rfl) ?_
  refine lv_if_lt (tgt := 23) hx hb dX7_drawn_1 (by decide) (fun c_1 => ?_) (fun c_1 => ?_)
  · have h := k_t c_1 h
    refine lv_iconst (v := (-1 : Int32)) hx hb dX7_drawn_23 (by decide) ?_
    obtain ⟨rfl, rfl⟩ := k_inj h
    exact kri C hS hP dX7_drawn_24
  · have h := k_f c_1 h
    refine lv_iload_n hx hb dX7_drawn_4 rfl (lv_at hl 1 rfl) ?_
    refine lv_sipush (v := (9999 : Int32)) hx hb dX7_drawn_5 (by decide) ?_
    refine lv_icmp_gt (tgt := 23) hx hb dX7_drawn_8 (by decide) (fun c_2 => ?_) (fun c_2 => ?_)
    · have h := k_t c_2 h
      refine lv_iconst (v := (-1 : Int32)) hx hb dX7_drawn_23 (by decide) ?_
      obtain ⟨rfl, rfl⟩ := k_inj h
      exact kri C hS hP dX7_drawn_24
    · have h := k_f c_2 h
      refine lv_iload_n hx hb dX7_drawn_11 rfl (lv_at hl 2 rfl) ?_
      refine lv_iconst (v := (1 : Int32)) hx hb dX7_drawn_12 (by decide) ?_
      refine lv_icmp_lt (tgt := 23) hx hb dX7_drawn_13 (by decide) (fun c_3 => ?_) (fun c_3 => ?_)
      · have h := k_t c_3 h
        refine lv_iconst (v := (-1 : Int32)) hx hb dX7_drawn_23 (by decide) ?_
        obtain ⟨rfl, rfl⟩ := k_inj h
        exact kri C hS hP dX7_drawn_24
      · have h := k_f c_3 h
        refine lv_iload_n hx hb dX7_drawn_16 rfl (lv_at hl 2 rfl) ?_
        refine lv_sipush (v := (200 : Int32)) hx hb dX7_drawn_17 (by decide) ?_
        refine lv_icmp_le (tgt := 25) hx hb dX7_drawn_20 (by decide) (fun c_4 => ?_) (fun c_4 => ?_)
        · have h := k_t c_4 h
          refine lv_iconst (v := (1 : Int32)) hx hb dX7_drawn_25 (by decide) ?_
          refine lv_aload_n hx hb dX7_drawn_26 rfl (lv_at hl 0 rfl) ?_
          refine gf_0_2 C hP w_251 dX7_drawn_27 ?_
          refine gf_6_7 C hP (v := (kI σ 14)) rfl w_95 dX7_drawn_30 ?_
          refine kmax C hl.1 w_641 (Nat.le_of_ble_eq_true rfl) (Nat.le_of_ble_eq_true rfl) dX7_drawn_33 ?_
          refine lv_topi (fun x3_5 ex3_5 => ?_)
          have h := kn_to ex3_5 h
          refine lv_istore_n (lv' := [(3, .int x3_5), (0, .ref (eA E 0)), (1, .int x1), (2, .int x2)]) hx hb dX7_drawn_36 rfl hl (by decide) rfl (fun ls hl => ?_)
          refine lv_iconst (v := (0 : Int32)) hx hb dX7_drawn_37 (by decide) ?_
          refine lv_istore (lv' := [(4, .int (0 : Int32)), (3, .int x3_5), (0, .ref (eA E 0)), (1, .int x1), (2, .int x2)]) hx hb dX7_drawn_38 hl (by decide) rfl (fun ls hl => ?_)
          refine lv_iconst (v := (0 : Int32)) hx hb dX7_drawn_40 (by decide) ?_
          refine lv_istore (lv' := [(5, .int (0 : Int32)), (4, .int (0 : Int32)), (3, .int x3_5), (0, .ref (eA E 0)), (1, .int x1), (2, .int x2)]) hx hb dX7_drawn_41 hl (by decide) rfl (fun ls hl => ?_)
          exact wf_X7_drawn_43 C F σ x1 x2 x3_5 (0 : Int32) (0 : Int32) h H locs hP hS ls (lv_sub hl [3, 4, 5, 2, 1, 0] rfl)
        · have h := k_f c_4 h
          refine lv_iconst (v := (-1 : Int32)) hx hb dX7_drawn_23 (by decide) ?_
          obtain ⟨rfl, rfl⟩ := k_inj h
          exact kri C hS hP dX7_drawn_24
def f_X7_drawn (F : Nat) (σ : kS) (x1 : Int32) (x2 : Int32) : Option (Int32 × kS) := s_X7_drawn_0 F σ x1 x2
set_option maxRecDepth 100000 in
theorem c_X7_drawn (E : kE) (hE : kap E) (F : Nat) (σ : kS) (x1 : Int32) (x2 : Int32) (h : f_X7_drawn F σ x1 x2 = some (r, σr)) : Met l yX7_drawn (kWs yX7_drawn cX7_drawn 8 (some .int)) (kR 5 122) (kPre (cP E) E [.ref (eA E 0), .int x1, .int x2] σ) (kQi (cP E) (inC E) r σr) 0 0 (inC E) :=
  kst hE (by decide +kernel) (Nat.le_of_ble_eq_true rfl) (fun p e s m below meth c ls C hP hl => w_X7_drawn_0 C F σ x1 x2 h s.heap [] hP va_S.rf ls hl)
end

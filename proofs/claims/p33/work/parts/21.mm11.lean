section
variable {p : Program} {l : Launch} {e : Env} {s : State} {m : MethodId} {args : Array Value} {below : List Frame} {meth : Method} {c : Code} {E : kE} {σr : kS}
variable {r : Int32}
def s_X8_rests_85 (F : Nat) (rec18 : (kS × Int32 × Int32 × Int32 → Option (Int32 × kS))) (rec31 : (kS × Int32 × Int32 × Int32 × Int32 → Option (Int32 × kS))) (σ : kS) (x1 : Int32) (x2 : Int32) (x3 : Int32) (x4 : Int32) : Option (Int32 × kS) :=
  rec31 (σ, x1, x2, x3, (x4 + (1 : Int32)))
set_option maxRecDepth 100000 in
set_option maxHeartbeats 4000000 in
theorem w_X8_rests_85 (C : Cx E p s m args meth c cX8_rests 6 RX8 (some .int)) (F : Nat) (rec18 : (kS × Int32 × Int32 × Int32 → Option (Int32 × kS))) (hrec18 : ∀ (σ : kS) (x1 : Int32) (x2 : Int32) (x3 : Int32), rec18 (σ, x1, x2, x3) = some (r, σr) → ∀ (H : Heap) (locs : List Loc), mP E σ H → va_S (inM E) s.heap H locs → ∀ (ls : Array Slot), lv_has ls 6 [(0, .ref (eA E 27)), (1, .int x1), (2, .int x2), (3, .int x3)] → W p l e (kR 3 72) s m args below meth c H locs 0 0 (MQ below (kQi (mP E) (inM E) r σr) args s 0 0 (inM E)) (F0 m 18 ls [])) (rec31 : (kS × Int32 × Int32 × Int32 × Int32 → Option (Int32 × kS))) (hrec31 : ∀ (σ : kS) (x1 : Int32) (x2 : Int32) (x3 : Int32) (x4 : Int32), rec31 (σ, x1, x2, x3, x4) = some (r, σr) → ∀ (H : Heap) (locs : List Loc), mP E σ H → va_S (inM E) s.heap H locs → ∀ (ls : Array Slot), lv_has ls 6 [(0, .ref (eA E 27)), (1, .int x1), (2, .int x2), (3, .int x3), (4, .int x4)] → W p l e (kR 3 72) s m args below meth c H locs 0 0 (MQ below (kQi (mP E) (inM E) r σr) args s 0 0 (inM E)) (F0 m 31 ls [])) (σ : kS) (x1 : Int32) (x2 : Int32) (x3 : Int32) (x4 : Int32) (h : s_X8_rests_85 F rec18 rec31 σ x1 x2 x3 x4 = some (r, σr)) (H : Heap) (locs : List Loc) (hP : mP E σ H) (hS : va_S (inM E) s.heap H locs) (ls : Array Slot) (hl : lv_has ls 6 [(0, .ref (eA E 27)), (1, .int x1), (2, .int x2), (3, .int x3), (4, .int x4)]) : W p l e (kR 3 72) s m args below meth c H locs 0 0 (MQ below (kQi (mP E) (inM E) r σr) args s 0 0 (inM E)) (F0 m 85 ls []) := by
  obtain ⟨-, hx, hb, hml, hown, hts, hK, -, -⟩ := id C
  unfold s_X8_rests_85 at h
  refine lv_iinc (v := (x4 + (1 : Int32))) (lv' := [(4, .int (x4 + (1 : Int32))), (0, .ref (eA E 27)), (1, .int x1), (2, .int x2), (3, .int x3)]) hx hb dX8_rests_85 hl (k := 4) rfl rfl (by decide) rfl (fun ls hl => ?_)
  refine lv_goto (tgt := 31) hx hb dX8_rests_88 (by decide) ?_
  exact hrec31 σ x1 x2 x3 (x4 + (1 : Int32)) h H locs hP hS ls (lv_sub hl [1, 2, 3, 4, 0] rfl)
def s_X8_rests_70 (F : Nat) (σ : kS) (y0 : Int32) : Option (Int32 × kS) :=
  (if 0 ≤ y0 then some (y0, σ) else some ((-4 : Int32), σ))
set_option maxRecDepth 100000 in
set_option maxHeartbeats 4000000 in
theorem w_X8_rests_70 (C : Cx E p s m args meth c cX8_rests 6 RX8 (some .int)) (F : Nat) (σ : kS) (y0 : Int32) (h : s_X8_rests_70 F σ y0 = some (r, σr)) (H : Heap) (locs : List Loc) (hP : mP E σ H) (hS : va_S (inM E) s.heap H locs) (ls : Array Slot) (hl : lv_has ls 6 []) : W p l e (kR 3 72) s m args below meth c H locs 0 0 (MQ below (kQi (mP E) (inM E) r σr) args s 0 0 (inM E)) (F0 m 70 ls [.int y0]) := by
  obtain ⟨-, hx, hb, hml, hown, hts, hK, -, -⟩ := id C
  unfold s_X8_rests_70 at h
  refine lv_istore (lv' := [(5, .int y0)]) hx hb dX8_rests_70 hl (by decide) rfl (fun ls hl => ?_)
  refine lv_iload hx hb dX8_rests_72 (lv_at hl 0 rfl) ?_
  refine lv_if_ge (tgt := 82) hx hb dX8_rests_74 (by decide) (fun c_1 => ?_) (fun c_1 => ?_)
  · have h := k_t c_1 h
    refine lv_iload hx hb dX8_rests_82 (lv_at hl 0 rfl) ?_
    obtain ⟨rfl, rfl⟩ := k_inj h
    exact kri C hS hP dX8_rests_84
  · have h := k_f c_1 h
    refine lv_bipush (v := (-4 : Int32)) hx hb dX8_rests_77 (by decide) ?_
    refine lv_goto (tgt := 84) hx hb dX8_rests_79 (by decide) ?_
    obtain ⟨rfl, rfl⟩ := k_inj h
    exact kri C hS hP dX8_rests_84
def s_X8_rests_31 (F : Nat) (rec18 : (kS × Int32 × Int32 × Int32 → Option (Int32 × kS))) (rec31 : (kS × Int32 × Int32 × Int32 × Int32 → Option (Int32 × kS))) (σ : kS) (x1 : Int32) (x2 : Int32) (x3 : Int32) (x4 : Int32) : Option (Int32 × kS) :=
  (if (kA σ 2 0) ≤ x4 then rec18 (σ, x1, x2, (x3 + (1 : Int32))) else (kb (f_X8_isRest F σ x3 x4) fun v_2 σ_3 => (if v_2 = 0 then s_X8_rests_85 F rec18 rec31 σ_3 x1 x2 x3 x4 else (if x1 ≤ 0 then s_X8_rests_85 F rec18 rec31 σ_3 x1 (x2 + (1 : Int32)) x3 x4 else (if x1 = (1 : Int32) then s_X8_rests_70 F σ_3 x3 else s_X8_rests_70 F σ_3 x4)))))
set_option maxRecDepth 100000 in
set_option maxHeartbeats 4000000 in
theorem w_X8_rests_31 (C : Cx E p s m args meth c cX8_rests 6 RX8 (some .int)) (F : Nat) (rec18 : (kS × Int32 × Int32 × Int32 → Option (Int32 × kS))) (hrec18 : ∀ (σ : kS) (x1 : Int32) (x2 : Int32) (x3 : Int32), rec18 (σ, x1, x2, x3) = some (r, σr) → ∀ (H : Heap) (locs : List Loc), mP E σ H → va_S (inM E) s.heap H locs → ∀ (ls : Array Slot), lv_has ls 6 [(0, .ref (eA E 27)), (1, .int x1), (2, .int x2), (3, .int x3)] → W p l e (kR 3 72) s m args below meth c H locs 0 0 (MQ below (kQi (mP E) (inM E) r σr) args s 0 0 (inM E)) (F0 m 18 ls [])) (rec31 : (kS × Int32 × Int32 × Int32 × Int32 → Option (Int32 × kS))) (hrec31 : ∀ (σ : kS) (x1 : Int32) (x2 : Int32) (x3 : Int32) (x4 : Int32), rec31 (σ, x1, x2, x3, x4) = some (r, σr) → ∀ (H : Heap) (locs : List Loc), mP E σ H → va_S (inM E) s.heap H locs → ∀ (ls : Array Slot), lv_has ls 6 [(0, .ref (eA E 27)), (1, .int x1), (2, .int x2), (3, .int x3), (4, .int x4)] → W p l e (kR 3 72) s m args below meth c H locs 0 0 (MQ below (kQi (mP E) (inM E) r σr) args s 0 0 (inM E)) (F0 m 31 ls [])) (σ : kS) (x1 : Int32) (x2 : Int32) (x3 : Int32) (x4 : Int32) (h : s_X8_rests_31 F rec18 rec31 σ x1 x2 x3 x4 = some (r, σr)) (H : Heap) (locs : List Loc) (hP : mP E σ H) (hS : va_S (inM E) s.heap H locs) (ls : Array Slot) (hl : lv_has ls 6 [(0, .ref (eA E 27)), (1, .int x1), (2, .int x2), (3, .int x3), (4, .int x4)]) : W p l e (kR 3 72) s m args below meth c H locs 0 0 (MQ below (kQi (mP E) (inM E) r σr) args s 0 0 (inM E)) (F0 m 31 ls []) := by
  obtain ⟨-, hx, hb, hml, hown, hts, hK, -, -⟩ := id C
  unfold s_X8_rests_31 at h
  refine lv_iload hx hb dX8_rests_31 (lv_at hl 4 rfl) ?_
  refine lv_aload_n hx hb dX8_rests_33 rfl (lv_at hl 0 rfl) ?_
  refine gf_27_4 C hP w_679 dX8_rests_34 ?_
  refine lv_iconst (v := (0 : Int32)) hx hb dX8_rests_37 (by decide) ?_
  refine al_30 C hP (v := (kA σ 2 0)) rfl (by unfold vp_in; decide) dX8_rests_38 ?_
  refine lv_icmp_ge (tgt := 91) hx hb dX8_rests_39 (by decide) (fun c_1 => ?_) (fun c_1 => ?_)
  · have h := k_t c_1 h
    refine lv_iinc (v := (x3 + (1 : Int32))) (lv' := [(3, .int (x3 + (1 : Int32))), (0, .ref (eA E 27)), (1, .int x1), (2, .int x2), (4, .int x4)]) hx hb dX8_rests_91 hl (k := 3) rfl rfl (by decide) rfl (fun ls hl => ?_)
    refine lv_goto (tgt := 18) hx hb dX8_rests_94 (by decide) ?_
    exact hrec18 σ x1 x2 (x3 + (1 : Int32)) h H locs hP hS ls (lv_sub hl [1, 2, 3, 0] rfl)
  · have h := k_f c_1 h
    refine lv_aload_n hx hb dX8_rests_42 rfl (lv_at hl 0 rfl) ?_
    refine lv_iload_n hx hb dX8_rests_43 rfl (lv_at hl 3 rfl) ?_
    refine lv_iload hx hb dX8_rests_44 (lv_at hl 4 rfl) ?_
    obtain ⟨v_2, σ_3, hc_4, h⟩ := kb_ok h
    refine kci (krunV (As := [.int x3, .int x4]) C hP (c_X8_isRest E C.1 F σ x3 x4 hc_4) w_887 kv_X8_isRest ⟨Nat.le_of_ble_eq_true rfl, Nat.le_of_ble_eq_true rfl⟩ (rc_27 C hP) rfl hl.1 rfl (Nat.le_of_ble_eq_true rfl) dX8_rests_46) hS (fun H locs hP hS => ?_)
    refine lv_if_eq (tgt := 85) hx hb dX8_rests_49 (by decide) (fun c_5 => ?_) (fun c_5 => ?_)
    · have h := k_t c_5 h
      exact w_X8_rests_85 C F rec18 hrec18 rec31 hrec31 σ_3 x1 x2 x3 x4 h H locs hP hS ls hl
    · have h := k_f c_5 h
      refine lv_iinc (v := (x2 + (1 : Int32))) (lv' := [(2, .int (x2 + (1 : Int32))), (0, .ref (eA E 27)), (1, .int x1), (3, .int x3), (4, .int x4)]) hx hb dX8_rests_52 hl (k := 2) rfl rfl (by decide) rfl (fun ls hl => ?_)
      refine lv_iload_n hx hb dX8_rests_55 rfl (lv_at hl 2 rfl) ?_
      refine lv_if_le (tgt := 85) hx hb dX8_rests_56 (by decide) (fun c_6 => ?_) (fun c_6 => ?_)
      · have h := k_t c_6 h
        exact w_X8_rests_85 C F rec18 hrec18 rec31 hrec31 σ_3 x1 (x2 + (1 : Int32)) x3 x4 h H locs hP hS ls (lv_sub hl [1, 2, 0, 3, 4] rfl)
      · have h := k_f c_6 h
        refine lv_iload_n hx hb dX8_rests_59 rfl (lv_at hl 2 rfl) ?_
        refine lv_iconst (v := (1 : Int32)) hx hb dX8_rests_60 (by decide) ?_
        refine lv_icmp_ne (tgt := 68) hx hb dX8_rests_61 (by decide) (fun c_7 => ?_) (fun c_7 => ?_)
        · have h := k_f c_7 h
          refine lv_iload hx hb dX8_rests_68 (lv_at hl 4 rfl) ?_
          exact w_X8_rests_70 C F σ_3 x4 h H locs hP hS ls (lv_sub hl [] rfl)
        · have h := k_t c_7 h
          refine lv_iload_n hx hb dX8_rests_64 rfl (lv_at hl 3 rfl) ?_
          refine lv_goto (tgt := 70) hx hb dX8_rests_65 (by decide) ?_
          exact w_X8_rests_70 C F σ_3 x3 h H locs hP hS ls (lv_sub hl [] rfl)
def f_X8_rests_31 (F : Nat) (rec18 : (kS × Int32 × Int32 × Int32 → Option (Int32 × kS))) : kS × Int32 × Int32 × Int32 × Int32 → Option (Int32 × kS) := itr (fun rec31 q => s_X8_rests_31 F rec18 rec31 q.1 q.2.1 q.2.2.1 q.2.2.2.1 q.2.2.2.2) F
theorem wf_X8_rests_31 (C : Cx E p s m args meth c cX8_rests 6 RX8 (some .int)) (F : Nat) (rec18 : (kS × Int32 × Int32 × Int32 → Option (Int32 × kS))) (hrec18 : ∀ (σ : kS) (x1 : Int32) (x2 : Int32) (x3 : Int32), rec18 (σ, x1, x2, x3) = some (r, σr) → ∀ (H : Heap) (locs : List Loc), mP E σ H → va_S (inM E) s.heap H locs → ∀ (ls : Array Slot), lv_has ls 6 [(0, .ref (eA E 27)), (1, .int x1), (2, .int x2), (3, .int x3)] → W p l e (kR 3 72) s m args below meth c H locs 0 0 (MQ below (kQi (mP E) (inM E) r σr) args s 0 0 (inM E)) (F0 m 18 ls [])) (σ : kS) (x1 : Int32) (x2 : Int32) (x3 : Int32) (x4 : Int32) (h : f_X8_rests_31 F rec18 (σ, x1, x2, x3, x4) = some (r, σr)) (H : Heap) (locs : List Loc) (hP : mP E σ H) (hS : va_S (inM E) s.heap H locs) (ls : Array Slot) (hl : lv_has ls 6 [(0, .ref (eA E 27)), (1, .int x1), (2, .int x2), (3, .int x3), (4, .int x4)]) : W p l e (kR 3 72) s m args below meth c H locs 0 0 (MQ below (kQi (mP E) (inM E) r σr) args s 0 0 (inM E)) (F0 m 31 ls []) :=
  itr_ok (r := (r, σr)) (G := fun q => ∀ (H : Heap) (locs : List Loc), mP E q.1 H → va_S (inM E) s.heap H locs → ∀ (ls : Array Slot), lv_has ls 6 [(0, .ref (eA E 27)), (1, .int (q.2.1)), (2, .int (q.2.2.1)), (3, .int (q.2.2.2.1)), (4, .int (q.2.2.2.2))] → W p l e (kR 3 72) s m args below meth c H locs 0 0 (MQ below (kQi (mP E) (inM E) r σr) args s 0 0 (inM E)) (F0 m 31 ls [])) (fun rec31 hrec31 q h => w_X8_rests_31 C F rec18 hrec18 rec31 (fun σ x1 x2 x3 x4 => hrec31 (σ, x1, x2, x3, x4)) q.1 q.2.1 q.2.2.1 q.2.2.2.1 q.2.2.2.2 h) F (σ, x1, x2, x3, x4) h H locs hP hS ls hl
def s_X8_rests_18 (F : Nat) (rec18 : (kS × Int32 × Int32 × Int32 → Option (Int32 × kS))) (σ : kS) (x1 : Int32) (x2 : Int32) (x3 : Int32) : Option (Int32 × kS) :=
  (if (kA σ 2 0) ≤ x3 then (if x1 = 0 then some (x2, σ) else some ((-4 : Int32), σ)) else f_X8_rests_31 F rec18 (σ, x1, x2, x3, (-1 : Int32)))
set_option maxRecDepth 100000 in
set_option maxHeartbeats 4000000 in
theorem w_X8_rests_18 (C : Cx E p s m args meth c cX8_rests 6 RX8 (some .int)) (F : Nat) (rec18 : (kS × Int32 × Int32 × Int32 → Option (Int32 × kS))) (hrec18 : ∀ (σ : kS) (x1 : Int32) (x2 : Int32) (x3 : Int32), rec18 (σ, x1, x2, x3) = some (r, σr) → ∀ (H : Heap) (locs : List Loc), mP E σ H → va_S (inM E) s.heap H locs → ∀ (ls : Array Slot), lv_has ls 6 [(0, .ref (eA E 27)), (1, .int x1), (2, .int x2), (3, .int x3)] → W p l e (kR 3 72) s m args below meth c H locs 0 0 (MQ below (kQi (mP E) (inM E) r σr) args s 0 0 (inM E)) (F0 m 18 ls [])) (σ : kS) (x1 : Int32) (x2 : Int32) (x3 : Int32) (h : s_X8_rests_18 F rec18 σ x1 x2 x3 = some (r, σr)) (H : Heap) (locs : List Loc) (hP : mP E σ H) (hS : va_S (inM E) s.heap H locs) (ls : Array Slot) (hl : lv_has ls 6 [(0, .ref (eA E 27)), (1, .int x1), (2, .int x2), (3, .int x3)]) : W p l e (kR 3 72) s m args below meth c H locs 0 0 (MQ below (kQi (mP E) (inM E) r σr) args s 0 0 (inM E)) (F0 m 18 ls []) := by
  obtain ⟨-, hx, hb, hml, hown, hts, hK, -, -⟩ := id C
  unfold s_X8_rests_18 at h
  refine lv_iload_n hx hb dX8_rests_18 rfl (lv_at hl 3 rfl) ?_
  refine lv_aload_n hx hb dX8_rests_19 rfl (lv_at hl 0 rfl) ?_
  refine gf_27_4 C hP w_679 dX8_rests_20 ?_
  refine lv_iconst (v := (0 : Int32)) hx hb dX8_rests_23 (by decide) ?_
  refine al_30 C hP (v := (kA σ 2 0)) rfl (by unfold vp_in; decide) dX8_rests_24 ?_
  refine lv_icmp_ge (tgt := 97) hx hb dX8_rests_25 (by decide) (fun c_1 => ?_) (fun c_1 => ?_)
  · have h := k_t c_1 h
    refine lv_iload_n hx hb dX8_rests_97 rfl (lv_at hl 1 rfl) ?_
    refine lv_if_ne (tgt := 105) hx hb dX8_rests_98 (by decide) (fun c_2 => ?_) (fun c_2 => ?_)
    · have h := k_f c_2 h
      refine lv_bipush (v := (-4 : Int32)) hx hb dX8_rests_105 (by decide) ?_
      obtain ⟨rfl, rfl⟩ := k_inj h
      exact kri C hS hP dX8_rests_107
    · have h := k_t c_2 h
      refine lv_iload_n hx hb dX8_rests_101 rfl (lv_at hl 2 rfl) ?_
      refine lv_goto (tgt := 107) hx hb dX8_rests_102 (by decide) ?_
      obtain ⟨rfl, rfl⟩ := k_inj h
      exact kri C hS hP dX8_rests_107
  · have h := k_f c_1 h
    refine lv_iconst (v := (-1 : Int32)) hx hb dX8_rests_28 (by decide) ?_
    refine lv_istore (lv' := [(4, .int (-1 : Int32)), (0, .ref (eA E 27)), (1, .int x1), (2, .int x2), (3, .int x3)]) hx hb dX8_rests_29 hl (by decide) rfl (fun ls hl => ?_)
    exact wf_X8_rests_31 C F rec18 hrec18 σ x1 x2 x3 (-1 : Int32) h H locs hP hS ls (lv_sub hl [1, 2, 3, 4, 0] rfl)
def f_X8_rests_18 (F : Nat) : kS × Int32 × Int32 × Int32 → Option (Int32 × kS) := itr (fun rec18 q => s_X8_rests_18 F rec18 q.1 q.2.1 q.2.2.1 q.2.2.2) F
theorem wf_X8_rests_18 (C : Cx E p s m args meth c cX8_rests 6 RX8 (some .int)) (F : Nat) (σ : kS) (x1 : Int32) (x2 : Int32) (x3 : Int32) (h : f_X8_rests_18 F (σ, x1, x2, x3) = some (r, σr)) (H : Heap) (locs : List Loc) (hP : mP E σ H) (hS : va_S (inM E) s.heap H locs) (ls : Array Slot) (hl : lv_has ls 6 [(0, .ref (eA E 27)), (1, .int x1), (2, .int x2), (3, .int x3)]) : W p l e (kR 3 72) s m args below meth c H locs 0 0 (MQ below (kQi (mP E) (inM E) r σr) args s 0 0 (inM E)) (F0 m 18 ls []) :=
  itr_ok (r := (r, σr)) (G := fun q => ∀ (H : Heap) (locs : List Loc), mP E q.1 H → va_S (inM E) s.heap H locs → ∀ (ls : Array Slot), lv_has ls 6 [(0, .ref (eA E 27)), (1, .int (q.2.1)), (2, .int (q.2.2.1)), (3, .int (q.2.2.2))] → W p l e (kR 3 72) s m args below meth c H locs 0 0 (MQ below (kQi (mP E) (inM E) r σr) args s 0 0 (inM E)) (F0 m 18 ls [])) (fun rec18 hrec18 q h => w_X8_rests_18 C F rec18 (fun σ x1 x2 x3 => hrec18 (σ, x1, x2, x3)) q.1 q.2.1 q.2.2.1 q.2.2.2 h) F (σ, x1, x2, x3) h H locs hP hS ls hl
def s_X8_rests_0 (F : Nat) (σ : kS) (x1 : Int32) : Option (Int32 × kS) :=
  (kb (f_X8_in F σ x1.toInt64 (0 : Int64) (2 : Int64)) fun v_1 σ_2 => (if v_1 = 0 then some ((-1 : Int32), σ_2) else f_X8_rests_18 F (σ_2, x1, (0 : Int32), (-1 : Int32))))
set_option maxRecDepth 100000 in
set_option maxHeartbeats 4000000 in
theorem w_X8_rests_0 (C : Cx E p s m args meth c cX8_rests 6 RX8 (some .int)) (F : Nat) (σ : kS) (x1 : Int32) (h : s_X8_rests_0 F σ x1 = some (r, σr)) (H : Heap) (locs : List Loc) (hP : mP E σ H) (hS : va_S (inM E) s.heap H locs) (ls : Array Slot) (hl : lv_has ls 6 [(0, .ref (eA E 27)), (1, .int x1)]) : W p l e (kR 3 72) s m args below meth c H locs 0 0 (MQ below (kQi (mP E) (inM E) r σr) args s 0 0 (inM E)) (F0 m 0 ls []) := by
  obtain ⟨-, hx, hb, hml, hown, hts, hK, -, -⟩ := id C
  unfold s_X8_rests_0 at h
  refine lv_iload_n hx hb dX8_rests_0 rfl (lv_at hl 1 rfl) ?_
  refine lv_i2l (v := x1.toInt64) hx hb dX8_rests_1 rfl ?_
  refine lv_lconst (v := (0 : Int64)) hx hb dX8_rests_2 (by decide) ?_
  refine lv_ldc2 (v := (2 : Int64)) hx hb hown (hts _ w_804) dX8_rests_3 ?_
  obtain ⟨v_1, σ_2, hc_3, h⟩ := kb_ok h
  refine kci (krunS (As := [.long x1.toInt64, .long (0 : Int64), .long (2 : Int64)]) C hP (c_X8_in E C.1 F σ x1.toInt64 (0 : Int64) (2 : Int64) hc_3) w_735 kt_X8_in ⟨Nat.le_of_ble_eq_true rfl, Nat.le_of_ble_eq_true rfl⟩ rfl hl.1 rfl (Nat.le_of_ble_eq_true rfl) dX8_rests_6) hS (fun H locs hP hS => ?_)
  refine lv_if_ne (tgt := 14) hx hb dX8_rests_9 (by decide) (fun c_4 => ?_) (fun c_4 => ?_)
  · have h := k_f c_4 h
    refine lv_iconst (v := (0 : Int32)) hx hb dX8_rests_14 (by decide) ?_
    refine lv_istore_n (lv' := [(2, .int (0 : Int32)), (0, .ref (eA E 27)), (1, .int x1)]) hx hb dX8_rests_15 rfl hl (by decide) rfl (fun ls hl => ?_)
    refine lv_iconst (v := (-1 : Int32)) hx hb dX8_rests_16 (by decide) ?_
    refine lv_istore_n (lv' := [(3, .int (-1 : Int32)), (2, .int (0 : Int32)), (0, .ref (eA E 27)), (1, .int x1)]) hx hb dX8_rests_17 rfl hl (by decide) rfl (fun ls hl => ?_)
    exact wf_X8_rests_18 C F σ_2 x1 (0 : Int32) (-1 : Int32) h H locs hP hS ls (lv_sub hl [2, 3, 1, 0] rfl)
  · have h := k_t c_4 h
    refine lv_iconst (v := (-1 : Int32)) hx hb dX8_rests_12 (by decide) ?_
    obtain ⟨rfl, rfl⟩ := k_inj h
    exact kri C hS hP dX8_rests_13
def f_X8_rests (F : Nat) (σ : kS) (x1 : Int32) : Option (Int32 × kS) := s_X8_rests_0 F σ x1
set_option maxRecDepth 100000 in
theorem c_X8_rests (E : kE) (hE : kap E) (F : Nat) (σ : kS) (x1 : Int32) (h : f_X8_rests F σ x1 = some (r, σr)) : Met l yX8_rests (kWs yX8_rests cX8_rests 6 (some .int)) (kR 3 72) (kPre (mP E) E [.ref (eA E 27), .int x1] σ) (kQi (mP E) (inM E) r σr) 0 0 (inM E) :=
  kst hE (by decide +kernel) (Nat.le_of_ble_eq_true rfl) (fun p e s m below meth c ls C hP hl => w_X8_rests_0 C F σ x1 h s.heap [] hP va_S.rf ls hl)
end

section
variable {p : Program} {l : Launch} {e : Env} {s : State} {m : MethodId} {args : Array Value} {below : List Frame} {meth : Method} {c : Code} {E : kE} {σr : kS}
variable {r : Int32}
def s_X8_isSet_0 (F : Nat) (σ : kS) (x1 : Int32) : Option (Int32 × kS) :=
  (kb (f_X8_in F σ x1.toInt64 (0 : Int64) (((1 : Int32) <<< ((kA σ 2 0) &&& 31)) - (1 : Int32)).toInt64) fun v_1 σ_2 => (if v_1 &&& 1 = v_1 then some (v_1, σ_2) else none))
set_option maxRecDepth 100000 in
set_option maxHeartbeats 4000000 in
theorem w_X8_isSet_0 (C : Cx E p s m args meth c cX8_isSet 2 RX8 (some .boolean)) (F : Nat) (σ : kS) (x1 : Int32) (h : s_X8_isSet_0 F σ x1 = some (r, σr)) (H : Heap) (locs : List Loc) (hP : mP E σ H) (hS : va_S (inM E) s.heap H locs) (ls : Array Slot) (hl : lv_has ls 2 [(0, .ref (eA E 27)), (1, .int x1)]) : W p l e (kR 1 25) s m args below meth c H locs 0 0 (MQ below (kQi (mP E) (inM E) r σr) args s 0 0 (inM E)) (F0 m 0 ls []) := by
  obtain ⟨-, hx, hb, hml, hown, hts, hK, -, -⟩ := id C
  unfold s_X8_isSet_0 at h
  refine lv_iload_n hx hb dX8_isSet_0 rfl (lv_at hl 1 rfl) ?_
  refine lv_i2l (v := x1.toInt64) hx hb dX8_isSet_1 rfl ?_
  refine lv_lconst (v := (0 : Int64)) hx hb dX8_isSet_2 (by decide) ?_
  refine lv_iconst (v := (1 : Int32)) hx hb dX8_isSet_3 (by decide) ?_
  refine lv_aload_n hx hb dX8_isSet_4 rfl (lv_at hl 0 rfl) ?_
  refine gf_27_4 C hP w_679 dX8_isSet_5 ?_
  refine lv_iconst (v := (0 : Int32)) hx hb dX8_isSet_8 (by decide) ?_
  refine al_30 C hP (v := (kA σ 2 0)) rfl (by unfold vp_in; decide) dX8_isSet_9 ?_
  refine lv_ishl hx hb dX8_isSet_10 ?_
  refine lv_iconst (v := (1 : Int32)) hx hb dX8_isSet_11 (by decide) ?_
  refine lv_isub hx hb dX8_isSet_12 ?_
  refine lv_i2l (v := (((1 : Int32) <<< ((kA σ 2 0) &&& 31)) - (1 : Int32)).toInt64) hx hb dX8_isSet_13 rfl ?_
  obtain ⟨v_1, σ_2, hc_3, h⟩ := kb_ok h
  refine kci (krunS (As := [.long x1.toInt64, .long (0 : Int64), .long (((1 : Int32) <<< ((kA σ 2 0) &&& 31)) - (1 : Int32)).toInt64]) C hP (c_X8_in E C.1 F σ x1.toInt64 (0 : Int64) (((1 : Int32) <<< ((kA σ 2 0) &&& 31)) - (1 : Int32)).toInt64 hc_3) w_735 kt_X8_in ⟨Nat.le_of_ble_eq_true rfl, Nat.le_of_ble_eq_true rfl⟩ rfl hl.1 rfl (Nat.le_of_ble_eq_true rfl) dX8_isSet_14) hS (fun H locs hP hS => ?_)
  obtain ⟨n_4, h⟩ := k_yes h
  obtain ⟨rfl, rfl⟩ := k_inj h
  exact krz C hS hP n_4 dX8_isSet_17
def f_X8_isSet (F : Nat) (σ : kS) (x1 : Int32) : Option (Int32 × kS) := s_X8_isSet_0 F σ x1
set_option maxRecDepth 100000 in
theorem c_X8_isSet (E : kE) (hE : kap E) (F : Nat) (σ : kS) (x1 : Int32) (h : f_X8_isSet F σ x1 = some (r, σr)) : Met l yX8_isSet (kWs yX8_isSet cX8_isSet 2 (some .boolean)) (kR 1 25) (kPre (mP E) E [.ref (eA E 27), .int x1] σ) (kQi (mP E) (inM E) r σr) 0 0 (inM E) :=
  kst hE (by decide +kernel) (Nat.le_of_ble_eq_true rfl) (fun p e s m below meth c ls C hP hl => w_X8_isSet_0 C F σ x1 h s.heap [] hP va_S.rf ls hl)
end

section
variable {p : Program} {l : Launch} {e : Env} {s : State} {m : MethodId} {args : Array Value} {below : List Frame} {meth : Method} {c : Code} {E : kE} {σr : kS}
variable {r : Int32}
def s_X8_isFirm_49 (F : Nat) (rec4 : (kS × Int32 × Int32 × Int32 → Option (Int32 × kS))) (σ : kS) (x1 : Int32) (x3 : Int32) (y0 : Int32) : Option (Int32 × kS) :=
  rec4 (σ, x1, y0, (x3 + (1 : Int32)))
set_option maxRecDepth 100000 in
set_option maxHeartbeats 4000000 in
theorem w_X8_isFirm_49 (C : Cx E p s m args meth c cX8_isFirm 4 RX8 (some .boolean)) (F : Nat) (rec4 : (kS × Int32 × Int32 × Int32 → Option (Int32 × kS))) (hrec4 : ∀ (σ : kS) (x1 : Int32) (x2 : Int32) (x3 : Int32), rec4 (σ, x1, x2, x3) = some (r, σr) → ∀ (H : Heap) (locs : List Loc), mP E σ H → va_S (inM E) s.heap H locs → ∀ (ls : Array Slot), lv_has ls 4 [(0, .ref (eA E 27)), (1, .int x1), (2, .int x2), (3, .int x3)] → W p l e (kR 1 22) s m args below meth c H locs 0 0 (MQ below (kQi (mP E) (inM E) r σr) args s 0 0 (inM E)) (F0 m 4 ls [])) (σ : kS) (x1 : Int32) (x3 : Int32) (y0 : Int32) (h : s_X8_isFirm_49 F rec4 σ x1 x3 y0 = some (r, σr)) (H : Heap) (locs : List Loc) (hP : mP E σ H) (hS : va_S (inM E) s.heap H locs) (ls : Array Slot) (hl : lv_has ls 4 [(0, .ref (eA E 27)), (1, .int x1), (3, .int x3)]) : W p l e (kR 1 22) s m args below meth c H locs 0 0 (MQ below (kQi (mP E) (inM E) r σr) args s 0 0 (inM E)) (F0 m 49 ls [.int y0]) := by
  obtain ⟨-, hx, hb, hml, hown, hts, hK, -, -⟩ := id C
  unfold s_X8_isFirm_49 at h
  refine lv_istore_n (lv' := [(2, .int y0), (0, .ref (eA E 27)), (1, .int x1), (3, .int x3)]) hx hb dX8_isFirm_49 rfl hl (by decide) rfl (fun ls hl => ?_)
  refine lv_iinc (v := (x3 + (1 : Int32))) (lv' := [(3, .int (x3 + (1 : Int32))), (2, .int y0), (0, .ref (eA E 27)), (1, .int x1)]) hx hb dX8_isFirm_50 hl (k := 3) rfl rfl (by decide) rfl (fun ls hl => ?_)
  refine lv_goto (tgt := 4) hx hb dX8_isFirm_53 (by decide) ?_
  exact hrec4 σ x1 y0 (x3 + (1 : Int32)) h H locs hP hS ls (lv_sub hl [2, 3, 1, 0] rfl)
def s_X8_isFirm_48 (F : Nat) (rec4 : (kS × Int32 × Int32 × Int32 → Option (Int32 × kS))) (σ : kS) (x1 : Int32) (x3 : Int32) : Option (Int32 × kS) :=
  s_X8_isFirm_49 F rec4 σ x1 x3 (0 : Int32)
set_option maxRecDepth 100000 in
set_option maxHeartbeats 4000000 in
theorem w_X8_isFirm_48 (C : Cx E p s m args meth c cX8_isFirm 4 RX8 (some .boolean)) (F : Nat) (rec4 : (kS × Int32 × Int32 × Int32 → Option (Int32 × kS))) (hrec4 : ∀ (σ : kS) (x1 : Int32) (x2 : Int32) (x3 : Int32), rec4 (σ, x1, x2, x3) = some (r, σr) → ∀ (H : Heap) (locs : List Loc), mP E σ H → va_S (inM E) s.heap H locs → ∀ (ls : Array Slot), lv_has ls 4 [(0, .ref (eA E 27)), (1, .int x1), (2, .int x2), (3, .int x3)] → W p l e (kR 1 22) s m args below meth c H locs 0 0 (MQ below (kQi (mP E) (inM E) r σr) args s 0 0 (inM E)) (F0 m 4 ls [])) (σ : kS) (x1 : Int32) (x3 : Int32) (h : s_X8_isFirm_48 F rec4 σ x1 x3 = some (r, σr)) (H : Heap) (locs : List Loc) (hP : mP E σ H) (hS : va_S (inM E) s.heap H locs) (ls : Array Slot) (hl : lv_has ls 4 [(0, .ref (eA E 27)), (1, .int x1), (3, .int x3)]) : W p l e (kR 1 22) s m args below meth c H locs 0 0 (MQ below (kQi (mP E) (inM E) r σr) args s 0 0 (inM E)) (F0 m 48 ls []) := by
  obtain ⟨-, hx, hb, hml, hown, hts, hK, -, -⟩ := id C
  unfold s_X8_isFirm_48 at h
  refine lv_iconst (v := (0 : Int32)) hx hb dX8_isFirm_48 (by decide) ?_
  exact w_X8_isFirm_49 C F rec4 hrec4 σ x1 x3 (0 : Int32) h H locs hP hS ls hl
def s_X8_isFirm_44 (F : Nat) (rec4 : (kS × Int32 × Int32 × Int32 → Option (Int32 × kS))) (σ : kS) (x1 : Int32) (x3 : Int32) : Option (Int32 × kS) :=
  s_X8_isFirm_49 F rec4 σ x1 x3 (1 : Int32)
set_option maxRecDepth 100000 in
set_option maxHeartbeats 4000000 in
theorem w_X8_isFirm_44 (C : Cx E p s m args meth c cX8_isFirm 4 RX8 (some .boolean)) (F : Nat) (rec4 : (kS × Int32 × Int32 × Int32 → Option (Int32 × kS))) (hrec4 : ∀ (σ : kS) (x1 : Int32) (x2 : Int32) (x3 : Int32), rec4 (σ, x1, x2, x3) = some (r, σr) → ∀ (H : Heap) (locs : List Loc), mP E σ H → va_S (inM E) s.heap H locs → ∀ (ls : Array Slot), lv_has ls 4 [(0, .ref (eA E 27)), (1, .int x1), (2, .int x2), (3, .int x3)] → W p l e (kR 1 22) s m args below meth c H locs 0 0 (MQ below (kQi (mP E) (inM E) r σr) args s 0 0 (inM E)) (F0 m 4 ls [])) (σ : kS) (x1 : Int32) (x3 : Int32) (h : s_X8_isFirm_44 F rec4 σ x1 x3 = some (r, σr)) (H : Heap) (locs : List Loc) (hP : mP E σ H) (hS : va_S (inM E) s.heap H locs) (ls : Array Slot) (hl : lv_has ls 4 [(0, .ref (eA E 27)), (1, .int x1), (3, .int x3)]) : W p l e (kR 1 22) s m args below meth c H locs 0 0 (MQ below (kQi (mP E) (inM E) r σr) args s 0 0 (inM E)) (F0 m 44 ls []) := by
  obtain ⟨-, hx, hb, hml, hown, hts, hK, -, -⟩ := id C
  unfold s_X8_isFirm_44 at h
  refine lv_iconst (v := (1 : Int32)) hx hb dX8_isFirm_44 (by decide) ?_
  refine lv_goto (tgt := 49) hx hb dX8_isFirm_45 (by decide) ?_
  exact w_X8_isFirm_49 C F rec4 hrec4 σ x1 x3 (1 : Int32) h H locs hP hS ls hl
def s_X8_isFirm_4 (F : Nat) (rec4 : (kS × Int32 × Int32 × Int32 → Option (Int32 × kS))) (σ : kS) (x1 : Int32) (x2 : Int32) (x3 : Int32) : Option (Int32 × kS) :=
  (if (kA σ 2 0) ≤ x3 then (if x2 &&& 1 = x2 then some (x2, σ) else none) else (if x2 = 0 then s_X8_isFirm_48 F rec4 σ x1 x3 else (if ((x1 >>> (x3 &&& 31)) &&& (1 : Int32)) = 0 then s_X8_isFirm_44 F rec4 σ x1 x3 else (kb (f_X8_worth F σ x3 (0 : Int32)) fun v_5 σ_6 => (if v_5 < 0 then s_X8_isFirm_48 F rec4 σ_6 x1 x3 else (kb (f_X8_worth F σ_6 x3 (1 : Int32)) fun v_9 σ_10 => (if v_9 < 0 then s_X8_isFirm_48 F rec4 σ_10 x1 x3 else s_X8_isFirm_44 F rec4 σ_10 x1 x3)))))))
set_option maxRecDepth 100000 in
set_option maxHeartbeats 4000000 in
theorem w_X8_isFirm_4 (C : Cx E p s m args meth c cX8_isFirm 4 RX8 (some .boolean)) (F : Nat) (rec4 : (kS × Int32 × Int32 × Int32 → Option (Int32 × kS))) (hrec4 : ∀ (σ : kS) (x1 : Int32) (x2 : Int32) (x3 : Int32), rec4 (σ, x1, x2, x3) = some (r, σr) → ∀ (H : Heap) (locs : List Loc), mP E σ H → va_S (inM E) s.heap H locs → ∀ (ls : Array Slot), lv_has ls 4 [(0, .ref (eA E 27)), (1, .int x1), (2, .int x2), (3, .int x3)] → W p l e (kR 1 22) s m args below meth c H locs 0 0 (MQ below (kQi (mP E) (inM E) r σr) args s 0 0 (inM E)) (F0 m 4 ls [])) (σ : kS) (x1 : Int32) (x2 : Int32) (x3 : Int32) (h : s_X8_isFirm_4 F rec4 σ x1 x2 x3 = some (r, σr)) (H : Heap) (locs : List Loc) (hP : mP E σ H) (hS : va_S (inM E) s.heap H locs) (ls : Array Slot) (hl : lv_has ls 4 [(0, .ref (eA E 27)), (1, .int x1), (2, .int x2), (3, .int x3)]) : W p l e (kR 1 22) s m args below meth c H locs 0 0 (MQ below (kQi (mP E) (inM E) r σr) args s 0 0 (inM E)) (F0 m 4 ls []) := by
  obtain ⟨-, hx, hb, hml, hown, hts, hK, -, -⟩ := id C
  unfold s_X8_isFirm_4 at h
  refine lv_iload_n hx hb dX8_isFirm_4 rfl (lv_at hl 3 rfl) ?_
  refine lv_aload_n hx hb dX8_isFirm_5 rfl (lv_at hl 0 rfl) ?_
  refine gf_27_4 C hP w_679 dX8_isFirm_6 ?_
  refine lv_iconst (v := (0 : Int32)) hx hb dX8_isFirm_9 (by decide) ?_
  refine al_30 C hP (v := (kA σ 2 0)) rfl (by unfold vp_in; decide) dX8_isFirm_10 ?_
  refine lv_icmp_ge (tgt := 56) hx hb dX8_isFirm_11 (by decide) (fun c_1 => ?_) (fun c_1 => ?_)
  · have h := k_t c_1 h
    refine lv_iload_n hx hb dX8_isFirm_56 rfl (lv_at hl 2 rfl) ?_
    obtain ⟨n_2, h⟩ := k_yes h
    obtain ⟨rfl, rfl⟩ := k_inj h
    exact krz C hS hP n_2 dX8_isFirm_57
  · have h := k_f c_1 h
    refine lv_iload_n hx hb dX8_isFirm_14 rfl (lv_at hl 2 rfl) ?_
    refine lv_if_eq (tgt := 48) hx hb dX8_isFirm_15 (by decide) (fun c_3 => ?_) (fun c_3 => ?_)
    · have h := k_t c_3 h
      exact w_X8_isFirm_48 C F rec4 hrec4 σ x1 x3 h H locs hP hS ls (lv_sub hl [0, 1, 3] rfl)
    · have h := k_f c_3 h
      refine lv_iload_n hx hb dX8_isFirm_18 rfl (lv_at hl 1 rfl) ?_
      refine lv_iload_n hx hb dX8_isFirm_19 rfl (lv_at hl 3 rfl) ?_
      refine lv_ishr hx hb dX8_isFirm_20 ?_
      refine lv_iconst (v := (1 : Int32)) hx hb dX8_isFirm_21 (by decide) ?_
      refine lv_iand hx hb dX8_isFirm_22 ?_
      refine lv_if_eq (tgt := 44) hx hb dX8_isFirm_23 (by decide) (fun c_4 => ?_) (fun c_4 => ?_)
      · have h := k_t c_4 h
        exact w_X8_isFirm_44 C F rec4 hrec4 σ x1 x3 h H locs hP hS ls (lv_sub hl [0, 1, 3] rfl)
      · have h := k_f c_4 h
        refine lv_aload_n hx hb dX8_isFirm_26 rfl (lv_at hl 0 rfl) ?_
        refine lv_iload_n hx hb dX8_isFirm_27 rfl (lv_at hl 3 rfl) ?_
        refine lv_iconst (v := (0 : Int32)) hx hb dX8_isFirm_28 (by decide) ?_
        obtain ⟨v_5, σ_6, hc_7, h⟩ := kb_ok h
        refine kci (krunV (As := [.int x3, .int (0 : Int32)]) C hP (c_X8_worth E C.1 F σ x3 (0 : Int32) hc_7) w_875 kv_X8_worth ⟨Nat.le_of_ble_eq_true rfl, Nat.le_of_ble_eq_true rfl⟩ (rc_27 C hP) rfl hl.1 rfl (Nat.le_of_ble_eq_true rfl) dX8_isFirm_29) hS (fun H locs hP hS => ?_)
        refine lv_if_lt (tgt := 48) hx hb dX8_isFirm_32 (by decide) (fun c_8 => ?_) (fun c_8 => ?_)
        · have h := k_t c_8 h
          exact w_X8_isFirm_48 C F rec4 hrec4 σ_6 x1 x3 h H locs hP hS ls (lv_sub hl [0, 1, 3] rfl)
        · have h := k_f c_8 h
          refine lv_aload_n hx hb dX8_isFirm_35 rfl (lv_at hl 0 rfl) ?_
          refine lv_iload_n hx hb dX8_isFirm_36 rfl (lv_at hl 3 rfl) ?_
          refine lv_iconst (v := (1 : Int32)) hx hb dX8_isFirm_37 (by decide) ?_
          obtain ⟨v_9, σ_10, hc_11, h⟩ := kb_ok h
          refine kci (krunV (As := [.int x3, .int (1 : Int32)]) C hP (c_X8_worth E C.1 F σ_6 x3 (1 : Int32) hc_11) w_875 kv_X8_worth ⟨Nat.le_of_ble_eq_true rfl, Nat.le_of_ble_eq_true rfl⟩ (rc_27 C hP) rfl hl.1 rfl (Nat.le_of_ble_eq_true rfl) dX8_isFirm_38) hS (fun H locs hP hS => ?_)
          refine lv_if_lt (tgt := 48) hx hb dX8_isFirm_41 (by decide) (fun c_12 => ?_) (fun c_12 => ?_)
          · have h := k_t c_12 h
            exact w_X8_isFirm_48 C F rec4 hrec4 σ_10 x1 x3 h H locs hP hS ls (lv_sub hl [0, 1, 3] rfl)
          · have h := k_f c_12 h
            exact w_X8_isFirm_44 C F rec4 hrec4 σ_10 x1 x3 h H locs hP hS ls (lv_sub hl [0, 1, 3] rfl)
def f_X8_isFirm_4 (F : Nat) : kS × Int32 × Int32 × Int32 → Option (Int32 × kS) := itr (fun rec4 q => s_X8_isFirm_4 F rec4 q.1 q.2.1 q.2.2.1 q.2.2.2) F
theorem wf_X8_isFirm_4 (C : Cx E p s m args meth c cX8_isFirm 4 RX8 (some .boolean)) (F : Nat) (σ : kS) (x1 : Int32) (x2 : Int32) (x3 : Int32) (h : f_X8_isFirm_4 F (σ, x1, x2, x3) = some (r, σr)) (H : Heap) (locs : List Loc) (hP : mP E σ H) (hS : va_S (inM E) s.heap H locs) (ls : Array Slot) (hl : lv_has ls 4 [(0, .ref (eA E 27)), (1, .int x1), (2, .int x2), (3, .int x3)]) : W p l e (kR 1 22) s m args below meth c H locs 0 0 (MQ below (kQi (mP E) (inM E) r σr) args s 0 0 (inM E)) (F0 m 4 ls []) :=
  itr_ok (r := (r, σr)) (G := fun q => ∀ (H : Heap) (locs : List Loc), mP E q.1 H → va_S (inM E) s.heap H locs → ∀ (ls : Array Slot), lv_has ls 4 [(0, .ref (eA E 27)), (1, .int (q.2.1)), (2, .int (q.2.2.1)), (3, .int (q.2.2.2))] → W p l e (kR 1 22) s m args below meth c H locs 0 0 (MQ below (kQi (mP E) (inM E) r σr) args s 0 0 (inM E)) (F0 m 4 ls [])) (fun rec4 hrec4 q h => w_X8_isFirm_4 C F rec4 (fun σ x1 x2 x3 => hrec4 (σ, x1, x2, x3)) q.1 q.2.1 q.2.2.1 q.2.2.2 h) F (σ, x1, x2, x3) h H locs hP hS ls hl
def s_X8_isFirm_0 (F : Nat) (σ : kS) (x1 : Int32) : Option (Int32 × kS) :=
  f_X8_isFirm_4 F (σ, x1, (1 : Int32), (0 : Int32))
set_option maxRecDepth 100000 in
set_option maxHeartbeats 4000000 in
theorem w_X8_isFirm_0 (C : Cx E p s m args meth c cX8_isFirm 4 RX8 (some .boolean)) (F : Nat) (σ : kS) (x1 : Int32) (h : s_X8_isFirm_0 F σ x1 = some (r, σr)) (H : Heap) (locs : List Loc) (hP : mP E σ H) (hS : va_S (inM E) s.heap H locs) (ls : Array Slot) (hl : lv_has ls 4 [(0, .ref (eA E 27)), (1, .int x1)]) : W p l e (kR 1 22) s m args below meth c H locs 0 0 (MQ below (kQi (mP E) (inM E) r σr) args s 0 0 (inM E)) (F0 m 0 ls []) := by
  obtain ⟨-, hx, hb, hml, hown, hts, hK, -, -⟩ := id C
  unfold s_X8_isFirm_0 at h
  refine lv_iconst (v := (1 : Int32)) hx hb dX8_isFirm_0 (by decide) ?_
  refine lv_istore_n (lv' := [(2, .int (1 : Int32)), (0, .ref (eA E 27)), (1, .int x1)]) hx hb dX8_isFirm_1 rfl hl (by decide) rfl (fun ls hl => ?_)
  refine lv_iconst (v := (0 : Int32)) hx hb dX8_isFirm_2 (by decide) ?_
  refine lv_istore_n (lv' := [(3, .int (0 : Int32)), (2, .int (1 : Int32)), (0, .ref (eA E 27)), (1, .int x1)]) hx hb dX8_isFirm_3 rfl hl (by decide) rfl (fun ls hl => ?_)
  exact wf_X8_isFirm_4 C F σ x1 (1 : Int32) (0 : Int32) h H locs hP hS ls (lv_sub hl [2, 3, 1, 0] rfl)
def f_X8_isFirm (F : Nat) (σ : kS) (x1 : Int32) : Option (Int32 × kS) := s_X8_isFirm_0 F σ x1
set_option maxRecDepth 100000 in
theorem c_X8_isFirm (E : kE) (hE : kap E) (F : Nat) (σ : kS) (x1 : Int32) (h : f_X8_isFirm F σ x1 = some (r, σr)) : Met l yX8_isFirm (kWs yX8_isFirm cX8_isFirm 4 (some .boolean)) (kR 1 22) (kPre (mP E) E [.ref (eA E 27), .int x1] σ) (kQi (mP E) (inM E) r σr) 0 0 (inM E) :=
  kst hE (by decide +kernel) (Nat.le_of_ble_eq_true rfl) (fun p e s m below meth c ls C hP hl => w_X8_isFirm_0 C F σ x1 h s.heap [] hP va_S.rf ls hl)
end

section
variable {p : Program} {l : Launch} {e : Env} {s : State} {m : MethodId} {args : Array Value} {below : List Frame} {meth : Method} {c : Code} {E : kE} {σr : kS}
variable {r : Int32}
def s_X8_firm_0 (F : Nat) (σ : kS) (x1 : Int32) : Option (Int32 × kS) :=
  (kb (f_X8_isSet F σ x1) fun v_1 σ_2 => (if v_1 = 0 then some ((-1 : Int32), σ_2) else (kb (f_X8_isFirm F σ_2 x1) fun v_5 σ_6 => (if v_5 = 0 then some ((0 : Int32), σ_6) else some ((1 : Int32), σ_6)))))
set_option maxRecDepth 100000 in
set_option maxHeartbeats 4000000 in
theorem w_X8_firm_0 (C : Cx E p s m args meth c cX8_firm 2 RX8 (some .int)) (F : Nat) (σ : kS) (x1 : Int32) (h : s_X8_firm_0 F σ x1 = some (r, σr)) (H : Heap) (locs : List Loc) (hP : mP E σ H) (hS : va_S (inM E) s.heap H locs) (ls : Array Slot) (hl : lv_has ls 2 [(0, .ref (eA E 27)), (1, .int x1)]) : W p l e (kR 2 46) s m args below meth c H locs 0 0 (MQ below (kQi (mP E) (inM E) r σr) args s 0 0 (inM E)) (F0 m 0 ls []) := by
  obtain ⟨-, hx, hb, hml, hown, hts, hK, -, -⟩ := id C
  unfold s_X8_firm_0 at h
  refine lv_aload_n hx hb dX8_firm_0 rfl (lv_at hl 0 rfl) ?_
  refine lv_iload_n hx hb dX8_firm_1 rfl (lv_at hl 1 rfl) ?_
  obtain ⟨v_1, σ_2, hc_3, h⟩ := kb_ok h
  refine kci (krunV (As := [.int x1]) C hP (c_X8_isSet E C.1 F σ x1 hc_3) w_895 kv_X8_isSet ⟨Nat.le_of_ble_eq_true rfl, Nat.le_of_ble_eq_true rfl⟩ (rc_27 C hP) rfl hl.1 rfl (Nat.le_of_ble_eq_true rfl) dX8_firm_2) hS (fun H locs hP hS => ?_)
  refine lv_if_ne (tgt := 12) hx hb dX8_firm_5 (by decide) (fun c_4 => ?_) (fun c_4 => ?_)
  · have h := k_f c_4 h
    refine lv_aload_n hx hb dX8_firm_12 rfl (lv_at hl 0 rfl) ?_
    refine lv_iload_n hx hb dX8_firm_13 rfl (lv_at hl 1 rfl) ?_
    obtain ⟨v_5, σ_6, hc_7, h⟩ := kb_ok h
    refine kci (krunV (As := [.int x1]) C hP (c_X8_isFirm E C.1 F σ_2 x1 hc_7) w_899 kv_X8_isFirm ⟨Nat.le_of_ble_eq_true rfl, Nat.le_of_ble_eq_true rfl⟩ (rc_27 C hP) rfl hl.1 rfl (Nat.le_of_ble_eq_true rfl) dX8_firm_14) hS (fun H locs hP hS => ?_)
    refine lv_if_eq (tgt := 24) hx hb dX8_firm_17 (by decide) (fun c_8 => ?_) (fun c_8 => ?_)
    · have h := k_t c_8 h
      refine lv_iconst (v := (0 : Int32)) hx hb dX8_firm_24 (by decide) ?_
      obtain ⟨rfl, rfl⟩ := k_inj h
      exact kri C hS hP dX8_firm_25
    · have h := k_f c_8 h
      refine lv_iconst (v := (1 : Int32)) hx hb dX8_firm_20 (by decide) ?_
      refine lv_goto (tgt := 25) hx hb dX8_firm_21 (by decide) ?_
      obtain ⟨rfl, rfl⟩ := k_inj h
      exact kri C hS hP dX8_firm_25
  · have h := k_t c_4 h
    refine lv_iconst (v := (-1 : Int32)) hx hb dX8_firm_8 (by decide) ?_
    refine lv_goto (tgt := 25) hx hb dX8_firm_9 (by decide) ?_
    obtain ⟨rfl, rfl⟩ := k_inj h
    exact kri C hS hP dX8_firm_25
def f_X8_firm (F : Nat) (σ : kS) (x1 : Int32) : Option (Int32 × kS) := s_X8_firm_0 F σ x1
set_option maxRecDepth 100000 in
theorem c_X8_firm (E : kE) (hE : kap E) (F : Nat) (σ : kS) (x1 : Int32) (h : f_X8_firm F σ x1 = some (r, σr)) : Met l yX8_firm (kWs yX8_firm cX8_firm 2 (some .int)) (kR 2 46) (kPre (mP E) E [.ref (eA E 27), .int x1] σ) (kQi (mP E) (inM E) r σr) 0 0 (inM E) :=
  kst hE (by decide +kernel) (Nat.le_of_ble_eq_true rfl) (fun p e s m below meth c ls C hP hl => w_X8_firm_0 C F σ x1 h s.heap [] hP va_S.rf ls hl)
end

section
variable {p : Program} {l : Launch} {e : Env} {s : State} {m : MethodId} {args : Array Value} {below : List Frame} {meth : Method} {c : Code} {E : kE} {σr : kS}
variable {r : Int32}
def s_X8_together_50 (F : Nat) (rec4 : (kS × Int32 × Int32 × Int32 → Option (Int32 × kS))) (σ : kS) (x1 : Int32) (x3 : Int32) (y0 : Int32) (y1 : Int32) : Option (Int32 × kS) :=
  rec4 (σ, x1, (y1 + y0), (x3 + (1 : Int32)))
set_option maxRecDepth 100000 in
set_option maxHeartbeats 4000000 in
theorem w_X8_together_50 (C : Cx E p s m args meth c cX8_together 4 RX8 (some .int)) (F : Nat) (rec4 : (kS × Int32 × Int32 × Int32 → Option (Int32 × kS))) (hrec4 : ∀ (σ : kS) (x1 : Int32) (x2 : Int32) (x3 : Int32), rec4 (σ, x1, x2, x3) = some (r, σr) → ∀ (H : Heap) (locs : List Loc), mP E σ H → va_S (inM E) s.heap H locs → ∀ (ls : Array Slot), lv_has ls 4 [(0, .ref (eA E 27)), (1, .int x1), (2, .int x2), (3, .int x3)] → W p l e (kR 1 22) s m args below meth c H locs 0 0 (MQ below (kQi (mP E) (inM E) r σr) args s 0 0 (inM E)) (F0 m 4 ls [])) (σ : kS) (x1 : Int32) (x3 : Int32) (y0 : Int32) (y1 : Int32) (h : s_X8_together_50 F rec4 σ x1 x3 y0 y1 = some (r, σr)) (H : Heap) (locs : List Loc) (hP : mP E σ H) (hS : va_S (inM E) s.heap H locs) (ls : Array Slot) (hl : lv_has ls 4 [(0, .ref (eA E 27)), (1, .int x1), (3, .int x3)]) : W p l e (kR 1 22) s m args below meth c H locs 0 0 (MQ below (kQi (mP E) (inM E) r σr) args s 0 0 (inM E)) (F0 m 50 ls [.int y0, .int y1]) := by
  obtain ⟨-, hx, hb, hml, hown, hts, hK, -, -⟩ := id C
  unfold s_X8_together_50 at h
  refine lv_iadd hx hb dX8_together_50 ?_
  refine lv_istore_n (lv' := [(2, .int (y1 + y0)), (0, .ref (eA E 27)), (1, .int x1), (3, .int x3)]) hx hb dX8_together_51 rfl hl (by decide) rfl (fun ls hl => ?_)
  refine lv_iinc (v := (x3 + (1 : Int32))) (lv' := [(3, .int (x3 + (1 : Int32))), (2, .int (y1 + y0)), (0, .ref (eA E 27)), (1, .int x1)]) hx hb dX8_together_52 hl (k := 3) rfl rfl (by decide) rfl (fun ls hl => ?_)
  refine lv_goto (tgt := 4) hx hb dX8_together_55 (by decide) ?_
  exact hrec4 σ x1 (y1 + y0) (x3 + (1 : Int32)) h H locs hP hS ls (lv_sub hl [2, 3, 1, 0] rfl)
def s_X8_together_33 (F : Nat) (rec4 : (kS × Int32 × Int32 × Int32 → Option (Int32 × kS))) (σ : kS) (x1 : Int32) (x3 : Int32) (y0 : Int32) : Option (Int32 × kS) :=
  (kb (f_X8_worth F σ x3 (0 : Int32)) fun v_1 σ_2 => (kb (f_X8_worth F σ_2 x3 (1 : Int32)) fun v_4 σ_5 => s_X8_together_50 F rec4 σ_5 x1 x3 (v_1 + v_4) y0))
set_option maxRecDepth 100000 in
set_option maxHeartbeats 4000000 in
theorem w_X8_together_33 (C : Cx E p s m args meth c cX8_together 4 RX8 (some .int)) (F : Nat) (rec4 : (kS × Int32 × Int32 × Int32 → Option (Int32 × kS))) (hrec4 : ∀ (σ : kS) (x1 : Int32) (x2 : Int32) (x3 : Int32), rec4 (σ, x1, x2, x3) = some (r, σr) → ∀ (H : Heap) (locs : List Loc), mP E σ H → va_S (inM E) s.heap H locs → ∀ (ls : Array Slot), lv_has ls 4 [(0, .ref (eA E 27)), (1, .int x1), (2, .int x2), (3, .int x3)] → W p l e (kR 1 22) s m args below meth c H locs 0 0 (MQ below (kQi (mP E) (inM E) r σr) args s 0 0 (inM E)) (F0 m 4 ls [])) (σ : kS) (x1 : Int32) (x3 : Int32) (y0 : Int32) (h : s_X8_together_33 F rec4 σ x1 x3 y0 = some (r, σr)) (H : Heap) (locs : List Loc) (hP : mP E σ H) (hS : va_S (inM E) s.heap H locs) (ls : Array Slot) (hl : lv_has ls 4 [(0, .ref (eA E 27)), (1, .int x1), (3, .int x3)]) : W p l e (kR 1 22) s m args below meth c H locs 0 0 (MQ below (kQi (mP E) (inM E) r σr) args s 0 0 (inM E)) (F0 m 33 ls [.int y0]) := by
  obtain ⟨-, hx, hb, hml, hown, hts, hK, -, -⟩ := id C
  unfold s_X8_together_33 at h
  refine lv_aload_n hx hb dX8_together_33 rfl (lv_at hl 0 rfl) ?_
  refine lv_iload_n hx hb dX8_together_34 rfl (lv_at hl 2 rfl) ?_
  refine lv_iconst (v := (0 : Int32)) hx hb dX8_together_35 (by decide) ?_
  obtain ⟨v_1, σ_2, hc_3, h⟩ := kb_ok h
  refine kci (krunV (As := [.int x3, .int (0 : Int32)]) C hP (c_X8_worth E C.1 F σ x3 (0 : Int32) hc_3) w_875 kv_X8_worth ⟨Nat.le_of_ble_eq_true rfl, Nat.le_of_ble_eq_true rfl⟩ (rc_27 C hP) rfl hl.1 rfl (Nat.le_of_ble_eq_true rfl) dX8_together_36) hS (fun H locs hP hS => ?_)
  refine lv_aload_n hx hb dX8_together_39 rfl (lv_at hl 0 rfl) ?_
  refine lv_iload_n hx hb dX8_together_40 rfl (lv_at hl 2 rfl) ?_
  refine lv_iconst (v := (1 : Int32)) hx hb dX8_together_41 (by decide) ?_
  obtain ⟨v_4, σ_5, hc_6, h⟩ := kb_ok h
  refine kci (krunV (As := [.int x3, .int (1 : Int32)]) C hP (c_X8_worth E C.1 F σ_2 x3 (1 : Int32) hc_6) w_875 kv_X8_worth ⟨Nat.le_of_ble_eq_true rfl, Nat.le_of_ble_eq_true rfl⟩ (rc_27 C hP) rfl hl.1 rfl (Nat.le_of_ble_eq_true rfl) dX8_together_42) hS (fun H locs hP hS => ?_)
  refine lv_iadd hx hb dX8_together_45 ?_
  refine lv_goto (tgt := 50) hx hb dX8_together_46 (by decide) ?_
  exact w_X8_together_50 C F rec4 hrec4 σ_5 x1 x3 (v_1 + v_4) y0 h H locs hP hS ls hl
def s_X8_together_4 (F : Nat) (rec4 : (kS × Int32 × Int32 × Int32 → Option (Int32 × kS))) (σ : kS) (x1 : Int32) (x2 : Int32) (x3 : Int32) : Option (Int32 × kS) :=
  (if (kA σ 2 0) ≤ x3 then some (x2, σ) else (if ((x1 >>> (x3 &&& 31)) &&& (1 : Int32)) = (1 : Int32) then s_X8_together_33 F rec4 σ x1 x3 x2 else (if x3 < 0 ∨ 18 ≤ x3.toNatClampNeg then none else (if (kA σ 4 x3.toNatClampNeg) ≤ 0 then s_X8_together_50 F rec4 σ x1 x3 (0 : Int32) x2 else s_X8_together_33 F rec4 σ x1 x3 x2))))
set_option maxRecDepth 100000 in
set_option maxHeartbeats 4000000 in
theorem w_X8_together_4 (C : Cx E p s m args meth c cX8_together 4 RX8 (some .int)) (F : Nat) (rec4 : (kS × Int32 × Int32 × Int32 → Option (Int32 × kS))) (hrec4 : ∀ (σ : kS) (x1 : Int32) (x2 : Int32) (x3 : Int32), rec4 (σ, x1, x2, x3) = some (r, σr) → ∀ (H : Heap) (locs : List Loc), mP E σ H → va_S (inM E) s.heap H locs → ∀ (ls : Array Slot), lv_has ls 4 [(0, .ref (eA E 27)), (1, .int x1), (2, .int x2), (3, .int x3)] → W p l e (kR 1 22) s m args below meth c H locs 0 0 (MQ below (kQi (mP E) (inM E) r σr) args s 0 0 (inM E)) (F0 m 4 ls [])) (σ : kS) (x1 : Int32) (x2 : Int32) (x3 : Int32) (h : s_X8_together_4 F rec4 σ x1 x2 x3 = some (r, σr)) (H : Heap) (locs : List Loc) (hP : mP E σ H) (hS : va_S (inM E) s.heap H locs) (ls : Array Slot) (hl : lv_has ls 4 [(0, .ref (eA E 27)), (1, .int x1), (2, .int x2), (3, .int x3)]) : W p l e (kR 1 22) s m args below meth c H locs 0 0 (MQ below (kQi (mP E) (inM E) r σr) args s 0 0 (inM E)) (F0 m 4 ls []) := by
  obtain ⟨-, hx, hb, hml, hown, hts, hK, -, -⟩ := id C
  unfold s_X8_together_4 at h
  refine lv_iload_n hx hb dX8_together_4 rfl (lv_at hl 3 rfl) ?_
  refine lv_aload_n hx hb dX8_together_5 rfl (lv_at hl 0 rfl) ?_
  refine gf_27_4 C hP w_679 dX8_together_6 ?_
  refine lv_iconst (v := (0 : Int32)) hx hb dX8_together_9 (by decide) ?_
  refine al_30 C hP (v := (kA σ 2 0)) rfl (by unfold vp_in; decide) dX8_together_10 ?_
  refine lv_icmp_ge (tgt := 58) hx hb dX8_together_11 (by decide) (fun c_1 => ?_) (fun c_1 => ?_)
  · have h := k_t c_1 h
    refine lv_iload_n hx hb dX8_together_58 rfl (lv_at hl 2 rfl) ?_
    obtain ⟨rfl, rfl⟩ := k_inj h
    exact kri C hS hP dX8_together_59
  · have h := k_f c_1 h
    refine lv_iload_n hx hb dX8_together_14 rfl (lv_at hl 2 rfl) ?_
    refine lv_iload_n hx hb dX8_together_15 rfl (lv_at hl 1 rfl) ?_
    refine lv_iload_n hx hb dX8_together_16 rfl (lv_at hl 3 rfl) ?_
    refine lv_ishr hx hb dX8_together_17 ?_
    refine lv_iconst (v := (1 : Int32)) hx hb dX8_together_18 (by decide) ?_
    refine lv_iand hx hb dX8_together_19 ?_
    refine lv_iconst (v := (1 : Int32)) hx hb dX8_together_20 (by decide) ?_
    refine lv_icmp_eq (tgt := 33) hx hb dX8_together_21 (by decide) (fun c_2 => ?_) (fun c_2 => ?_)
    · have h := k_t c_2 h
      exact w_X8_together_33 C F rec4 hrec4 σ x1 x3 x2 h H locs hP hS ls (lv_sub hl [0, 1, 3] rfl)
    · have h := k_f c_2 h
      refine lv_aload_n hx hb dX8_together_24 rfl (lv_at hl 0 rfl) ?_
      refine gf_27_6 C hP w_681 dX8_together_25 ?_
      refine lv_iload_n hx hb dX8_together_28 rfl (lv_at hl 3 rfl) ?_
      obtain ⟨n_3, h⟩ := k_no h
      refine al_32 C hP (v := (kA σ 4 x3.toNatClampNeg)) rfl n_3 dX8_together_29 ?_
      refine lv_if_le (tgt := 49) hx hb dX8_together_30 (by decide) (fun c_4 => ?_) (fun c_4 => ?_)
      · have h := k_t c_4 h
        refine lv_iconst (v := (0 : Int32)) hx hb dX8_together_49 (by decide) ?_
        exact w_X8_together_50 C F rec4 hrec4 σ x1 x3 (0 : Int32) x2 h H locs hP hS ls (lv_sub hl [0, 1, 3] rfl)
      · have h := k_f c_4 h
        exact w_X8_together_33 C F rec4 hrec4 σ x1 x3 x2 h H locs hP hS ls (lv_sub hl [0, 1, 3] rfl)
def f_X8_together_4 (F : Nat) : kS × Int32 × Int32 × Int32 → Option (Int32 × kS) := itr (fun rec4 q => s_X8_together_4 F rec4 q.1 q.2.1 q.2.2.1 q.2.2.2) F
theorem wf_X8_together_4 (C : Cx E p s m args meth c cX8_together 4 RX8 (some .int)) (F : Nat) (σ : kS) (x1 : Int32) (x2 : Int32) (x3 : Int32) (h : f_X8_together_4 F (σ, x1, x2, x3) = some (r, σr)) (H : Heap) (locs : List Loc) (hP : mP E σ H) (hS : va_S (inM E) s.heap H locs) (ls : Array Slot) (hl : lv_has ls 4 [(0, .ref (eA E 27)), (1, .int x1), (2, .int x2), (3, .int x3)]) : W p l e (kR 1 22) s m args below meth c H locs 0 0 (MQ below (kQi (mP E) (inM E) r σr) args s 0 0 (inM E)) (F0 m 4 ls []) :=
  itr_ok (r := (r, σr)) (G := fun q => ∀ (H : Heap) (locs : List Loc), mP E q.1 H → va_S (inM E) s.heap H locs → ∀ (ls : Array Slot), lv_has ls 4 [(0, .ref (eA E 27)), (1, .int (q.2.1)), (2, .int (q.2.2.1)), (3, .int (q.2.2.2))] → W p l e (kR 1 22) s m args below meth c H locs 0 0 (MQ below (kQi (mP E) (inM E) r σr) args s 0 0 (inM E)) (F0 m 4 ls [])) (fun rec4 hrec4 q h => w_X8_together_4 C F rec4 (fun σ x1 x2 x3 => hrec4 (σ, x1, x2, x3)) q.1 q.2.1 q.2.2.1 q.2.2.2 h) F (σ, x1, x2, x3) h H locs hP hS ls hl
def s_X8_together_0 (F : Nat) (σ : kS) (x1 : Int32) : Option (Int32 × kS) :=
  f_X8_together_4 F (σ, x1, (0 : Int32), (0 : Int32))
set_option maxRecDepth 100000 in
set_option maxHeartbeats 4000000 in
theorem w_X8_together_0 (C : Cx E p s m args meth c cX8_together 4 RX8 (some .int)) (F : Nat) (σ : kS) (x1 : Int32) (h : s_X8_together_0 F σ x1 = some (r, σr)) (H : Heap) (locs : List Loc) (hP : mP E σ H) (hS : va_S (inM E) s.heap H locs) (ls : Array Slot) (hl : lv_has ls 4 [(0, .ref (eA E 27)), (1, .int x1)]) : W p l e (kR 1 22) s m args below meth c H locs 0 0 (MQ below (kQi (mP E) (inM E) r σr) args s 0 0 (inM E)) (F0 m 0 ls []) := by
  obtain ⟨-, hx, hb, hml, hown, hts, hK, -, -⟩ := id C
  unfold s_X8_together_0 at h
  refine lv_iconst (v := (0 : Int32)) hx hb dX8_together_0 (by decide) ?_
  refine lv_istore_n (lv' := [(2, .int (0 : Int32)), (0, .ref (eA E 27)), (1, .int x1)]) hx hb dX8_together_1 rfl hl (by decide) rfl (fun ls hl => ?_)
  refine lv_iconst (v := (0 : Int32)) hx hb dX8_together_2 (by decide) ?_
  refine lv_istore_n (lv' := [(3, .int (0 : Int32)), (2, .int (0 : Int32)), (0, .ref (eA E 27)), (1, .int x1)]) hx hb dX8_together_3 rfl hl (by decide) rfl (fun ls hl => ?_)
  exact wf_X8_together_4 C F σ x1 (0 : Int32) (0 : Int32) h H locs hP hS ls (lv_sub hl [2, 3, 1, 0] rfl)
def f_X8_together (F : Nat) (σ : kS) (x1 : Int32) : Option (Int32 × kS) := s_X8_together_0 F σ x1
set_option maxRecDepth 100000 in
theorem c_X8_together (E : kE) (hE : kap E) (F : Nat) (σ : kS) (x1 : Int32) (h : f_X8_together F σ x1 = some (r, σr)) : Met l yX8_together (kWs yX8_together cX8_together 4 (some .int)) (kR 1 22) (kPre (mP E) E [.ref (eA E 27), .int x1] σ) (kQi (mP E) (inM E) r σr) 0 0 (inM E) :=
  kst hE (by decide +kernel) (Nat.le_of_ble_eq_true rfl) (fun p e s m below meth c ls C hP hl => w_X8_together_0 C F σ x1 h s.heap [] hP va_S.rf ls hl)
end

section
variable {p : Program} {l : Launch} {e : Env} {s : State} {m : MethodId} {args : Array Value} {below : List Frame} {meth : Method} {c : Code} {E : kE} {σr : kS}
variable {r : Int32}
def s_X8_treaty_65 (F : Nat) (rec23 : (kS × Int32 × Int32 × Int32 × Int32 → Option (Int32 × kS))) (σ : kS) (x1 : Int32) (x2 : Int32) (x3 : Int32) (x4 : Int32) : Option (Int32 × kS) :=
  rec23 (σ, x1, x2, x3, (x4 + (1 : Int32)))
set_option maxRecDepth 100000 in
set_option maxHeartbeats 4000000 in
theorem w_X8_treaty_65 (C : Cx E p s m args meth c cX8_treaty 5 RX8 (some .int)) (F : Nat) (rec23 : (kS × Int32 × Int32 × Int32 × Int32 → Option (Int32 × kS))) (hrec23 : ∀ (σ : kS) (x1 : Int32) (x2 : Int32) (x3 : Int32) (x4 : Int32), rec23 (σ, x1, x2, x3, x4) = some (r, σr) → ∀ (H : Heap) (locs : List Loc), mP E σ H → va_S (inM E) s.heap H locs → ∀ (ls : Array Slot), lv_has ls 5 [(0, .ref (eA E 27)), (1, .int x1), (2, .int x2), (3, .int x3), (4, .int x4)] → W p l e (kR 2 45) s m args below meth c H locs 0 0 (MQ below (kQi (mP E) (inM E) r σr) args s 0 0 (inM E)) (F0 m 23 ls [])) (σ : kS) (x1 : Int32) (x2 : Int32) (x3 : Int32) (x4 : Int32) (h : s_X8_treaty_65 F rec23 σ x1 x2 x3 x4 = some (r, σr)) (H : Heap) (locs : List Loc) (hP : mP E σ H) (hS : va_S (inM E) s.heap H locs) (ls : Array Slot) (hl : lv_has ls 5 [(0, .ref (eA E 27)), (1, .int x1), (2, .int x2), (3, .int x3), (4, .int x4)]) : W p l e (kR 2 45) s m args below meth c H locs 0 0 (MQ below (kQi (mP E) (inM E) r σr) args s 0 0 (inM E)) (F0 m 65 ls []) := by
  obtain ⟨-, hx, hb, hml, hown, hts, hK, -, -⟩ := id C
  unfold s_X8_treaty_65 at h
  refine lv_iinc (v := (x4 + (1 : Int32))) (lv' := [(4, .int (x4 + (1 : Int32))), (0, .ref (eA E 27)), (1, .int x1), (2, .int x2), (3, .int x3)]) hx hb dX8_treaty_65 hl (k := 4) rfl rfl (by decide) rfl (fun ls hl => ?_)
  refine lv_goto (tgt := 23) hx hb dX8_treaty_68 (by decide) ?_
  exact hrec23 σ x1 x2 x3 (x4 + (1 : Int32)) h H locs hP hS ls (lv_sub hl [1, 2, 3, 4, 0] rfl)
def s_X8_treaty_23 (F : Nat) (rec23 : (kS × Int32 × Int32 × Int32 × Int32 → Option (Int32 × kS))) (σ : kS) (x1 : Int32) (x2 : Int32) (x3 : Int32) (x4 : Int32) : Option (Int32 × kS) :=
  (if ((1 : Int32) <<< ((kA σ 2 0) &&& 31)) ≤ x4 then (if x1 = 0 then some (x2, σ) else some ((x3 + (2000 : Int32)), σ)) else (kb (f_X8_isFirm F σ x4) fun v_3 σ_4 => (if v_3 = 0 then s_X8_treaty_65 F rec23 σ_4 x1 x2 x3 x4 else (kb (f_X8_together F σ_4 x4) fun v_7 σ_8 => (if v_7 ≤ x3 then s_X8_treaty_65 F rec23 σ_8 x1 x2 x3 x4 else (kb (f_X8_together F σ_8 x4) fun v_11 σ_12 => s_X8_treaty_65 F rec23 σ_12 x1 x4 v_11 x4))))))
set_option maxRecDepth 100000 in
set_option maxHeartbeats 4000000 in
theorem w_X8_treaty_23 (C : Cx E p s m args meth c cX8_treaty 5 RX8 (some .int)) (F : Nat) (rec23 : (kS × Int32 × Int32 × Int32 × Int32 → Option (Int32 × kS))) (hrec23 : ∀ (σ : kS) (x1 : Int32) (x2 : Int32) (x3 : Int32) (x4 : Int32), rec23 (σ, x1, x2, x3, x4) = some (r, σr) → ∀ (H : Heap) (locs : List Loc), mP E σ H → va_S (inM E) s.heap H locs → ∀ (ls : Array Slot), lv_has ls 5 [(0, .ref (eA E 27)), (1, .int x1), (2, .int x2), (3, .int x3), (4, .int x4)] → W p l e (kR 2 45) s m args below meth c H locs 0 0 (MQ below (kQi (mP E) (inM E) r σr) args s 0 0 (inM E)) (F0 m 23 ls [])) (σ : kS) (x1 : Int32) (x2 : Int32) (x3 : Int32) (x4 : Int32) (h : s_X8_treaty_23 F rec23 σ x1 x2 x3 x4 = some (r, σr)) (H : Heap) (locs : List Loc) (hP : mP E σ H) (hS : va_S (inM E) s.heap H locs) (ls : Array Slot) (hl : lv_has ls 5 [(0, .ref (eA E 27)), (1, .int x1), (2, .int x2), (3, .int x3), (4, .int x4)]) : W p l e (kR 2 45) s m args below meth c H locs 0 0 (MQ below (kQi (mP E) (inM E) r σr) args s 0 0 (inM E)) (F0 m 23 ls []) := by
  obtain ⟨-, hx, hb, hml, hown, hts, hK, -, -⟩ := id C
  unfold s_X8_treaty_23 at h
  refine lv_iload hx hb dX8_treaty_23 (lv_at hl 4 rfl) ?_
  refine lv_iconst (v := (1 : Int32)) hx hb dX8_treaty_25 (by decide) ?_
  refine lv_aload_n hx hb dX8_treaty_26 rfl (lv_at hl 0 rfl) ?_
  refine gf_27_4 C hP w_679 dX8_treaty_27 ?_
  refine lv_iconst (v := (0 : Int32)) hx hb dX8_treaty_30 (by decide) ?_
  refine al_30 C hP (v := (kA σ 2 0)) rfl (by unfold vp_in; decide) dX8_treaty_31 ?_
  refine lv_ishl hx hb dX8_treaty_32 ?_
  refine lv_icmp_ge (tgt := 71) hx hb dX8_treaty_33 (by decide) (fun c_1 => ?_) (fun c_1 => ?_)
  · have h := k_t c_1 h
    refine lv_iload_n hx hb dX8_treaty_71 rfl (lv_at hl 1 rfl) ?_
    refine lv_if_ne (tgt := 79) hx hb dX8_treaty_72 (by decide) (fun c_2 => ?_) (fun c_2 => ?_)
    · have h := k_f c_2 h
      refine lv_iload_n hx hb dX8_treaty_79 rfl (lv_at hl 3 rfl) ?_
      refine lv_sipush (v := (2000 : Int32)) hx hb dX8_treaty_80 (by decide) ?_
      refine lv_iadd hx hb dX8_treaty_83 ?_
      obtain ⟨rfl, rfl⟩ := k_inj h
      exact kri C hS hP dX8_treaty_84
    · have h := k_t c_2 h
      refine lv_iload_n hx hb dX8_treaty_75 rfl (lv_at hl 2 rfl) ?_
      refine lv_goto (tgt := 84) hx hb dX8_treaty_76 (by decide) ?_
      obtain ⟨rfl, rfl⟩ := k_inj h
      exact kri C hS hP dX8_treaty_84
  · have h := k_f c_1 h
    refine lv_aload_n hx hb dX8_treaty_36 rfl (lv_at hl 0 rfl) ?_
    refine lv_iload hx hb dX8_treaty_37 (lv_at hl 4 rfl) ?_
    obtain ⟨v_3, σ_4, hc_5, h⟩ := kb_ok h
    refine kci (krunV (As := [.int x4]) C hP (c_X8_isFirm E C.1 F σ x4 hc_5) w_899 kv_X8_isFirm ⟨Nat.le_of_ble_eq_true rfl, Nat.le_of_ble_eq_true rfl⟩ (rc_27 C hP) rfl hl.1 rfl (Nat.le_of_ble_eq_true rfl) dX8_treaty_39) hS (fun H locs hP hS => ?_)
    refine lv_if_eq (tgt := 65) hx hb dX8_treaty_42 (by decide) (fun c_6 => ?_) (fun c_6 => ?_)
    · have h := k_t c_6 h
      exact w_X8_treaty_65 C F rec23 hrec23 σ_4 x1 x2 x3 x4 h H locs hP hS ls hl
    · have h := k_f c_6 h
      refine lv_aload_n hx hb dX8_treaty_45 rfl (lv_at hl 0 rfl) ?_
      refine lv_iload hx hb dX8_treaty_46 (lv_at hl 4 rfl) ?_
      obtain ⟨v_7, σ_8, hc_9, h⟩ := kb_ok h
      refine kci (krunV (As := [.int x4]) C hP (c_X8_together E C.1 F σ_4 x4 hc_9) w_907 kv_X8_together ⟨Nat.le_of_ble_eq_true rfl, Nat.le_of_ble_eq_true rfl⟩ (rc_27 C hP) rfl hl.1 rfl (Nat.le_of_ble_eq_true rfl) dX8_treaty_48) hS (fun H locs hP hS => ?_)
      refine lv_iload_n hx hb dX8_treaty_51 rfl (lv_at hl 3 rfl) ?_
      refine lv_icmp_le (tgt := 65) hx hb dX8_treaty_52 (by decide) (fun c_10 => ?_) (fun c_10 => ?_)
      · have h := k_t c_10 h
        exact w_X8_treaty_65 C F rec23 hrec23 σ_8 x1 x2 x3 x4 h H locs hP hS ls hl
      · have h := k_f c_10 h
        refine lv_iload hx hb dX8_treaty_55 (lv_at hl 4 rfl) ?_
        refine lv_istore_n (lv' := [(2, .int x4), (0, .ref (eA E 27)), (1, .int x1), (3, .int x3), (4, .int x4)]) hx hb dX8_treaty_57 rfl hl (by decide) rfl (fun ls hl => ?_)
        refine lv_aload_n hx hb dX8_treaty_58 rfl (lv_at hl 1 rfl) ?_
        refine lv_iload hx hb dX8_treaty_59 (lv_at hl 4 rfl) ?_
        obtain ⟨v_11, σ_12, hc_13, h⟩ := kb_ok h
        refine kci (krunV (As := [.int x4]) C hP (c_X8_together E C.1 F σ_8 x4 hc_13) w_907 kv_X8_together ⟨Nat.le_of_ble_eq_true rfl, Nat.le_of_ble_eq_true rfl⟩ (rc_27 C hP) rfl hl.1 rfl (Nat.le_of_ble_eq_true rfl) dX8_treaty_61) hS (fun H locs hP hS => ?_)
        refine lv_istore_n (lv' := [(3, .int v_11), (2, .int x4), (0, .ref (eA E 27)), (1, .int x1), (4, .int x4)]) hx hb dX8_treaty_64 rfl hl (by decide) rfl (fun ls hl => ?_)
        exact w_X8_treaty_65 C F rec23 hrec23 σ_12 x1 x4 v_11 x4 h H locs hP hS ls (lv_sub hl [2, 3, 1, 0, 4] rfl)
def f_X8_treaty_23 (F : Nat) : kS × Int32 × Int32 × Int32 × Int32 → Option (Int32 × kS) := itr (fun rec23 q => s_X8_treaty_23 F rec23 q.1 q.2.1 q.2.2.1 q.2.2.2.1 q.2.2.2.2) F
theorem wf_X8_treaty_23 (C : Cx E p s m args meth c cX8_treaty 5 RX8 (some .int)) (F : Nat) (σ : kS) (x1 : Int32) (x2 : Int32) (x3 : Int32) (x4 : Int32) (h : f_X8_treaty_23 F (σ, x1, x2, x3, x4) = some (r, σr)) (H : Heap) (locs : List Loc) (hP : mP E σ H) (hS : va_S (inM E) s.heap H locs) (ls : Array Slot) (hl : lv_has ls 5 [(0, .ref (eA E 27)), (1, .int x1), (2, .int x2), (3, .int x3), (4, .int x4)]) : W p l e (kR 2 45) s m args below meth c H locs 0 0 (MQ below (kQi (mP E) (inM E) r σr) args s 0 0 (inM E)) (F0 m 23 ls []) :=
  itr_ok (r := (r, σr)) (G := fun q => ∀ (H : Heap) (locs : List Loc), mP E q.1 H → va_S (inM E) s.heap H locs → ∀ (ls : Array Slot), lv_has ls 5 [(0, .ref (eA E 27)), (1, .int (q.2.1)), (2, .int (q.2.2.1)), (3, .int (q.2.2.2.1)), (4, .int (q.2.2.2.2))] → W p l e (kR 2 45) s m args below meth c H locs 0 0 (MQ below (kQi (mP E) (inM E) r σr) args s 0 0 (inM E)) (F0 m 23 ls [])) (fun rec23 hrec23 q h => w_X8_treaty_23 C F rec23 (fun σ x1 x2 x3 x4 => hrec23 (σ, x1, x2, x3, x4)) q.1 q.2.1 q.2.2.1 q.2.2.2.1 q.2.2.2.2 h) F (σ, x1, x2, x3, x4) h H locs hP hS ls hl
def s_X8_treaty_0 (F : Nat) (σ : kS) (x1 : Int32) : Option (Int32 × kS) :=
  (kb (f_X8_in F σ x1.toInt64 (0 : Int64) (1 : Int64)) fun v_1 σ_2 => (if v_1 = 0 then some ((-1 : Int32), σ_2) else (kb (f_X8_together F σ_2 (0 : Int32)) fun v_5 σ_6 => f_X8_treaty_23 F (σ_6, x1, (0 : Int32), v_5, (1 : Int32)))))
set_option maxRecDepth 100000 in
set_option maxHeartbeats 4000000 in
theorem w_X8_treaty_0 (C : Cx E p s m args meth c cX8_treaty 5 RX8 (some .int)) (F : Nat) (σ : kS) (x1 : Int32) (h : s_X8_treaty_0 F σ x1 = some (r, σr)) (H : Heap) (locs : List Loc) (hP : mP E σ H) (hS : va_S (inM E) s.heap H locs) (ls : Array Slot) (hl : lv_has ls 5 [(0, .ref (eA E 27)), (1, .int x1)]) : W p l e (kR 2 45) s m args below meth c H locs 0 0 (MQ below (kQi (mP E) (inM E) r σr) args s 0 0 (inM E)) (F0 m 0 ls []) := by
  obtain ⟨-, hx, hb, hml, hown, hts, hK, -, -⟩ := id C
  unfold s_X8_treaty_0 at h
  refine lv_iload_n hx hb dX8_treaty_0 rfl (lv_at hl 1 rfl) ?_
  refine lv_i2l (v := x1.toInt64) hx hb dX8_treaty_1 rfl ?_
  refine lv_lconst (v := (0 : Int64)) hx hb dX8_treaty_2 (by decide) ?_
  refine lv_lconst (v := (1 : Int64)) hx hb dX8_treaty_3 (by decide) ?_
  obtain ⟨v_1, σ_2, hc_3, h⟩ := kb_ok h
  refine kci (krunS (As := [.long x1.toInt64, .long (0 : Int64), .long (1 : Int64)]) C hP (c_X8_in E C.1 F σ x1.toInt64 (0 : Int64) (1 : Int64) hc_3) w_735 kt_X8_in ⟨Nat.le_of_ble_eq_true rfl, Nat.le_of_ble_eq_true rfl⟩ rfl hl.1 rfl (Nat.le_of_ble_eq_true rfl) dX8_treaty_4) hS (fun H locs hP hS => ?_)
  refine lv_if_ne (tgt := 12) hx hb dX8_treaty_7 (by decide) (fun c_4 => ?_) (fun c_4 => ?_)
  · have h := k_f c_4 h
    refine lv_iconst (v := (0 : Int32)) hx hb dX8_treaty_12 (by decide) ?_
    refine lv_istore_n (lv' := [(2, .int (0 : Int32)), (0, .ref (eA E 27)), (1, .int x1)]) hx hb dX8_treaty_13 rfl hl (by decide) rfl (fun ls hl => ?_)
    refine lv_aload_n hx hb dX8_treaty_14 rfl (lv_at hl 1 rfl) ?_
    refine lv_iconst (v := (0 : Int32)) hx hb dX8_treaty_15 (by decide) ?_
    obtain ⟨v_5, σ_6, hc_7, h⟩ := kb_ok h
    refine kci (krunV (As := [.int (0 : Int32)]) C hP (c_X8_together E C.1 F σ_2 (0 : Int32) hc_7) w_907 kv_X8_together ⟨Nat.le_of_ble_eq_true rfl, Nat.le_of_ble_eq_true rfl⟩ (rc_27 C hP) rfl hl.1 rfl (Nat.le_of_ble_eq_true rfl) dX8_treaty_16) hS (fun H locs hP hS => ?_)
    refine lv_istore_n (lv' := [(3, .int v_5), (2, .int (0 : Int32)), (0, .ref (eA E 27)), (1, .int x1)]) hx hb dX8_treaty_19 rfl hl (by decide) rfl (fun ls hl => ?_)
    refine lv_iconst (v := (1 : Int32)) hx hb dX8_treaty_20 (by decide) ?_
    refine lv_istore (lv' := [(4, .int (1 : Int32)), (3, .int v_5), (2, .int (0 : Int32)), (0, .ref (eA E 27)), (1, .int x1)]) hx hb dX8_treaty_21 hl (by decide) rfl (fun ls hl => ?_)
    exact wf_X8_treaty_23 C F σ_6 x1 (0 : Int32) v_5 (1 : Int32) h H locs hP hS ls (lv_sub hl [3, 4, 2, 1, 0] rfl)
  · have h := k_t c_4 h
    refine lv_iconst (v := (-1 : Int32)) hx hb dX8_treaty_10 (by decide) ?_
    obtain ⟨rfl, rfl⟩ := k_inj h
    exact kri C hS hP dX8_treaty_11
def f_X8_treaty (F : Nat) (σ : kS) (x1 : Int32) : Option (Int32 × kS) := s_X8_treaty_0 F σ x1
set_option maxRecDepth 100000 in
theorem c_X8_treaty (E : kE) (hE : kap E) (F : Nat) (σ : kS) (x1 : Int32) (h : f_X8_treaty F σ x1 = some (r, σr)) : Met l yX8_treaty (kWs yX8_treaty cX8_treaty 5 (some .int)) (kR 2 45) (kPre (mP E) E [.ref (eA E 27), .int x1] σ) (kQi (mP E) (inM E) r σr) 0 0 (inM E) :=
  kst hE (by decide +kernel) (Nat.le_of_ble_eq_true rfl) (fun p e s m below meth c ls C hP hl => w_X8_treaty_0 C F σ x1 h s.heap [] hP va_S.rf ls hl)
end

section
variable {p : Program} {l : Launch} {e : Env} {s : State} {m : MethodId} {args : Array Value} {below : List Frame} {meth : Method} {c : Code} {E : kE} {σr : kS}
variable {r : Int64}
def s_X8_bargain_28 (F : Nat) (σ : kS) : Option (Int64 × kS) :=
  some ((-1 : Int64), σ)
set_option maxRecDepth 100000 in
set_option maxHeartbeats 4000000 in
theorem w_X8_bargain_28 (C : Cx E p s m args meth c cX8_bargain 7 RX8 (some .long)) (F : Nat) (σ : kS) (h : s_X8_bargain_28 F σ = some (r, σr)) (H : Heap) (locs : List Loc) (hP : mP E σ H) (hS : va_S (inM E) s.heap H locs) (ls : Array Slot) (hl : lv_has ls 7 []) : W p l e (kR 3 80) s m args below meth c H locs 0 0 (MQ below (kQl (mP E) (inM E) r σr) args s 0 0 (inM E)) (F0 m 28 ls []) := by
  obtain ⟨-, hx, hb, hml, hown, hts, hK, -, -⟩ := id C
  unfold s_X8_bargain_28 at h
  refine lv_ldc2 (v := (-1 : Int64)) hx hb hown (hts _ w_813) dX8_bargain_28 ?_
  obtain ⟨rfl, rfl⟩ := k_inj h
  exact krl C hS hP dX8_bargain_31
def s_X8_bargain_69 (F : Nat) (rec35 : (kS × Int32 × Int32 × Int64 × Int64 → Option (Int64 × kS))) (σ : kS) (x1 : Int32) (x2 : Int32) (x3 : Int64) (x5 : Int64) : Option (Int64 × kS) :=
  rec35 (σ, x1, x2, x3, (x5 + (1 : Int64)))
set_option maxRecDepth 100000 in
set_option maxHeartbeats 4000000 in
theorem w_X8_bargain_69 (C : Cx E p s m args meth c cX8_bargain 7 RX8 (some .long)) (F : Nat) (rec35 : (kS × Int32 × Int32 × Int64 × Int64 → Option (Int64 × kS))) (hrec35 : ∀ (σ : kS) (x1 : Int32) (x2 : Int32) (x3 : Int64) (x5 : Int64), rec35 (σ, x1, x2, x3, x5) = some (r, σr) → ∀ (H : Heap) (locs : List Loc), mP E σ H → va_S (inM E) s.heap H locs → ∀ (ls : Array Slot), lv_has ls 7 [(0, .ref (eA E 27)), (1, .int x1), (2, .int x2), (3, .long x3), (5, .long x5)] → W p l e (kR 3 80) s m args below meth c H locs 0 0 (MQ below (kQl (mP E) (inM E) r σr) args s 0 0 (inM E)) (F0 m 35 ls [])) (σ : kS) (x1 : Int32) (x2 : Int32) (x3 : Int64) (x5 : Int64) (h : s_X8_bargain_69 F rec35 σ x1 x2 x3 x5 = some (r, σr)) (H : Heap) (locs : List Loc) (hP : mP E σ H) (hS : va_S (inM E) s.heap H locs) (ls : Array Slot) (hl : lv_has ls 7 [(0, .ref (eA E 27)), (1, .int x1), (2, .int x2), (3, .long x3), (5, .long x5)]) : W p l e (kR 3 80) s m args below meth c H locs 0 0 (MQ below (kQl (mP E) (inM E) r σr) args s 0 0 (inM E)) (F0 m 69 ls []) := by
  obtain ⟨-, hx, hb, hml, hown, hts, hK, -, -⟩ := id C
  unfold s_X8_bargain_69 at h
  refine lv_lload hx hb dX8_bargain_69 (lv_at hl 4 rfl) ?_
  refine lv_lconst (v := (1 : Int64)) hx hb dX8_bargain_71 (by decide) ?_
  refine lv_ladd hx hb dX8_bargain_72 ?_
  refine lv_lstore (lv' := [(5, .long (x5 + (1 : Int64))), (0, .ref (eA E 27)), (1, .int x1), (2, .int x2), (3, .long x3)]) hx hb dX8_bargain_73 hl (by decide) rfl (fun ls hl => ?_)
  refine lv_goto (tgt := 35) hx hb dX8_bargain_75 (by decide) ?_
  exact hrec35 σ x1 x2 x3 (x5 + (1 : Int64)) h H locs hP hS ls (lv_sub hl [1, 2, 3, 4, 0] rfl)
def s_X8_bargain_35 (F : Nat) (rec35 : (kS × Int32 × Int32 × Int64 × Int64 → Option (Int64 × kS))) (σ : kS) (x1 : Int32) (x2 : Int32) (x3 : Int64) (x5 : Int64) : Option (Int64 × kS) :=
  (if 0 < (lg_cmp x5 (x3 + (5000 : Int64))) then some ((-4 : Int64), σ) else (kb (f_X8_isLawful F σ x1 x5) fun v_2 σ_3 => (if v_2 = 0 then s_X8_bargain_69 F rec35 σ_3 x1 x2 x3 x5 else (kb (f_X8_isLawful F σ_3 x2 x5) fun v_6 σ_7 => (if v_6 = 0 then s_X8_bargain_69 F rec35 σ_7 x1 x2 x3 x5 else some (x5, σ_7))))))
set_option maxRecDepth 100000 in
set_option maxHeartbeats 4000000 in
theorem w_X8_bargain_35 (C : Cx E p s m args meth c cX8_bargain 7 RX8 (some .long)) (F : Nat) (rec35 : (kS × Int32 × Int32 × Int64 × Int64 → Option (Int64 × kS))) (hrec35 : ∀ (σ : kS) (x1 : Int32) (x2 : Int32) (x3 : Int64) (x5 : Int64), rec35 (σ, x1, x2, x3, x5) = some (r, σr) → ∀ (H : Heap) (locs : List Loc), mP E σ H → va_S (inM E) s.heap H locs → ∀ (ls : Array Slot), lv_has ls 7 [(0, .ref (eA E 27)), (1, .int x1), (2, .int x2), (3, .long x3), (5, .long x5)] → W p l e (kR 3 80) s m args below meth c H locs 0 0 (MQ below (kQl (mP E) (inM E) r σr) args s 0 0 (inM E)) (F0 m 35 ls [])) (σ : kS) (x1 : Int32) (x2 : Int32) (x3 : Int64) (x5 : Int64) (h : s_X8_bargain_35 F rec35 σ x1 x2 x3 x5 = some (r, σr)) (H : Heap) (locs : List Loc) (hP : mP E σ H) (hS : va_S (inM E) s.heap H locs) (ls : Array Slot) (hl : lv_has ls 7 [(0, .ref (eA E 27)), (1, .int x1), (2, .int x2), (3, .long x3), (5, .long x5)]) : W p l e (kR 3 80) s m args below meth c H locs 0 0 (MQ below (kQl (mP E) (inM E) r σr) args s 0 0 (inM E)) (F0 m 35 ls []) := by
  obtain ⟨-, hx, hb, hml, hown, hts, hK, -, -⟩ := id C
  unfold s_X8_bargain_35 at h
  refine lv_lload hx hb dX8_bargain_35 (lv_at hl 4 rfl) ?_
  refine lv_lload_n hx hb dX8_bargain_37 rfl (lv_at hl 3 rfl) ?_
  refine lv_ldc2 (v := (5000 : Int64)) hx hb hown (hts _ w_840) dX8_bargain_38 ?_
  refine lv_ladd hx hb dX8_bargain_41 ?_
  refine W.lcmp hx hb dX8_bargain_42 ?_
  refine lv_if_gt (tgt := 78) hx hb dX8_bargain_43 (by decide) (fun c_1 => ?_) (fun c_1 => ?_)
  · have h := k_t c_1 h
    refine lv_ldc2 (v := (-4 : Int64)) hx hb hown (hts _ w_815) dX8_bargain_78 ?_
    obtain ⟨rfl, rfl⟩ := k_inj h
    exact krl C hS hP dX8_bargain_81
  · have h := k_f c_1 h
    refine lv_aload_n hx hb dX8_bargain_46 rfl (lv_at hl 0 rfl) ?_
    refine lv_iload_n hx hb dX8_bargain_47 rfl (lv_at hl 1 rfl) ?_
    refine lv_lload hx hb dX8_bargain_48 (lv_at hl 4 rfl) ?_
    obtain ⟨v_2, σ_3, hc_4, h⟩ := kb_ok h
    refine kci (krunV (As := [.int x1, .long x5]) C hP (c_X8_isLawful E C.1 F σ x1 x5 hc_4) w_820 kv_X8_isLawful ⟨Nat.le_of_ble_eq_true rfl, Nat.le_of_ble_eq_true rfl⟩ (rc_27 C hP) rfl hl.1 rfl (Nat.le_of_ble_eq_true rfl) dX8_bargain_50) hS (fun H locs hP hS => ?_)
    refine lv_if_eq (tgt := 69) hx hb dX8_bargain_53 (by decide) (fun c_5 => ?_) (fun c_5 => ?_)
    · have h := k_t c_5 h
      exact w_X8_bargain_69 C F rec35 hrec35 σ_3 x1 x2 x3 x5 h H locs hP hS ls hl
    · have h := k_f c_5 h
      refine lv_aload_n hx hb dX8_bargain_56 rfl (lv_at hl 0 rfl) ?_
      refine lv_iload_n hx hb dX8_bargain_57 rfl (lv_at hl 2 rfl) ?_
      refine lv_lload hx hb dX8_bargain_58 (lv_at hl 4 rfl) ?_
      obtain ⟨v_6, σ_7, hc_8, h⟩ := kb_ok h
      refine kci (krunV (As := [.int x2, .long x5]) C hP (c_X8_isLawful E C.1 F σ_3 x2 x5 hc_8) w_820 kv_X8_isLawful ⟨Nat.le_of_ble_eq_true rfl, Nat.le_of_ble_eq_true rfl⟩ (rc_27 C hP) rfl hl.1 rfl (Nat.le_of_ble_eq_true rfl) dX8_bargain_60) hS (fun H locs hP hS => ?_)
      refine lv_if_eq (tgt := 69) hx hb dX8_bargain_63 (by decide) (fun c_9 => ?_) (fun c_9 => ?_)
      · have h := k_t c_9 h
        exact w_X8_bargain_69 C F rec35 hrec35 σ_7 x1 x2 x3 x5 h H locs hP hS ls hl
      · have h := k_f c_9 h
        refine lv_lload hx hb dX8_bargain_66 (lv_at hl 4 rfl) ?_
        obtain ⟨rfl, rfl⟩ := k_inj h
        exact krl C hS hP dX8_bargain_68
def f_X8_bargain_35 (F : Nat) : kS × Int32 × Int32 × Int64 × Int64 → Option (Int64 × kS) := itr (fun rec35 q => s_X8_bargain_35 F rec35 q.1 q.2.1 q.2.2.1 q.2.2.2.1 q.2.2.2.2) F
theorem wf_X8_bargain_35 (C : Cx E p s m args meth c cX8_bargain 7 RX8 (some .long)) (F : Nat) (σ : kS) (x1 : Int32) (x2 : Int32) (x3 : Int64) (x5 : Int64) (h : f_X8_bargain_35 F (σ, x1, x2, x3, x5) = some (r, σr)) (H : Heap) (locs : List Loc) (hP : mP E σ H) (hS : va_S (inM E) s.heap H locs) (ls : Array Slot) (hl : lv_has ls 7 [(0, .ref (eA E 27)), (1, .int x1), (2, .int x2), (3, .long x3), (5, .long x5)]) : W p l e (kR 3 80) s m args below meth c H locs 0 0 (MQ below (kQl (mP E) (inM E) r σr) args s 0 0 (inM E)) (F0 m 35 ls []) :=
  itr_ok (r := (r, σr)) (G := fun q => ∀ (H : Heap) (locs : List Loc), mP E q.1 H → va_S (inM E) s.heap H locs → ∀ (ls : Array Slot), lv_has ls 7 [(0, .ref (eA E 27)), (1, .int (q.2.1)), (2, .int (q.2.2.1)), (3, .long (q.2.2.2.1)), (5, .long (q.2.2.2.2))] → W p l e (kR 3 80) s m args below meth c H locs 0 0 (MQ below (kQl (mP E) (inM E) r σr) args s 0 0 (inM E)) (F0 m 35 ls [])) (fun rec35 hrec35 q h => w_X8_bargain_35 C F rec35 (fun σ x1 x2 x3 x5 => hrec35 (σ, x1, x2, x3, x5)) q.1 q.2.1 q.2.2.1 q.2.2.2.1 q.2.2.2.2 h) F (σ, x1, x2, x3, x5) h H locs hP hS ls hl
def s_X8_bargain_0 (F : Nat) (σ : kS) (x1 : Int32) (x2 : Int32) (x3 : Int64) : Option (Int64 × kS) :=
  (kb (f_X8_isAct F σ x1) fun v_1 σ_2 => (if v_1 = 0 then s_X8_bargain_28 F σ_2 else (kb (f_X8_isAct F σ_2 x2) fun v_5 σ_6 => (if v_5 = 0 then s_X8_bargain_28 F σ_6 else (if x1 = x2 then s_X8_bargain_28 F σ_6 else (kb (f_X8_isMinute F σ_6 x3) fun v_10 σ_11 => (if v_10 = 0 then s_X8_bargain_28 F σ_11 else f_X8_bargain_35 F (σ_11, x1, x2, x3, x3))))))))
set_option maxRecDepth 100000 in
set_option maxHeartbeats 4000000 in
theorem w_X8_bargain_0 (C : Cx E p s m args meth c cX8_bargain 7 RX8 (some .long)) (F : Nat) (σ : kS) (x1 : Int32) (x2 : Int32) (x3 : Int64) (h : s_X8_bargain_0 F σ x1 x2 x3 = some (r, σr)) (H : Heap) (locs : List Loc) (hP : mP E σ H) (hS : va_S (inM E) s.heap H locs) (ls : Array Slot) (hl : lv_has ls 7 [(0, .ref (eA E 27)), (1, .int x1), (2, .int x2), (3, .long x3)]) : W p l e (kR 3 80) s m args below meth c H locs 0 0 (MQ below (kQl (mP E) (inM E) r σr) args s 0 0 (inM E)) (F0 m 0 ls []) := by
  obtain ⟨-, hx, hb, hml, hown, hts, hK, -, -⟩ := id C
  unfold s_X8_bargain_0 at h
  refine lv_aload_n hx hb dX8_bargain_0 rfl (lv_at hl 0 rfl) ?_
  refine lv_iload_n hx hb dX8_bargain_1 rfl (lv_at hl 1 rfl) ?_
  obtain ⟨v_1, σ_2, hc_3, h⟩ := kb_ok h
  refine kci (krunV (As := [.int x1]) C hP (c_X8_isAct E C.1 F σ x1 hc_3) w_777 kv_X8_isAct ⟨Nat.le_of_ble_eq_true rfl, Nat.le_of_ble_eq_true rfl⟩ (rc_27 C hP) rfl hl.1 rfl (Nat.le_of_ble_eq_true rfl) dX8_bargain_2) hS (fun H locs hP hS => ?_)
  refine lv_if_eq (tgt := 28) hx hb dX8_bargain_5 (by decide) (fun c_4 => ?_) (fun c_4 => ?_)
  · have h := k_t c_4 h
    exact w_X8_bargain_28 C F σ_2 h H locs hP hS ls (lv_sub hl [] rfl)
  · have h := k_f c_4 h
    refine lv_aload_n hx hb dX8_bargain_8 rfl (lv_at hl 0 rfl) ?_
    refine lv_iload_n hx hb dX8_bargain_9 rfl (lv_at hl 2 rfl) ?_
    obtain ⟨v_5, σ_6, hc_7, h⟩ := kb_ok h
    refine kci (krunV (As := [.int x2]) C hP (c_X8_isAct E C.1 F σ_2 x2 hc_7) w_777 kv_X8_isAct ⟨Nat.le_of_ble_eq_true rfl, Nat.le_of_ble_eq_true rfl⟩ (rc_27 C hP) rfl hl.1 rfl (Nat.le_of_ble_eq_true rfl) dX8_bargain_10) hS (fun H locs hP hS => ?_)
    refine lv_if_eq (tgt := 28) hx hb dX8_bargain_13 (by decide) (fun c_8 => ?_) (fun c_8 => ?_)
    · have h := k_t c_8 h
      exact w_X8_bargain_28 C F σ_6 h H locs hP hS ls (lv_sub hl [] rfl)
    · have h := k_f c_8 h
      refine lv_iload_n hx hb dX8_bargain_16 rfl (lv_at hl 1 rfl) ?_
      refine lv_iload_n hx hb dX8_bargain_17 rfl (lv_at hl 2 rfl) ?_
      refine lv_icmp_eq (tgt := 28) hx hb dX8_bargain_18 (by decide) (fun c_9 => ?_) (fun c_9 => ?_)
      · have h := k_t c_9 h
        exact w_X8_bargain_28 C F σ_6 h H locs hP hS ls (lv_sub hl [] rfl)
      · have h := k_f c_9 h
        refine lv_lload_n hx hb dX8_bargain_21 rfl (lv_at hl 3 rfl) ?_
        obtain ⟨v_10, σ_11, hc_12, h⟩ := kb_ok h
        refine kci (krunS (As := [.long x3]) C hP (c_X8_isMinute E C.1 F σ_6 x3 hc_12) w_791 kt_X8_isMinute ⟨Nat.le_of_ble_eq_true rfl, Nat.le_of_ble_eq_true rfl⟩ rfl hl.1 rfl (Nat.le_of_ble_eq_true rfl) dX8_bargain_22) hS (fun H locs hP hS => ?_)
        refine lv_if_ne (tgt := 32) hx hb dX8_bargain_25 (by decide) (fun c_13 => ?_) (fun c_13 => ?_)
        · have h := k_f c_13 h
          refine lv_lload_n hx hb dX8_bargain_32 rfl (lv_at hl 3 rfl) ?_
          refine lv_lstore (lv' := [(5, .long x3), (0, .ref (eA E 27)), (1, .int x1), (2, .int x2), (3, .long x3)]) hx hb dX8_bargain_33 hl (by decide) rfl (fun ls hl => ?_)
          exact wf_X8_bargain_35 C F σ_11 x1 x2 x3 x3 h H locs hP hS ls (lv_sub hl [1, 2, 3, 4, 0] rfl)
        · have h := k_t c_13 h
          exact w_X8_bargain_28 C F σ_11 h H locs hP hS ls (lv_sub hl [] rfl)
def f_X8_bargain (F : Nat) (σ : kS) (x1 : Int32) (x2 : Int32) (x3 : Int64) : Option (Int64 × kS) := s_X8_bargain_0 F σ x1 x2 x3
set_option maxRecDepth 100000 in
theorem c_X8_bargain (E : kE) (hE : kap E) (F : Nat) (σ : kS) (x1 : Int32) (x2 : Int32) (x3 : Int64) (h : f_X8_bargain F σ x1 x2 x3 = some (r, σr)) : Met l yX8_bargain (kWs yX8_bargain cX8_bargain 7 (some .long)) (kR 3 80) (kPre (mP E) E [.ref (eA E 27), .int x1, .int x2, .long x3] σ) (kQl (mP E) (inM E) r σr) 0 0 (inM E) :=
  kst hE (by decide +kernel) (Nat.le_of_ble_eq_true rfl) (fun p e s m below meth c ls C hP hl => w_X8_bargain_0 C F σ x1 x2 x3 h s.heap [] hP va_S.rf ls hl)
end

section
variable {p : Program} {l : Launch} {e : Env} {s : State} {m : MethodId} {args : Array Value} {below : List Frame} {meth : Method} {c : Code} {E : kE} {σr : kS}
variable {r : Int32}
def s_X8_line_0 (F : Nat) (σ : kS) (x1 : Int32) (x2 : Int32) : Option (Int32 × kS) :=
  (kb (f_X8_in F σ x1.toInt64 (0 : Int64) (1000000 : Int64)) fun v_1 σ_2 => (if v_1 = 0 then some ((-1 : Int32), σ_2) else (kb (f_X8_in F σ_2 x2.toInt64 (0 : Int64) (2 : Int64)) fun v_5 σ_6 => (if v_5 = 0 then some ((-1 : Int32), σ_6) else (if (kI σ_6 5) = (10 : Int32) then some ((-3 : Int32), σ_6) else (if ((2 : Int32) * (kI σ_6 5)) < 0 ∨ 20 ≤ ((2 : Int32) * (kI σ_6 5)).toNatClampNeg then none else (if (((2 : Int32) * (kI σ_6 5)) + (1 : Int32)) < 0 ∨ 20 ≤ (((2 : Int32) * (kI σ_6 5)) + (1 : Int32)).toNatClampNeg then none else some (((kI σ_6 5) + (1 : Int32)), (jI (jA (jA σ_6 7 ((2 : Int32) * (kI σ_6 5)).toNatClampNeg x1) 7 (((2 : Int32) * (kI σ_6 5)) + (1 : Int32)).toNatClampNeg x2) 5 ((kI σ_6 5) + (1 : Int32)))))))))))
set_option maxRecDepth 100000 in
set_option maxHeartbeats 4000000 in
theorem w_X8_line_0 (C : Cx E p s m args meth c cX8_line 3 RX8 (some .int)) (F : Nat) (σ : kS) (x1 : Int32) (x2 : Int32) (h : s_X8_line_0 F σ x1 x2 = some (r, σr)) (H : Heap) (locs : List Loc) (hP : mP E σ H) (hS : va_S (inM E) s.heap H locs) (ls : Array Slot) (hl : lv_has ls 3 [(0, .ref (eA E 27)), (1, .int x1), (2, .int x2)]) : W p l e (kR 1 25) s m args below meth c H locs 0 0 (MQ below (kQi (mP E) (inM E) r σr) args s 0 0 (inM E)) (F0 m 0 ls []) := by
  obtain ⟨-, hx, hb, hml, hown, hts, hK, -, -⟩ := id C
  unfold s_X8_line_0 at h
  refine lv_iload_n hx hb dX8_line_0 rfl (lv_at hl 1 rfl) ?_
  refine lv_i2l (v := x1.toInt64) hx hb dX8_line_1 rfl ?_
  refine lv_lconst (v := (0 : Int64)) hx hb dX8_line_2 (by decide) ?_
  refine lv_ldc2 (v := (1000000 : Int64)) hx hb hown (hts _ w_919) dX8_line_3 ?_
  obtain ⟨v_1, σ_2, hc_3, h⟩ := kb_ok h
  refine kci (krunS (As := [.long x1.toInt64, .long (0 : Int64), .long (1000000 : Int64)]) C hP (c_X8_in E C.1 F σ x1.toInt64 (0 : Int64) (1000000 : Int64) hc_3) w_735 kt_X8_in ⟨Nat.le_of_ble_eq_true rfl, Nat.le_of_ble_eq_true rfl⟩ rfl hl.1 rfl (Nat.le_of_ble_eq_true rfl) dX8_line_6) hS (fun H locs hP hS => ?_)
  refine lv_if_eq (tgt := 24) hx hb dX8_line_9 (by decide) (fun c_4 => ?_) (fun c_4 => ?_)
  · have h := k_t c_4 h
    refine lv_iconst (v := (-1 : Int32)) hx hb dX8_line_24 (by decide) ?_
    obtain ⟨rfl, rfl⟩ := k_inj h
    exact kri C hS hP dX8_line_25
  · have h := k_f c_4 h
    refine lv_iload_n hx hb dX8_line_12 rfl (lv_at hl 2 rfl) ?_
    refine lv_i2l (v := x2.toInt64) hx hb dX8_line_13 rfl ?_
    refine lv_lconst (v := (0 : Int64)) hx hb dX8_line_14 (by decide) ?_
    refine lv_ldc2 (v := (2 : Int64)) hx hb hown (hts _ w_804) dX8_line_15 ?_
    obtain ⟨v_5, σ_6, hc_7, h⟩ := kb_ok h
    refine kci (krunS (As := [.long x2.toInt64, .long (0 : Int64), .long (2 : Int64)]) C hP (c_X8_in E C.1 F σ_2 x2.toInt64 (0 : Int64) (2 : Int64) hc_7) w_735 kt_X8_in ⟨Nat.le_of_ble_eq_true rfl, Nat.le_of_ble_eq_true rfl⟩ rfl hl.1 rfl (Nat.le_of_ble_eq_true rfl) dX8_line_18) hS (fun H locs hP hS => ?_)
    refine lv_if_ne (tgt := 26) hx hb dX8_line_21 (by decide) (fun c_8 => ?_) (fun c_8 => ?_)
    · have h := k_f c_8 h
      refine lv_aload_n hx hb dX8_line_26 rfl (lv_at hl 0 rfl) ?_
      refine gf_27_14 C hP (v := (kI σ_6 5)) rfl w_689 dX8_line_27 ?_
      refine lv_bipush (v := (10 : Int32)) hx hb dX8_line_30 (by decide) ?_
      refine lv_icmp_ne (tgt := 38) hx hb dX8_line_32 (by decide) (fun c_9 => ?_) (fun c_9 => ?_)
      · have h := k_f c_9 h
        refine lv_aload_n hx hb dX8_line_38 rfl (lv_at hl 0 rfl) ?_
        refine gf_27_15 C hP w_690 dX8_line_39 ?_
        refine lv_iconst (v := (2 : Int32)) hx hb dX8_line_42 (by decide) ?_
        refine lv_aload_n hx hb dX8_line_43 rfl (lv_at hl 0 rfl) ?_
        refine gf_27_14 C hP (v := (kI σ_6 5)) rfl w_689 dX8_line_44 ?_
        refine lv_imul hx hb dX8_line_47 ?_
        refine lv_iload_n hx hb dX8_line_48 rfl (lv_at hl 1 rfl) ?_
        obtain ⟨n_10, h⟩ := k_no h
        refine as_37 C hP hS (σ2 := (jA σ_6 7 ((2 : Int32) * (kI σ_6 5)).toNatClampNeg x1)) rfl n_10 dX8_line_49 (fun H locs hP hS => ?_)
        refine lv_aload_n hx hb dX8_line_50 rfl (lv_at hl 0 rfl) ?_
        refine gf_27_15 C hP w_690 dX8_line_51 ?_
        refine lv_iconst (v := (2 : Int32)) hx hb dX8_line_54 (by decide) ?_
        refine lv_aload_n hx hb dX8_line_55 rfl (lv_at hl 0 rfl) ?_
        refine gf_27_14 C hP (v := (kI σ_6 5)) rfl w_689 dX8_line_56 ?_
        refine lv_imul hx hb dX8_line_59 ?_
        refine lv_iconst (v := (1 : Int32)) hx hb dX8_line_60 (by decide) ?_
        refine lv_iadd hx hb dX8_line_61 ?_
        refine lv_iload_n hx hb dX8_line_62 rfl (lv_at hl 2 rfl) ?_
        obtain ⟨n_11, h⟩ := k_no h
        refine as_37 C hP hS (σ2 := (jA (jA σ_6 7 ((2 : Int32) * (kI σ_6 5)).toNatClampNeg x1) 7 (((2 : Int32) * (kI σ_6 5)) + (1 : Int32)).toNatClampNeg x2)) rfl n_11 dX8_line_63 (fun H locs hP hS => ?_)
        refine lv_aload_n hx hb dX8_line_64 rfl (lv_at hl 0 rfl) ?_
        refine lv_dup hx hb dX8_line_65 rfl ?_
        refine gf_27_14 C hP (v := (kI σ_6 5)) rfl w_689 dX8_line_66 ?_
        refine lv_iconst (v := (1 : Int32)) hx hb dX8_line_69 (by decide) ?_
        refine lv_iadd hx hb dX8_line_70 ?_
        refine pf_27_14 C hP hS w_689 dX8_line_71 (fun H locs hP hS => ?_)
        refine lv_aload_n hx hb dX8_line_74 rfl (lv_at hl 0 rfl) ?_
        refine gf_27_14 C hP (v := ((kI σ_6 5) + (1 : Int32))) rfl w_689 dX8_line_75 ?_
        obtain ⟨rfl, rfl⟩ := k_inj h
        exact kri C hS hP dX8_line_78
      · have h := k_t c_9 h
        refine lv_bipush (v := (-3 : Int32)) hx hb dX8_line_35 (by decide) ?_
        obtain ⟨rfl, rfl⟩ := k_inj h
        exact kri C hS hP dX8_line_37
    · have h := k_t c_8 h
      refine lv_iconst (v := (-1 : Int32)) hx hb dX8_line_24 (by decide) ?_
      obtain ⟨rfl, rfl⟩ := k_inj h
      exact kri C hS hP dX8_line_25
def f_X8_line (F : Nat) (σ : kS) (x1 : Int32) (x2 : Int32) : Option (Int32 × kS) := s_X8_line_0 F σ x1 x2
set_option maxRecDepth 100000 in
theorem c_X8_line (E : kE) (hE : kap E) (F : Nat) (σ : kS) (x1 : Int32) (x2 : Int32) (h : f_X8_line F σ x1 x2 = some (r, σr)) : Met l yX8_line (kWs yX8_line cX8_line 3 (some .int)) (kR 1 25) (kPre (mP E) E [.ref (eA E 27), .int x1, .int x2] σ) (kQi (mP E) (inM E) r σr) 0 0 (inM E) :=
  kst hE (by decide +kernel) (Nat.le_of_ble_eq_true rfl) (fun p e s m below meth c ls C hP hl => w_X8_line_0 C F σ x1 x2 h s.heap [] hP va_S.rf ls hl)
end

section
variable {p : Program} {l : Launch} {e : Env} {s : State} {m : MethodId} {args : Array Value} {below : List Frame} {meth : Method} {c : Code} {E : kE} {σr : kS}
variable {r : Int32}
def s_X8_noTable_0 (F : Nat) (σ : kS) : Option (Int32 × kS) :=
  some ((kI σ 5), (jI σ 5 (0 : Int32)))
set_option maxRecDepth 100000 in
set_option maxHeartbeats 4000000 in
theorem w_X8_noTable_0 (C : Cx E p s m args meth c cX8_noTable 2 RX8 (some .int)) (F : Nat) (σ : kS) (h : s_X8_noTable_0 F σ = some (r, σr)) (H : Heap) (locs : List Loc) (hP : mP E σ H) (hS : va_S (inM E) s.heap H locs) (ls : Array Slot) (hl : lv_has ls 2 [(0, .ref (eA E 27))]) : W p l e (kR 0 0) s m args below meth c H locs 0 0 (MQ below (kQi (mP E) (inM E) r σr) args s 0 0 (inM E)) (F0 m 0 ls []) := by
  obtain ⟨-, hx, hb, hml, hown, hts, hK, -, -⟩ := id C
  unfold s_X8_noTable_0 at h
  refine lv_aload_n hx hb dX8_noTable_0 rfl (lv_at hl 0 rfl) ?_
  refine gf_27_14 C hP (v := (kI σ 5)) rfl w_689 dX8_noTable_1 ?_
  refine lv_istore_n (lv' := [(1, .int (kI σ 5)), (0, .ref (eA E 27))]) hx hb dX8_noTable_4 rfl hl (by decide) rfl (fun ls hl => ?_)
  refine lv_aload_n hx hb dX8_noTable_5 rfl (lv_at hl 1 rfl) ?_
  refine lv_iconst (v := (0 : Int32)) hx hb dX8_noTable_6 (by decide) ?_
  refine pf_27_14 C hP hS w_689 dX8_noTable_7 (fun H locs hP hS => ?_)
  refine lv_iload_n hx hb dX8_noTable_10 rfl (lv_at hl 0 rfl) ?_
  obtain ⟨rfl, rfl⟩ := k_inj h
  exact kri C hS hP dX8_noTable_11
def f_X8_noTable (F : Nat) (σ : kS) : Option (Int32 × kS) := s_X8_noTable_0 F σ
set_option maxRecDepth 100000 in
theorem c_X8_noTable (E : kE) (hE : kap E) (F : Nat) (σ : kS) (h : f_X8_noTable F σ = some (r, σr)) : Met l yX8_noTable (kWs yX8_noTable cX8_noTable 2 (some .int)) (kR 0 0) (kPre (mP E) E [.ref (eA E 27)] σ) (kQi (mP E) (inM E) r σr) 0 0 (inM E) :=
  kst hE (by decide +kernel) (Nat.le_of_ble_eq_true rfl) (fun p e s m below meth c ls C hP hl => w_X8_noTable_0 C F σ h s.heap [] hP va_S.rf ls hl)
end

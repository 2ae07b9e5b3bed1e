section
variable {p : Program} {l : Launch} {e : Env} {s : State} {m : MethodId} {args : Array Value} {below : List Frame} {meth : Method} {c : Code} {E : kE} {σr : kS}
variable {r : Int32}
def s_X8_isItem_178 (F : Nat) (σ : kS) (x1 : Int32) (y0 : Int32) : Option (Int32 × kS) :=
  (if y0 = 0 then some ((0 : Int32), (jI σ 1 ((kI σ 1) + (1 : Int32)))) else (kb (f_X8_isGood F (jI σ 1 ((kI σ 1) + (1 : Int32))) x1) fun v_2 σ_3 => (if v_2 = 0 then some ((0 : Int32), σ_3) else some ((1 : Int32), σ_3))))
set_option maxRecDepth 100000 in
set_option maxHeartbeats 4000000 in
theorem w_X8_isItem_178 (C : Cx E p s m args meth c cX8_isItem 5 RX8 (some .boolean)) (F : Nat) (σ : kS) (x1 : Int32) (y0 : Int32) (h : s_X8_isItem_178 F σ x1 y0 = some (r, σr)) (H : Heap) (locs : List Loc) (hP : mP E σ H) (hS : va_S (inM E) s.heap H locs) (ls : Array Slot) (hl : lv_has ls 5 [(0, .ref (eA E 27)), (1, .int x1)]) : W p l e (kR 3 70) s m args below meth c H locs 0 0 (MQ below (kQi (mP E) (inM E) r σr) args s 0 0 (inM E)) (F0 m 178 ls [.int y0]) := by
  obtain ⟨-, hx, hb, hml, hown, hts, hK, -, -⟩ := id C
  unfold s_X8_isItem_178 at h
  refine lv_istore_n (lv' := [(3, .int y0), (0, .ref (eA E 27)), (1, .int x1)]) hx hb dX8_isItem_178 rfl hl (by decide) rfl (fun ls hl => ?_)
  refine lv_aload_n hx hb dX8_isItem_179 rfl (lv_at hl 1 rfl) ?_
  refine lv_dup hx hb dX8_isItem_180 rfl ?_
  refine gf_27_2 C hP (v := (kI σ 1)) rfl w_677 dX8_isItem_181 ?_
  refine lv_iconst (v := (1 : Int32)) hx hb dX8_isItem_184 (by decide) ?_
  refine lv_iadd hx hb dX8_isItem_185 ?_
  refine pf_27_2 C hP hS w_677 dX8_isItem_186 (fun H locs hP hS => ?_)
  refine lv_iload_n hx hb dX8_isItem_189 rfl (lv_at hl 0 rfl) ?_
  refine lv_if_eq (tgt := 205) hx hb dX8_isItem_190 (by decide) (fun c_1 => ?_) (fun c_1 => ?_)
  · have h := k_t c_1 h
    refine lv_iconst (v := (0 : Int32)) hx hb dX8_isItem_205 (by decide) ?_
    obtain ⟨rfl, rfl⟩ := k_inj h
    exact krz C hS hP (by decide) dX8_isItem_206
  · have h := k_f c_1 h
    refine lv_aload_n hx hb dX8_isItem_193 rfl (lv_at hl 1 rfl) ?_
    refine lv_iload_n hx hb dX8_isItem_194 rfl (lv_at hl 2 rfl) ?_
    obtain ⟨v_2, σ_3, hc_4, h⟩ := kb_ok h
    refine kci (krunV (As := [.int x1]) C hP (c_X8_isGood E C.1 F (jI σ 1 ((kI σ 1) + (1 : Int32))) x1 hc_4) w_760 kv_X8_isGood ⟨Nat.le_of_ble_eq_true rfl, Nat.le_of_ble_eq_true rfl⟩ (rc_27 C hP) rfl hl.1 rfl (Nat.le_of_ble_eq_true rfl) dX8_isItem_195) hS (fun H locs hP hS => ?_)
    refine lv_if_eq (tgt := 205) hx hb dX8_isItem_198 (by decide) (fun c_5 => ?_) (fun c_5 => ?_)
    · have h := k_t c_5 h
      refine lv_iconst (v := (0 : Int32)) hx hb dX8_isItem_205 (by decide) ?_
      obtain ⟨rfl, rfl⟩ := k_inj h
      exact krz C hS hP (by decide) dX8_isItem_206
    · have h := k_f c_5 h
      refine lv_iconst (v := (1 : Int32)) hx hb dX8_isItem_201 (by decide) ?_
      refine lv_goto (tgt := 206) hx hb dX8_isItem_202 (by decide) ?_
      obtain ⟨rfl, rfl⟩ := k_inj h
      exact krz C hS hP (by decide) dX8_isItem_206
def s_X8_isItem_177 (F : Nat) (σ : kS) (x1 : Int32) : Option (Int32 × kS) :=
  s_X8_isItem_178 F σ x1 (0 : Int32)
set_option maxRecDepth 100000 in
set_option maxHeartbeats 4000000 in
theorem w_X8_isItem_177 (C : Cx E p s m args meth c cX8_isItem 5 RX8 (some .boolean)) (F : Nat) (σ : kS) (x1 : Int32) (h : s_X8_isItem_177 F σ x1 = some (r, σr)) (H : Heap) (locs : List Loc) (hP : mP E σ H) (hS : va_S (inM E) s.heap H locs) (ls : Array Slot) (hl : lv_has ls 5 [(0, .ref (eA E 27)), (1, .int x1)]) : W p l e (kR 3 70) s m args below meth c H locs 0 0 (MQ below (kQi (mP E) (inM E) r σr) args s 0 0 (inM E)) (F0 m 177 ls []) := by
  obtain ⟨-, hx, hb, hml, hown, hts, hK, -, -⟩ := id C
  unfold s_X8_isItem_177 at h
  refine lv_iconst (v := (0 : Int32)) hx hb dX8_isItem_177 (by decide) ?_
  exact w_X8_isItem_178 C F σ x1 (0 : Int32) h H locs hP hS ls hl
def s_X8_isItem_144 (F : Nat) (σ : kS) (x1 : Int32) (x3 : Int32) : Option (Int32 × kS) :=
  (if x3 = 0 then s_X8_isItem_177 F σ x1 else (if (kI σ 0) ≤ (kI σ 1) then s_X8_isItem_177 F σ x1 else (if (kI σ 1) < 0 ∨ 400 ≤ (kI σ 1).toNatClampNeg then none else (if (kA σ 0 (kI σ 1).toNatClampNeg) = (59 : Int32) then s_X8_isItem_178 F σ x1 (1 : Int32) else s_X8_isItem_177 F σ x1))))
set_option maxRecDepth 100000 in
set_option maxHeartbeats 4000000 in
theorem w_X8_isItem_144 (C : Cx E p s m args meth c cX8_isItem 5 RX8 (some .boolean)) (F : Nat) (σ : kS) (x1 : Int32) (x3 : Int32) (h : s_X8_isItem_144 F σ x1 x3 = some (r, σr)) (H : Heap) (locs : List Loc) (hP : mP E σ H) (hS : va_S (inM E) s.heap H locs) (ls : Array Slot) (hl : lv_has ls 5 [(0, .ref (eA E 27)), (1, .int x1), (3, .int x3)]) : W p l e (kR 3 70) s m args below meth c H locs 0 0 (MQ below (kQi (mP E) (inM E) r σr) args s 0 0 (inM E)) (F0 m 144 ls []) := by
  obtain ⟨-, hx, hb, hml, hown, hts, hK, -, -⟩ := id C
  unfold s_X8_isItem_144 at h
  refine lv_iload_n hx hb dX8_isItem_144 rfl (lv_at hl 2 rfl) ?_
  refine lv_if_eq (tgt := 177) hx hb dX8_isItem_145 (by decide) (fun c_1 => ?_) (fun c_1 => ?_)
  · have h := k_t c_1 h
    exact w_X8_isItem_177 C F σ x1 h H locs hP hS ls (lv_sub hl [0, 1] rfl)
  · have h := k_f c_1 h
    refine lv_aload_n hx hb dX8_isItem_148 rfl (lv_at hl 0 rfl) ?_
    refine gf_27_2 C hP (v := (kI σ 1)) rfl w_677 dX8_isItem_149 ?_
    refine lv_aload_n hx hb dX8_isItem_152 rfl (lv_at hl 0 rfl) ?_
    refine gf_27_0 C hP (v := (kI σ 0)) rfl w_675 dX8_isItem_153 ?_
    refine lv_icmp_ge (tgt := 177) hx hb dX8_isItem_156 (by decide) (fun c_2 => ?_) (fun c_2 => ?_)
    · have h := k_t c_2 h
      exact w_X8_isItem_177 C F σ x1 h H locs hP hS ls (lv_sub hl [0, 1] rfl)
    · have h := k_f c_2 h
      refine lv_aload_n hx hb dX8_isItem_159 rfl (lv_at hl 0 rfl) ?_
      refine gf_27_1 C hP w_676 dX8_isItem_160 ?_
      refine lv_aload_n hx hb dX8_isItem_163 rfl (lv_at hl 0 rfl) ?_
      refine gf_27_2 C hP (v := (kI σ 1)) rfl w_677 dX8_isItem_164 ?_
      obtain ⟨n_3, h⟩ := k_no h
      refine al_28 C hP (v := (kA σ 0 (kI σ 1).toNatClampNeg)) rfl n_3 dX8_isItem_167 ?_
      refine lv_bipush (v := (59 : Int32)) hx hb dX8_isItem_168 (by decide) ?_
      refine lv_icmp_ne (tgt := 177) hx hb dX8_isItem_170 (by decide) (fun c_4 => ?_) (fun c_4 => ?_)
      · have h := k_f c_4 h
        exact w_X8_isItem_177 C F σ x1 h H locs hP hS ls (lv_sub hl [0, 1] rfl)
      · have h := k_t c_4 h
        refine lv_iconst (v := (1 : Int32)) hx hb dX8_isItem_173 (by decide) ?_
        refine lv_goto (tgt := 178) hx hb dX8_isItem_174 (by decide) ?_
        exact w_X8_isItem_178 C F σ x1 (1 : Int32) h H locs hP hS ls (lv_sub hl [0, 1] rfl)
def s_X8_isItem_137 (F : Nat) (rec38 : (kS × Int32 × Int32 × Int32 × Int32 → Option (Int32 × kS))) (σ : kS) (x1 : Int32) (x2 : Int32) (x4 : Int32) (y0 : Int32) : Option (Int32 × kS) :=
  rec38 (σ, x1, x2, y0, (x4 + (1 : Int32)))
set_option maxRecDepth 100000 in
set_option maxHeartbeats 4000000 in
theorem w_X8_isItem_137 (C : Cx E p s m args meth c cX8_isItem 5 RX8 (some .boolean)) (F : Nat) (rec38 : (kS × Int32 × Int32 × Int32 × Int32 → Option (Int32 × kS))) (hrec38 : ∀ (σ : kS) (x1 : Int32) (x2 : Int32) (x3 : Int32) (x4 : Int32), rec38 (σ, x1, x2, x3, x4) = some (r, σr) → ∀ (H : Heap) (locs : List Loc), mP E σ H → va_S (inM E) s.heap H locs → ∀ (ls : Array Slot), lv_has ls 5 [(0, .ref (eA E 27)), (1, .int x1), (2, .int x2), (3, .int x3), (4, .int x4)] → W p l e (kR 3 70) s m args below meth c H locs 0 0 (MQ below (kQi (mP E) (inM E) r σr) args s 0 0 (inM E)) (F0 m 38 ls [])) (σ : kS) (x1 : Int32) (x2 : Int32) (x4 : Int32) (y0 : Int32) (h : s_X8_isItem_137 F rec38 σ x1 x2 x4 y0 = some (r, σr)) (H : Heap) (locs : List Loc) (hP : mP E σ H) (hS : va_S (inM E) s.heap H locs) (ls : Array Slot) (hl : lv_has ls 5 [(0, .ref (eA E 27)), (1, .int x1), (2, .int x2), (4, .int x4)]) : W p l e (kR 3 70) s m args below meth c H locs 0 0 (MQ below (kQi (mP E) (inM E) r σr) args s 0 0 (inM E)) (F0 m 137 ls [.int y0]) := by
  obtain ⟨-, hx, hb, hml, hown, hts, hK, -, -⟩ := id C
  unfold s_X8_isItem_137 at h
  refine lv_istore_n (lv' := [(3, .int y0), (0, .ref (eA E 27)), (1, .int x1), (2, .int x2), (4, .int x4)]) hx hb dX8_isItem_137 rfl hl (by decide) rfl (fun ls hl => ?_)
  refine lv_iinc (v := (x4 + (1 : Int32))) (lv' := [(4, .int (x4 + (1 : Int32))), (3, .int y0), (0, .ref (eA E 27)), (1, .int x1), (2, .int x2)]) hx hb dX8_isItem_138 hl (k := 4) rfl rfl (by decide) rfl (fun ls hl => ?_)
  refine lv_goto (tgt := 38) hx hb dX8_isItem_141 (by decide) ?_
  exact hrec38 σ x1 x2 y0 (x4 + (1 : Int32)) h H locs hP hS ls (lv_sub hl [2, 3, 4, 1, 0] rfl)
def s_X8_isItem_121 (F : Nat) (rec38 : (kS × Int32 × Int32 × Int32 × Int32 → Option (Int32 × kS))) (σ : kS) (x1 : Int32) (x2 : Int32) (x4 : Int32) (y0 : Int32) (y1 : Int32) : Option (Int32 × kS) :=
  (if y1 < 0 ∨ 5 ≤ y1.toNatClampNeg then none else (if x4 < 0 ∨ 5 ≤ x4.toNatClampNeg then none else (if (kA (jA σ 8 y1.toNatClampNeg y0) 8 x4.toNatClampNeg) < 0 then s_X8_isItem_137 F rec38 (jA σ 8 y1.toNatClampNeg y0) x1 x2 x4 (0 : Int32) else s_X8_isItem_137 F rec38 (jA σ 8 y1.toNatClampNeg y0) x1 x2 x4 (1 : Int32))))
set_option maxRecDepth 100000 in
set_option maxHeartbeats 4000000 in
theorem w_X8_isItem_121 (C : Cx E p s m args meth c cX8_isItem 5 RX8 (some .boolean)) (F : Nat) (rec38 : (kS × Int32 × Int32 × Int32 × Int32 → Option (Int32 × kS))) (hrec38 : ∀ (σ : kS) (x1 : Int32) (x2 : Int32) (x3 : Int32) (x4 : Int32), rec38 (σ, x1, x2, x3, x4) = some (r, σr) → ∀ (H : Heap) (locs : List Loc), mP E σ H → va_S (inM E) s.heap H locs → ∀ (ls : Array Slot), lv_has ls 5 [(0, .ref (eA E 27)), (1, .int x1), (2, .int x2), (3, .int x3), (4, .int x4)] → W p l e (kR 3 70) s m args below meth c H locs 0 0 (MQ below (kQi (mP E) (inM E) r σr) args s 0 0 (inM E)) (F0 m 38 ls [])) (σ : kS) (x1 : Int32) (x2 : Int32) (x4 : Int32) (y0 : Int32) (y1 : Int32) (h : s_X8_isItem_121 F rec38 σ x1 x2 x4 y0 y1 = some (r, σr)) (H : Heap) (locs : List Loc) (hP : mP E σ H) (hS : va_S (inM E) s.heap H locs) (ls : Array Slot) (hl : lv_has ls 5 [(0, .ref (eA E 27)), (1, .int x1), (2, .int x2), (4, .int x4)]) : W p l e (kR 3 70) s m args below meth c H locs 0 0 (MQ below (kQi (mP E) (inM E) r σr) args s 0 0 (inM E)) (F0 m 121 ls [.int y0, .int y1, .ref (eA E 38)]) := by
  obtain ⟨-, hx, hb, hml, hown, hts, hK, -, -⟩ := id C
  unfold s_X8_isItem_121 at h
  obtain ⟨n_1, h⟩ := k_no h
  refine as_38 C hP hS (σ2 := (jA σ 8 y1.toNatClampNeg y0)) rfl n_1 dX8_isItem_121 (fun H locs hP hS => ?_)
  refine lv_aload_n hx hb dX8_isItem_122 rfl (lv_at hl 0 rfl) ?_
  refine gf_27_17 C hP w_692 dX8_isItem_123 ?_
  refine lv_iload hx hb dX8_isItem_126 (lv_at hl 3 rfl) ?_
  obtain ⟨n_2, h⟩ := k_no h
  refine al_38 C hP (v := (kA (jA σ 8 y1.toNatClampNeg y0) 8 x4.toNatClampNeg)) rfl n_2 dX8_isItem_128 ?_
  refine lv_if_lt (tgt := 136) hx hb dX8_isItem_129 (by decide) (fun c_3 => ?_) (fun c_3 => ?_)
  · have h := k_t c_3 h
    refine lv_iconst (v := (0 : Int32)) hx hb dX8_isItem_136 (by decide) ?_
    exact w_X8_isItem_137 C F rec38 hrec38 (jA σ 8 y1.toNatClampNeg y0) x1 x2 x4 (0 : Int32) h H locs hP hS ls hl
  · have h := k_f c_3 h
    refine lv_iconst (v := (1 : Int32)) hx hb dX8_isItem_132 (by decide) ?_
    refine lv_goto (tgt := 137) hx hb dX8_isItem_133 (by decide) ?_
    exact w_X8_isItem_137 C F rec38 hrec38 (jA σ 8 y1.toNatClampNeg y0) x1 x2 x4 (1 : Int32) h H locs hP hS ls hl
def s_X8_isItem_99 (F : Nat) (rec38 : (kS × Int32 × Int32 × Int32 × Int32 → Option (Int32 × kS))) (σ : kS) (x1 : Int32) (x2 : Int32) (x3 : Int32) (x4 : Int32) (y0 : Int32) (y1 : Int32) : Option (Int32 × kS) :=
  (if x3 = 0 then s_X8_isItem_121 F rec38 (jI σ 1 (y1 + y0)) x1 x2 x4 (-1 : Int32) x4 else (kb (f_X8_number F (jI σ 1 (y1 + y0))) fun v_2 σ_3 => s_X8_isItem_121 F rec38 σ_3 x1 x2 x4 v_2 x4))
set_option maxRecDepth 100000 in
set_option maxHeartbeats 4000000 in
theorem w_X8_isItem_99 (C : Cx E p s m args meth c cX8_isItem 5 RX8 (some .boolean)) (F : Nat) (rec38 : (kS × Int32 × Int32 × Int32 × Int32 → Option (Int32 × kS))) (hrec38 : ∀ (σ : kS) (x1 : Int32) (x2 : Int32) (x3 : Int32) (x4 : Int32), rec38 (σ, x1, x2, x3, x4) = some (r, σr) → ∀ (H : Heap) (locs : List Loc), mP E σ H → va_S (inM E) s.heap H locs → ∀ (ls : Array Slot), lv_has ls 5 [(0, .ref (eA E 27)), (1, .int x1), (2, .int x2), (3, .int x3), (4, .int x4)] → W p l e (kR 3 70) s m args below meth c H locs 0 0 (MQ below (kQi (mP E) (inM E) r σr) args s 0 0 (inM E)) (F0 m 38 ls [])) (σ : kS) (x1 : Int32) (x2 : Int32) (x3 : Int32) (x4 : Int32) (y0 : Int32) (y1 : Int32) (h : s_X8_isItem_99 F rec38 σ x1 x2 x3 x4 y0 y1 = some (r, σr)) (H : Heap) (locs : List Loc) (hP : mP E σ H) (hS : va_S (inM E) s.heap H locs) (ls : Array Slot) (hl : lv_has ls 5 [(0, .ref (eA E 27)), (1, .int x1), (2, .int x2), (3, .int x3), (4, .int x4)]) : W p l e (kR 3 70) s m args below meth c H locs 0 0 (MQ below (kQi (mP E) (inM E) r σr) args s 0 0 (inM E)) (F0 m 99 ls [.int y0, .int y1, .ref (eA E 27)]) := by
  obtain ⟨-, hx, hb, hml, hown, hts, hK, -, -⟩ := id C
  unfold s_X8_isItem_99 at h
  refine lv_iadd hx hb dX8_isItem_99 ?_
  refine pf_27_2 C hP hS w_677 dX8_isItem_100 (fun H locs hP hS => ?_)
  refine lv_aload_n hx hb dX8_isItem_103 rfl (lv_at hl 0 rfl) ?_
  refine gf_27_17 C hP w_692 dX8_isItem_104 ?_
  refine lv_iload hx hb dX8_isItem_107 (lv_at hl 4 rfl) ?_
  refine lv_iload_n hx hb dX8_isItem_109 rfl (lv_at hl 3 rfl) ?_
  refine lv_if_eq (tgt := 120) hx hb dX8_isItem_110 (by decide) (fun c_1 => ?_) (fun c_1 => ?_)
  · have h := k_t c_1 h
    refine lv_iconst (v := (-1 : Int32)) hx hb dX8_isItem_120 (by decide) ?_
    exact w_X8_isItem_121 C F rec38 hrec38 (jI σ 1 (y1 + y0)) x1 x2 x4 (-1 : Int32) x4 h H locs hP hS ls (lv_sub hl [0, 1, 2, 4] rfl)
  · have h := k_f c_1 h
    refine lv_aload_n hx hb dX8_isItem_113 rfl (lv_at hl 0 rfl) ?_
    obtain ⟨v_2, σ_3, hc_4, h⟩ := kb_ok h
    refine kci (krunV (As := []) C hP (c_X8_number E C.1 F (jI σ 1 (y1 + y0)) hc_4) w_753 kv_X8_number ⟨Nat.le_of_ble_eq_true rfl, Nat.le_of_ble_eq_true rfl⟩ (rc_27 C hP) rfl hl.1 rfl (Nat.le_of_ble_eq_true rfl) dX8_isItem_114) hS (fun H locs hP hS => ?_)
    refine lv_goto (tgt := 121) hx hb dX8_isItem_117 (by decide) ?_
    exact w_X8_isItem_121 C F rec38 hrec38 σ_3 x1 x2 x4 v_2 x4 h H locs hP hS ls (lv_sub hl [0, 1, 2, 4] rfl)
def s_X8_isItem_83 (F : Nat) (rec38 : (kS × Int32 × Int32 × Int32 × Int32 → Option (Int32 × kS))) (σ : kS) (x1 : Int32) (x2 : Int32) (x4 : Int32) (y0 : Int32) : Option (Int32 × kS) :=
  (if x4 = 0 then s_X8_isItem_99 F rec38 σ x1 x2 y0 x4 (0 : Int32) (kI σ 1) else s_X8_isItem_99 F rec38 σ x1 x2 y0 x4 (1 : Int32) (kI σ 1))
set_option maxRecDepth 100000 in
set_option maxHeartbeats 4000000 in
theorem w_X8_isItem_83 (C : Cx E p s m args meth c cX8_isItem 5 RX8 (some .boolean)) (F : Nat) (rec38 : (kS × Int32 × Int32 × Int32 × Int32 → Option (Int32 × kS))) (hrec38 : ∀ (σ : kS) (x1 : Int32) (x2 : Int32) (x3 : Int32) (x4 : Int32), rec38 (σ, x1, x2, x3, x4) = some (r, σr) → ∀ (H : Heap) (locs : List Loc), mP E σ H → va_S (inM E) s.heap H locs → ∀ (ls : Array Slot), lv_has ls 5 [(0, .ref (eA E 27)), (1, .int x1), (2, .int x2), (3, .int x3), (4, .int x4)] → W p l e (kR 3 70) s m args below meth c H locs 0 0 (MQ below (kQi (mP E) (inM E) r σr) args s 0 0 (inM E)) (F0 m 38 ls [])) (σ : kS) (x1 : Int32) (x2 : Int32) (x4 : Int32) (y0 : Int32) (h : s_X8_isItem_83 F rec38 σ x1 x2 x4 y0 = some (r, σr)) (H : Heap) (locs : List Loc) (hP : mP E σ H) (hS : va_S (inM E) s.heap H locs) (ls : Array Slot) (hl : lv_has ls 5 [(0, .ref (eA E 27)), (1, .int x1), (2, .int x2), (4, .int x4)]) : W p l e (kR 3 70) s m args below meth c H locs 0 0 (MQ below (kQi (mP E) (inM E) r σr) args s 0 0 (inM E)) (F0 m 83 ls [.int y0]) := by
  obtain ⟨-, hx, hb, hml, hown, hts, hK, -, -⟩ := id C
  unfold s_X8_isItem_83 at h
  refine lv_istore_n (lv' := [(3, .int y0), (0, .ref (eA E 27)), (1, .int x1), (2, .int x2), (4, .int x4)]) hx hb dX8_isItem_83 rfl hl (by decide) rfl (fun ls hl => ?_)
  refine lv_aload_n hx hb dX8_isItem_84 rfl (lv_at hl 1 rfl) ?_
  refine lv_dup hx hb dX8_isItem_85 rfl ?_
  refine gf_27_2 C hP (v := (kI σ 1)) rfl w_677 dX8_isItem_86 ?_
  refine lv_iload hx hb dX8_isItem_89 (lv_at hl 4 rfl) ?_
  refine lv_if_ne (tgt := 98) hx hb dX8_isItem_91 (by decide) (fun c_1 => ?_) (fun c_1 => ?_)
  · have h := k_f c_1 h
    refine lv_iconst (v := (1 : Int32)) hx hb dX8_isItem_98 (by decide) ?_
    exact w_X8_isItem_99 C F rec38 hrec38 σ x1 x2 y0 x4 (1 : Int32) (kI σ 1) h H locs hP hS ls (lv_sub hl [1, 2, 3, 0, 4] rfl)
  · have h := k_t c_1 h
    refine lv_iconst (v := (0 : Int32)) hx hb dX8_isItem_94 (by decide) ?_
    refine lv_goto (tgt := 99) hx hb dX8_isItem_95 (by decide) ?_
    exact w_X8_isItem_99 C F rec38 hrec38 σ x1 x2 y0 x4 (0 : Int32) (kI σ 1) h H locs hP hS ls (lv_sub hl [1, 2, 3, 0, 4] rfl)
def s_X8_isItem_78 (F : Nat) (rec38 : (kS × Int32 × Int32 × Int32 × Int32 → Option (Int32 × kS))) (σ : kS) (x1 : Int32) (x2 : Int32) (x4 : Int32) : Option (Int32 × kS) :=
  s_X8_isItem_83 F rec38 σ x1 x2 x4 (1 : Int32)
set_option maxRecDepth 100000 in
set_option maxHeartbeats 4000000 in
theorem w_X8_isItem_78 (C : Cx E p s m args meth c cX8_isItem 5 RX8 (some .boolean)) (F : Nat) (rec38 : (kS × Int32 × Int32 × Int32 × Int32 → Option (Int32 × kS))) (hrec38 : ∀ (σ : kS) (x1 : Int32) (x2 : Int32) (x3 : Int32) (x4 : Int32), rec38 (σ, x1, x2, x3, x4) = some (r, σr) → ∀ (H : Heap) (locs : List Loc), mP E σ H → va_S (inM E) s.heap H locs → ∀ (ls : Array Slot), lv_has ls 5 [(0, .ref (eA E 27)), (1, .int x1), (2, .int x2), (3, .int x3), (4, .int x4)] → W p l e (kR 3 70) s m args below meth c H locs 0 0 (MQ below (kQi (mP E) (inM E) r σr) args s 0 0 (inM E)) (F0 m 38 ls [])) (σ : kS) (x1 : Int32) (x2 : Int32) (x4 : Int32) (h : s_X8_isItem_78 F rec38 σ x1 x2 x4 = some (r, σr)) (H : Heap) (locs : List Loc) (hP : mP E σ H) (hS : va_S (inM E) s.heap H locs) (ls : Array Slot) (hl : lv_has ls 5 [(0, .ref (eA E 27)), (1, .int x1), (2, .int x2), (4, .int x4)]) : W p l e (kR 3 70) s m args below meth c H locs 0 0 (MQ below (kQi (mP E) (inM E) r σr) args s 0 0 (inM E)) (F0 m 78 ls []) := by
  obtain ⟨-, hx, hb, hml, hown, hts, hK, -, -⟩ := id C
  unfold s_X8_isItem_78 at h
  refine lv_iconst (v := (1 : Int32)) hx hb dX8_isItem_78 (by decide) ?_
  refine lv_goto (tgt := 83) hx hb dX8_isItem_79 (by decide) ?_
  exact w_X8_isItem_83 C F rec38 hrec38 σ x1 x2 x4 (1 : Int32) h H locs hP hS ls hl
def s_X8_isItem_82 (F : Nat) (rec38 : (kS × Int32 × Int32 × Int32 × Int32 → Option (Int32 × kS))) (σ : kS) (x1 : Int32) (x2 : Int32) (x4 : Int32) : Option (Int32 × kS) :=
  s_X8_isItem_83 F rec38 σ x1 x2 x4 (0 : Int32)
set_option maxRecDepth 100000 in
set_option maxHeartbeats 4000000 in
theorem w_X8_isItem_82 (C : Cx E p s m args meth c cX8_isItem 5 RX8 (some .boolean)) (F : Nat) (rec38 : (kS × Int32 × Int32 × Int32 × Int32 → Option (Int32 × kS))) (hrec38 : ∀ (σ : kS) (x1 : Int32) (x2 : Int32) (x3 : Int32) (x4 : Int32), rec38 (σ, x1, x2, x3, x4) = some (r, σr) → ∀ (H : Heap) (locs : List Loc), mP E σ H → va_S (inM E) s.heap H locs → ∀ (ls : Array Slot), lv_has ls 5 [(0, .ref (eA E 27)), (1, .int x1), (2, .int x2), (3, .int x3), (4, .int x4)] → W p l e (kR 3 70) s m args below meth c H locs 0 0 (MQ below (kQi (mP E) (inM E) r σr) args s 0 0 (inM E)) (F0 m 38 ls [])) (σ : kS) (x1 : Int32) (x2 : Int32) (x4 : Int32) (h : s_X8_isItem_82 F rec38 σ x1 x2 x4 = some (r, σr)) (H : Heap) (locs : List Loc) (hP : mP E σ H) (hS : va_S (inM E) s.heap H locs) (ls : Array Slot) (hl : lv_has ls 5 [(0, .ref (eA E 27)), (1, .int x1), (2, .int x2), (4, .int x4)]) : W p l e (kR 3 70) s m args below meth c H locs 0 0 (MQ below (kQi (mP E) (inM E) r σr) args s 0 0 (inM E)) (F0 m 82 ls []) := by
  obtain ⟨-, hx, hb, hml, hown, hts, hK, -, -⟩ := id C
  unfold s_X8_isItem_82 at h
  refine lv_iconst (v := (0 : Int32)) hx hb dX8_isItem_82 (by decide) ?_
  exact w_X8_isItem_83 C F rec38 hrec38 σ x1 x2 x4 (0 : Int32) h H locs hP hS ls hl
def s_X8_isItem_38 (F : Nat) (rec38 : (kS × Int32 × Int32 × Int32 × Int32 → Option (Int32 × kS))) (σ : kS) (x1 : Int32) (x2 : Int32) (x3 : Int32) (x4 : Int32) : Option (Int32 × kS) :=
  (if x2 ≤ x4 then s_X8_isItem_144 F σ x1 x3 else (if x3 = 0 then s_X8_isItem_144 F σ x1 x3 else (if x4 = 0 then s_X8_isItem_78 F rec38 σ x1 x2 x4 else (if (kI σ 0) ≤ (kI σ 1) then s_X8_isItem_82 F rec38 σ x1 x2 x4 else (if (kI σ 1) < 0 ∨ 400 ≤ (kI σ 1).toNatClampNeg then none else (if (kA σ 0 (kI σ 1).toNatClampNeg) = (44 : Int32) then s_X8_isItem_78 F rec38 σ x1 x2 x4 else s_X8_isItem_82 F rec38 σ x1 x2 x4))))))
set_option maxRecDepth 100000 in
set_option maxHeartbeats 4000000 in
theorem w_X8_isItem_38 (C : Cx E p s m args meth c cX8_isItem 5 RX8 (some .boolean)) (F : Nat) (rec38 : (kS × Int32 × Int32 × Int32 × Int32 → Option (Int32 × kS))) (hrec38 : ∀ (σ : kS) (x1 : Int32) (x2 : Int32) (x3 : Int32) (x4 : Int32), rec38 (σ, x1, x2, x3, x4) = some (r, σr) → ∀ (H : Heap) (locs : List Loc), mP E σ H → va_S (inM E) s.heap H locs → ∀ (ls : Array Slot), lv_has ls 5 [(0, .ref (eA E 27)), (1, .int x1), (2, .int x2), (3, .int x3), (4, .int x4)] → W p l e (kR 3 70) s m args below meth c H locs 0 0 (MQ below (kQi (mP E) (inM E) r σr) args s 0 0 (inM E)) (F0 m 38 ls [])) (σ : kS) (x1 : Int32) (x2 : Int32) (x3 : Int32) (x4 : Int32) (h : s_X8_isItem_38 F rec38 σ x1 x2 x3 x4 = some (r, σr)) (H : Heap) (locs : List Loc) (hP : mP E σ H) (hS : va_S (inM E) s.heap H locs) (ls : Array Slot) (hl : lv_has ls 5 [(0, .ref (eA E 27)), (1, .int x1), (2, .int x2), (3, .int x3), (4, .int x4)]) : W p l e (kR 3 70) s m args below meth c H locs 0 0 (MQ below (kQi (mP E) (inM E) r σr) args s 0 0 (inM E)) (F0 m 38 ls []) := by
  obtain ⟨-, hx, hb, hml, hown, hts, hK, -, -⟩ := id C
  unfold s_X8_isItem_38 at h
  refine lv_iload hx hb dX8_isItem_38 (lv_at hl 4 rfl) ?_
  refine lv_iload_n hx hb dX8_isItem_40 rfl (lv_at hl 2 rfl) ?_
  refine lv_icmp_ge (tgt := 144) hx hb dX8_isItem_41 (by decide) (fun c_1 => ?_) (fun c_1 => ?_)
  · have h := k_t c_1 h
    exact w_X8_isItem_144 C F σ x1 x3 h H locs hP hS ls (lv_sub hl [0, 1, 3] rfl)
  · have h := k_f c_1 h
    refine lv_iload_n hx hb dX8_isItem_44 rfl (lv_at hl 3 rfl) ?_
    refine lv_if_eq (tgt := 144) hx hb dX8_isItem_45 (by decide) (fun c_2 => ?_) (fun c_2 => ?_)
    · have h := k_t c_2 h
      exact w_X8_isItem_144 C F σ x1 x3 h H locs hP hS ls (lv_sub hl [0, 1, 3] rfl)
    · have h := k_f c_2 h
      refine lv_iload hx hb dX8_isItem_48 (lv_at hl 4 rfl) ?_
      refine lv_if_eq (tgt := 78) hx hb dX8_isItem_50 (by decide) (fun c_3 => ?_) (fun c_3 => ?_)
      · have h := k_t c_3 h
        exact w_X8_isItem_78 C F rec38 hrec38 σ x1 x2 x4 h H locs hP hS ls (lv_sub hl [0, 1, 2, 4] rfl)
      · have h := k_f c_3 h
        refine lv_aload_n hx hb dX8_isItem_53 rfl (lv_at hl 0 rfl) ?_
        refine gf_27_2 C hP (v := (kI σ 1)) rfl w_677 dX8_isItem_54 ?_
        refine lv_aload_n hx hb dX8_isItem_57 rfl (lv_at hl 0 rfl) ?_
        refine gf_27_0 C hP (v := (kI σ 0)) rfl w_675 dX8_isItem_58 ?_
        refine lv_icmp_ge (tgt := 82) hx hb dX8_isItem_61 (by decide) (fun c_4 => ?_) (fun c_4 => ?_)
        · have h := k_t c_4 h
          exact w_X8_isItem_82 C F rec38 hrec38 σ x1 x2 x4 h H locs hP hS ls (lv_sub hl [0, 1, 2, 4] rfl)
        · have h := k_f c_4 h
          refine lv_aload_n hx hb dX8_isItem_64 rfl (lv_at hl 0 rfl) ?_
          refine gf_27_1 C hP w_676 dX8_isItem_65 ?_
          refine lv_aload_n hx hb dX8_isItem_68 rfl (lv_at hl 0 rfl) ?_
          refine gf_27_2 C hP (v := (kI σ 1)) rfl w_677 dX8_isItem_69 ?_
          obtain ⟨n_5, h⟩ := k_no h
          refine al_28 C hP (v := (kA σ 0 (kI σ 1).toNatClampNeg)) rfl n_5 dX8_isItem_72 ?_
          refine lv_bipush (v := (44 : Int32)) hx hb dX8_isItem_73 (by decide) ?_
          refine lv_icmp_ne (tgt := 82) hx hb dX8_isItem_75 (by decide) (fun c_6 => ?_) (fun c_6 => ?_)
          · have h := k_f c_6 h
            exact w_X8_isItem_82 C F rec38 hrec38 σ x1 x2 x4 h H locs hP hS ls (lv_sub hl [0, 1, 2, 4] rfl)
          · have h := k_t c_6 h
            exact w_X8_isItem_78 C F rec38 hrec38 σ x1 x2 x4 h H locs hP hS ls (lv_sub hl [0, 1, 2, 4] rfl)
def f_X8_isItem_38 (F : Nat) : kS × Int32 × Int32 × Int32 × Int32 → Option (Int32 × kS) := itr (fun rec38 q => s_X8_isItem_38 F rec38 q.1 q.2.1 q.2.2.1 q.2.2.2.1 q.2.2.2.2) F
theorem wf_X8_isItem_38 (C : Cx E p s m args meth c cX8_isItem 5 RX8 (some .boolean)) (F : Nat) (σ : kS) (x1 : Int32) (x2 : Int32) (x3 : Int32) (x4 : Int32) (h : f_X8_isItem_38 F (σ, x1, x2, x3, x4) = some (r, σr)) (H : Heap) (locs : List Loc) (hP : mP E σ H) (hS : va_S (inM E) s.heap H locs) (ls : Array Slot) (hl : lv_has ls 5 [(0, .ref (eA E 27)), (1, .int x1), (2, .int x2), (3, .int x3), (4, .int x4)]) : W p l e (kR 3 70) s m args below meth c H locs 0 0 (MQ below (kQi (mP E) (inM E) r σr) args s 0 0 (inM E)) (F0 m 38 ls []) :=
  itr_ok (r := (r, σr)) (G := fun q => ∀ (H : Heap) (locs : List Loc), mP E q.1 H → va_S (inM E) s.heap H locs → ∀ (ls : Array Slot), lv_has ls 5 [(0, .ref (eA E 27)), (1, .int (q.2.1)), (2, .int (q.2.2.1)), (3, .int (q.2.2.2.1)), (4, .int (q.2.2.2.2))] → W p l e (kR 3 70) s m args below meth c H locs 0 0 (MQ below (kQi (mP E) (inM E) r σr) args s 0 0 (inM E)) (F0 m 38 ls [])) (fun rec38 hrec38 q h => w_X8_isItem_38 C F rec38 (fun σ x1 x2 x3 x4 => hrec38 (σ, x1, x2, x3, x4)) q.1 q.2.1 q.2.2.1 q.2.2.2.1 q.2.2.2.2 h) F (σ, x1, x2, x3, x4) h H locs hP hS ls hl
def s_X8_isItem_34 (F : Nat) (σ : kS) (x1 : Int32) (x2 : Int32) (y0 : Int32) : Option (Int32 × kS) :=
  f_X8_isItem_38 F (σ, x1, x2, y0, (0 : Int32))
set_option maxRecDepth 100000 in
set_option maxHeartbeats 4000000 in
theorem w_X8_isItem_34 (C : Cx E p s m args meth c cX8_isItem 5 RX8 (some .boolean)) (F : Nat) (σ : kS) (x1 : Int32) (x2 : Int32) (y0 : Int32) (h : s_X8_isItem_34 F σ x1 x2 y0 = some (r, σr)) (H : Heap) (locs : List Loc) (hP : mP E σ H) (hS : va_S (inM E) s.heap H locs) (ls : Array Slot) (hl : lv_has ls 5 [(0, .ref (eA E 27)), (1, .int x1), (2, .int x2)]) : W p l e (kR 3 70) s m args below meth c H locs 0 0 (MQ below (kQi (mP E) (inM E) r σr) args s 0 0 (inM E)) (F0 m 34 ls [.int y0]) := by
  obtain ⟨-, hx, hb, hml, hown, hts, hK, -, -⟩ := id C
  unfold s_X8_isItem_34 at h
  refine lv_istore_n (lv' := [(3, .int y0), (0, .ref (eA E 27)), (1, .int x1), (2, .int x2)]) hx hb dX8_isItem_34 rfl hl (by decide) rfl (fun ls hl => ?_)
  refine lv_iconst (v := (0 : Int32)) hx hb dX8_isItem_35 (by decide) ?_
  refine lv_istore (lv' := [(4, .int (0 : Int32)), (3, .int y0), (0, .ref (eA E 27)), (1, .int x1), (2, .int x2)]) hx hb dX8_isItem_36 hl (by decide) rfl (fun ls hl => ?_)
  exact wf_X8_isItem_38 C F σ x1 x2 y0 (0 : Int32) h H locs hP hS ls (lv_sub hl [2, 3, 4, 1, 0] rfl)
def s_X8_isItem_0 (F : Nat) (σ : kS) : Option (Int32 × kS) :=
  (if (kI σ 1) < 0 ∨ 400 ≤ (kI σ 1).toNatClampNeg then none else (kn (kA σ 0 (kI σ 1).toNatClampNeg) (fun x1_2 => (kb (f_X8_parts F (jI σ 1 ((kI σ 1) + (1 : Int32))) x1_2) fun v_3 σ_4 => (if v_3 ≤ 0 then s_X8_isItem_34 F σ_4 x1_2 v_3 (0 : Int32) else s_X8_isItem_34 F σ_4 x1_2 v_3 (1 : Int32))))))
set_option maxRecDepth 100000 in
set_option maxHeartbeats 4000000 in
theorem w_X8_isItem_0 (C : Cx E p s m args meth c cX8_isItem 5 RX8 (some .boolean)) (F : Nat) (σ : kS) (h : s_X8_isItem_0 F σ = some (r, σr)) (H : Heap) (locs : List Loc) (hP : mP E σ H) (hS : va_S (inM E) s.heap H locs) (ls : Array Slot) (hl : lv_has ls 5 [(0, .ref (eA E 27))]) : W p l e (kR 3 70) s m args below meth c H locs 0 0 (MQ below (kQi (mP E) (inM E) r σr) args s 0 0 (inM E)) (F0 m 0 ls []) := by
  obtain ⟨-, hx, hb, hml, hown, hts, hK, -, -⟩ := id C
  unfold s_X8_isItem_0 at h
  refine lv_aload_n hx hb dX8_isItem_0 rfl (lv_at hl 0 rfl) ?_
  refine gf_27_1 C hP w_676 dX8_isItem_1 ?_
  refine lv_aload_n hx hb dX8_isItem_4 rfl (lv_at hl 0 rfl) ?_
  refine gf_27_2 C hP (v := (kI σ 1)) rfl w_677 dX8_isItem_5 ?_
  obtain ⟨n_1, h⟩ := k_no h
  refine al_28 C hP (v := (kA σ 0 (kI σ 1).toNatClampNeg)) rfl n_1 dX8_isItem_8 ?_
  refine lv_topi (fun x1_2 ex1_2 => ?_)
  have h := kn_to ex1_2 h
  refine lv_istore_n (lv' := [(1, .int x1_2), (0, .ref (eA E 27))]) hx hb dX8_isItem_9 rfl hl (by decide) rfl (fun ls hl => ?_)
  refine lv_aload_n hx hb dX8_isItem_10 rfl (lv_at hl 1 rfl) ?_
  refine lv_dup hx hb dX8_isItem_11 rfl ?_
  refine gf_27_2 C hP (v := (kI σ 1)) rfl w_677 dX8_isItem_12 ?_
  refine lv_iconst (v := (1 : Int32)) hx hb dX8_isItem_15 (by decide) ?_
  refine lv_iadd hx hb dX8_isItem_16 ?_
  refine pf_27_2 C hP hS w_677 dX8_isItem_17 (fun H locs hP hS => ?_)
  refine lv_iload_n hx hb dX8_isItem_20 rfl (lv_at hl 0 rfl) ?_
  obtain ⟨v_3, σ_4, hc_5, h⟩ := kb_ok h
  refine kci (krunS (As := [.int x1_2]) C hP (c_X8_parts E C.1 F (jI σ 1 ((kI σ 1) + (1 : Int32))) x1_2 hc_5) w_750 kt_X8_parts ⟨Nat.le_of_ble_eq_true rfl, Nat.le_of_ble_eq_true rfl⟩ rfl hl.1 rfl (Nat.le_of_ble_eq_true rfl) dX8_isItem_21) hS (fun H locs hP hS => ?_)
  refine lv_istore_n (lv' := [(2, .int v_3), (1, .int x1_2), (0, .ref (eA E 27))]) hx hb dX8_isItem_24 rfl hl (by decide) rfl (fun ls hl => ?_)
  refine lv_iload_n hx hb dX8_isItem_25 rfl (lv_at hl 0 rfl) ?_
  refine lv_if_le (tgt := 33) hx hb dX8_isItem_26 (by decide) (fun c_6 => ?_) (fun c_6 => ?_)
  · have h := k_t c_6 h
    refine lv_iconst (v := (0 : Int32)) hx hb dX8_isItem_33 (by decide) ?_
    exact w_X8_isItem_34 C F σ_4 x1_2 v_3 (0 : Int32) h H locs hP hS ls (lv_sub hl [2, 1, 0] rfl)
  · have h := k_f c_6 h
    refine lv_iconst (v := (1 : Int32)) hx hb dX8_isItem_29 (by decide) ?_
    refine lv_goto (tgt := 34) hx hb dX8_isItem_30 (by decide) ?_
    exact w_X8_isItem_34 C F σ_4 x1_2 v_3 (1 : Int32) h H locs hP hS ls (lv_sub hl [2, 1, 0] rfl)
def f_X8_isItem (F : Nat) (σ : kS) : Option (Int32 × kS) := s_X8_isItem_0 F σ
set_option maxRecDepth 100000 in
theorem c_X8_isItem (E : kE) (hE : kap E) (F : Nat) (σ : kS) (h : f_X8_isItem F σ = some (r, σr)) : Met l yX8_isItem (kWs yX8_isItem cX8_isItem 5 (some .boolean)) (kR 3 70) (kPre (mP E) E [.ref (eA E 27)] σ) (kQi (mP E) (inM E) r σr) 0 0 (inM E) :=
  kst hE (by decide +kernel) (Nat.le_of_ble_eq_true rfl) (fun p e s m below meth c ls C hP hl => w_X8_isItem_0 C F σ h s.heap [] hP va_S.rf ls hl)
end

section
variable {p : Program} {l : Launch} {e : Env} {s : State} {m : MethodId} {args : Array Value} {below : List Frame} {meth : Method} {c : Code} {E : kE} {σr : kS}
variable {r : Int32}
def s_X8_fault_9 (F : Nat) (rec9 : (kS → Option (Int32 × kS))) (σ : kS) : Option (Int32 × kS) :=
  (if (kI σ 0) ≤ (kI σ 1) then some ((-4 : Int32), σ) else (kb (f_X8_isItem F σ) fun v_2 σ_3 => (if v_2 = 0 then some ((kI σ 1), σ_3) else rec9 (σ_3))))
set_option maxRecDepth 100000 in
set_option maxHeartbeats 4000000 in
theorem w_X8_fault_9 (C : Cx E p s m args meth c cX8_fault 2 RX8 (some .int)) (F : Nat) (rec9 : (kS → Option (Int32 × kS))) (hrec9 : ∀ (σ : kS), rec9 (σ) = some (r, σr) → ∀ (H : Heap) (locs : List Loc), mP E σ H → va_S (inM E) s.heap H locs → ∀ (ls : Array Slot), lv_has ls 2 [(0, .ref (eA E 27))] → W p l e (kR 4 94) s m args below meth c H locs 0 0 (MQ below (kQi (mP E) (inM E) r σr) args s 0 0 (inM E)) (F0 m 9 ls [])) (σ : kS) (h : s_X8_fault_9 F rec9 σ = some (r, σr)) (H : Heap) (locs : List Loc) (hP : mP E σ H) (hS : va_S (inM E) s.heap H locs) (ls : Array Slot) (hl : lv_has ls 2 [(0, .ref (eA E 27))]) : W p l e (kR 4 94) s m args below meth c H locs 0 0 (MQ below (kQi (mP E) (inM E) r σr) args s 0 0 (inM E)) (F0 m 9 ls []) := by
  obtain ⟨-, hx, hb, hml, hown, hts, hK, -, -⟩ := id C
  unfold s_X8_fault_9 at h
  refine lv_aload_n hx hb dX8_fault_9 rfl (lv_at hl 0 rfl) ?_
  refine gf_27_2 C hP (v := (kI σ 1)) rfl w_677 dX8_fault_10 ?_
  refine lv_aload_n hx hb dX8_fault_13 rfl (lv_at hl 0 rfl) ?_
  refine gf_27_0 C hP (v := (kI σ 0)) rfl w_675 dX8_fault_14 ?_
  refine lv_icmp_ge (tgt := 37) hx hb dX8_fault_17 (by decide) (fun c_1 => ?_) (fun c_1 => ?_)
  · have h := k_t c_1 h
    refine lv_bipush (v := (-4 : Int32)) hx hb dX8_fault_37 (by decide) ?_
    obtain ⟨rfl, rfl⟩ := k_inj h
    exact kri C hS hP dX8_fault_39
  · have h := k_f c_1 h
    refine lv_aload_n hx hb dX8_fault_20 rfl (lv_at hl 0 rfl) ?_
    refine gf_27_2 C hP (v := (kI σ 1)) rfl w_677 dX8_fault_21 ?_
    refine lv_istore_n (lv' := [(1, .int (kI σ 1)), (0, .ref (eA E 27))]) hx hb dX8_fault_24 rfl hl (by decide) rfl (fun ls hl => ?_)
    refine lv_aload_n hx hb dX8_fault_25 rfl (lv_at hl 1 rfl) ?_
    obtain ⟨v_2, σ_3, hc_4, h⟩ := kb_ok h
    refine kci (krunV (As := []) C hP (c_X8_isItem E C.1 F σ hc_4) w_746 kv_X8_isItem ⟨Nat.le_of_ble_eq_true rfl, Nat.le_of_ble_eq_true rfl⟩ (rc_27 C hP) rfl hl.1 rfl (Nat.le_of_ble_eq_true rfl) dX8_fault_26) hS (fun H locs hP hS => ?_)
    refine lv_if_ne (tgt := 34) hx hb dX8_fault_29 (by decide) (fun c_5 => ?_) (fun c_5 => ?_)
    · have h := k_f c_5 h
      refine lv_goto (tgt := 9) hx hb dX8_fault_34 (by decide) ?_
      exact hrec9 σ_3 h H locs hP hS ls (lv_sub hl [1] rfl)
    · have h := k_t c_5 h
      refine lv_iload_n hx hb dX8_fault_32 rfl (lv_at hl 0 rfl) ?_
      obtain ⟨rfl, rfl⟩ := k_inj h
      exact kri C hS hP dX8_fault_33
def f_X8_fault_9 (F : Nat) : kS → Option (Int32 × kS) := itr (fun rec9 q => s_X8_fault_9 F rec9 q) F
theorem wf_X8_fault_9 (C : Cx E p s m args meth c cX8_fault 2 RX8 (some .int)) (F : Nat) (σ : kS) (h : f_X8_fault_9 F (σ) = some (r, σr)) (H : Heap) (locs : List Loc) (hP : mP E σ H) (hS : va_S (inM E) s.heap H locs) (ls : Array Slot) (hl : lv_has ls 2 [(0, .ref (eA E 27))]) : W p l e (kR 4 94) s m args below meth c H locs 0 0 (MQ below (kQi (mP E) (inM E) r σr) args s 0 0 (inM E)) (F0 m 9 ls []) :=
  itr_ok (r := (r, σr)) (G := fun q => ∀ (H : Heap) (locs : List Loc), mP E q H → va_S (inM E) s.heap H locs → ∀ (ls : Array Slot), lv_has ls 2 [(0, .ref (eA E 27))] → W p l e (kR 4 94) s m args below meth c H locs 0 0 (MQ below (kQi (mP E) (inM E) r σr) args s 0 0 (inM E)) (F0 m 9 ls [])) (fun rec9 hrec9 q h => w_X8_fault_9 C F rec9 (fun σ => hrec9 (σ)) q h) F (σ) h H locs hP hS ls hl
def s_X8_fault_0 (F : Nat) (σ : kS) : Option (Int32 × kS) :=
  (kb (f_X8_begins F (jI σ 1 (0 : Int32))) fun _ σ_2 => f_X8_fault_9 F (σ_2))
set_option maxRecDepth 100000 in
set_option maxHeartbeats 4000000 in
theorem w_X8_fault_0 (C : Cx E p s m args meth c cX8_fault 2 RX8 (some .int)) (F : Nat) (σ : kS) (h : s_X8_fault_0 F σ = some (r, σr)) (H : Heap) (locs : List Loc) (hP : mP E σ H) (hS : va_S (inM E) s.heap H locs) (ls : Array Slot) (hl : lv_has ls 2 [(0, .ref (eA E 27))]) : W p l e (kR 4 94) s m args below meth c H locs 0 0 (MQ below (kQi (mP E) (inM E) r σr) args s 0 0 (inM E)) (F0 m 0 ls []) := by
  obtain ⟨-, hx, hb, hml, hown, hts, hK, -, -⟩ := id C
  unfold s_X8_fault_0 at h
  refine lv_aload_n hx hb dX8_fault_0 rfl (lv_at hl 0 rfl) ?_
  refine lv_iconst (v := (0 : Int32)) hx hb dX8_fault_1 (by decide) ?_
  refine pf_27_2 C hP hS w_677 dX8_fault_2 (fun H locs hP hS => ?_)
  refine lv_aload_n hx hb dX8_fault_5 rfl (lv_at hl 0 rfl) ?_
  obtain ⟨v_1, σ_2, hc_3, h⟩ := kb_ok h
  refine kcv (krunV (As := []) C hP (c_X8_begins E C.1 F (jI σ 1 (0 : Int32)) hc_3) w_667 kv_X8_begins ⟨Nat.le_of_ble_eq_true rfl, Nat.le_of_ble_eq_true rfl⟩ (rc_27 C hP) rfl hl.1 rfl (Nat.le_of_ble_eq_true rfl) dX8_fault_6) hS (fun H locs hP hS => ?_)
  exact wf_X8_fault_9 C F σ_2 h H locs hP hS ls hl
def f_X8_fault (F : Nat) (σ : kS) : Option (Int32 × kS) := s_X8_fault_0 F σ
set_option maxRecDepth 100000 in
theorem c_X8_fault (E : kE) (hE : kap E) (F : Nat) (σ : kS) (h : f_X8_fault F σ = some (r, σr)) : Met l yX8_fault (kWs yX8_fault cX8_fault 2 (some .int)) (kR 4 94) (kPre (mP E) E [.ref (eA E 27)] σ) (kQi (mP E) (inM E) r σr) 0 0 (inM E) :=
  kst hE (by decide +kernel) (Nat.le_of_ble_eq_true rfl) (fun p e s m below meth c ls C hP hl => w_X8_fault_0 C F σ h s.heap [] hP va_S.rf ls hl)
end

section
variable {p : Program} {l : Launch} {e : Env} {s : State} {m : MethodId} {args : Array Value} {below : List Frame} {meth : Method} {c : Code} {E : kE} {σr : kS}
variable {r : Unit}
def s_X8_takes_102 (F : Nat) (rec102 : (kS × Int32 → Option (Unit × kS))) (σ : kS) (x1 : Int32) : Option (Unit × kS) :=
  (if (4 : Int32) ≤ x1 then some ((), (jI (jI (jI (jI σ 3 (0 : Int32)) 4 (0 : Int32)) 5 (0 : Int32)) 2 (0 : Int32))) else (if x1 < 0 ∨ 12 ≤ x1.toNatClampNeg then none else rec102 ((jB σ 0 x1.toNatClampNeg (0 : Int64)), (x1 + (1 : Int32)))))
set_option maxRecDepth 100000 in
set_option maxHeartbeats 4000000 in
theorem w_X8_takes_102 (C : Cx E p s m args meth c cX8_takes 2 RX8 none) (F : Nat) (rec102 : (kS × Int32 → Option (Unit × kS))) (hrec102 : ∀ (σ : kS) (x1 : Int32), rec102 (σ, x1) = some (r, σr) → ∀ (H : Heap) (locs : List Loc), mP E σ H → va_S (inM E) s.heap H locs → ∀ (ls : Array Slot), lv_has ls 2 [(0, .ref (eA E 27)), (1, .int x1)] → W p l e (kR 0 0) s m args below meth c H locs 0 0 (MQ below (kQv (mP E) (inM E) r σr) args s 0 0 (inM E)) (F0 m 102 ls [])) (σ : kS) (x1 : Int32) (h : s_X8_takes_102 F rec102 σ x1 = some (r, σr)) (H : Heap) (locs : List Loc) (hP : mP E σ H) (hS : va_S (inM E) s.heap H locs) (ls : Array Slot) (hl : lv_has ls 2 [(0, .ref (eA E 27)), (1, .int x1)]) : W p l e (kR 0 0) s m args below meth c H locs 0 0 (MQ below (kQv (mP E) (inM E) r σr) args s 0 0 (inM E)) (F0 m 102 ls []) := by
  obtain ⟨-, hx, hb, hml, hown, hts, hK, -, -⟩ := id C
  unfold s_X8_takes_102 at h
  refine lv_iload_n hx hb dX8_takes_102 rfl (lv_at hl 1 rfl) ?_
  refine lv_iconst (v := (4 : Int32)) hx hb dX8_takes_103 (by decide) ?_
  refine lv_icmp_ge (tgt := 120) hx hb dX8_takes_104 (by decide) (fun c_1 => ?_) (fun c_1 => ?_)
  · have h := k_t c_1 h
    refine lv_aload_n hx hb dX8_takes_120 rfl (lv_at hl 0 rfl) ?_
    refine lv_iconst (v := (0 : Int32)) hx hb dX8_takes_121 (by decide) ?_
    refine pf_27_9 C hP hS w_684 dX8_takes_122 (fun H locs hP hS => ?_)
    refine lv_aload_n hx hb dX8_takes_125 rfl (lv_at hl 0 rfl) ?_
    refine lv_iconst (v := (0 : Int32)) hx hb dX8_takes_126 (by decide) ?_
    refine pf_27_11 C hP hS w_686 dX8_takes_127 (fun H locs hP hS => ?_)
    refine lv_aload_n hx hb dX8_takes_130 rfl (lv_at hl 0 rfl) ?_
    refine lv_iconst (v := (0 : Int32)) hx hb dX8_takes_131 (by decide) ?_
    refine pf_27_14 C hP hS w_689 dX8_takes_132 (fun H locs hP hS => ?_)
    refine lv_aload_n hx hb dX8_takes_135 rfl (lv_at hl 0 rfl) ?_
    refine lv_iconst (v := (0 : Int32)) hx hb dX8_takes_136 (by decide) ?_
    refine pf_27_8 C hP hS w_683 dX8_takes_137 (fun H locs hP hS => ?_)
    obtain ⟨rfl, rfl⟩ := k_inj h
    exact krv C hS hP dX8_takes_140
  · have h := k_f c_1 h
    refine lv_aload_n hx hb dX8_takes_107 rfl (lv_at hl 0 rfl) ?_
    refine gf_27_7 C hP w_682 dX8_takes_108 ?_
    refine lv_iload_n hx hb dX8_takes_111 rfl (lv_at hl 1 rfl) ?_
    refine lv_lconst (v := (0 : Int64)) hx hb dX8_takes_112 (by decide) ?_
    obtain ⟨n_2, h⟩ := k_no h
    refine as_33 C hP hS (σ2 := (jB σ 0 x1.toNatClampNeg (0 : Int64))) rfl n_2 dX8_takes_113 (fun H locs hP hS => ?_)
    refine lv_iinc (v := (x1 + (1 : Int32))) (lv' := [(1, .int (x1 + (1 : Int32))), (0, .ref (eA E 27))]) hx hb dX8_takes_114 hl (k := 1) rfl rfl (by decide) rfl (fun ls hl => ?_)
    refine lv_goto (tgt := 102) hx hb dX8_takes_117 (by decide) ?_
    exact hrec102 (jB σ 0 x1.toNatClampNeg (0 : Int64)) (x1 + (1 : Int32)) h H locs hP hS ls (lv_sub hl [1, 0] rfl)
def f_X8_takes_102 (F : Nat) : kS × Int32 → Option (Unit × kS) := itr (fun rec102 q => s_X8_takes_102 F rec102 q.1 q.2) F
theorem wf_X8_takes_102 (C : Cx E p s m args meth c cX8_takes 2 RX8 none) (F : Nat) (σ : kS) (x1 : Int32) (h : f_X8_takes_102 F (σ, x1) = some (r, σr)) (H : Heap) (locs : List Loc) (hP : mP E σ H) (hS : va_S (inM E) s.heap H locs) (ls : Array Slot) (hl : lv_has ls 2 [(0, .ref (eA E 27)), (1, .int x1)]) : W p l e (kR 0 0) s m args below meth c H locs 0 0 (MQ below (kQv (mP E) (inM E) r σr) args s 0 0 (inM E)) (F0 m 102 ls []) :=
  itr_ok (r := (r, σr)) (G := fun q => ∀ (H : Heap) (locs : List Loc), mP E q.1 H → va_S (inM E) s.heap H locs → ∀ (ls : Array Slot), lv_has ls 2 [(0, .ref (eA E 27)), (1, .int (q.2))] → W p l e (kR 0 0) s m args below meth c H locs 0 0 (MQ below (kQv (mP E) (inM E) r σr) args s 0 0 (inM E)) (F0 m 102 ls [])) (fun rec102 hrec102 q h => w_X8_takes_102 C F rec102 (fun σ x1 => hrec102 (σ, x1)) q.1 q.2 h) F (σ, x1) h H locs hP hS ls hl
def s_X8_takes_72 (F : Nat) (rec72 : (kS × Int32 → Option (Unit × kS))) (σ : kS) (x1 : Int32) : Option (Unit × kS) :=
  (if (6 : Int32) ≤ x1 then f_X8_takes_102 F (σ, (0 : Int32)) else (if (((5 : Int32) * x1) + (1 : Int32)) < 0 ∨ 60 ≤ (((5 : Int32) * x1) + (1 : Int32)).toNatClampNeg then none else (if x1 < 0 ∨ 18 ≤ x1.toNatClampNeg then none else rec72 ((jA σ 4 x1.toNatClampNeg (kA σ 3 (((5 : Int32) * x1) + (1 : Int32)).toNatClampNeg)), (x1 + (1 : Int32))))))
set_option maxRecDepth 100000 in
set_option maxHeartbeats 4000000 in
theorem w_X8_takes_72 (C : Cx E p s m args meth c cX8_takes 2 RX8 none) (F : Nat) (rec72 : (kS × Int32 → Option (Unit × kS))) (hrec72 : ∀ (σ : kS) (x1 : Int32), rec72 (σ, x1) = some (r, σr) → ∀ (H : Heap) (locs : List Loc), mP E σ H → va_S (inM E) s.heap H locs → ∀ (ls : Array Slot), lv_has ls 2 [(0, .ref (eA E 27)), (1, .int x1)] → W p l e (kR 0 0) s m args below meth c H locs 0 0 (MQ below (kQv (mP E) (inM E) r σr) args s 0 0 (inM E)) (F0 m 72 ls [])) (σ : kS) (x1 : Int32) (h : s_X8_takes_72 F rec72 σ x1 = some (r, σr)) (H : Heap) (locs : List Loc) (hP : mP E σ H) (hS : va_S (inM E) s.heap H locs) (ls : Array Slot) (hl : lv_has ls 2 [(0, .ref (eA E 27)), (1, .int x1)]) : W p l e (kR 0 0) s m args below meth c H locs 0 0 (MQ below (kQv (mP E) (inM E) r σr) args s 0 0 (inM E)) (F0 m 72 ls []) := by
  obtain ⟨-, hx, hb, hml, hown, hts, hK, -, -⟩ := id C
  unfold s_X8_takes_72 at h
  refine lv_iload_n hx hb dX8_takes_72 rfl (lv_at hl 1 rfl) ?_
  refine lv_bipush (v := (6 : Int32)) hx hb dX8_takes_73 (by decide) ?_
  refine lv_icmp_ge (tgt := 100) hx hb dX8_takes_75 (by decide) (fun c_1 => ?_) (fun c_1 => ?_)
  · have h := k_t c_1 h
    refine lv_iconst (v := (0 : Int32)) hx hb dX8_takes_100 (by decide) ?_
    refine lv_istore_n (lv' := [(1, .int (0 : Int32)), (0, .ref (eA E 27))]) hx hb dX8_takes_101 rfl hl (by decide) rfl (fun ls hl => ?_)
    exact wf_X8_takes_102 C F σ (0 : Int32) h H locs hP hS ls (lv_sub hl [1, 0] rfl)
  · have h := k_f c_1 h
    refine lv_aload_n hx hb dX8_takes_78 rfl (lv_at hl 0 rfl) ?_
    refine gf_27_6 C hP w_681 dX8_takes_79 ?_
    refine lv_iload_n hx hb dX8_takes_82 rfl (lv_at hl 1 rfl) ?_
    refine lv_aload_n hx hb dX8_takes_83 rfl (lv_at hl 0 rfl) ?_
    refine gf_27_5 C hP w_680 dX8_takes_84 ?_
    refine lv_iconst (v := (5 : Int32)) hx hb dX8_takes_87 (by decide) ?_
    refine lv_iload_n hx hb dX8_takes_88 rfl (lv_at hl 1 rfl) ?_
    refine lv_imul hx hb dX8_takes_89 ?_
    refine lv_iconst (v := (1 : Int32)) hx hb dX8_takes_90 (by decide) ?_
    refine lv_iadd hx hb dX8_takes_91 ?_
    obtain ⟨n_2, h⟩ := k_no h
    refine al_31 C hP (v := (kA σ 3 (((5 : Int32) * x1) + (1 : Int32)).toNatClampNeg)) rfl n_2 dX8_takes_92 ?_
    obtain ⟨n_3, h⟩ := k_no h
    refine as_32 C hP hS (σ2 := (jA σ 4 x1.toNatClampNeg (kA σ 3 (((5 : Int32) * x1) + (1 : Int32)).toNatClampNeg))) rfl n_3 dX8_takes_93 (fun H locs hP hS => ?_)
    refine lv_iinc (v := (x1 + (1 : Int32))) (lv' := [(1, .int (x1 + (1 : Int32))), (0, .ref (eA E 27))]) hx hb dX8_takes_94 hl (k := 1) rfl rfl (by decide) rfl (fun ls hl => ?_)
    refine lv_goto (tgt := 72) hx hb dX8_takes_97 (by decide) ?_
    exact hrec72 (jA σ 4 x1.toNatClampNeg (kA σ 3 (((5 : Int32) * x1) + (1 : Int32)).toNatClampNeg)) (x1 + (1 : Int32)) h H locs hP hS ls (lv_sub hl [1, 0] rfl)
def f_X8_takes_72 (F : Nat) : kS × Int32 → Option (Unit × kS) := itr (fun rec72 q => s_X8_takes_72 F rec72 q.1 q.2) F
theorem wf_X8_takes_72 (C : Cx E p s m args meth c cX8_takes 2 RX8 none) (F : Nat) (σ : kS) (x1 : Int32) (h : f_X8_takes_72 F (σ, x1) = some (r, σr)) (H : Heap) (locs : List Loc) (hP : mP E σ H) (hS : va_S (inM E) s.heap H locs) (ls : Array Slot) (hl : lv_has ls 2 [(0, .ref (eA E 27)), (1, .int x1)]) : W p l e (kR 0 0) s m args below meth c H locs 0 0 (MQ below (kQv (mP E) (inM E) r σr) args s 0 0 (inM E)) (F0 m 72 ls []) :=
  itr_ok (r := (r, σr)) (G := fun q => ∀ (H : Heap) (locs : List Loc), mP E q.1 H → va_S (inM E) s.heap H locs → ∀ (ls : Array Slot), lv_has ls 2 [(0, .ref (eA E 27)), (1, .int (q.2))] → W p l e (kR 0 0) s m args below meth c H locs 0 0 (MQ below (kQv (mP E) (inM E) r σr) args s 0 0 (inM E)) (F0 m 72 ls [])) (fun rec72 hrec72 q h => w_X8_takes_72 C F rec72 (fun σ x1 => hrec72 (σ, x1)) q.1 q.2 h) F (σ, x1) h H locs hP hS ls hl
def s_X8_takes_43 (F : Nat) (rec43 : (kS × Int32 → Option (Unit × kS))) (σ : kS) (x1 : Int32) : Option (Unit × kS) :=
  (if (30 : Int32) ≤ x1 then f_X8_takes_72 F (σ, (0 : Int32)) else (if ((30 : Int32) + x1) < 0 ∨ 60 ≤ ((30 : Int32) + x1).toNatClampNeg then none else (if x1 < 0 ∨ 60 ≤ x1.toNatClampNeg then none else rec43 ((jA σ 3 x1.toNatClampNeg (kA σ 3 ((30 : Int32) + x1).toNatClampNeg)), (x1 + (1 : Int32))))))
set_option maxRecDepth 100000 in
set_option maxHeartbeats 4000000 in
theorem w_X8_takes_43 (C : Cx E p s m args meth c cX8_takes 2 RX8 none) (F : Nat) (rec43 : (kS × Int32 → Option (Unit × kS))) (hrec43 : ∀ (σ : kS) (x1 : Int32), rec43 (σ, x1) = some (r, σr) → ∀ (H : Heap) (locs : List Loc), mP E σ H → va_S (inM E) s.heap H locs → ∀ (ls : Array Slot), lv_has ls 2 [(0, .ref (eA E 27)), (1, .int x1)] → W p l e (kR 0 0) s m args below meth c H locs 0 0 (MQ below (kQv (mP E) (inM E) r σr) args s 0 0 (inM E)) (F0 m 43 ls [])) (σ : kS) (x1 : Int32) (h : s_X8_takes_43 F rec43 σ x1 = some (r, σr)) (H : Heap) (locs : List Loc) (hP : mP E σ H) (hS : va_S (inM E) s.heap H locs) (ls : Array Slot) (hl : lv_has ls 2 [(0, .ref (eA E 27)), (1, .int x1)]) : W p l e (kR 0 0) s m args below meth c H locs 0 0 (MQ below (kQv (mP E) (inM E) r σr) args s 0 0 (inM E)) (F0 m 43 ls []) := by
  obtain ⟨-, hx, hb, hml, hown, hts, hK, -, -⟩ := id C
  unfold s_X8_takes_43 at h
  refine lv_iload_n hx hb dX8_takes_43 rfl (lv_at hl 1 rfl) ?_
  refine lv_bipush (v := (30 : Int32)) hx hb dX8_takes_44 (by decide) ?_
  refine lv_icmp_ge (tgt := 70) hx hb dX8_takes_46 (by decide) (fun c_1 => ?_) (fun c_1 => ?_)
  · have h := k_t c_1 h
    refine lv_iconst (v := (0 : Int32)) hx hb dX8_takes_70 (by decide) ?_
    refine lv_istore_n (lv' := [(1, .int (0 : Int32)), (0, .ref (eA E 27))]) hx hb dX8_takes_71 rfl hl (by decide) rfl (fun ls hl => ?_)
    exact wf_X8_takes_72 C F σ (0 : Int32) h H locs hP hS ls (lv_sub hl [1, 0] rfl)
  · have h := k_f c_1 h
    refine lv_aload_n hx hb dX8_takes_49 rfl (lv_at hl 0 rfl) ?_
    refine gf_27_5 C hP w_680 dX8_takes_50 ?_
    refine lv_iload_n hx hb dX8_takes_53 rfl (lv_at hl 1 rfl) ?_
    refine lv_aload_n hx hb dX8_takes_54 rfl (lv_at hl 0 rfl) ?_
    refine gf_27_5 C hP w_680 dX8_takes_55 ?_
    refine lv_bipush (v := (30 : Int32)) hx hb dX8_takes_58 (by decide) ?_
    refine lv_iload_n hx hb dX8_takes_60 rfl (lv_at hl 1 rfl) ?_
    refine lv_iadd hx hb dX8_takes_61 ?_
    obtain ⟨n_2, h⟩ := k_no h
    refine al_31 C hP (v := (kA σ 3 ((30 : Int32) + x1).toNatClampNeg)) rfl n_2 dX8_takes_62 ?_
    obtain ⟨n_3, h⟩ := k_no h
    refine as_31 C hP hS (σ2 := (jA σ 3 x1.toNatClampNeg (kA σ 3 ((30 : Int32) + x1).toNatClampNeg))) rfl n_3 dX8_takes_63 (fun H locs hP hS => ?_)
    refine lv_iinc (v := (x1 + (1 : Int32))) (lv' := [(1, .int (x1 + (1 : Int32))), (0, .ref (eA E 27))]) hx hb dX8_takes_64 hl (k := 1) rfl rfl (by decide) rfl (fun ls hl => ?_)
    refine lv_goto (tgt := 43) hx hb dX8_takes_67 (by decide) ?_
    exact hrec43 (jA σ 3 x1.toNatClampNeg (kA σ 3 ((30 : Int32) + x1).toNatClampNeg)) (x1 + (1 : Int32)) h H locs hP hS ls (lv_sub hl [1, 0] rfl)
def f_X8_takes_43 (F : Nat) : kS × Int32 → Option (Unit × kS) := itr (fun rec43 q => s_X8_takes_43 F rec43 q.1 q.2) F
theorem wf_X8_takes_43 (C : Cx E p s m args meth c cX8_takes 2 RX8 none) (F : Nat) (σ : kS) (x1 : Int32) (h : f_X8_takes_43 F (σ, x1) = some (r, σr)) (H : Heap) (locs : List Loc) (hP : mP E σ H) (hS : va_S (inM E) s.heap H locs) (ls : Array Slot) (hl : lv_has ls 2 [(0, .ref (eA E 27)), (1, .int x1)]) : W p l e (kR 0 0) s m args below meth c H locs 0 0 (MQ below (kQv (mP E) (inM E) r σr) args s 0 0 (inM E)) (F0 m 43 ls []) :=
  itr_ok (r := (r, σr)) (G := fun q => ∀ (H : Heap) (locs : List Loc), mP E q.1 H → va_S (inM E) s.heap H locs → ∀ (ls : Array Slot), lv_has ls 2 [(0, .ref (eA E 27)), (1, .int (q.2))] → W p l e (kR 0 0) s m args below meth c H locs 0 0 (MQ below (kQv (mP E) (inM E) r σr) args s 0 0 (inM E)) (F0 m 43 ls [])) (fun rec43 hrec43 q h => w_X8_takes_43 C F rec43 (fun σ x1 => hrec43 (σ, x1)) q.1 q.2 h) F (σ, x1) h H locs hP hS ls hl
def s_X8_takes_2 (F : Nat) (rec2 : (kS × Int32 → Option (Unit × kS))) (σ : kS) (x1 : Int32) : Option (Unit × kS) :=
  (if (6 : Int32) ≤ x1 then f_X8_takes_43 F ((jA σ 2 0 (kA σ 2 1)), (0 : Int32)) else (if ((6 : Int32) + x1) < 0 ∨ 12 ≤ ((6 : Int32) + x1).toNatClampNeg then none else (if x1 < 0 ∨ 12 ≤ x1.toNatClampNeg then none else rec2 ((jA σ 1 x1.toNatClampNeg (kA σ 1 ((6 : Int32) + x1).toNatClampNeg)), (x1 + (1 : Int32))))))
set_option maxRecDepth 100000 in
set_option maxHeartbeats 4000000 in
theorem w_X8_takes_2 (C : Cx E p s m args meth c cX8_takes 2 RX8 none) (F : Nat) (rec2 : (kS × Int32 → Option (Unit × kS))) (hrec2 : ∀ (σ : kS) (x1 : Int32), rec2 (σ, x1) = some (r, σr) → ∀ (H : Heap) (locs : List Loc), mP E σ H → va_S (inM E) s.heap H locs → ∀ (ls : Array Slot), lv_has ls 2 [(0, .ref (eA E 27)), (1, .int x1)] → W p l e (kR 0 0) s m args below meth c H locs 0 0 (MQ below (kQv (mP E) (inM E) r σr) args s 0 0 (inM E)) (F0 m 2 ls [])) (σ : kS) (x1 : Int32) (h : s_X8_takes_2 F rec2 σ x1 = some (r, σr)) (H : Heap) (locs : List Loc) (hP : mP E σ H) (hS : va_S (inM E) s.heap H locs) (ls : Array Slot) (hl : lv_has ls 2 [(0, .ref (eA E 27)), (1, .int x1)]) : W p l e (kR 0 0) s m args below meth c H locs 0 0 (MQ below (kQv (mP E) (inM E) r σr) args s 0 0 (inM E)) (F0 m 2 ls []) := by
  obtain ⟨-, hx, hb, hml, hown, hts, hK, -, -⟩ := id C
  unfold s_X8_takes_2 at h
  refine lv_iload_n hx hb dX8_takes_2 rfl (lv_at hl 1 rfl) ?_
  refine lv_bipush (v := (6 : Int32)) hx hb dX8_takes_3 (by decide) ?_
  refine lv_icmp_ge (tgt := 29) hx hb dX8_takes_5 (by decide) (fun c_1 => ?_) (fun c_1 => ?_)
  · have h := k_t c_1 h
    refine lv_aload_n hx hb dX8_takes_29 rfl (lv_at hl 0 rfl) ?_
    refine gf_27_4 C hP w_679 dX8_takes_30 ?_
    refine lv_iconst (v := (0 : Int32)) hx hb dX8_takes_33 (by decide) ?_
    refine lv_aload_n hx hb dX8_takes_34 rfl (lv_at hl 0 rfl) ?_
    refine gf_27_4 C hP w_679 dX8_takes_35 ?_
    refine lv_iconst (v := (1 : Int32)) hx hb dX8_takes_38 (by decide) ?_
    refine al_30 C hP (v := (kA σ 2 1)) rfl (by unfold vp_in; decide) dX8_takes_39 ?_
    refine as_30 C hP hS (σ2 := (jA σ 2 0 (kA σ 2 1))) rfl (by unfold vp_in; decide) dX8_takes_40 (fun H locs hP hS => ?_)
    refine lv_iconst (v := (0 : Int32)) hx hb dX8_takes_41 (by decide) ?_
    refine lv_istore_n (lv' := [(1, .int (0 : Int32)), (0, .ref (eA E 27))]) hx hb dX8_takes_42 rfl hl (by decide) rfl (fun ls hl => ?_)
    exact wf_X8_takes_43 C F (jA σ 2 0 (kA σ 2 1)) (0 : Int32) h H locs hP hS ls (lv_sub hl [1, 0] rfl)
  · have h := k_f c_1 h
    refine lv_aload_n hx hb dX8_takes_8 rfl (lv_at hl 0 rfl) ?_
    refine gf_27_3 C hP w_678 dX8_takes_9 ?_
    refine lv_iload_n hx hb dX8_takes_12 rfl (lv_at hl 1 rfl) ?_
    refine lv_aload_n hx hb dX8_takes_13 rfl (lv_at hl 0 rfl) ?_
    refine gf_27_3 C hP w_678 dX8_takes_14 ?_
    refine lv_bipush (v := (6 : Int32)) hx hb dX8_takes_17 (by decide) ?_
    refine lv_iload_n hx hb dX8_takes_19 rfl (lv_at hl 1 rfl) ?_
    refine lv_iadd hx hb dX8_takes_20 ?_
    obtain ⟨n_2, h⟩ := k_no h
    refine al_29 C hP (v := (kA σ 1 ((6 : Int32) + x1).toNatClampNeg)) rfl n_2 dX8_takes_21 ?_
    obtain ⟨n_3, h⟩ := k_no h
    refine as_29 C hP hS (σ2 := (jA σ 1 x1.toNatClampNeg (kA σ 1 ((6 : Int32) + x1).toNatClampNeg))) rfl n_3 dX8_takes_22 (fun H locs hP hS => ?_)
    refine lv_iinc (v := (x1 + (1 : Int32))) (lv' := [(1, .int (x1 + (1 : Int32))), (0, .ref (eA E 27))]) hx hb dX8_takes_23 hl (k := 1) rfl rfl (by decide) rfl (fun ls hl => ?_)
    refine lv_goto (tgt := 2) hx hb dX8_takes_26 (by decide) ?_
    exact hrec2 (jA σ 1 x1.toNatClampNeg (kA σ 1 ((6 : Int32) + x1).toNatClampNeg)) (x1 + (1 : Int32)) h H locs hP hS ls (lv_sub hl [1, 0] rfl)
def f_X8_takes_2 (F : Nat) : kS × Int32 → Option (Unit × kS) := itr (fun rec2 q => s_X8_takes_2 F rec2 q.1 q.2) F
theorem wf_X8_takes_2 (C : Cx E p s m args meth c cX8_takes 2 RX8 none) (F : Nat) (σ : kS) (x1 : Int32) (h : f_X8_takes_2 F (σ, x1) = some (r, σr)) (H : Heap) (locs : List Loc) (hP : mP E σ H) (hS : va_S (inM E) s.heap H locs) (ls : Array Slot) (hl : lv_has ls 2 [(0, .ref (eA E 27)), (1, .int x1)]) : W p l e (kR 0 0) s m args below meth c H locs 0 0 (MQ below (kQv (mP E) (inM E) r σr) args s 0 0 (inM E)) (F0 m 2 ls []) :=
  itr_ok (r := (r, σr)) (G := fun q => ∀ (H : Heap) (locs : List Loc), mP E q.1 H → va_S (inM E) s.heap H locs → ∀ (ls : Array Slot), lv_has ls 2 [(0, .ref (eA E 27)), (1, .int (q.2))] → W p l e (kR 0 0) s m args below meth c H locs 0 0 (MQ below (kQv (mP E) (inM E) r σr) args s 0 0 (inM E)) (F0 m 2 ls [])) (fun rec2 hrec2 q h => w_X8_takes_2 C F rec2 (fun σ x1 => hrec2 (σ, x1)) q.1 q.2 h) F (σ, x1) h H locs hP hS ls hl
def s_X8_takes_0 (F : Nat) (σ : kS) : Option (Unit × kS) :=
  f_X8_takes_2 F (σ, (0 : Int32))
set_option maxRecDepth 100000 in
set_option maxHeartbeats 4000000 in
theorem w_X8_takes_0 (C : Cx E p s m args meth c cX8_takes 2 RX8 none) (F : Nat) (σ : kS) (h : s_X8_takes_0 F σ = some (r, σr)) (H : Heap) (locs : List Loc) (hP : mP E σ H) (hS : va_S (inM E) s.heap H locs) (ls : Array Slot) (hl : lv_has ls 2 [(0, .ref (eA E 27))]) : W p l e (kR 0 0) s m args below meth c H locs 0 0 (MQ below (kQv (mP E) (inM E) r σr) args s 0 0 (inM E)) (F0 m 0 ls []) := by
  obtain ⟨-, hx, hb, hml, hown, hts, hK, -, -⟩ := id C
  unfold s_X8_takes_0 at h
  refine lv_iconst (v := (0 : Int32)) hx hb dX8_takes_0 (by decide) ?_
  refine lv_istore_n (lv' := [(1, .int (0 : Int32)), (0, .ref (eA E 27))]) hx hb dX8_takes_1 rfl hl (by decide) rfl (fun ls hl => ?_)
  exact wf_X8_takes_2 C F σ (0 : Int32) h H locs hP hS ls (lv_sub hl [1, 0] rfl)
def f_X8_takes (F : Nat) (σ : kS) : Option (Unit × kS) := s_X8_takes_0 F σ
set_option maxRecDepth 100000 in
theorem c_X8_takes (E : kE) (hE : kap E) (F : Nat) (σ : kS) (h : f_X8_takes F σ = some (r, σr)) : Met l yX8_takes (kWs yX8_takes cX8_takes 2 none) (kR 0 0) (kPre (mP E) E [.ref (eA E 27)] σ) (kQv (mP E) (inM E) r σr) 0 0 (inM E) :=
  kst hE (by decide +kernel) (Nat.le_of_ble_eq_true rfl) (fun p e s m below meth c ls C hP hl => w_X8_takes_0 C F σ h s.heap [] hP va_S.rf ls hl)
end

section
variable {p : Program} {l : Launch} {e : Env} {s : State} {m : MethodId} {args : Array Value} {below : List Frame} {meth : Method} {c : Code} {E : kE} {σr : kS}
variable {r : Int32}
def s_X8_lay_0 (F : Nat) (σ : kS) : Option (Int32 × kS) :=
  (kb (f_X8_fault F σ) fun v_1 σ_2 => (if v_1 = (-4 : Int32) then (if (kA σ_2 2 1) = 0 then some ((-2 : Int32), σ_2) else (kb (f_X8_takes F σ_2) fun _ σ_7 => some ((kA σ_7 2 0), σ_7))) else some ((-2 : Int32), σ_2)))
set_option maxRecDepth 100000 in
set_option maxHeartbeats 4000000 in
theorem w_X8_lay_0 (C : Cx E p s m args meth c cX8_lay 1 RX8 (some .int)) (F : Nat) (σ : kS) (h : s_X8_lay_0 F σ = some (r, σr)) (H : Heap) (locs : List Loc) (hP : mP E σ H) (hS : va_S (inM E) s.heap H locs) (ls : Array Slot) (hl : lv_has ls 1 [(0, .ref (eA E 27))]) : W p l e (kR 5 115) s m args below meth c H locs 0 0 (MQ below (kQi (mP E) (inM E) r σr) args s 0 0 (inM E)) (F0 m 0 ls []) := by
  obtain ⟨-, hx, hb, hml, hown, hts, hK, -, -⟩ := id C
  unfold s_X8_lay_0 at h
  refine lv_aload_n hx hb dX8_lay_0 rfl (lv_at hl 0 rfl) ?_
  obtain ⟨v_1, σ_2, hc_3, h⟩ := kb_ok h
  refine kci (krunV (As := []) C hP (c_X8_fault E C.1 F σ hc_3) w_772 kv_X8_fault ⟨Nat.le_of_ble_eq_true rfl, Nat.le_of_ble_eq_true rfl⟩ (rc_27 C hP) rfl hl.1 rfl (Nat.le_of_ble_eq_true rfl) dX8_lay_1) hS (fun H locs hP hS => ?_)
  refine lv_bipush (v := (-4 : Int32)) hx hb dX8_lay_4 (by decide) ?_
  refine lv_icmp_ne (tgt := 18) hx hb dX8_lay_6 (by decide) (fun c_4 => ?_) (fun c_4 => ?_)
  · have h := k_f c_4 h
    refine lv_bipush (v := (-2 : Int32)) hx hb dX8_lay_18 (by decide) ?_
    obtain ⟨rfl, rfl⟩ := k_inj h
    exact kri C hS hP dX8_lay_20
  · have h := k_t c_4 h
    refine lv_aload_n hx hb dX8_lay_9 rfl (lv_at hl 0 rfl) ?_
    refine gf_27_4 C hP w_679 dX8_lay_10 ?_
    refine lv_iconst (v := (1 : Int32)) hx hb dX8_lay_13 (by decide) ?_
    refine al_30 C hP (v := (kA σ_2 2 1)) rfl (by unfold vp_in; decide) dX8_lay_14 ?_
    refine lv_if_ne (tgt := 21) hx hb dX8_lay_15 (by decide) (fun c_5 => ?_) (fun c_5 => ?_)
    · have h := k_f c_5 h
      refine lv_aload_n hx hb dX8_lay_21 rfl (lv_at hl 0 rfl) ?_
      obtain ⟨v_6, σ_7, hc_8, h⟩ := kb_ok h
      refine kcv (krunV (As := []) C hP (c_X8_takes E C.1 F σ_2 hc_8) w_671 kv_X8_takes ⟨Nat.le_of_ble_eq_true rfl, Nat.le_of_ble_eq_true rfl⟩ (rc_27 C hP) rfl hl.1 rfl (Nat.le_of_ble_eq_true rfl) dX8_lay_22) hS (fun H locs hP hS => ?_)
      refine lv_aload_n hx hb dX8_lay_25 rfl (lv_at hl 0 rfl) ?_
      refine gf_27_4 C hP w_679 dX8_lay_26 ?_
      refine lv_iconst (v := (0 : Int32)) hx hb dX8_lay_29 (by decide) ?_
      refine al_30 C hP (v := (kA σ_7 2 0)) rfl (by unfold vp_in; decide) dX8_lay_30 ?_
      obtain ⟨rfl, rfl⟩ := k_inj h
      exact kri C hS hP dX8_lay_31
    · have h := k_t c_5 h
      refine lv_bipush (v := (-2 : Int32)) hx hb dX8_lay_18 (by decide) ?_
      obtain ⟨rfl, rfl⟩ := k_inj h
      exact kri C hS hP dX8_lay_20
def f_X8_lay (F : Nat) (σ : kS) : Option (Int32 × kS) := s_X8_lay_0 F σ
set_option maxRecDepth 100000 in
theorem c_X8_lay (E : kE) (hE : kap E) (F : Nat) (σ : kS) (h : f_X8_lay F σ = some (r, σr)) : Met l yX8_lay (kWs yX8_lay cX8_lay 1 (some .int)) (kR 5 115) (kPre (mP E) E [.ref (eA E 27)] σ) (kQi (mP E) (inM E) r σr) 0 0 (inM E) :=
  kst hE (by decide +kernel) (Nat.le_of_ble_eq_true rfl) (fun p e s m below meth c ls C hP hl => w_X8_lay_0 C F σ h s.heap [] hP va_S.rf ls hl)
end

section
variable {p : Program} {l : Launch} {e : Env} {s : State} {m : MethodId} {args : Array Value} {below : List Frame} {meth : Method} {c : Code} {E : kE} {σr : kS}
variable {r : Int32}
def s_X8_isAct_0 (F : Nat) (σ : kS) (x1 : Int32) : Option (Int32 × kS) :=
  (kb (f_X8_in F σ x1.toInt64 (0 : Int64) ((kA σ 2 0) - (1 : Int32)).toInt64) fun v_1 σ_2 => (if v_1 &&& 1 = v_1 then some (v_1, σ_2) else none))
set_option maxRecDepth 100000 in
set_option maxHeartbeats 4000000 in
theorem w_X8_isAct_0 (C : Cx E p s m args meth c cX8_isAct 2 RX8 (some .boolean)) (F : Nat) (σ : kS) (x1 : Int32) (h : s_X8_isAct_0 F σ x1 = some (r, σr)) (H : Heap) (locs : List Loc) (hP : mP E σ H) (hS : va_S (inM E) s.heap H locs) (ls : Array Slot) (hl : lv_has ls 2 [(0, .ref (eA E 27)), (1, .int x1)]) : W p l e (kR 1 25) s m args below meth c H locs 0 0 (MQ below (kQi (mP E) (inM E) r σr) args s 0 0 (inM E)) (F0 m 0 ls []) := by
  obtain ⟨-, hx, hb, hml, hown, hts, hK, -, -⟩ := id C
  unfold s_X8_isAct_0 at h
  refine lv_iload_n hx hb dX8_isAct_0 rfl (lv_at hl 1 rfl) ?_
  refine lv_i2l (v := x1.toInt64) hx hb dX8_isAct_1 rfl ?_
  refine lv_lconst (v := (0 : Int64)) hx hb dX8_isAct_2 (by decide) ?_
  refine lv_aload_n hx hb dX8_isAct_3 rfl (lv_at hl 0 rfl) ?_
  refine gf_27_4 C hP w_679 dX8_isAct_4 ?_
  refine lv_iconst (v := (0 : Int32)) hx hb dX8_isAct_7 (by decide) ?_
  refine al_30 C hP (v := (kA σ 2 0)) rfl (by unfold vp_in; decide) dX8_isAct_8 ?_
  refine lv_iconst (v := (1 : Int32)) hx hb dX8_isAct_9 (by decide) ?_
  refine lv_isub hx hb dX8_isAct_10 ?_
  refine lv_i2l (v := ((kA σ 2 0) - (1 : Int32)).toInt64) hx hb dX8_isAct_11 rfl ?_
  obtain ⟨v_1, σ_2, hc_3, h⟩ := kb_ok h
  refine kci (krunS (As := [.long x1.toInt64, .long (0 : Int64), .long ((kA σ 2 0) - (1 : Int32)).toInt64]) C hP (c_X8_in E C.1 F σ x1.toInt64 (0 : Int64) ((kA σ 2 0) - (1 : Int32)).toInt64 hc_3) w_735 kt_X8_in ⟨Nat.le_of_ble_eq_true rfl, Nat.le_of_ble_eq_true rfl⟩ rfl hl.1 rfl (Nat.le_of_ble_eq_true rfl) dX8_isAct_12) hS (fun H locs hP hS => ?_)
  obtain ⟨n_4, h⟩ := k_yes h
  obtain ⟨rfl, rfl⟩ := k_inj h
  exact krz C hS hP n_4 dX8_isAct_15
def f_X8_isAct (F : Nat) (σ : kS) (x1 : Int32) : Option (Int32 × kS) := s_X8_isAct_0 F σ x1
set_option maxRecDepth 100000 in
theorem c_X8_isAct (E : kE) (hE : kap E) (F : Nat) (σ : kS) (x1 : Int32) (h : f_X8_isAct F σ x1 = some (r, σr)) : Met l yX8_isAct (kWs yX8_isAct cX8_isAct 2 (some .boolean)) (kR 1 25) (kPre (mP E) E [.ref (eA E 27), .int x1] σ) (kQi (mP E) (inM E) r σr) 0 0 (inM E) :=
  kst hE (by decide +kernel) (Nat.le_of_ble_eq_true rfl) (fun p e s m below meth c ls C hP hl => w_X8_isAct_0 C F σ x1 h s.heap [] hP va_S.rf ls hl)
end

section
variable {p : Program} {l : Launch} {e : Env} {s : State} {m : MethodId} {args : Array Value} {below : List Frame} {meth : Method} {c : Code} {E : kE} {σr : kS}
variable {r : Int32}
def s_X8_act_20 (F : Nat) (σ : kS) : Option (Int32 × kS) :=
  some ((-1 : Int32), σ)
set_option maxRecDepth 100000 in
set_option maxHeartbeats 4000000 in
theorem w_X8_act_20 (C : Cx E p s m args meth c cX8_act 3 RX8 (some .int)) (F : Nat) (σ : kS) (h : s_X8_act_20 F σ = some (r, σr)) (H : Heap) (locs : List Loc) (hP : mP E σ H) (hS : va_S (inM E) s.heap H locs) (ls : Array Slot) (hl : lv_has ls 3 []) : W p l e (kR 2 46) s m args below meth c H locs 0 0 (MQ below (kQi (mP E) (inM E) r σr) args s 0 0 (inM E)) (F0 m 20 ls []) := by
  obtain ⟨-, hx, hb, hml, hown, hts, hK, -, -⟩ := id C
  unfold s_X8_act_20 at h
  refine lv_iconst (v := (-1 : Int32)) hx hb dX8_act_20 (by decide) ?_
  refine lv_goto (tgt := 48) hx hb dX8_act_21 (by decide) ?_
  obtain ⟨rfl, rfl⟩ := k_inj h
  exact kri C hS hP dX8_act_48
def s_X8_act_0 (F : Nat) (σ : kS) (x1 : Int32) (x2 : Int32) : Option (Int32 × kS) :=
  (kb (f_X8_isAct F σ x1) fun v_1 σ_2 => (if v_1 = 0 then s_X8_act_20 F σ_2 else (kb (f_X8_in F σ_2 x2.toInt64 (0 : Int64) (4 : Int64)) fun v_5 σ_6 => (if v_5 = 0 then s_X8_act_20 F σ_6 else (if x2 = (1 : Int32) then (if x1 < 0 ∨ 18 ≤ x1.toNatClampNeg then none else some ((kA σ_6 4 x1.toNatClampNeg), σ_6)) else (if (((5 : Int32) * x1) + x2) < 0 ∨ 60 ≤ (((5 : Int32) * x1) + x2).toNatClampNeg then none else some ((kA σ_6 3 (((5 : Int32) * x1) + x2).toNatClampNeg), σ_6)))))))
set_option maxRecDepth 100000 in
set_option maxHeartbeats 4000000 in
theorem w_X8_act_0 (C : Cx E p s m args meth c cX8_act 3 RX8 (some .int)) (F : Nat) (σ : kS) (x1 : Int32) (x2 : Int32) (h : s_X8_act_0 F σ x1 x2 = some (r, σr)) (H : Heap) (locs : List Loc) (hP : mP E σ H) (hS : va_S (inM E) s.heap H locs) (ls : Array Slot) (hl : lv_has ls 3 [(0, .ref (eA E 27)), (1, .int x1), (2, .int x2)]) : W p l e (kR 2 46) s m args below meth c H locs 0 0 (MQ below (kQi (mP E) (inM E) r σr) args s 0 0 (inM E)) (F0 m 0 ls []) := by
  obtain ⟨-, hx, hb, hml, hown, hts, hK, -, -⟩ := id C
  unfold s_X8_act_0 at h
  refine lv_aload_n hx hb dX8_act_0 rfl (lv_at hl 0 rfl) ?_
  refine lv_iload_n hx hb dX8_act_1 rfl (lv_at hl 1 rfl) ?_
  obtain ⟨v_1, σ_2, hc_3, h⟩ := kb_ok h
  refine kci (krunV (As := [.int x1]) C hP (c_X8_isAct E C.1 F σ x1 hc_3) w_777 kv_X8_isAct ⟨Nat.le_of_ble_eq_true rfl, Nat.le_of_ble_eq_true rfl⟩ (rc_27 C hP) rfl hl.1 rfl (Nat.le_of_ble_eq_true rfl) dX8_act_2) hS (fun H locs hP hS => ?_)
  refine lv_if_eq (tgt := 20) hx hb dX8_act_5 (by decide) (fun c_4 => ?_) (fun c_4 => ?_)
  · have h := k_t c_4 h
    exact w_X8_act_20 C F σ_2 h H locs hP hS ls (lv_sub hl [] rfl)
  · have h := k_f c_4 h
    refine lv_iload_n hx hb dX8_act_8 rfl (lv_at hl 2 rfl) ?_
    refine lv_i2l (v := x2.toInt64) hx hb dX8_act_9 rfl ?_
    refine lv_lconst (v := (0 : Int64)) hx hb dX8_act_10 (by decide) ?_
    refine lv_ldc2 (v := (4 : Int64)) hx hb hown (hts _ w_781) dX8_act_11 ?_
    obtain ⟨v_5, σ_6, hc_7, h⟩ := kb_ok h
    refine kci (krunS (As := [.long x2.toInt64, .long (0 : Int64), .long (4 : Int64)]) C hP (c_X8_in E C.1 F σ_2 x2.toInt64 (0 : Int64) (4 : Int64) hc_7) w_735 kt_X8_in ⟨Nat.le_of_ble_eq_true rfl, Nat.le_of_ble_eq_true rfl⟩ rfl hl.1 rfl (Nat.le_of_ble_eq_true rfl) dX8_act_14) hS (fun H locs hP hS => ?_)
    refine lv_if_ne (tgt := 24) hx hb dX8_act_17 (by decide) (fun c_8 => ?_) (fun c_8 => ?_)
    · have h := k_f c_8 h
      refine lv_iload_n hx hb dX8_act_24 rfl (lv_at hl 2 rfl) ?_
      refine lv_iconst (v := (1 : Int32)) hx hb dX8_act_25 (by decide) ?_
      refine lv_icmp_ne (tgt := 38) hx hb dX8_act_26 (by decide) (fun c_9 => ?_) (fun c_9 => ?_)
      · have h := k_f c_9 h
        refine lv_aload_n hx hb dX8_act_38 rfl (lv_at hl 0 rfl) ?_
        refine gf_27_5 C hP w_680 dX8_act_39 ?_
        refine lv_iconst (v := (5 : Int32)) hx hb dX8_act_42 (by decide) ?_
        refine lv_iload_n hx hb dX8_act_43 rfl (lv_at hl 1 rfl) ?_
        refine lv_imul hx hb dX8_act_44 ?_
        refine lv_iload_n hx hb dX8_act_45 rfl (lv_at hl 2 rfl) ?_
        refine lv_iadd hx hb dX8_act_46 ?_
        obtain ⟨n_10, h⟩ := k_no h
        refine al_31 C hP (v := (kA σ_6 3 (((5 : Int32) * x1) + x2).toNatClampNeg)) rfl n_10 dX8_act_47 ?_
        obtain ⟨rfl, rfl⟩ := k_inj h
        exact kri C hS hP dX8_act_48
      · have h := k_t c_9 h
        refine lv_aload_n hx hb dX8_act_29 rfl (lv_at hl 0 rfl) ?_
        refine gf_27_6 C hP w_681 dX8_act_30 ?_
        refine lv_iload_n hx hb dX8_act_33 rfl (lv_at hl 1 rfl) ?_
        obtain ⟨n_11, h⟩ := k_no h
        refine al_32 C hP (v := (kA σ_6 4 x1.toNatClampNeg)) rfl n_11 dX8_act_34 ?_
        refine lv_goto (tgt := 48) hx hb dX8_act_35 (by decide) ?_
        obtain ⟨rfl, rfl⟩ := k_inj h
        exact kri C hS hP dX8_act_48
    · have h := k_t c_8 h
      exact w_X8_act_20 C F σ_6 h H locs hP hS ls (lv_sub hl [] rfl)
def f_X8_act (F : Nat) (σ : kS) (x1 : Int32) (x2 : Int32) : Option (Int32 × kS) := s_X8_act_0 F σ x1 x2
set_option maxRecDepth 100000 in
theorem c_X8_act (E : kE) (hE : kap E) (F : Nat) (σ : kS) (x1 : Int32) (x2 : Int32) (h : f_X8_act F σ x1 x2 = some (r, σr)) : Met l yX8_act (kWs yX8_act cX8_act 3 (some .int)) (kR 2 46) (kPre (mP E) E [.ref (eA E 27), .int x1, .int x2] σ) (kQi (mP E) (inM E) r σr) 0 0 (inM E) :=
  kst hE (by decide +kernel) (Nat.le_of_ble_eq_true rfl) (fun p e s m below meth c ls C hP hl => w_X8_act_0 C F σ x1 x2 h s.heap [] hP va_S.rf ls hl)
end

section
variable {p : Program} {l : Launch} {e : Env} {s : State} {m : MethodId} {args : Array Value} {below : List Frame} {meth : Method} {c : Code} {E : kE} {σr : kS}
variable {r : Int32}
def s_X8_year_0 (F : Nat) (σ : kS) (x1 : Int32) : Option (Int32 × kS) :=
  (kb (f_X8_in F σ x1.toInt64 (0 : Int64) (99 : Int64)) fun v_1 σ_2 => (if v_1 = 0 then some ((-1 : Int32), σ_2) else (kn (kB σ_2 0 1).toInt32 (fun x2_5 => some (x2_5, (jB σ_2 0 1 x1.toInt64))))))
set_option maxRecDepth 100000 in
set_option maxHeartbeats 4000000 in
theorem w_X8_year_0 (C : Cx E p s m args meth c cX8_year 3 RX8 (some .int)) (F : Nat) (σ : kS) (x1 : Int32) (h : s_X8_year_0 F σ x1 = some (r, σr)) (H : Heap) (locs : List Loc) (hP : mP E σ H) (hS : va_S (inM E) s.heap H locs) (ls : Array Slot) (hl : lv_has ls 3 [(0, .ref (eA E 27)), (1, .int x1)]) : W p l e (kR 1 25) s m args below meth c H locs 0 0 (MQ below (kQi (mP E) (inM E) r σr) args s 0 0 (inM E)) (F0 m 0 ls []) := by
  obtain ⟨-, hx, hb, hml, hown, hts, hK, -, -⟩ := id C
  unfold s_X8_year_0 at h
  refine lv_iload_n hx hb dX8_year_0 rfl (lv_at hl 1 rfl) ?_
  refine lv_i2l (v := x1.toInt64) hx hb dX8_year_1 rfl ?_
  refine lv_lconst (v := (0 : Int64)) hx hb dX8_year_2 (by decide) ?_
  refine lv_ldc2 (v := (99 : Int64)) hx hb hown (hts _ w_786) dX8_year_3 ?_
  obtain ⟨v_1, σ_2, hc_3, h⟩ := kb_ok h
  refine kci (krunS (As := [.long x1.toInt64, .long (0 : Int64), .long (99 : Int64)]) C hP (c_X8_in E C.1 F σ x1.toInt64 (0 : Int64) (99 : Int64) hc_3) w_735 kt_X8_in ⟨Nat.le_of_ble_eq_true rfl, Nat.le_of_ble_eq_true rfl⟩ rfl hl.1 rfl (Nat.le_of_ble_eq_true rfl) dX8_year_6) hS (fun H locs hP hS => ?_)
  refine lv_if_ne (tgt := 14) hx hb dX8_year_9 (by decide) (fun c_4 => ?_) (fun c_4 => ?_)
  · have h := k_f c_4 h
    refine lv_aload_n hx hb dX8_year_14 rfl (lv_at hl 0 rfl) ?_
    refine gf_27_7 C hP w_682 dX8_year_15 ?_
    refine lv_iconst (v := (1 : Int32)) hx hb dX8_year_18 (by decide) ?_
    refine al_33 C hP (v := (kB σ_2 0 1)) rfl (by unfold vp_in; decide) dX8_year_19 ?_
    refine lv_l2i (v := (kB σ_2 0 1).toInt32) hx hb dX8_year_20 rfl ?_
    refine lv_topi (fun x2_5 ex2_5 => ?_)
    have h := kn_to ex2_5 h
    refine lv_istore_n (lv' := [(2, .int x2_5), (0, .ref (eA E 27)), (1, .int x1)]) hx hb dX8_year_21 rfl hl (by decide) rfl (fun ls hl => ?_)
    refine lv_aload_n hx hb dX8_year_22 rfl (lv_at hl 1 rfl) ?_
    refine gf_27_7 C hP w_682 dX8_year_23 ?_
    refine lv_iconst (v := (1 : Int32)) hx hb dX8_year_26 (by decide) ?_
    refine lv_iload_n hx hb dX8_year_27 rfl (lv_at hl 2 rfl) ?_
    refine lv_i2l (v := x1.toInt64) hx hb dX8_year_28 rfl ?_
    refine as_33 C hP hS (σ2 := (jB σ_2 0 1 x1.toInt64)) rfl (by unfold vp_in; decide) dX8_year_29 (fun H locs hP hS => ?_)
    refine lv_iload_n hx hb dX8_year_30 rfl (lv_at hl 0 rfl) ?_
    obtain ⟨rfl, rfl⟩ := k_inj h
    exact kri C hS hP dX8_year_31
  · have h := k_t c_4 h
    refine lv_iconst (v := (-1 : Int32)) hx hb dX8_year_12 (by decide) ?_
    obtain ⟨rfl, rfl⟩ := k_inj h
    exact kri C hS hP dX8_year_13
def f_X8_year (F : Nat) (σ : kS) (x1 : Int32) : Option (Int32 × kS) := s_X8_year_0 F σ x1
set_option maxRecDepth 100000 in
theorem c_X8_year (E : kE) (hE : kap E) (F : Nat) (σ : kS) (x1 : Int32) (h : f_X8_year F σ x1 = some (r, σr)) : Met l yX8_year (kWs yX8_year cX8_year 3 (some .int)) (kR 1 25) (kPre (mP E) E [.ref (eA E 27), .int x1] σ) (kQi (mP E) (inM E) r σr) 0 0 (inM E) :=
  kst hE (by decide +kernel) (Nat.le_of_ble_eq_true rfl) (fun p e s m below meth c ls C hP hl => w_X8_year_0 C F σ x1 h s.heap [] hP va_S.rf ls hl)
end

section
variable {p : Program} {l : Launch} {e : Env} {s : State} {m : MethodId} {args : Array Value} {below : List Frame} {meth : Method} {c : Code} {E : kE} {σr : kS}
variable {r : Int32}
def s_X8_isMinute_0 (F : Nat) (σ : kS) (x0 : Int64) : Option (Int32 × kS) :=
  (kb (f_X8_in F σ x0 (0 : Int64) (1000000000000 : Int64)) fun v_1 σ_2 => (if v_1 &&& 1 = v_1 then some (v_1, σ_2) else none))
set_option maxRecDepth 100000 in
set_option maxHeartbeats 4000000 in
theorem w_X8_isMinute_0 (C : Cx E p s m args meth c cX8_isMinute 2 RX8 (some .boolean)) (F : Nat) (σ : kS) (x0 : Int64) (h : s_X8_isMinute_0 F σ x0 = some (r, σr)) (H : Heap) (locs : List Loc) (hP : mP E σ H) (hS : va_S (inM E) s.heap H locs) (ls : Array Slot) (hl : lv_has ls 2 [(0, .long x0)]) : W p l e (kR 1 25) s m args below meth c H locs 0 0 (MQ below (kQi (mP E) (inM E) r σr) args s 0 0 (inM E)) (F0 m 0 ls []) := by
  obtain ⟨-, hx, hb, hml, hown, hts, hK, -, -⟩ := id C
  unfold s_X8_isMinute_0 at h
  refine lv_lload_n hx hb dX8_isMinute_0 rfl (lv_at hl 0 rfl) ?_
  refine lv_lconst (v := (0 : Int64)) hx hb dX8_isMinute_1 (by decide) ?_
  refine lv_ldc2 (v := (1000000000000 : Int64)) hx hb hown (hts _ w_794) dX8_isMinute_2 ?_
  obtain ⟨v_1, σ_2, hc_3, h⟩ := kb_ok h
  refine kci (krunS (As := [.long x0, .long (0 : Int64), .long (1000000000000 : Int64)]) C hP (c_X8_in E C.1 F σ x0 (0 : Int64) (1000000000000 : Int64) hc_3) w_735 kt_X8_in ⟨Nat.le_of_ble_eq_true rfl, Nat.le_of_ble_eq_true rfl⟩ rfl hl.1 rfl (Nat.le_of_ble_eq_true rfl) dX8_isMinute_5) hS (fun H locs hP hS => ?_)
  obtain ⟨n_4, h⟩ := k_yes h
  obtain ⟨rfl, rfl⟩ := k_inj h
  exact krz C hS hP n_4 dX8_isMinute_8
def f_X8_isMinute (F : Nat) (σ : kS) (x0 : Int64) : Option (Int32 × kS) := s_X8_isMinute_0 F σ x0
set_option maxRecDepth 100000 in
theorem c_X8_isMinute (E : kE) (hE : kap E) (F : Nat) (σ : kS) (x0 : Int64) (h : f_X8_isMinute F σ x0 = some (r, σr)) : Met l yX8_isMinute (kWs yX8_isMinute cX8_isMinute 2 (some .boolean)) (kR 1 25) (kPre (mP E) E [.long x0] σ) (kQi (mP E) (inM E) r σr) 0 0 (inM E) :=
  kst hE (by decide +kernel) (Nat.le_of_ble_eq_true rfl) (fun p e s m below meth c ls C hP hl => w_X8_isMinute_0 C F σ x0 h s.heap [] hP va_S.rf ls hl)
end

section
variable {p : Program} {l : Launch} {e : Env} {s : State} {m : MethodId} {args : Array Value} {below : List Frame} {meth : Method} {c : Code} {E : kE} {σr : kS}
variable {r : Int32}
def s_X8_ruler_134 (F : Nat) (σ : kS) (x7 : Int64) (x9 : Int64) : Option (Int32 × kS) :=
  (if 0 ≤ (lg_cmp x9 x7) then some ((1 : Int32), σ) else some ((0 : Int32), σ))
set_option maxRecDepth 100000 in
set_option maxHeartbeats 4000000 in
theorem w_X8_ruler_134 (C : Cx E p s m args meth c cX8_ruler 11 RX8 (some .int)) (F : Nat) (σ : kS) (x7 : Int64) (x9 : Int64) (h : s_X8_ruler_134 F σ x7 x9 = some (r, σr)) (H : Heap) (locs : List Loc) (hP : mP E σ H) (hS : va_S (inM E) s.heap H locs) (ls : Array Slot) (hl : lv_has ls 11 [(7, .long x7), (9, .long x9)]) : W p l e (kR 0 0) s m args below meth c H locs 0 0 (MQ below (kQi (mP E) (inM E) r σr) args s 0 0 (inM E)) (F0 m 134 ls []) := by
  obtain ⟨-, hx, hb, hml, hown, hts, hK, -, -⟩ := id C
  unfold s_X8_ruler_134 at h
  refine lv_lload hx hb dX8_ruler_134 (lv_at hl 1 rfl) ?_
  refine lv_lload hx hb dX8_ruler_136 (lv_at hl 0 rfl) ?_
  refine W.lcmp hx hb dX8_ruler_138 ?_
  refine lv_if_ge (tgt := 146) hx hb dX8_ruler_139 (by decide) (fun c_1 => ?_) (fun c_1 => ?_)
  · have h := k_t c_1 h
    refine lv_iconst (v := (1 : Int32)) hx hb dX8_ruler_146 (by decide) ?_
    obtain ⟨rfl, rfl⟩ := k_inj h
    exact kri C hS hP dX8_ruler_147
  · have h := k_f c_1 h
    refine lv_iconst (v := (0 : Int32)) hx hb dX8_ruler_142 (by decide) ?_
    refine lv_goto (tgt := 147) hx hb dX8_ruler_143 (by decide) ?_
    obtain ⟨rfl, rfl⟩ := k_inj h
    exact kri C hS hP dX8_ruler_147
def s_X8_ruler_95 (F : Nat) (σ : kS) (x3 : Int64) (x5 : Int64) (x7 : Int64) (y0 : Int64) : Option (Int32 × kS) :=
  (if (lg_cmp y0 (0 : Int64)) = 0 then some ((2 : Int32), σ) else (if (lg_cmp (x5 - y0) x3) < 0 then some ((2 : Int32), σ) else (if 0 < (lg_cmp y0 x7) then s_X8_ruler_134 F σ x7 y0 else (if 0 ≤ (lg_cmp (x7 - y0) x3) then s_X8_ruler_134 F σ x7 y0 else some ((2 : Int32), σ)))))
set_option maxRecDepth 100000 in
set_option maxHeartbeats 4000000 in
theorem w_X8_ruler_95 (C : Cx E p s m args meth c cX8_ruler 11 RX8 (some .int)) (F : Nat) (σ : kS) (x3 : Int64) (x5 : Int64) (x7 : Int64) (y0 : Int64) (h : s_X8_ruler_95 F σ x3 x5 x7 y0 = some (r, σr)) (H : Heap) (locs : List Loc) (hP : mP E σ H) (hS : va_S (inM E) s.heap H locs) (ls : Array Slot) (hl : lv_has ls 11 [(3, .long x3), (5, .long x5), (7, .long x7)]) : W p l e (kR 0 0) s m args below meth c H locs 0 0 (MQ below (kQi (mP E) (inM E) r σr) args s 0 0 (inM E)) (F0 m 95 ls [.long y0]) := by
  obtain ⟨-, hx, hb, hml, hown, hts, hK, -, -⟩ := id C
  unfold s_X8_ruler_95 at h
  refine lv_lstore (lv' := [(9, .long y0), (3, .long x3), (5, .long x5), (7, .long x7)]) hx hb dX8_ruler_95 hl (by decide) rfl (fun ls hl => ?_)
  refine lv_lload hx hb dX8_ruler_97 (lv_at hl 0 rfl) ?_
  refine lv_lconst (v := (0 : Int64)) hx hb dX8_ruler_99 (by decide) ?_
  refine W.lcmp hx hb dX8_ruler_100 ?_
  refine lv_if_eq (tgt := 132) hx hb dX8_ruler_101 (by decide) (fun c_1 => ?_) (fun c_1 => ?_)
  · have h := k_t c_1 h
    refine lv_iconst (v := (2 : Int32)) hx hb dX8_ruler_132 (by decide) ?_
    obtain ⟨rfl, rfl⟩ := k_inj h
    exact kri C hS hP dX8_ruler_133
  · have h := k_f c_1 h
    refine lv_lload hx hb dX8_ruler_104 (lv_at hl 2 rfl) ?_
    refine lv_lload hx hb dX8_ruler_106 (lv_at hl 0 rfl) ?_
    refine lv_lsub hx hb dX8_ruler_108 ?_
    refine lv_lload_n hx hb dX8_ruler_109 rfl (lv_at hl 1 rfl) ?_
    refine W.lcmp hx hb dX8_ruler_110 ?_
    refine lv_if_lt (tgt := 132) hx hb dX8_ruler_111 (by decide) (fun c_2 => ?_) (fun c_2 => ?_)
    · have h := k_t c_2 h
      refine lv_iconst (v := (2 : Int32)) hx hb dX8_ruler_132 (by decide) ?_
      obtain ⟨rfl, rfl⟩ := k_inj h
      exact kri C hS hP dX8_ruler_133
    · have h := k_f c_2 h
      refine lv_lload hx hb dX8_ruler_114 (lv_at hl 0 rfl) ?_
      refine lv_lload hx hb dX8_ruler_116 (lv_at hl 3 rfl) ?_
      refine W.lcmp hx hb dX8_ruler_118 ?_
      refine lv_if_gt (tgt := 134) hx hb dX8_ruler_119 (by decide) (fun c_3 => ?_) (fun c_3 => ?_)
      · have h := k_t c_3 h
        exact w_X8_ruler_134 C F σ x7 y0 h H locs hP hS ls (lv_sub hl [3, 0] rfl)
      · have h := k_f c_3 h
        refine lv_lload hx hb dX8_ruler_122 (lv_at hl 3 rfl) ?_
        refine lv_lload hx hb dX8_ruler_124 (lv_at hl 0 rfl) ?_
        refine lv_lsub hx hb dX8_ruler_126 ?_
        refine lv_lload_n hx hb dX8_ruler_127 rfl (lv_at hl 1 rfl) ?_
        refine W.lcmp hx hb dX8_ruler_128 ?_
        refine lv_if_ge (tgt := 134) hx hb dX8_ruler_129 (by decide) (fun c_4 => ?_) (fun c_4 => ?_)
        · have h := k_t c_4 h
          exact w_X8_ruler_134 C F σ x7 y0 h H locs hP hS ls (lv_sub hl [3, 0] rfl)
        · have h := k_f c_4 h
          refine lv_iconst (v := (2 : Int32)) hx hb dX8_ruler_132 (by decide) ?_
          obtain ⟨rfl, rfl⟩ := k_inj h
          exact kri C hS hP dX8_ruler_133
def s_X8_ruler_0 (F : Nat) (σ : kS) (x1 : Int64) : Option (Int32 × kS) :=
  (kn ((kA σ 1 1) * (kA σ 1 3)).toInt64 (fun x3_1 => (kn ((kA σ 1 0) * (kA σ 1 3)).toInt64 (fun x5_2 => (kn ((kA σ 1 0) * (kA σ 1 2)).toInt64 (fun x7_3 => (if x5_2 = 0 then none else (kn ((((x1 - (kA σ 1 4).toInt64) - ((kA σ 1 5).toInt64 * (kB σ 0 1))) * x3_1) - (((x1 - (kA σ 1 4).toInt64) - ((kA σ 1 5).toInt64 * (kB σ 0 1))) * x3_1) / x5_2 * x5_2) (fun x9_5 => (if 0 ≤ (lg_cmp x9_5 (0 : Int64)) then s_X8_ruler_95 F σ x3_1 x5_2 x7_3 x9_5 else s_X8_ruler_95 F σ x3_1 x5_2 x7_3 (x9_5 + x5_2)))))))))))
set_option maxRecDepth 100000 in
set_option maxHeartbeats 4000000 in
theorem w_X8_ruler_0 (C : Cx E p s m args meth c cX8_ruler 11 RX8 (some .int)) (F : Nat) (σ : kS) (x1 : Int64) (h : s_X8_ruler_0 F σ x1 = some (r, σr)) (H : Heap) (locs : List Loc) (hP : mP E σ H) (hS : va_S (inM E) s.heap H locs) (ls : Array Slot) (hl : lv_has ls 11 [(0, .ref (eA E 27)), (1, .long x1)]) : W p l e (kR 0 0) s m args below meth c H locs 0 0 (MQ below (kQi (mP E) (inM E) r σr) args s 0 0 (inM E)) (F0 m 0 ls []) := by
  obtain ⟨-, hx, hb, hml, hown, hts, hK, -, -⟩ := id C
  unfold s_X8_ruler_0 at h
  refine lv_aload_n hx hb dX8_ruler_0 rfl (lv_at hl 0 rfl) ?_
  refine gf_27_3 C hP w_678 dX8_ruler_1 ?_
  refine lv_iconst (v := (1 : Int32)) hx hb dX8_ruler_4 (by decide) ?_
  refine al_29 C hP (v := (kA σ 1 1)) rfl (by unfold vp_in; decide) dX8_ruler_5 ?_
  refine lv_aload_n hx hb dX8_ruler_6 rfl (lv_at hl 0 rfl) ?_
  refine gf_27_3 C hP w_678 dX8_ruler_7 ?_
  refine lv_iconst (v := (3 : Int32)) hx hb dX8_ruler_10 (by decide) ?_
  refine al_29 C hP (v := (kA σ 1 3)) rfl (by unfold vp_in; decide) dX8_ruler_11 ?_
  refine lv_imul hx hb dX8_ruler_12 ?_
  refine lv_i2l (v := ((kA σ 1 1) * (kA σ 1 3)).toInt64) hx hb dX8_ruler_13 rfl ?_
  refine lv_topl (fun x3_1 ex3_1 => ?_)
  have h := kn_to ex3_1 h
  refine lv_lstore_n (lv' := [(3, .long x3_1), (0, .ref (eA E 27)), (1, .long x1)]) hx hb dX8_ruler_14 rfl hl (by decide) rfl (fun ls hl => ?_)
  refine lv_aload_n hx hb dX8_ruler_15 rfl (lv_at hl 1 rfl) ?_
  refine gf_27_3 C hP w_678 dX8_ruler_16 ?_
  refine lv_iconst (v := (0 : Int32)) hx hb dX8_ruler_19 (by decide) ?_
  refine al_29 C hP (v := (kA σ 1 0)) rfl (by unfold vp_in; decide) dX8_ruler_20 ?_
  refine lv_aload_n hx hb dX8_ruler_21 rfl (lv_at hl 1 rfl) ?_
  refine gf_27_3 C hP w_678 dX8_ruler_22 ?_
  refine lv_iconst (v := (3 : Int32)) hx hb dX8_ruler_25 (by decide) ?_
  refine al_29 C hP (v := (kA σ 1 3)) rfl (by unfold vp_in; decide) dX8_ruler_26 ?_
  refine lv_imul hx hb dX8_ruler_27 ?_
  refine lv_i2l (v := ((kA σ 1 0) * (kA σ 1 3)).toInt64) hx hb dX8_ruler_28 rfl ?_
  refine lv_topl (fun x5_2 ex5_2 => ?_)
  have h := kn_to ex5_2 h
  refine lv_lstore (lv' := [(5, .long x5_2), (3, .long x3_1), (0, .ref (eA E 27)), (1, .long x1)]) hx hb dX8_ruler_29 hl (by decide) rfl (fun ls hl => ?_)
  refine lv_aload_n hx hb dX8_ruler_31 rfl (lv_at hl 2 rfl) ?_
  refine gf_27_3 C hP w_678 dX8_ruler_32 ?_
  refine lv_iconst (v := (0 : Int32)) hx hb dX8_ruler_35 (by decide) ?_
  refine al_29 C hP (v := (kA σ 1 0)) rfl (by unfold vp_in; decide) dX8_ruler_36 ?_
  refine lv_aload_n hx hb dX8_ruler_37 rfl (lv_at hl 2 rfl) ?_
  refine gf_27_3 C hP w_678 dX8_ruler_38 ?_
  refine lv_iconst (v := (2 : Int32)) hx hb dX8_ruler_41 (by decide) ?_
  refine al_29 C hP (v := (kA σ 1 2)) rfl (by unfold vp_in; decide) dX8_ruler_42 ?_
  refine lv_imul hx hb dX8_ruler_43 ?_
  refine lv_i2l (v := ((kA σ 1 0) * (kA σ 1 2)).toInt64) hx hb dX8_ruler_44 rfl ?_
  refine lv_topl (fun x7_3 ex7_3 => ?_)
  have h := kn_to ex7_3 h
  refine lv_lstore (lv' := [(7, .long x7_3), (5, .long x5_2), (3, .long x3_1), (0, .ref (eA E 27)), (1, .long x1)]) hx hb dX8_ruler_45 hl (by decide) rfl (fun ls hl => ?_)
  refine lv_lload_n hx hb dX8_ruler_47 rfl (lv_at hl 4 rfl) ?_
  refine lv_aload_n hx hb dX8_ruler_48 rfl (lv_at hl 3 rfl) ?_
  refine gf_27_3 C hP w_678 dX8_ruler_49 ?_
  refine lv_iconst (v := (4 : Int32)) hx hb dX8_ruler_52 (by decide) ?_
  refine al_29 C hP (v := (kA σ 1 4)) rfl (by unfold vp_in; decide) dX8_ruler_53 ?_
  refine lv_i2l (v := (kA σ 1 4).toInt64) hx hb dX8_ruler_54 rfl ?_
  refine lv_lsub hx hb dX8_ruler_55 ?_
  refine lv_aload_n hx hb dX8_ruler_56 rfl (lv_at hl 3 rfl) ?_
  refine gf_27_3 C hP w_678 dX8_ruler_57 ?_
  refine lv_iconst (v := (5 : Int32)) hx hb dX8_ruler_60 (by decide) ?_
  refine al_29 C hP (v := (kA σ 1 5)) rfl (by unfold vp_in; decide) dX8_ruler_61 ?_
  refine lv_i2l (v := (kA σ 1 5).toInt64) hx hb dX8_ruler_62 rfl ?_
  refine lv_aload_n hx hb dX8_ruler_63 rfl (lv_at hl 3 rfl) ?_
  refine gf_27_7 C hP w_682 dX8_ruler_64 ?_
  refine lv_iconst (v := (1 : Int32)) hx hb dX8_ruler_67 (by decide) ?_
  refine al_33 C hP (v := (kB σ 0 1)) rfl (by unfold vp_in; decide) dX8_ruler_68 ?_
  refine lv_lmul hx hb dX8_ruler_69 ?_
  refine lv_lsub hx hb dX8_ruler_70 ?_
  refine lv_lload_n hx hb dX8_ruler_71 rfl (lv_at hl 2 rfl) ?_
  refine lv_lmul hx hb dX8_ruler_72 ?_
  refine lv_lload hx hb dX8_ruler_73 (lv_at hl 1 rfl) ?_
  obtain ⟨n_4, h⟩ := k_no h
  refine lv_lrem hx hb dX8_ruler_75 n_4 ?_
  refine lv_topl (fun x9_5 ex9_5 => ?_)
  have h := kn_to ex9_5 h
  refine lv_lstore (lv' := [(9, .long x9_5), (7, .long x7_3), (5, .long x5_2), (3, .long x3_1), (0, .ref (eA E 27)), (1, .long x1)]) hx hb dX8_ruler_76 hl (by decide) rfl (fun ls hl => ?_)
  refine lv_lload hx hb dX8_ruler_78 (lv_at hl 0 rfl) ?_
  refine lv_lconst (v := (0 : Int64)) hx hb dX8_ruler_80 (by decide) ?_
  refine W.lcmp hx hb dX8_ruler_81 ?_
  refine lv_if_ge (tgt := 93) hx hb dX8_ruler_82 (by decide) (fun c_6 => ?_) (fun c_6 => ?_)
  · have h := k_t c_6 h
    refine lv_lload hx hb dX8_ruler_93 (lv_at hl 0 rfl) ?_
    exact w_X8_ruler_95 C F σ x3_1 x5_2 x7_3 x9_5 h H locs hP hS ls (lv_sub hl [3, 2, 1] rfl)
  · have h := k_f c_6 h
    refine lv_lload hx hb dX8_ruler_85 (lv_at hl 0 rfl) ?_
    refine lv_lload hx hb dX8_ruler_87 (lv_at hl 2 rfl) ?_
    refine lv_ladd hx hb dX8_ruler_89 ?_
    refine lv_goto (tgt := 95) hx hb dX8_ruler_90 (by decide) ?_
    exact w_X8_ruler_95 C F σ x3_1 x5_2 x7_3 (x9_5 + x5_2) h H locs hP hS ls (lv_sub hl [3, 2, 1] rfl)
def f_X8_ruler (F : Nat) (σ : kS) (x1 : Int64) : Option (Int32 × kS) := s_X8_ruler_0 F σ x1
set_option maxRecDepth 100000 in
theorem c_X8_ruler (E : kE) (hE : kap E) (F : Nat) (σ : kS) (x1 : Int64) (h : f_X8_ruler F σ x1 = some (r, σr)) : Met l yX8_ruler (kWs yX8_ruler cX8_ruler 11 (some .int)) (kR 0 0) (kPre (mP E) E [.ref (eA E 27), .long x1] σ) (kQi (mP E) (inM E) r σr) 0 0 (inM E) :=
  kst hE (by decide +kernel) (Nat.le_of_ble_eq_true rfl) (fun p e s m below meth c ls C hP hl => w_X8_ruler_0 C F σ x1 h s.heap [] hP va_S.rf ls hl)
end

section
variable {p : Program} {l : Launch} {e : Env} {s : State} {m : MethodId} {args : Array Value} {below : List Frame} {meth : Method} {c : Code} {E : kE} {σr : kS}
variable {r : Int32}
def s_X8_rules_0 (F : Nat) (σ : kS) (x1 : Int64) : Option (Int32 × kS) :=
  (kb (f_X8_isMinute F σ x1) fun v_1 σ_2 => (if v_1 = 0 then some ((-1 : Int32), σ_2) else (kb (f_X8_ruler F σ_2 x1) fun v_5 σ_6 => some (v_5, σ_6))))
set_option maxRecDepth 100000 in
set_option maxHeartbeats 4000000 in
theorem w_X8_rules_0 (C : Cx E p s m args meth c cX8_rules 3 RX8 (some .int)) (F : Nat) (σ : kS) (x1 : Int64) (h : s_X8_rules_0 F σ x1 = some (r, σr)) (H : Heap) (locs : List Loc) (hP : mP E σ H) (hS : va_S (inM E) s.heap H locs) (ls : Array Slot) (hl : lv_has ls 3 [(0, .ref (eA E 27)), (1, .long x1)]) : W p l e (kR 2 46) s m args below meth c H locs 0 0 (MQ below (kQi (mP E) (inM E) r σr) args s 0 0 (inM E)) (F0 m 0 ls []) := by
  obtain ⟨-, hx, hb, hml, hown, hts, hK, -, -⟩ := id C
  unfold s_X8_rules_0 at h
  refine lv_lload_n hx hb dX8_rules_0 rfl (lv_at hl 1 rfl) ?_
  obtain ⟨v_1, σ_2, hc_3, h⟩ := kb_ok h
  refine kci (krunS (As := [.long x1]) C hP (c_X8_isMinute E C.1 F σ x1 hc_3) w_791 kt_X8_isMinute ⟨Nat.le_of_ble_eq_true rfl, Nat.le_of_ble_eq_true rfl⟩ rfl hl.1 rfl (Nat.le_of_ble_eq_true rfl) dX8_rules_1) hS (fun H locs hP hS => ?_)
  refine lv_if_eq (tgt := 15) hx hb dX8_rules_4 (by decide) (fun c_4 => ?_) (fun c_4 => ?_)
  · have h := k_t c_4 h
    refine lv_iconst (v := (-1 : Int32)) hx hb dX8_rules_15 (by decide) ?_
    obtain ⟨rfl, rfl⟩ := k_inj h
    exact kri C hS hP dX8_rules_16
  · have h := k_f c_4 h
    refine lv_aload_n hx hb dX8_rules_7 rfl (lv_at hl 0 rfl) ?_
    refine lv_lload_n hx hb dX8_rules_8 rfl (lv_at hl 1 rfl) ?_
    obtain ⟨v_5, σ_6, hc_7, h⟩ := kb_ok h
    refine kci (krunV (As := [.long x1]) C hP (c_X8_ruler E C.1 F σ_2 x1 hc_7) w_795 kv_X8_ruler ⟨Nat.le_of_ble_eq_true rfl, Nat.le_of_ble_eq_true rfl⟩ (rc_27 C hP) rfl hl.1 rfl (Nat.le_of_ble_eq_true rfl) dX8_rules_9) hS (fun H locs hP hS => ?_)
    refine lv_goto (tgt := 16) hx hb dX8_rules_12 (by decide) ?_
    obtain ⟨rfl, rfl⟩ := k_inj h
    exact kri C hS hP dX8_rules_16
def f_X8_rules (F : Nat) (σ : kS) (x1 : Int64) : Option (Int32 × kS) := s_X8_rules_0 F σ x1
set_option maxRecDepth 100000 in
theorem c_X8_rules (E : kE) (hE : kap E) (F : Nat) (σ : kS) (x1 : Int64) (h : f_X8_rules F σ x1 = some (r, σr)) : Met l yX8_rules (kWs yX8_rules cX8_rules 3 (some .int)) (kR 2 46) (kPre (mP E) E [.ref (eA E 27), .long x1] σ) (kQi (mP E) (inM E) r σr) 0 0 (inM E) :=
  kst hE (by decide +kernel) (Nat.le_of_ble_eq_true rfl) (fun p e s m below meth c ls C hP hl => w_X8_rules_0 C F σ x1 h s.heap [] hP va_S.rf ls hl)
end

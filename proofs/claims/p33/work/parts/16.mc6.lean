section
variable {p : Program} {l : Launch} {e : Env} {s : State} {m : MethodId} {args : Array Value} {below : List Frame} {meth : Method} {c : Code} {E : kE} {σr : kS}
variable {r : Unit}
def s_X5_put_v1_16 (F : Nat) (σ : kS) : Option (Unit × kS) :=
  (if (kI σ 24) < 0 ∨ 2 ≤ (kI σ 24).toNatClampNeg then none else (if (kI σ 24) < 0 ∨ 2 ≤ (kI σ 24).toNatClampNeg then none else (if (kI σ 24) < 0 ∨ 2 ≤ (kI σ 24).toNatClampNeg then none else (if (kI σ 24) < 0 ∨ 2 ≤ (kI σ 24).toNatClampNeg then none else (if (kI σ 24) < 0 ∨ 2 ≤ (kI σ 24).toNatClampNeg then none else some ((), (jI (jI (jA (jA (jA (jA (jB σ 1 (kI σ 24).toNatClampNeg (kG σ 0)) 10 (kI σ 24).toNatClampNeg (kI σ 15)) 11 (kI σ 24).toNatClampNeg (kI σ 16)) 12 (kI σ 24).toNatClampNeg (kI σ 17)) 13 (kI σ 24).toNatClampNeg (kI σ 18)) 24 ((kI σ 24) + (1 : Int32))) 25 (if (kI σ 23) < ((kI σ 25) + (1 : Int32)) then (kI σ 23) else ((kI σ 25) + (1 : Int32))))))))))
set_option maxRecDepth 100000 in
set_option maxHeartbeats 4000000 in
theorem w_X5_put_v1_16 (C : Cx E p s m args meth c cX5_put 2 RX5 none) (F : Nat) (σ : kS) (h : s_X5_put_v1_16 F σ = some (r, σr)) (H : Heap) (locs : List Loc) (hP : cP E σ H) (hS : va_S (inC E) s.heap H locs) (ls : Array Slot) (hl : lv_has ls 2 [(0, .ref (eA E 20)), (1, .ref (eA E 8))]) : W p l e (kR 1 23) s m args below meth c H locs 0 0 (MQ below (kQv (cP E) (inC E) r σr) args s 0 0 (inC E)) (F0 m 16 ls []) := by
  obtain ⟨-, hx, hb, hml, hown, hts, hK, -, -⟩ := id C
  unfold s_X5_put_v1_16 at h
  refine lv_aload_n hx hb dX5_put_16 rfl (lv_at hl 0 rfl) ?_
  refine gf_20_1 C hP w_204 dX5_put_17 ?_
  refine lv_aload_n hx hb dX5_put_20 rfl (lv_at hl 0 rfl) ?_
  refine gf_20_6 C hP (v := (kI σ 24)) rfl w_209 dX5_put_21 ?_
  refine lv_aload_n hx hb dX5_put_24 rfl (lv_at hl 1 rfl) ?_
  refine gf_8_0 C hP (v := (kG σ 0)) rfl w_120 dX5_put_25 ?_
  obtain ⟨n_1, h⟩ := k_no h
  refine as_21 C hP hS (σ2 := (jB σ 1 (kI σ 24).toNatClampNeg (kG σ 0))) rfl n_1 dX5_put_28 (fun H locs hP hS => ?_)
  refine lv_aload_n hx hb dX5_put_29 rfl (lv_at hl 0 rfl) ?_
  refine gf_20_2 C hP w_205 dX5_put_30 ?_
  refine lv_aload_n hx hb dX5_put_33 rfl (lv_at hl 0 rfl) ?_
  refine gf_20_6 C hP (v := (kI σ 24)) rfl w_209 dX5_put_34 ?_
  refine lv_aload_n hx hb dX5_put_37 rfl (lv_at hl 1 rfl) ?_
  refine gf_8_1 C hP (v := (kI σ 15)) rfl w_124 dX5_put_38 ?_
  obtain ⟨n_2, h⟩ := k_no h
  refine as_22 C hP hS (σ2 := (jA (jB σ 1 (kI σ 24).toNatClampNeg (kG σ 0)) 10 (kI σ 24).toNatClampNeg (kI σ 15))) rfl n_2 dX5_put_41 (fun H locs hP hS => ?_)
  refine lv_aload_n hx hb dX5_put_42 rfl (lv_at hl 0 rfl) ?_
  refine gf_20_3 C hP w_206 dX5_put_43 ?_
  refine lv_aload_n hx hb dX5_put_46 rfl (lv_at hl 0 rfl) ?_
  refine gf_20_6 C hP (v := (kI σ 24)) rfl w_209 dX5_put_47 ?_
  refine lv_aload_n hx hb dX5_put_50 rfl (lv_at hl 1 rfl) ?_
  refine gf_8_2 C hP (v := (kI σ 16)) rfl w_127 dX5_put_51 ?_
  obtain ⟨n_3, h⟩ := k_no h
  refine as_23 C hP hS (σ2 := (jA (jA (jB σ 1 (kI σ 24).toNatClampNeg (kG σ 0)) 10 (kI σ 24).toNatClampNeg (kI σ 15)) 11 (kI σ 24).toNatClampNeg (kI σ 16))) rfl n_3 dX5_put_54 (fun H locs hP hS => ?_)
  refine lv_aload_n hx hb dX5_put_55 rfl (lv_at hl 0 rfl) ?_
  refine gf_20_4 C hP w_207 dX5_put_56 ?_
  refine lv_aload_n hx hb dX5_put_59 rfl (lv_at hl 0 rfl) ?_
  refine gf_20_6 C hP (v := (kI σ 24)) rfl w_209 dX5_put_60 ?_
  refine lv_aload_n hx hb dX5_put_63 rfl (lv_at hl 1 rfl) ?_
  refine gf_8_3 C hP (v := (kI σ 17)) rfl w_130 dX5_put_64 ?_
  obtain ⟨n_4, h⟩ := k_no h
  refine as_24 C hP hS (σ2 := (jA (jA (jA (jB σ 1 (kI σ 24).toNatClampNeg (kG σ 0)) 10 (kI σ 24).toNatClampNeg (kI σ 15)) 11 (kI σ 24).toNatClampNeg (kI σ 16)) 12 (kI σ 24).toNatClampNeg (kI σ 17))) rfl n_4 dX5_put_67 (fun H locs hP hS => ?_)
  refine lv_aload_n hx hb dX5_put_68 rfl (lv_at hl 0 rfl) ?_
  refine gf_20_5 C hP w_208 dX5_put_69 ?_
  refine lv_aload_n hx hb dX5_put_72 rfl (lv_at hl 0 rfl) ?_
  refine gf_20_6 C hP (v := (kI σ 24)) rfl w_209 dX5_put_73 ?_
  refine lv_aload_n hx hb dX5_put_76 rfl (lv_at hl 1 rfl) ?_
  refine gf_8_4 C hP (v := (kI σ 18)) rfl w_133 dX5_put_77 ?_
  obtain ⟨n_5, h⟩ := k_no h
  refine as_25 C hP hS (σ2 := (jA (jA (jA (jA (jB σ 1 (kI σ 24).toNatClampNeg (kG σ 0)) 10 (kI σ 24).toNatClampNeg (kI σ 15)) 11 (kI σ 24).toNatClampNeg (kI σ 16)) 12 (kI σ 24).toNatClampNeg (kI σ 17)) 13 (kI σ 24).toNatClampNeg (kI σ 18))) rfl n_5 dX5_put_80 (fun H locs hP hS => ?_)
  refine lv_aload_n hx hb dX5_put_81 rfl (lv_at hl 0 rfl) ?_
  refine lv_dup hx hb dX5_put_82 rfl ?_
  refine gf_20_6 C hP (v := (kI σ 24)) rfl w_209 dX5_put_83 ?_
  refine lv_iconst (v := (1 : Int32)) hx hb dX5_put_86 (by decide) ?_
  refine lv_iadd hx hb dX5_put_87 ?_
  refine pf_20_6 C hP hS w_209 dX5_put_88 (fun H locs hP hS => ?_)
  refine lv_aload_n hx hb dX5_put_91 rfl (lv_at hl 0 rfl) ?_
  refine lv_aload_n hx hb dX5_put_92 rfl (lv_at hl 0 rfl) ?_
  refine gf_20_7 C hP (v := (kI σ 25)) rfl w_210 dX5_put_93 ?_
  refine lv_iconst (v := (1 : Int32)) hx hb dX5_put_96 (by decide) ?_
  refine lv_iadd hx hb dX5_put_97 ?_
  refine lv_aload_n hx hb dX5_put_98 rfl (lv_at hl 0 rfl) ?_
  refine gf_20_0 C hP (v := (kI σ 23)) rfl w_203 dX5_put_99 ?_
  refine kmin C hl.1 w_493 (Nat.le_of_ble_eq_true rfl) (Nat.le_of_ble_eq_true rfl) dX5_put_102 ?_
  refine pf_20_7 C hP hS w_210 dX5_put_105 (fun H locs hP hS => ?_)
  obtain ⟨rfl, rfl⟩ := k_inj h
  exact krv C hS hP dX5_put_108
def s_X5_put_v1_0 (F : Nat) (σ : kS) : Option (Unit × kS) :=
  (if (kI σ 24) < (kI σ 23) then s_X5_put_v1_16 F σ else s_X5_put_v1_16 F (jI σ 24 (0 : Int32)))
set_option maxRecDepth 100000 in
set_option maxHeartbeats 4000000 in
theorem w_X5_put_v1_0 (C : Cx E p s m args meth c cX5_put 2 RX5 none) (F : Nat) (σ : kS) (h : s_X5_put_v1_0 F σ = some (r, σr)) (H : Heap) (locs : List Loc) (hP : cP E σ H) (hS : va_S (inC E) s.heap H locs) (ls : Array Slot) (hl : lv_has ls 2 [(0, .ref (eA E 20)), (1, .ref (eA E 8))]) : W p l e (kR 1 23) s m args below meth c H locs 0 0 (MQ below (kQv (cP E) (inC E) r σr) args s 0 0 (inC E)) (F0 m 0 ls []) := by
  obtain ⟨-, hx, hb, hml, hown, hts, hK, -, -⟩ := id C
  unfold s_X5_put_v1_0 at h
  refine lv_aload_n hx hb dX5_put_0 rfl (lv_at hl 0 rfl) ?_
  refine gf_20_6 C hP (v := (kI σ 24)) rfl w_209 dX5_put_1 ?_
  refine lv_aload_n hx hb dX5_put_4 rfl (lv_at hl 0 rfl) ?_
  refine gf_20_0 C hP (v := (kI σ 23)) rfl w_203 dX5_put_5 ?_
  refine lv_icmp_lt (tgt := 16) hx hb dX5_put_8 (by decide) (fun c_1 => ?_) (fun c_1 => ?_)
  · have h := k_t c_1 h
    exact w_X5_put_v1_16 C F σ h H locs hP hS ls hl
  · have h := k_f c_1 h
    refine lv_aload_n hx hb dX5_put_11 rfl (lv_at hl 0 rfl) ?_
    refine lv_iconst (v := (0 : Int32)) hx hb dX5_put_12 (by decide) ?_
    refine pf_20_6 C hP hS w_209 dX5_put_13 (fun H locs hP hS => ?_)
    exact w_X5_put_v1_16 C F (jI σ 24 (0 : Int32)) h H locs hP hS ls hl
def f_X5_put_v1 (F : Nat) (σ : kS) : Option (Unit × kS) := s_X5_put_v1_0 F σ
set_option maxRecDepth 100000 in
theorem c_X5_put_v1 (E : kE) (hE : kap E) (F : Nat) (σ : kS) (h : f_X5_put_v1 F σ = some (r, σr)) : Met l yX5_put (kWs yX5_put cX5_put 2 none) (kR 1 23) (kPre (cP E) E [.ref (eA E 20), .ref (eA E 8)] σ) (kQv (cP E) (inC E) r σr) 0 0 (inC E) :=
  kst hE (by decide +kernel) (Nat.le_of_ble_eq_true rfl) (fun p e s m below meth c ls C hP hl => w_X5_put_v1_0 C F σ h s.heap [] hP va_S.rf ls hl)
end

section
variable {p : Program} {l : Launch} {e : Env} {s : State} {m : MethodId} {args : Array Value} {below : List Frame} {meth : Method} {c : Code} {E : kE} {σr : kS}
variable {r : Int32}
def s_X7_keep_0 (F : Nat) (σ : kS) : Option (Int32 × kS) :=
  (if (kI σ 25) < (2 : Int32) then (kb (f_X5_put_v1 F σ) fun _ σ_3 => some ((kI σ_3 25), σ_3)) else some ((-3 : Int32), σ))
set_option maxRecDepth 100000 in
set_option maxHeartbeats 4000000 in
theorem w_X7_keep_0 (C : Cx E p s m args meth c cX7_keep 1 RX7 (some .int)) (F : Nat) (σ : kS) (h : s_X7_keep_0 F σ = some (r, σr)) (H : Heap) (locs : List Loc) (hP : cP E σ H) (hS : va_S (inC E) s.heap H locs) (ls : Array Slot) (hl : lv_has ls 1 [(0, .ref (eA E 0))]) : W p l e (kR 2 44) s m args below meth c H locs 0 0 (MQ below (kQi (cP E) (inC E) r σr) args s 0 0 (inC E)) (F0 m 0 ls []) := by
  obtain ⟨-, hx, hb, hml, hown, hts, hK, -, -⟩ := id C
  unfold s_X7_keep_0 at h
  refine lv_aload_n hx hb dX7_keep_0 rfl (lv_at hl 0 rfl) ?_
  refine gf_0_8 C hP w_257 dX7_keep_1 ?_
  refine gf_20_7 C hP (v := (kI σ 25)) rfl w_211 dX7_keep_4 ?_
  refine lv_iconst (v := (2 : Int32)) hx hb dX7_keep_7 (by decide) ?_
  refine lv_icmp_lt (tgt := 14) hx hb dX7_keep_8 (by decide) (fun c_1 => ?_) (fun c_1 => ?_)
  · have h := k_t c_1 h
    refine lv_aload_n hx hb dX7_keep_14 rfl (lv_at hl 0 rfl) ?_
    refine gf_0_8 C hP w_257 dX7_keep_15 ?_
    refine lv_aload_n hx hb dX7_keep_18 rfl (lv_at hl 0 rfl) ?_
    refine gf_0_3 C hP w_252 dX7_keep_19 ?_
    obtain ⟨v_2, σ_3, hc_4, h⟩ := kb_ok h
    refine kcv (krunV (As := [.ref (eA E 8)]) C hP (c_X5_put_v1 E C.1 F σ hc_4) w_489 kv_X5_put ⟨Nat.le_of_ble_eq_true rfl, Nat.le_of_ble_eq_true rfl⟩ (rc_20 C hP) rfl hl.1 rfl (Nat.le_of_ble_eq_true rfl) dX7_keep_22) hS (fun H locs hP hS => ?_)
    refine lv_aload_n hx hb dX7_keep_25 rfl (lv_at hl 0 rfl) ?_
    refine gf_0_8 C hP w_257 dX7_keep_26 ?_
    refine gf_20_7 C hP (v := (kI σ_3 25)) rfl w_211 dX7_keep_29 ?_
    obtain ⟨rfl, rfl⟩ := k_inj h
    exact kri C hS hP dX7_keep_32
  · have h := k_f c_1 h
    refine lv_bipush (v := (-3 : Int32)) hx hb dX7_keep_11 (by decide) ?_
    obtain ⟨rfl, rfl⟩ := k_inj h
    exact kri C hS hP dX7_keep_13
def f_X7_keep (F : Nat) (σ : kS) : Option (Int32 × kS) := s_X7_keep_0 F σ
set_option maxRecDepth 100000 in
theorem c_X7_keep (E : kE) (hE : kap E) (F : Nat) (σ : kS) (h : f_X7_keep F σ = some (r, σr)) : Met l yX7_keep (kWs yX7_keep cX7_keep 1 (some .int)) (kR 2 44) (kPre (cP E) E [.ref (eA E 0)] σ) (kQi (cP E) (inC E) r σr) 0 0 (inC E) :=
  kst hE (by decide +kernel) (Nat.le_of_ble_eq_true rfl) (fun p e s m below meth c ls C hP hl => w_X7_keep_0 C F σ h s.heap [] hP va_S.rf ls hl)
end

section
variable {p : Program} {l : Launch} {e : Env} {s : State} {m : MethodId} {args : Array Value} {below : List Frame} {meth : Method} {c : Code} {E : kE} {σr : kS}
variable {r : Unit}
def s_X5_takeInto_v1_41 (F : Nat) (σ : kS) (y0 : Int32) : Option (Unit × kS) :=
  (if y0 < 0 ∨ 2 ≤ y0.toNatClampNeg then none else (if y0 < 0 ∨ 2 ≤ y0.toNatClampNeg then none else (if y0 < 0 ∨ 2 ≤ y0.toNatClampNeg then none else (if y0 < 0 ∨ 2 ≤ y0.toNatClampNeg then none else (if y0 < 0 ∨ 2 ≤ y0.toNatClampNeg then none else some ((), (jI (jI (jI (jI (jG (jI σ 24 y0) 0 (kB σ 1 y0.toNatClampNeg)) 15 (kA σ 10 y0.toNatClampNeg)) 16 (kA σ 11 y0.toNatClampNeg)) 17 (kA σ 12 y0.toNatClampNeg)) 18 (kA σ 13 y0.toNatClampNeg))))))))
set_option maxRecDepth 100000 in
set_option maxHeartbeats 4000000 in
theorem w_X5_takeInto_v1_41 (C : Cx E p s m args meth c cX5_takeInto 2 RX5 none) (F : Nat) (σ : kS) (y0 : Int32) (h : s_X5_takeInto_v1_41 F σ y0 = some (r, σr)) (H : Heap) (locs : List Loc) (hP : cP E σ H) (hS : va_S (inC E) s.heap H locs) (ls : Array Slot) (hl : lv_has ls 2 [(0, .ref (eA E 20)), (1, .ref (eA E 8))]) : W p l e (kR 0 0) s m args below meth c H locs 0 0 (MQ below (kQv (cP E) (inC E) r σr) args s 0 0 (inC E)) (F0 m 41 ls [.int y0, .ref (eA E 20)]) := by
  obtain ⟨-, hx, hb, hml, hown, hts, hK, -, -⟩ := id C
  unfold s_X5_takeInto_v1_41 at h
  refine pf_20_6 C hP hS w_209 dX5_takeInto_41 (fun H locs hP hS => ?_)
  refine lv_aload_n hx hb dX5_takeInto_44 rfl (lv_at hl 1 rfl) ?_
  refine lv_aload_n hx hb dX5_takeInto_45 rfl (lv_at hl 0 rfl) ?_
  refine gf_20_1 C hP w_204 dX5_takeInto_46 ?_
  refine lv_aload_n hx hb dX5_takeInto_49 rfl (lv_at hl 0 rfl) ?_
  refine gf_20_6 C hP (v := y0) rfl w_209 dX5_takeInto_50 ?_
  obtain ⟨n_1, h⟩ := k_no h
  refine al_21 C hP (v := (kB σ 1 y0.toNatClampNeg)) rfl n_1 dX5_takeInto_53 ?_
  refine pf_8_0 C hP hS w_120 dX5_takeInto_54 (fun H locs hP hS => ?_)
  refine lv_aload_n hx hb dX5_takeInto_57 rfl (lv_at hl 1 rfl) ?_
  refine lv_aload_n hx hb dX5_takeInto_58 rfl (lv_at hl 0 rfl) ?_
  refine gf_20_2 C hP w_205 dX5_takeInto_59 ?_
  refine lv_aload_n hx hb dX5_takeInto_62 rfl (lv_at hl 0 rfl) ?_
  refine gf_20_6 C hP (v := y0) rfl w_209 dX5_takeInto_63 ?_
  obtain ⟨n_2, h⟩ := k_no h
  refine al_22 C hP (v := (kA σ 10 y0.toNatClampNeg)) rfl n_2 dX5_takeInto_66 ?_
  refine pf_8_1 C hP hS w_124 dX5_takeInto_67 (fun H locs hP hS => ?_)
  refine lv_aload_n hx hb dX5_takeInto_70 rfl (lv_at hl 1 rfl) ?_
  refine lv_aload_n hx hb dX5_takeInto_71 rfl (lv_at hl 0 rfl) ?_
  refine gf_20_3 C hP w_206 dX5_takeInto_72 ?_
  refine lv_aload_n hx hb dX5_takeInto_75 rfl (lv_at hl 0 rfl) ?_
  refine gf_20_6 C hP (v := y0) rfl w_209 dX5_takeInto_76 ?_
  obtain ⟨n_3, h⟩ := k_no h
  refine al_23 C hP (v := (kA σ 11 y0.toNatClampNeg)) rfl n_3 dX5_takeInto_79 ?_
  refine pf_8_2 C hP hS w_127 dX5_takeInto_80 (fun H locs hP hS => ?_)
  refine lv_aload_n hx hb dX5_takeInto_83 rfl (lv_at hl 1 rfl) ?_
  refine lv_aload_n hx hb dX5_takeInto_84 rfl (lv_at hl 0 rfl) ?_
  refine gf_20_4 C hP w_207 dX5_takeInto_85 ?_
  refine lv_aload_n hx hb dX5_takeInto_88 rfl (lv_at hl 0 rfl) ?_
  refine gf_20_6 C hP (v := y0) rfl w_209 dX5_takeInto_89 ?_
  obtain ⟨n_4, h⟩ := k_no h
  refine al_24 C hP (v := (kA σ 12 y0.toNatClampNeg)) rfl n_4 dX5_takeInto_92 ?_
  refine pf_8_3 C hP hS w_130 dX5_takeInto_93 (fun H locs hP hS => ?_)
  refine lv_aload_n hx hb dX5_takeInto_96 rfl (lv_at hl 1 rfl) ?_
  refine lv_aload_n hx hb dX5_takeInto_97 rfl (lv_at hl 0 rfl) ?_
  refine gf_20_5 C hP w_208 dX5_takeInto_98 ?_
  refine lv_aload_n hx hb dX5_takeInto_101 rfl (lv_at hl 0 rfl) ?_
  refine gf_20_6 C hP (v := y0) rfl w_209 dX5_takeInto_102 ?_
  obtain ⟨n_5, h⟩ := k_no h
  refine al_25 C hP (v := (kA σ 13 y0.toNatClampNeg)) rfl n_5 dX5_takeInto_105 ?_
  refine pf_8_4 C hP hS w_133 dX5_takeInto_106 (fun H locs hP hS => ?_)
  obtain ⟨rfl, rfl⟩ := k_inj h
  exact krv C hS hP dX5_takeInto_109
def s_X5_takeInto_v1_0 (F : Nat) (σ : kS) : Option (Unit × kS) :=
  (if 0 < (kI σ 25) then (if (kI σ 24) ≤ 0 then s_X5_takeInto_v1_41 F (jI σ 25 ((kI σ 25) - (1 : Int32))) ((kI σ 23) - (1 : Int32)) else s_X5_takeInto_v1_41 F (jI σ 25 ((kI σ 25) - (1 : Int32))) ((kI σ 24) - (1 : Int32))) else some ((), σ))
set_option maxRecDepth 100000 in
set_option maxHeartbeats 4000000 in
theorem w_X5_takeInto_v1_0 (C : Cx E p s m args meth c cX5_takeInto 2 RX5 none) (F : Nat) (σ : kS) (h : s_X5_takeInto_v1_0 F σ = some (r, σr)) (H : Heap) (locs : List Loc) (hP : cP E σ H) (hS : va_S (inC E) s.heap H locs) (ls : Array Slot) (hl : lv_has ls 2 [(0, .ref (eA E 20)), (1, .ref (eA E 8))]) : W p l e (kR 0 0) s m args below meth c H locs 0 0 (MQ below (kQv (cP E) (inC E) r σr) args s 0 0 (inC E)) (F0 m 0 ls []) := by
  obtain ⟨-, hx, hb, hml, hown, hts, hK, -, -⟩ := id C
  unfold s_X5_takeInto_v1_0 at h
  refine lv_aload_n hx hb dX5_takeInto_0 rfl (lv_at hl 0 rfl) ?_
  refine gf_20_7 C hP (v := (kI σ 25)) rfl w_210 dX5_takeInto_1 ?_
  refine lv_if_gt (tgt := 8) hx hb dX5_takeInto_4 (by decide) (fun c_1 => ?_) (fun c_1 => ?_)
  · have h := k_t c_1 h
    refine lv_aload_n hx hb dX5_takeInto_8 rfl (lv_at hl 0 rfl) ?_
    refine lv_dup hx hb dX5_takeInto_9 rfl ?_
    refine gf_20_7 C hP (v := (kI σ 25)) rfl w_210 dX5_takeInto_10 ?_
    refine lv_iconst (v := (1 : Int32)) hx hb dX5_takeInto_13 (by decide) ?_
    refine lv_isub hx hb dX5_takeInto_14 ?_
    refine pf_20_7 C hP hS w_210 dX5_takeInto_15 (fun H locs hP hS => ?_)
    refine lv_aload_n hx hb dX5_takeInto_18 rfl (lv_at hl 0 rfl) ?_
    refine lv_aload_n hx hb dX5_takeInto_19 rfl (lv_at hl 0 rfl) ?_
    refine gf_20_6 C hP (v := (kI σ 24)) rfl w_209 dX5_takeInto_20 ?_
    refine lv_if_le (tgt := 35) hx hb dX5_takeInto_23 (by decide) (fun c_2 => ?_) (fun c_2 => ?_)
    · have h := k_t c_2 h
      refine lv_aload_n hx hb dX5_takeInto_35 rfl (lv_at hl 0 rfl) ?_
      refine gf_20_0 C hP (v := (kI σ 23)) rfl w_203 dX5_takeInto_36 ?_
      refine lv_iconst (v := (1 : Int32)) hx hb dX5_takeInto_39 (by decide) ?_
      refine lv_isub hx hb dX5_takeInto_40 ?_
      exact w_X5_takeInto_v1_41 C F (jI σ 25 ((kI σ 25) - (1 : Int32))) ((kI σ 23) - (1 : Int32)) h H locs hP hS ls hl
    · have h := k_f c_2 h
      refine lv_aload_n hx hb dX5_takeInto_26 rfl (lv_at hl 0 rfl) ?_
      refine gf_20_6 C hP (v := (kI σ 24)) rfl w_209 dX5_takeInto_27 ?_
      refine lv_iconst (v := (1 : Int32)) hx hb dX5_takeInto_30 (by decide) ?_
      refine lv_isub hx hb dX5_takeInto_31 ?_
      refine lv_goto (tgt := 41) hx hb dX5_takeInto_32 (by decide) ?_
      exact w_X5_takeInto_v1_41 C F (jI σ 25 ((kI σ 25) - (1 : Int32))) ((kI σ 24) - (1 : Int32)) h H locs hP hS ls hl
  · have h := k_f c_1 h
    obtain ⟨rfl, rfl⟩ := k_inj h
    exact krv C hS hP dX5_takeInto_7
def f_X5_takeInto_v1 (F : Nat) (σ : kS) : Option (Unit × kS) := s_X5_takeInto_v1_0 F σ
set_option maxRecDepth 100000 in
theorem c_X5_takeInto_v1 (E : kE) (hE : kap E) (F : Nat) (σ : kS) (h : f_X5_takeInto_v1 F σ = some (r, σr)) : Met l yX5_takeInto (kWs yX5_takeInto cX5_takeInto 2 none) (kR 0 0) (kPre (cP E) E [.ref (eA E 20), .ref (eA E 8)] σ) (kQv (cP E) (inC E) r σr) 0 0 (inC E) :=
  kst hE (by decide +kernel) (Nat.le_of_ble_eq_true rfl) (fun p e s m below meth c ls C hP hl => w_X5_takeInto_v1_0 C F σ h s.heap [] hP va_S.rf ls hl)
end

section
variable {p : Program} {l : Launch} {e : Env} {s : State} {m : MethodId} {args : Array Value} {below : List Frame} {meth : Method} {c : Code} {E : kE} {σr : kS}
variable {r : Int32}
def s_X7_back_0 (F : Nat) (σ : kS) : Option (Int32 × kS) :=
  (if (kI σ 25) = 0 then some ((-2 : Int32), σ) else (kb (f_X5_takeInto_v1 F σ) fun _ σ_3 => (kb (f_X5_clear F σ_3) fun _ σ_6 => some ((kI σ_6 25), σ_6))))
set_option maxRecDepth 100000 in
set_option maxHeartbeats 4000000 in
theorem w_X7_back_0 (C : Cx E p s m args meth c cX7_back 1 RX7 (some .int)) (F : Nat) (σ : kS) (h : s_X7_back_0 F σ = some (r, σr)) (H : Heap) (locs : List Loc) (hP : cP E σ H) (hS : va_S (inC E) s.heap H locs) (ls : Array Slot) (hl : lv_has ls 1 [(0, .ref (eA E 0))]) : W p l e (kR 1 21) s m args below meth c H locs 0 0 (MQ below (kQi (cP E) (inC E) r σr) args s 0 0 (inC E)) (F0 m 0 ls []) := by
  obtain ⟨-, hx, hb, hml, hown, hts, hK, -, -⟩ := id C
  unfold s_X7_back_0 at h
  refine lv_aload_n hx hb dX7_back_0 rfl (lv_at hl 0 rfl) ?_
  refine gf_0_8 C hP w_257 dX7_back_1 ?_
  refine gf_20_7 C hP (v := (kI σ 25)) rfl w_211 dX7_back_4 ?_
  refine lv_if_ne (tgt := 13) hx hb dX7_back_7 (by decide) (fun c_1 => ?_) (fun c_1 => ?_)
  · have h := k_f c_1 h
    refine lv_aload_n hx hb dX7_back_13 rfl (lv_at hl 0 rfl) ?_
    refine gf_0_8 C hP w_257 dX7_back_14 ?_
    refine lv_aload_n hx hb dX7_back_17 rfl (lv_at hl 0 rfl) ?_
    refine gf_0_3 C hP w_252 dX7_back_18 ?_
    obtain ⟨v_2, σ_3, hc_4, h⟩ := kb_ok h
    refine kcv (krunV (As := [.ref (eA E 8)]) C hP (c_X5_takeInto_v1 E C.1 F σ hc_4) w_515 kv_X5_takeInto ⟨Nat.le_of_ble_eq_true rfl, Nat.le_of_ble_eq_true rfl⟩ (rc_20 C hP) rfl hl.1 rfl (Nat.le_of_ble_eq_true rfl) dX7_back_21) hS (fun H locs hP hS => ?_)
    refine lv_aload_n hx hb dX7_back_24 rfl (lv_at hl 0 rfl) ?_
    refine gf_0_7 C hP w_256 dX7_back_25 ?_
    obtain ⟨v_5, σ_6, hc_7, h⟩ := kb_ok h
    refine kcv (krunV (As := []) C hP (c_X5_clear E C.1 F σ_3 hc_7) w_353 kv_X5_clear ⟨Nat.le_of_ble_eq_true rfl, Nat.le_of_ble_eq_true rfl⟩ (rc_14 C hP) rfl hl.1 rfl (Nat.le_of_ble_eq_true rfl) dX7_back_28) hS (fun H locs hP hS => ?_)
    refine lv_aload_n hx hb dX7_back_31 rfl (lv_at hl 0 rfl) ?_
    refine gf_0_8 C hP w_257 dX7_back_32 ?_
    refine gf_20_7 C hP (v := (kI σ_6 25)) rfl w_211 dX7_back_35 ?_
    obtain ⟨rfl, rfl⟩ := k_inj h
    exact kri C hS hP dX7_back_38
  · have h := k_t c_1 h
    refine lv_bipush (v := (-2 : Int32)) hx hb dX7_back_10 (by decide) ?_
    obtain ⟨rfl, rfl⟩ := k_inj h
    exact kri C hS hP dX7_back_12
def f_X7_back (F : Nat) (σ : kS) : Option (Int32 × kS) := s_X7_back_0 F σ
set_option maxRecDepth 100000 in
theorem c_X7_back (E : kE) (hE : kap E) (F : Nat) (σ : kS) (h : f_X7_back F σ = some (r, σr)) : Met l yX7_back (kWs yX7_back cX7_back 1 (some .int)) (kR 1 21) (kPre (cP E) E [.ref (eA E 0)] σ) (kQi (cP E) (inC E) r σr) 0 0 (inC E) :=
  kst hE (by decide +kernel) (Nat.le_of_ble_eq_true rfl) (fun p e s m below meth c ls C hP hl => w_X7_back_0 C F σ h s.heap [] hP va_S.rf ls hl)
end

section
variable {p : Program} {l : Launch} {e : Env} {s : State} {m : MethodId} {args : Array Value} {below : List Frame} {meth : Method} {c : Code} {E : kE} {σr : kS}
variable {r : Int32}
def s_X7_count_0 (F : Nat) (σ : kS) (x1 : Int32) : Option (Int32 × kS) :=
  (if x1 = (0 : Int32) then some ((kI σ 14), σ) else (if x1 = (1 : Int32) then some ((kI σ 0), σ) else (if x1 = (2 : Int32) then some ((kI σ 15), σ) else (if x1 = (3 : Int32) then some ((kI σ 26), σ) else (if x1 = (4 : Int32) then some ((kI σ 19), σ) else (if x1 = (5 : Int32) then some ((kI σ 22), σ) else (if x1 = (6 : Int32) then some (((kI σ 16) + (1000000 : Int32)), σ) else (if x1 = (7 : Int32) then some (((kI σ 17) + (1000000 : Int32)), σ) else (if x1 = (8 : Int32) then some ((kI σ 25), σ) else some ((-1 : Int32), σ))))))))))
set_option maxRecDepth 100000 in
set_option maxHeartbeats 4000000 in
theorem w_X7_count_0 (C : Cx E p s m args meth c cX7_count 2 RX7 (some .int)) (F : Nat) (σ : kS) (x1 : Int32) (h : s_X7_count_0 F σ x1 = some (r, σr)) (H : Heap) (locs : List Loc) (hP : cP E σ H) (hS : va_S (inC E) s.heap H locs) (ls : Array Slot) (hl : lv_has ls 2 [(0, .ref (eA E 0)), (1, .int x1)]) : W p l e (kR 0 0) s m args below meth c H locs 0 0 (MQ below (kQi (cP E) (inC E) r σr) args s 0 0 (inC E)) (F0 m 0 ls []) := by
  obtain ⟨-, hx, hb, hml, hown, hts, hK, -, -⟩ := id C
  unfold s_X7_count_0 at h
  refine lv_iload_n hx hb dX7_count_0 rfl (lv_at hl 1 rfl) ?_
  by_cases c_1 : x1 = (0 : Int32)
  · have h := k_t c_1 h
    refine lv_tableIn (off := 51) (tgt := 52) hx hb dX7_count_1 (by rw [c_1]; decide) (by rw [c_1]; decide) (by rw [c_1]; rfl) (by decide) ?_
    refine lv_aload_n hx hb dX7_count_52 rfl (lv_at hl 0 rfl) ?_
    refine gf_0_2 C hP w_251 dX7_count_53 ?_
    refine gf_6_7 C hP (v := (kI σ 14)) rfl w_95 dX7_count_56 ?_
    obtain ⟨rfl, rfl⟩ := k_inj h
    exact kri C hS hP dX7_count_59
  · have h := k_f c_1 h
    by_cases c_2 : x1 = (1 : Int32)
    · have h := k_t c_2 h
      refine lv_tableIn (off := 59) (tgt := 60) hx hb dX7_count_1 (by rw [c_2]; decide) (by rw [c_2]; decide) (by rw [c_2]; rfl) (by decide) ?_
      refine lv_aload_n hx hb dX7_count_60 rfl (lv_at hl 0 rfl) ?_
      refine gf_0_0 C hP w_249 dX7_count_61 ?_
      refine gf_1_2 C hP (v := (kI σ 0)) rfl w_66 dX7_count_64 ?_
      obtain ⟨rfl, rfl⟩ := k_inj h
      exact kri C hS hP dX7_count_67
    · have h := k_f c_2 h
      by_cases c_3 : x1 = (2 : Int32)
      · have h := k_t c_3 h
        refine lv_tableIn (off := 67) (tgt := 68) hx hb dX7_count_1 (by rw [c_3]; decide) (by rw [c_3]; decide) (by rw [c_3]; rfl) (by decide) ?_
        refine lv_aload_n hx hb dX7_count_68 rfl (lv_at hl 0 rfl) ?_
        refine gf_0_3 C hP w_252 dX7_count_69 ?_
        refine gf_8_1 C hP (v := (kI σ 15)) rfl w_125 dX7_count_72 ?_
        obtain ⟨rfl, rfl⟩ := k_inj h
        exact kri C hS hP dX7_count_75
      · have h := k_f c_3 h
        by_cases c_4 : x1 = (3 : Int32)
        · have h := k_t c_4 h
          refine lv_tableIn (off := 75) (tgt := 76) hx hb dX7_count_1 (by rw [c_4]; decide) (by rw [c_4]; decide) (by rw [c_4]; rfl) (by decide) ?_
          refine lv_aload_n hx hb dX7_count_76 rfl (lv_at hl 0 rfl) ?_
          refine gf_0_10 C hP (v := (kI σ 26)) rfl w_259 dX7_count_77 ?_
          obtain ⟨rfl, rfl⟩ := k_inj h
          exact kri C hS hP dX7_count_80
        · have h := k_f c_4 h
          by_cases c_5 : x1 = (4 : Int32)
          · have h := k_t c_5 h
            refine lv_tableIn (off := 80) (tgt := 81) hx hb dX7_count_1 (by rw [c_5]; decide) (by rw [c_5]; decide) (by rw [c_5]; rfl) (by decide) ?_
            refine lv_aload_n hx hb dX7_count_81 rfl (lv_at hl 0 rfl) ?_
            refine gf_0_6 C hP w_255 dX7_count_82 ?_
            refine gf_11_3 C hP (v := (kI σ 19)) rfl w_184 dX7_count_85 ?_
            obtain ⟨rfl, rfl⟩ := k_inj h
            exact kri C hS hP dX7_count_88
          · have h := k_f c_5 h
            by_cases c_6 : x1 = (5 : Int32)
            · have h := k_t c_6 h
              refine lv_tableIn (off := 88) (tgt := 89) hx hb dX7_count_1 (by rw [c_6]; decide) (by rw [c_6]; decide) (by rw [c_6]; rfl) (by decide) ?_
              refine lv_aload_n hx hb dX7_count_89 rfl (lv_at hl 0 rfl) ?_
              refine gf_0_7 C hP w_256 dX7_count_90 ?_
              refine gf_14_7 C hP (v := (kI σ 22)) rfl w_211 dX7_count_93 ?_
              obtain ⟨rfl, rfl⟩ := k_inj h
              exact kri C hS hP dX7_count_96
            · have h := k_f c_6 h
              by_cases c_7 : x1 = (6 : Int32)
              · have h := k_t c_7 h
                refine lv_tableIn (off := 96) (tgt := 97) hx hb dX7_count_1 (by rw [c_7]; decide) (by rw [c_7]; decide) (by rw [c_7]; rfl) (by decide) ?_
                refine lv_aload_n hx hb dX7_count_97 rfl (lv_at hl 0 rfl) ?_
                refine gf_0_3 C hP w_252 dX7_count_98 ?_
                refine gf_8_2 C hP (v := (kI σ 16)) rfl w_128 dX7_count_101 ?_
                refine lv_ldc (v := (1000000 : Int32)) hx hb hown (hts _ w_598) dX7_count_104 ?_
                refine lv_iadd hx hb dX7_count_106 ?_
                obtain ⟨rfl, rfl⟩ := k_inj h
                exact kri C hS hP dX7_count_107
              · have h := k_f c_7 h
                by_cases c_8 : x1 = (7 : Int32)
                · have h := k_t c_8 h
                  refine lv_tableIn (off := 107) (tgt := 108) hx hb dX7_count_1 (by rw [c_8]; decide) (by rw [c_8]; decide) (by rw [c_8]; rfl) (by decide) ?_
                  refine lv_aload_n hx hb dX7_count_108 rfl (lv_at hl 0 rfl) ?_
                  refine gf_0_3 C hP w_252 dX7_count_109 ?_
                  refine gf_8_3 C hP (v := (kI σ 17)) rfl w_131 dX7_count_112 ?_
                  refine lv_ldc (v := (1000000 : Int32)) hx hb hown (hts _ w_598) dX7_count_115 ?_
                  refine lv_iadd hx hb dX7_count_117 ?_
                  obtain ⟨rfl, rfl⟩ := k_inj h
                  exact kri C hS hP dX7_count_118
                · have h := k_f c_8 h
                  by_cases c_9 : x1 = (8 : Int32)
                  · have h := k_t c_9 h
                    refine lv_tableIn (off := 118) (tgt := 119) hx hb dX7_count_1 (by rw [c_9]; decide) (by rw [c_9]; decide) (by rw [c_9]; rfl) (by decide) ?_
                    refine lv_aload_n hx hb dX7_count_119 rfl (lv_at hl 0 rfl) ?_
                    refine gf_0_8 C hP w_257 dX7_count_120 ?_
                    refine gf_20_7 C hP (v := (kI σ 25)) rfl w_211 dX7_count_123 ?_
                    obtain ⟨rfl, rfl⟩ := k_inj h
                    exact kri C hS hP dX7_count_126
                  · have h := k_f c_9 h
                    have tc_1 : ¬ x1.toInt = 0 := lv_neT c_1 (by decide)
                    have tc_2 : ¬ x1.toInt = 1 := lv_neT c_2 (by decide)
                    have tc_3 : ¬ x1.toInt = 2 := lv_neT c_3 (by decide)
                    have tc_4 : ¬ x1.toInt = 3 := lv_neT c_4 (by decide)
                    have tc_5 : ¬ x1.toInt = 4 := lv_neT c_5 (by decide)
                    have tc_6 : ¬ x1.toInt = 5 := lv_neT c_6 (by decide)
                    have tc_7 : ¬ x1.toInt = 6 := lv_neT c_7 (by decide)
                    have tc_8 : ¬ x1.toInt = 7 := lv_neT c_8 (by decide)
                    have tc_9 : ¬ x1.toInt = 8 := lv_neT c_9 (by decide)
                    refine lv_tableOut (tgt := 127) hx hb dX7_count_1 (by omega) (by decide) ?_
                    refine lv_iconst (v := (-1 : Int32)) hx hb dX7_count_127 (by decide) ?_
                    obtain ⟨rfl, rfl⟩ := k_inj h
                    exact kri C hS hP dX7_count_128
def f_X7_count (F : Nat) (σ : kS) (x1 : Int32) : Option (Int32 × kS) := s_X7_count_0 F σ x1
set_option maxRecDepth 100000 in
theorem c_X7_count (E : kE) (hE : kap E) (F : Nat) (σ : kS) (x1 : Int32) (h : f_X7_count F σ x1 = some (r, σr)) : Met l yX7_count (kWs yX7_count cX7_count 2 (some .int)) (kR 0 0) (kPre (cP E) E [.ref (eA E 0), .int x1] σ) (kQi (cP E) (inC E) r σr) 0 0 (inC E) :=
  kst hE (by decide +kernel) (Nat.le_of_ble_eq_true rfl) (fun p e s m below meth c ls C hP hl => w_X7_count_0 C F σ x1 h s.heap [] hP va_S.rf ls hl)
end

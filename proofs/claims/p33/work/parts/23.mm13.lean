section
variable {p : Program} {l : Launch} {e : Env} {s : State} {m : MethodId} {args : Array Value} {below : List Frame} {meth : Method} {c : Code} {E : kE} {σr : kS}
variable {r : Int32}
def s_X8_count_0 (F : Nat) (σ : kS) (x1 : Int32) : Option (Int32 × kS) :=
  (if x1 = (0 : Int32) then some ((kA σ 2 0), σ) else (if x1 = (1 : Int32) then some ((kI σ 0), σ) else (if x1 = (2 : Int32) then some ((kB σ 0 1).toInt32, σ) else (if x1 = (3 : Int32) then some ((kI σ 4), σ) else (if x1 = (4 : Int32) then some ((kI σ 5), σ) else (if x1 = (5 : Int32) then some ((kI σ 3), σ) else (if x1 = (6 : Int32) then some (((kB σ 0 2).toInt32 + (1000000 : Int32)), σ) else (if x1 = (7 : Int32) then some (((kB σ 0 3).toInt32 + (1000000 : Int32)), σ) else (if x1 = (8 : Int32) then some ((kI σ 2), σ) else some ((-1 : Int32), σ))))))))))
set_option maxRecDepth 100000 in
set_option maxHeartbeats 4000000 in
theorem w_X8_count_0 (C : Cx E p s m args meth c cX8_count 2 RX8 (some .int)) (F : Nat) (σ : kS) (x1 : Int32) (h : s_X8_count_0 F σ x1 = some (r, σr)) (H : Heap) (locs : List Loc) (hP : mP E σ H) (hS : va_S (inM E) s.heap H locs) (ls : Array Slot) (hl : lv_has ls 2 [(0, .ref (eA E 27)), (1, .int x1)]) : W p l e (kR 0 0) s m args below meth c H locs 0 0 (MQ below (kQi (mP E) (inM E) r σr) args s 0 0 (inM E)) (F0 m 0 ls []) := by
  obtain ⟨-, hx, hb, hml, hown, hts, hK, -, -⟩ := id C
  unfold s_X8_count_0 at h
  refine lv_iload_n hx hb dX8_count_0 rfl (lv_at hl 1 rfl) ?_
  by_cases c_1 : x1 = (0 : Int32)
  · have h := k_t c_1 h
    refine lv_tableIn (off := 51) (tgt := 52) hx hb dX8_count_1 (by rw [c_1]; decide) (by rw [c_1]; decide) (by rw [c_1]; rfl) (by decide) ?_
    refine lv_aload_n hx hb dX8_count_52 rfl (lv_at hl 0 rfl) ?_
    refine gf_27_4 C hP w_679 dX8_count_53 ?_
    refine lv_iconst (v := (0 : Int32)) hx hb dX8_count_56 (by decide) ?_
    refine al_30 C hP (v := (kA σ 2 0)) rfl (by unfold vp_in; decide) dX8_count_57 ?_
    obtain ⟨rfl, rfl⟩ := k_inj h
    exact kri C hS hP dX8_count_58
  · have h := k_f c_1 h
    by_cases c_2 : x1 = (1 : Int32)
    · have h := k_t c_2 h
      refine lv_tableIn (off := 58) (tgt := 59) hx hb dX8_count_1 (by rw [c_2]; decide) (by rw [c_2]; decide) (by rw [c_2]; rfl) (by decide) ?_
      refine lv_aload_n hx hb dX8_count_59 rfl (lv_at hl 0 rfl) ?_
      refine gf_27_0 C hP (v := (kI σ 0)) rfl w_675 dX8_count_60 ?_
      obtain ⟨rfl, rfl⟩ := k_inj h
      exact kri C hS hP dX8_count_63
    · have h := k_f c_2 h
      by_cases c_3 : x1 = (2 : Int32)
      · have h := k_t c_3 h
        refine lv_tableIn (off := 63) (tgt := 64) hx hb dX8_count_1 (by rw [c_3]; decide) (by rw [c_3]; decide) (by rw [c_3]; rfl) (by decide) ?_
        refine lv_aload_n hx hb dX8_count_64 rfl (lv_at hl 0 rfl) ?_
        refine gf_27_7 C hP w_682 dX8_count_65 ?_
        refine lv_iconst (v := (1 : Int32)) hx hb dX8_count_68 (by decide) ?_
        refine al_33 C hP (v := (kB σ 0 1)) rfl (by unfold vp_in; decide) dX8_count_69 ?_
        refine lv_l2i (v := (kB σ 0 1).toInt32) hx hb dX8_count_70 rfl ?_
        obtain ⟨rfl, rfl⟩ := k_inj h
        exact kri C hS hP dX8_count_71
      · have h := k_f c_3 h
        by_cases c_4 : x1 = (3 : Int32)
        · have h := k_t c_4 h
          refine lv_tableIn (off := 71) (tgt := 72) hx hb dX8_count_1 (by rw [c_4]; decide) (by rw [c_4]; decide) (by rw [c_4]; rfl) (by decide) ?_
          refine lv_aload_n hx hb dX8_count_72 rfl (lv_at hl 0 rfl) ?_
          refine gf_27_11 C hP (v := (kI σ 4)) rfl w_686 dX8_count_73 ?_
          obtain ⟨rfl, rfl⟩ := k_inj h
          exact kri C hS hP dX8_count_76
        · have h := k_f c_4 h
          by_cases c_5 : x1 = (4 : Int32)
          · have h := k_t c_5 h
            refine lv_tableIn (off := 76) (tgt := 77) hx hb dX8_count_1 (by rw [c_5]; decide) (by rw [c_5]; decide) (by rw [c_5]; rfl) (by decide) ?_
            refine lv_aload_n hx hb dX8_count_77 rfl (lv_at hl 0 rfl) ?_
            refine gf_27_14 C hP (v := (kI σ 5)) rfl w_689 dX8_count_78 ?_
            obtain ⟨rfl, rfl⟩ := k_inj h
            exact kri C hS hP dX8_count_81
          · have h := k_f c_5 h
            by_cases c_6 : x1 = (5 : Int32)
            · have h := k_t c_6 h
              refine lv_tableIn (off := 81) (tgt := 82) hx hb dX8_count_1 (by rw [c_6]; decide) (by rw [c_6]; decide) (by rw [c_6]; rfl) (by decide) ?_
              refine lv_aload_n hx hb dX8_count_82 rfl (lv_at hl 0 rfl) ?_
              refine gf_27_9 C hP (v := (kI σ 3)) rfl w_684 dX8_count_83 ?_
              obtain ⟨rfl, rfl⟩ := k_inj h
              exact kri C hS hP dX8_count_86
            · have h := k_f c_6 h
              by_cases c_7 : x1 = (6 : Int32)
              · have h := k_t c_7 h
                refine lv_tableIn (off := 86) (tgt := 87) hx hb dX8_count_1 (by rw [c_7]; decide) (by rw [c_7]; decide) (by rw [c_7]; rfl) (by decide) ?_
                refine lv_aload_n hx hb dX8_count_87 rfl (lv_at hl 0 rfl) ?_
                refine gf_27_7 C hP w_682 dX8_count_88 ?_
                refine lv_iconst (v := (2 : Int32)) hx hb dX8_count_91 (by decide) ?_
                refine al_33 C hP (v := (kB σ 0 2)) rfl (by unfold vp_in; decide) dX8_count_92 ?_
                refine lv_l2i (v := (kB σ 0 2).toInt32) hx hb dX8_count_93 rfl ?_
                refine lv_ldc (v := (1000000 : Int32)) hx hb hown (hts _ w_965) dX8_count_94 ?_
                refine lv_iadd hx hb dX8_count_96 ?_
                obtain ⟨rfl, rfl⟩ := k_inj h
                exact kri C hS hP dX8_count_97
              · have h := k_f c_7 h
                by_cases c_8 : x1 = (7 : Int32)
                · have h := k_t c_8 h
                  refine lv_tableIn (off := 97) (tgt := 98) hx hb dX8_count_1 (by rw [c_8]; decide) (by rw [c_8]; decide) (by rw [c_8]; rfl) (by decide) ?_
                  refine lv_aload_n hx hb dX8_count_98 rfl (lv_at hl 0 rfl) ?_
                  refine gf_27_7 C hP w_682 dX8_count_99 ?_
                  refine lv_iconst (v := (3 : Int32)) hx hb dX8_count_102 (by decide) ?_
                  refine al_33 C hP (v := (kB σ 0 3)) rfl (by unfold vp_in; decide) dX8_count_103 ?_
                  refine lv_l2i (v := (kB σ 0 3).toInt32) hx hb dX8_count_104 rfl ?_
                  refine lv_ldc (v := (1000000 : Int32)) hx hb hown (hts _ w_965) dX8_count_105 ?_
                  refine lv_iadd hx hb dX8_count_107 ?_
                  obtain ⟨rfl, rfl⟩ := k_inj h
                  exact kri C hS hP dX8_count_108
                · have h := k_f c_8 h
                  by_cases c_9 : x1 = (8 : Int32)
                  · have h := k_t c_9 h
                    refine lv_tableIn (off := 108) (tgt := 109) hx hb dX8_count_1 (by rw [c_9]; decide) (by rw [c_9]; decide) (by rw [c_9]; rfl) (by decide) ?_
                    refine lv_aload_n hx hb dX8_count_109 rfl (lv_at hl 0 rfl) ?_
                    refine gf_27_8 C hP (v := (kI σ 2)) rfl w_683 dX8_count_110 ?_
                    obtain ⟨rfl, rfl⟩ := k_inj h
                    exact kri C hS hP dX8_count_113
                  · have h := k_f c_9 h
                    have tc_1 : ¬ x1.toInt = 0 := lv_neT c_1 (by decide)
                    have tc_2 : ¬ x1.toInt = 1 := lv_neT c_2 (by decide)
                    have tc_3 : ¬ x1.toInt = 2 := lv_neT c_3 (by decide)
                    have tc_4 : ¬ x1.toInt = 3 := lv_neT c_4 (by decide)
                    have tc_5 : ¬ x1.toInt = 4 := lv_neT c_5 (by decide)
                    have tc_6 : ¬ x1.toInt = 5 := lv_neT c_6 (by decide)
                    have tc_7 : ¬ x1.toInt = 6 := lv_neT c_7 (by decide)
                    have tc_8 : ¬ x1.toInt = 7 := lv_neT c_8 (by decide)
                    have tc_9 : ¬ x1.toInt = 8 := lv_neT c_9 (by decide)
                    refine lv_tableOut (tgt := 114) hx hb dX8_count_1 (by omega) (by decide) ?_
                    refine lv_iconst (v := (-1 : Int32)) hx hb dX8_count_114 (by decide) ?_
                    obtain ⟨rfl, rfl⟩ := k_inj h
                    exact kri C hS hP dX8_count_115
def f_X8_count (F : Nat) (σ : kS) (x1 : Int32) : Option (Int32 × kS) := s_X8_count_0 F σ x1
set_option maxRecDepth 100000 in
theorem c_X8_count (E : kE) (hE : kap E) (F : Nat) (σ : kS) (x1 : Int32) (h : f_X8_count F σ x1 = some (r, σr)) : Met l yX8_count (kWs yX8_count cX8_count 2 (some .int)) (kR 0 0) (kPre (mP E) E [.ref (eA E 27), .int x1] σ) (kQi (mP E) (inM E) r σr) 0 0 (inM E) :=
  kst hE (by decide +kernel) (Nat.le_of_ble_eq_true rfl) (fun p e s m below meth c ls C hP hl => w_X8_count_0 C F σ x1 h s.heap [] hP va_S.rf ls hl)
end

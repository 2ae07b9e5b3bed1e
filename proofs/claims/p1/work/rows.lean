section
-- ===== PART A: goes FIRST, ahead of the names: the tables' words, and 'selects' of the private methods out of them =====
/-- a private method of a class that the tables say can be made, by its rows of tables_1 -/
def lw_okq (q : MethodName × Nat) : Prop := (q.1.cls ≠ "java/lang/invoke/MethodHandle" ∧ q.1.cls ≠ "java/lang/invoke/VarHandle") ∧ Cond.instantiable q.1.cls q.2 ∈ tables_1 ∧ Cond.privateMethod q.1 ∈ tables_1 ∧ Cond.instanceMethod q.1 ∈ tables_1
theorem lw_p0 : lw_okq (⟨"TwoKings$Script", "readItem", "(I)I"⟩, 3) := ⟨⟨by decide +kernel, by decide +kernel⟩, List.mem_of_getElem? (i := 21) (by decide +kernel), List.mem_of_getElem? (i := 268) (by decide +kernel), List.mem_of_getElem? (i := 269) (by decide +kernel)⟩
theorem lw_p1 : lw_okq (⟨"TwoKings$Script", "byteAt", "(I)I"⟩, 3) := ⟨⟨by decide +kernel, by decide +kernel⟩, List.mem_of_getElem? (i := 21) (by decide +kernel), List.mem_of_getElem? (i := 272) (by decide +kernel), List.mem_of_getElem? (i := 273) (by decide +kernel)⟩
theorem lw_p2 : lw_okq (⟨"TwoKings$Script", "readNumber", "(II)I"⟩, 3) := ⟨⟨by decide +kernel, by decide +kernel⟩, List.mem_of_getElem? (i := 21) (by decide +kernel), List.mem_of_getElem? (i := 279) (by decide +kernel), List.mem_of_getElem? (i := 280) (by decide +kernel)⟩
theorem lw_p3 : lw_okq (⟨"TwoKings$Plan", "takeTide", "(IIII)Z"⟩, 8) := ⟨⟨by decide +kernel, by decide +kernel⟩, List.mem_of_getElem? (i := 40) (by decide +kernel), List.mem_of_getElem? (i := 290) (by decide +kernel), List.mem_of_getElem? (i := 291) (by decide +kernel)⟩
theorem lw_p4 : lw_okq (⟨"TwoKings$Plan", "takeOrigin", "(I)Z"⟩, 8) := ⟨⟨by decide +kernel, by decide +kernel⟩, List.mem_of_getElem? (i := 40) (by decide +kernel), List.mem_of_getElem? (i := 294) (by decide +kernel), List.mem_of_getElem? (i := 295) (by decide +kernel)⟩
theorem lw_p5 : lw_okq (⟨"TwoKings$Plan", "takeSilt", "(I)Z"⟩, 8) := ⟨⟨by decide +kernel, by decide +kernel⟩, List.mem_of_getElem? (i := 40) (by decide +kernel), List.mem_of_getElem? (i := 298) (by decide +kernel), List.mem_of_getElem? (i := 299) (by decide +kernel)⟩
theorem lw_p6 : lw_okq (⟨"TwoKings$Plan", "takeAct", "([I)Z"⟩, 8) := ⟨⟨by decide +kernel, by decide +kernel⟩, List.mem_of_getElem? (i := 40) (by decide +kernel), List.mem_of_getElem? (i := 302) (by decide +kernel), List.mem_of_getElem? (i := 303) (by decide +kernel)⟩
theorem lw_p7 : lw_okq (⟨"TwoKings", "isAct", "(I)Z"⟩, 11) := ⟨⟨by decide +kernel, by decide +kernel⟩, List.mem_of_getElem? (i := 13) (by decide +kernel), List.mem_of_getElem? (i := 325) (by decide +kernel), List.mem_of_getElem? (i := 326) (by decide +kernel)⟩
theorem lw_p8 : lw_okq (⟨"TwoKings$Judge", "rulerAtParts", "(J)I"⟩, 2) := ⟨⟨by decide +kernel, by decide +kernel⟩, List.mem_of_getElem? (i := 112) (by decide +kernel), List.mem_of_getElem? (i := 365) (by decide +kernel), List.mem_of_getElem? (i := 366) (by decide +kernel)⟩
theorem lw_p9 : lw_okq (⟨"TwoKings$Judge", "minutesWithinRound", "(IJI)I"⟩, 2) := ⟨⟨by decide +kernel, by decide +kernel⟩, List.mem_of_getElem? (i := 112) (by decide +kernel), List.mem_of_getElem? (i := 391) (by decide +kernel), List.mem_of_getElem? (i := 392) (by decide +kernel)⟩
theorem lw_p10 : lw_okq (⟨"TwoKings$Judge", "stretchFrom", "(J)I"⟩, 2) := ⟨⟨by decide +kernel, by decide +kernel⟩, List.mem_of_getElem? (i := 112) (by decide +kernel), List.mem_of_getElem? (i := 395) (by decide +kernel), List.mem_of_getElem? (i := 396) (by decide +kernel)⟩
theorem lw_p11 : lw_okq (⟨"TwoKings", "isActOrNone", "(I)Z"⟩, 11) := ⟨⟨by decide +kernel, by decide +kernel⟩, List.mem_of_getElem? (i := 13) (by decide +kernel), List.mem_of_getElem? (i := 497) (by decide +kernel), List.mem_of_getElem? (i := 498) (by decide +kernel)⟩
theorem lw_p12 : lw_okq (⟨"TwoKings$Council", "isRest", "(II)Z"⟩, 2) := ⟨⟨by decide +kernel, by decide +kernel⟩, List.mem_of_getElem? (i := 125) (by decide +kernel), List.mem_of_getElem? (i := 515) (by decide +kernel), List.mem_of_getElem? (i := 516) (by decide +kernel)⟩
theorem lw_p13 : lw_okq (⟨"TwoKings$Council", "lawsOfTreaty", "(I)I"⟩, 2) := ⟨⟨by decide +kernel, by decide +kernel⟩, List.mem_of_getElem? (i := 125) (by decide +kernel), List.mem_of_getElem? (i := 532) (by decide +kernel), List.mem_of_getElem? (i := 533) (by decide +kernel)⟩
theorem lw_p14 : lw_okq (⟨"TwoKings$Council", "suitsEither", "(II)Z"⟩, 2) := ⟨⟨by decide +kernel, by decide +kernel⟩, List.mem_of_getElem? (i := 125) (by decide +kernel), List.mem_of_getElem? (i := 536) (by decide +kernel), List.mem_of_getElem? (i := 537) (by decide +kernel)⟩
theorem lw_p15 : lw_okq (⟨"TwoKings$Table", "isSo", "(II)Z"⟩, 4) := ⟨⟨by decide +kernel, by decide +kernel⟩, List.mem_of_getElem? (i := 138) (by decide +kernel), List.mem_of_getElem? (i := 579) (by decide +kernel), List.mem_of_getElem? (i := 580) (by decide +kernel)⟩
def lw_privs_1 : List (MethodName × Nat) := [(⟨"TwoKings$Script", "readItem", "(I)I"⟩, 3), (⟨"TwoKings$Script", "byteAt", "(I)I"⟩, 3), (⟨"TwoKings$Script", "readNumber", "(II)I"⟩, 3), (⟨"TwoKings$Plan", "takeTide", "(IIII)Z"⟩, 8), (⟨"TwoKings$Plan", "takeOrigin", "(I)Z"⟩, 8), (⟨"TwoKings$Plan", "takeSilt", "(I)Z"⟩, 8), (⟨"TwoKings$Plan", "takeAct", "([I)Z"⟩, 8), (⟨"TwoKings", "isAct", "(I)Z"⟩, 11), (⟨"TwoKings$Judge", "rulerAtParts", "(J)I"⟩, 2), (⟨"TwoKings$Judge", "minutesWithinRound", "(IJI)I"⟩, 2), (⟨"TwoKings$Judge", "stretchFrom", "(J)I"⟩, 2), (⟨"TwoKings", "isActOrNone", "(I)Z"⟩, 11), (⟨"TwoKings$Council", "isRest", "(II)Z"⟩, 2), (⟨"TwoKings$Council", "lawsOfTreaty", "(I)I"⟩, 2), (⟨"TwoKings$Council", "suitsEither", "(II)Z"⟩, 2), (⟨"TwoKings$Table", "isSo", "(II)Z"⟩, 4)]
theorem lw_r1 : ∀ q ∈ lw_privs_1, lw_okq q := List.forall_mem_cons.mpr ⟨lw_p0, List.forall_mem_cons.mpr ⟨lw_p1, List.forall_mem_cons.mpr ⟨lw_p2, List.forall_mem_cons.mpr ⟨lw_p3, List.forall_mem_cons.mpr ⟨lw_p4, List.forall_mem_cons.mpr ⟨lw_p5, List.forall_mem_cons.mpr ⟨lw_p6, List.forall_mem_cons.mpr ⟨lw_p7, List.forall_mem_cons.mpr ⟨lw_p8, List.forall_mem_cons.mpr ⟨lw_p9, List.forall_mem_cons.mpr ⟨lw_p10, List.forall_mem_cons.mpr ⟨lw_p11, List.forall_mem_cons.mpr ⟨lw_p12, List.forall_mem_cons.mpr ⟨lw_p13, List.forall_mem_cons.mpr ⟨lw_p14, List.forall_mem_cons.mpr ⟨lw_p15, fun _ h => absurd h List.not_mem_nil⟩⟩⟩⟩⟩⟩⟩⟩⟩⟩⟩⟩⟩⟩⟩⟩
theorem lw_p16 : lw_okq (⟨"TwoKingsModel", "begins", "()V"⟩, 18) := ⟨⟨by decide +kernel, by decide +kernel⟩, List.mem_of_getElem? (i := 625) (by decide +kernel), List.mem_of_getElem? (i := 631) (by decide +kernel), List.mem_of_getElem? (i := 632) (by decide +kernel)⟩
theorem lw_p17 : lw_okq (⟨"TwoKingsModel", "takes", "()V"⟩, 18) := ⟨⟨by decide +kernel, by decide +kernel⟩, List.mem_of_getElem? (i := 625) (by decide +kernel), List.mem_of_getElem? (i := 635) (by decide +kernel), List.mem_of_getElem? (i := 636) (by decide +kernel)⟩
theorem lw_p18 : lw_okq (⟨"TwoKingsModel", "isItem", "()Z"⟩, 18) := ⟨⟨by decide +kernel, by decide +kernel⟩, List.mem_of_getElem? (i := 625) (by decide +kernel), List.mem_of_getElem? (i := 710) (by decide +kernel), List.mem_of_getElem? (i := 711) (by decide +kernel)⟩
theorem lw_p19 : lw_okq (⟨"TwoKingsModel", "number", "()I"⟩, 18) := ⟨⟨by decide +kernel, by decide +kernel⟩, List.mem_of_getElem? (i := 625) (by decide +kernel), List.mem_of_getElem? (i := 717) (by decide +kernel), List.mem_of_getElem? (i := 718) (by decide +kernel)⟩
theorem lw_p20 : lw_okq (⟨"TwoKingsModel", "isGood", "(I)Z"⟩, 18) := ⟨⟨by decide +kernel, by decide +kernel⟩, List.mem_of_getElem? (i := 625) (by decide +kernel), List.mem_of_getElem? (i := 724) (by decide +kernel), List.mem_of_getElem? (i := 725) (by decide +kernel)⟩
theorem lw_p21 : lw_okq (⟨"TwoKingsModel", "isIn", "(III)Z"⟩, 18) := ⟨⟨by decide +kernel, by decide +kernel⟩, List.mem_of_getElem? (i := 625) (by decide +kernel), List.mem_of_getElem? (i := 728) (by decide +kernel), List.mem_of_getElem? (i := 729) (by decide +kernel)⟩
theorem lw_p22 : lw_okq (⟨"TwoKingsModel", "isAct", "(I)Z"⟩, 18) := ⟨⟨by decide +kernel, by decide +kernel⟩, List.mem_of_getElem? (i := 625) (by decide +kernel), List.mem_of_getElem? (i := 741) (by decide +kernel), List.mem_of_getElem? (i := 742) (by decide +kernel)⟩
theorem lw_p23 : lw_okq (⟨"TwoKingsModel", "ruler", "(J)I"⟩, 18) := ⟨⟨by decide +kernel, by decide +kernel⟩, List.mem_of_getElem? (i := 625) (by decide +kernel), List.mem_of_getElem? (i := 759) (by decide +kernel), List.mem_of_getElem? (i := 760) (by decide +kernel)⟩
theorem lw_p24 : lw_okq (⟨"TwoKingsModel", "counted", "(JII)I"⟩, 18) := ⟨⟨by decide +kernel, by decide +kernel⟩, List.mem_of_getElem? (i := 625) (by decide +kernel), List.mem_of_getElem? (i := 769) (by decide +kernel), List.mem_of_getElem? (i := 770) (by decide +kernel)⟩
theorem lw_p25 : lw_okq (⟨"TwoKingsModel", "isLawful", "(IJ)Z"⟩, 18) := ⟨⟨by decide +kernel, by decide +kernel⟩, List.mem_of_getElem? (i := 625) (by decide +kernel), List.mem_of_getElem? (i := 784) (by decide +kernel), List.mem_of_getElem? (i := 785) (by decide +kernel)⟩
theorem lw_p26 : lw_okq (⟨"TwoKingsModel", "isKings", "(IJ)Z"⟩, 18) := ⟨⟨by decide +kernel, by decide +kernel⟩, List.mem_of_getElem? (i := 625) (by decide +kernel), List.mem_of_getElem? (i := 788) (by decide +kernel), List.mem_of_getElem? (i := 789) (by decide +kernel)⟩
theorem lw_p27 : lw_okq (⟨"TwoKingsModel", "lasts", "(I)I"⟩, 18) := ⟨⟨by decide +kernel, by decide +kernel⟩, List.mem_of_getElem? (i := 625) (by decide +kernel), List.mem_of_getElem? (i := 805) (by decide +kernel), List.mem_of_getElem? (i := 806) (by decide +kernel)⟩
theorem lw_p28 : lw_okq (⟨"TwoKingsModel", "known", "(III)V"⟩, 18) := ⟨⟨by decide +kernel, by decide +kernel⟩, List.mem_of_getElem? (i := 625) (by decide +kernel), List.mem_of_getElem? (i := 814) (by decide +kernel), List.mem_of_getElem? (i := 815) (by decide +kernel)⟩
theorem lw_p29 : lw_okq (⟨"TwoKingsModel", "gains", "(III)I"⟩, 18) := ⟨⟨by decide +kernel, by decide +kernel⟩, List.mem_of_getElem? (i := 625) (by decide +kernel), List.mem_of_getElem? (i := 835) (by decide +kernel), List.mem_of_getElem? (i := 836) (by decide +kernel)⟩
theorem lw_p30 : lw_okq (⟨"TwoKingsModel", "worth", "(II)I"⟩, 18) := ⟨⟨by decide +kernel, by decide +kernel⟩, List.mem_of_getElem? (i := 625) (by decide +kernel), List.mem_of_getElem? (i := 839) (by decide +kernel), List.mem_of_getElem? (i := 840) (by decide +kernel)⟩
theorem lw_p31 : lw_okq (⟨"TwoKingsModel", "isRest", "(II)Z"⟩, 18) := ⟨⟨by decide +kernel, by decide +kernel⟩, List.mem_of_getElem? (i := 625) (by decide +kernel), List.mem_of_getElem? (i := 851) (by decide +kernel), List.mem_of_getElem? (i := 852) (by decide +kernel)⟩
def lw_privs_2 : List (MethodName × Nat) := [(⟨"TwoKingsModel", "begins", "()V"⟩, 18), (⟨"TwoKingsModel", "takes", "()V"⟩, 18), (⟨"TwoKingsModel", "isItem", "()Z"⟩, 18), (⟨"TwoKingsModel", "number", "()I"⟩, 18), (⟨"TwoKingsModel", "isGood", "(I)Z"⟩, 18), (⟨"TwoKingsModel", "isIn", "(III)Z"⟩, 18), (⟨"TwoKingsModel", "isAct", "(I)Z"⟩, 18), (⟨"TwoKingsModel", "ruler", "(J)I"⟩, 18), (⟨"TwoKingsModel", "counted", "(JII)I"⟩, 18), (⟨"TwoKingsModel", "isLawful", "(IJ)Z"⟩, 18), (⟨"TwoKingsModel", "isKings", "(IJ)Z"⟩, 18), (⟨"TwoKingsModel", "lasts", "(I)I"⟩, 18), (⟨"TwoKingsModel", "known", "(III)V"⟩, 18), (⟨"TwoKingsModel", "gains", "(III)I"⟩, 18), (⟨"TwoKingsModel", "worth", "(II)I"⟩, 18), (⟨"TwoKingsModel", "isRest", "(II)Z"⟩, 18)]
theorem lw_r2 : ∀ q ∈ lw_privs_2, lw_okq q := List.forall_mem_cons.mpr ⟨lw_p16, List.forall_mem_cons.mpr ⟨lw_p17, List.forall_mem_cons.mpr ⟨lw_p18, List.forall_mem_cons.mpr ⟨lw_p19, List.forall_mem_cons.mpr ⟨lw_p20, List.forall_mem_cons.mpr ⟨lw_p21, List.forall_mem_cons.mpr ⟨lw_p22, List.forall_mem_cons.mpr ⟨lw_p23, List.forall_mem_cons.mpr ⟨lw_p24, List.forall_mem_cons.mpr ⟨lw_p25, List.forall_mem_cons.mpr ⟨lw_p26, List.forall_mem_cons.mpr ⟨lw_p27, List.forall_mem_cons.mpr ⟨lw_p28, List.forall_mem_cons.mpr ⟨lw_p29, List.forall_mem_cons.mpr ⟨lw_p30, List.forall_mem_cons.mpr ⟨lw_p31, fun _ h => absurd h List.not_mem_nil⟩⟩⟩⟩⟩⟩⟩⟩⟩⟩⟩⟩⟩⟩⟩⟩
theorem lw_p32 : lw_okq (⟨"TwoKingsModel", "isSet", "(I)Z"⟩, 18) := ⟨⟨by decide +kernel, by decide +kernel⟩, List.mem_of_getElem? (i := 625) (by decide +kernel), List.mem_of_getElem? (i := 859) (by decide +kernel), List.mem_of_getElem? (i := 860) (by decide +kernel)⟩
theorem lw_p33 : lw_okq (⟨"TwoKingsModel", "isFirm", "(I)Z"⟩, 18) := ⟨⟨by decide +kernel, by decide +kernel⟩, List.mem_of_getElem? (i := 625) (by decide +kernel), List.mem_of_getElem? (i := 863) (by decide +kernel), List.mem_of_getElem? (i := 864) (by decide +kernel)⟩
theorem lw_p34 : lw_okq (⟨"TwoKingsModel", "together", "(I)I"⟩, 18) := ⟨⟨by decide +kernel, by decide +kernel⟩, List.mem_of_getElem? (i := 625) (by decide +kernel), List.mem_of_getElem? (i := 871) (by decide +kernel), List.mem_of_getElem? (i := 872) (by decide +kernel)⟩
theorem lw_p35 : lw_okq (⟨"TwoKingsModel", "so", "(I)I"⟩, 18) := ⟨⟨by decide +kernel, by decide +kernel⟩, List.mem_of_getElem? (i := 625) (by decide +kernel), List.mem_of_getElem? (i := 896) (by decide +kernel), List.mem_of_getElem? (i := 897) (by decide +kernel)⟩
theorem lw_p36 : lw_okq (⟨"TwoKingsModel", "copies", "(II)V"⟩, 18) := ⟨⟨by decide +kernel, by decide +kernel⟩, List.mem_of_getElem? (i := 625) (by decide +kernel), List.mem_of_getElem? (i := 917) (by decide +kernel), List.mem_of_getElem? (i := 918) (by decide +kernel)⟩
def lw_privs_3 : List (MethodName × Nat) := [(⟨"TwoKingsModel", "isSet", "(I)Z"⟩, 18), (⟨"TwoKingsModel", "isFirm", "(I)Z"⟩, 18), (⟨"TwoKingsModel", "together", "(I)I"⟩, 18), (⟨"TwoKingsModel", "so", "(I)I"⟩, 18), (⟨"TwoKingsModel", "copies", "(II)V"⟩, 18)]
theorem lw_r3 : ∀ q ∈ lw_privs_3, lw_okq q := List.forall_mem_cons.mpr ⟨lw_p32, List.forall_mem_cons.mpr ⟨lw_p33, List.forall_mem_cons.mpr ⟨lw_p34, List.forall_mem_cons.mpr ⟨lw_p35, List.forall_mem_cons.mpr ⟨lw_p36, fun _ h => absurd h List.not_mem_nil⟩⟩⟩⟩⟩
def lw_privs : List (MethodName × Nat) := lw_privs_1 ++ (lw_privs_2 ++ (lw_privs_3))
def lw_tbl : List Cond := k2_sels lw_privs ++ tables_1
theorem lw_privs_ok : ∀ q ∈ lw_privs, lw_okq q := by
  show ∀ q ∈ lw_privs_1 ++ (lw_privs_2 ++ (lw_privs_3)), lw_okq q
  exact List.forall_mem_append.mpr ⟨lw_r1, List.forall_mem_append.mpr ⟨lw_r2, lw_r3⟩⟩
end
section
def RX0 : String := "TwoKings$Council"
def TX0 : u_T := fun k => match k with
  | 0 => ("TwoKings$Council", "plan", "LTwoKings$Plan;", true)
  | _ => ("TwoKings$Council", "reign", "LTwoKings$Reign;", true)
def tyX0 : Nat → FieldType := fun k => match k with
  | 0 => .object "TwoKings$Plan"
  | _ => .object "TwoKings$Reign"
abbrev wsX00 : List Cond := u_ws RX0 TX0 2
theorem nmX0 : ∀ a, a < 2 → ∀ b, b < 2 → a ≠ b → (TX0 a).2.1 ≠ (TX0 b).2.1 := by decide +kernel
theorem tyX0_ok : ∀ k, k < 2 → parseFieldDescriptor (TX0 k).2.2.1 = some (tyX0 k) := by decide +kernel
abbrev cX0_init : ByteArray := prog_2_method_1_code
def yX0_init : MethodName := ⟨RX0, "<init>", "(LTwoKings$Plan;LTwoKings$Reign;)V"⟩
abbrev cX0_gainUnder : ByteArray := prog_2_method_2_code
def yX0_gainUnder : MethodName := ⟨RX0, "gainUnder", "(II)I"⟩
abbrev cX0_gainIfForbidden : ByteArray := prog_2_method_3_code
def yX0_gainIfForbidden : MethodName := ⟨RX0, "gainIfForbidden", "(III)I"⟩
abbrev cX0_isRest : ByteArray := prog_2_method_4_code
def yX0_isRest : MethodName := ⟨RX0, "isRest", "(II)Z"⟩
abbrev cX0_restCount : ByteArray := prog_2_method_5_code
def yX0_restCount : MethodName := ⟨RX0, "restCount", "()I"⟩
abbrev cX0_actOfFirstRest : ByteArray := prog_2_method_6_code
def yX0_actOfFirstRest : MethodName := ⟨RX0, "actOfFirstRest", "(I)I"⟩
abbrev cX0_lawsOfTreaty : ByteArray := prog_2_method_7_code
def yX0_lawsOfTreaty : MethodName := ⟨RX0, "lawsOfTreaty", "(I)I"⟩
abbrev cX0_isFirm : ByteArray := prog_2_method_8_code
def yX0_isFirm : MethodName := ⟨RX0, "isFirm", "(I)Z"⟩
abbrev cX0_suitsEither : ByteArray := prog_2_method_9_code
def yX0_suitsEither : MethodName := ⟨RX0, "suitsEither", "(II)Z"⟩
abbrev cX0_gainsOfTreaty : ByteArray := prog_2_method_10_code
def yX0_gainsOfTreaty : MethodName := ⟨RX0, "gainsOfTreaty", "(I)I"⟩
abbrev cX0_bestTreaty : ByteArray := prog_2_method_11_code
def yX0_bestTreaty : MethodName := ⟨RX0, "bestTreaty", "()I"⟩
def RX1 : String := "TwoKings$Judge"
def TX1 : u_T := fun k => match k with
  | 0 => ("TwoKings$Judge", "plan", "LTwoKings$Plan;", true)
  | _ => ("TwoKings$Judge", "reign", "LTwoKings$Reign;", true)
def tyX1 : Nat → FieldType := fun k => match k with
  | 0 => .object "TwoKings$Plan"
  | _ => .object "TwoKings$Reign"
abbrev wsX10 : List Cond := u_ws RX1 TX1 2
theorem nmX1 : ∀ a, a < 2 → ∀ b, b < 2 → a ≠ b → (TX1 a).2.1 ≠ (TX1 b).2.1 := by decide +kernel
theorem tyX1_ok : ∀ k, k < 2 → parseFieldDescriptor (TX1 k).2.2.1 = some (tyX1 k) := by decide +kernel
abbrev cX1_init : ByteArray := prog_3_method_1_code
def yX1_init : MethodName := ⟨RX1, "<init>", "(LTwoKings$Plan;LTwoKings$Reign;)V"⟩
abbrev cX1_rulerAt : ByteArray := prog_3_method_2_code
def yX1_rulerAt : MethodName := ⟨RX1, "rulerAt", "(J)I"⟩
abbrev cX1_rulerAtParts : ByteArray := prog_3_method_3_code
def yX1_rulerAtParts : MethodName := ⟨RX1, "rulerAtParts", "(J)I"⟩
abbrev cX1_stretchFrom : ByteArray := prog_3_method_4_code
def yX1_stretchFrom : MethodName := ⟨RX1, "stretchFrom", "(J)I"⟩
abbrev cX1_minutesOf : ByteArray := prog_3_method_5_code
def yX1_minutesOf : MethodName := ⟨RX1, "minutesOf", "(IJI)I"⟩
abbrev cX1_minutesWithinRound : ByteArray := prog_3_method_6_code
def yX1_minutesWithinRound : MethodName := ⟨RX1, "minutesWithinRound", "(IJI)I"⟩
abbrev cX1_firstOf : ByteArray := prog_3_method_7_code
def yX1_firstOf : MethodName := ⟨RX1, "firstOf", "(IJ)J"⟩
abbrev cX1_isLawful : ByteArray := prog_3_method_8_code
def yX1_isLawful : MethodName := ⟨RX1, "isLawful", "(IJ)Z"⟩
abbrev cX1_firstLawful : ByteArray := prog_3_method_9_code
def yX1_firstLawful : MethodName := ⟨RX1, "firstLawful", "(IIJ)J"⟩
def RX2 : String := "TwoKings$Plan"
def TX2 : u_T := fun k => match k with
  | 0 => ("TwoKings$Plan", "tideOver", "I", false)
  | 1 => ("TwoKings$Plan", "tideUnder", "I", false)
  | 2 => ("TwoKings$Plan", "highOver", "I", false)
  | 3 => ("TwoKings$Plan", "highUnder", "I", false)
  | 4 => ("TwoKings$Plan", "origin", "I", false)
  | 5 => ("TwoKings$Plan", "silt", "I", false)
  | 6 => ("TwoKings$Plan", "told", "[I", true)
  | _ => ("TwoKings$Plan", "acts", "I", false)
def tyX2 : Nat → FieldType := fun k => match k with
  | 0 => .int
  | 1 => .int
  | 2 => .int
  | 3 => .int
  | 4 => .int
  | 5 => .int
  | 6 => .array .int
  | _ => .int
abbrev wsX20 : List Cond := u_ws RX2 TX2 8
theorem nmX2 : ∀ a, a < 8 → ∀ b, b < 8 → a ≠ b → (TX2 a).2.1 ≠ (TX2 b).2.1 := by decide +kernel
theorem tyX2_ok : ∀ k, k < 8 → parseFieldDescriptor (TX2 k).2.2.1 = some (tyX2 k) := by decide +kernel
abbrev cX2_init : ByteArray := prog_4_method_1_code
def yX2_init : MethodName := ⟨RX2, "<init>", "()V"⟩
abbrev cX2_clear : ByteArray := prog_4_method_2_code
def yX2_clear : MethodName := ⟨RX2, "clear", "()V"⟩
abbrev cX2_copyFrom : ByteArray := prog_4_method_3_code
def yX2_copyFrom : MethodName := ⟨RX2, "copyFrom", "(LTwoKings$Plan;)V"⟩
abbrev cX2_addFirstAct : ByteArray := prog_4_method_4_code
def yX2_addFirstAct : MethodName := ⟨RX2, "addFirstAct", "()V"⟩
abbrev cX2_numbersBehind : ByteArray := prog_4_method_5_code
def yX2_numbersBehind : MethodName := ⟨RX2, "numbersBehind", "(I)I"⟩
abbrev cX2_takeItem : ByteArray := prog_4_method_6_code
def yX2_takeItem : MethodName := ⟨RX2, "takeItem", "(I[I)Z"⟩
abbrev cX2_takeTide : ByteArray := prog_4_method_7_code
def yX2_takeTide : MethodName := ⟨RX2, "takeTide", "(IIII)Z"⟩
abbrev cX2_takeOrigin : ByteArray := prog_4_method_8_code
def yX2_takeOrigin : MethodName := ⟨RX2, "takeOrigin", "(I)Z"⟩
abbrev cX2_takeSilt : ByteArray := prog_4_method_9_code
def yX2_takeSilt : MethodName := ⟨RX2, "takeSilt", "(I)Z"⟩
abbrev cX2_takeAct : ByteArray := prog_4_method_10_code
def yX2_takeAct : MethodName := ⟨RX2, "takeAct", "([I)Z"⟩
abbrev cX2_numberOf : ByteArray := prog_4_method_11_code
def yX2_numberOf : MethodName := ⟨RX2, "numberOf", "(II)I"⟩
abbrev cX2_worth : ByteArray := prog_4_method_12_code
def yX2_worth : MethodName := ⟨RX2, "worth", "(II)I"⟩
abbrev cX2_minutesTaken : ByteArray := prog_4_method_13_code
def yX2_minutesTaken : MethodName := ⟨RX2, "minutesTaken", "(I)I"⟩
abbrev cX2_toldLaws : ByteArray := prog_4_method_14_code
def yX2_toldLaws : MethodName := ⟨RX2, "toldLaws", "()I"⟩
abbrev cX2_partsOfMinute : ByteArray := prog_4_method_15_code
def yX2_partsOfMinute : MethodName := ⟨RX2, "partsOfMinute", "()I"⟩
abbrev cX2_partsOfTide : ByteArray := prog_4_method_16_code
def yX2_partsOfTide : MethodName := ⟨RX2, "partsOfTide", "()I"⟩
abbrev cX2_partsOfHigh : ByteArray := prog_4_method_17_code
def yX2_partsOfHigh : MethodName := ⟨RX2, "partsOfHigh", "()I"⟩
abbrev cX2_minutesOfRound : ByteArray := prog_4_method_18_code
def yX2_minutesOfRound : MethodName := ⟨RX2, "minutesOfRound", "()I"⟩
abbrev cX2_partsBehindBegin : ByteArray := prog_4_method_19_code
def yX2_partsBehindBegin : MethodName := ⟨RX2, "partsBehindBegin", "(JI)J"⟩
def RX3 : String := "TwoKings$Reign"
def TX3 : u_T := fun k => match k with
  | 0 => ("TwoKings$Reign", "minute", "J", false)
  | 1 => ("TwoKings$Reign", "year", "I", false)
  | 2 => ("TwoKings$Reign", "highWorth", "I", false)
  | 3 => ("TwoKings$Reign", "lowWorth", "I", false)
  | _ => ("TwoKings$Reign", "laws", "I", false)
def tyX3 : Nat → FieldType := fun k => match k with
  | 0 => .long
  | 1 => .int
  | 2 => .int
  | 3 => .int
  | _ => .int
abbrev wsX30 : List Cond := u_ws RX3 TX3 5
theorem nmX3 : ∀ a, a < 5 → ∀ b, b < 5 → a ≠ b → (TX3 a).2.1 ≠ (TX3 b).2.1 := by decide +kernel
theorem tyX3_ok : ∀ k, k < 5 → parseFieldDescriptor (TX3 k).2.2.1 = some (tyX3 k) := by decide +kernel
abbrev cX3_init : ByteArray := prog_5_method_1_code
def yX3_init : MethodName := ⟨RX3, "<init>", "()V"⟩
abbrev cX3_startOver : ByteArray := prog_5_method_2_code
def yX3_startOver : MethodName := ⟨RX3, "startOver", "(I)V"⟩
def RX4 : String := "TwoKings$Script"
def TX4 : u_T := fun k => match k with
  | 0 => ("TwoKings$Script", "bytes", "[B", true)
  | 1 => ("TwoKings$Script", "numbers", "[I", true)
  | _ => ("TwoKings$Script", "length", "I", false)
def tyX4 : Nat → FieldType := fun k => match k with
  | 0 => .array .byte
  | 1 => .array .int
  | _ => .int
abbrev wsX40 : List Cond := u_ws RX4 TX4 3
theorem nmX4 : ∀ a, a < 3 → ∀ b, b < 3 → a ≠ b → (TX4 a).2.1 ≠ (TX4 b).2.1 := by decide +kernel
theorem tyX4_ok : ∀ k, k < 3 → parseFieldDescriptor (TX4 k).2.2.1 = some (tyX4 k) := by decide +kernel
abbrev cX4_init : ByteArray := prog_6_method_1_code
def yX4_init : MethodName := ⟨RX4, "<init>", "()V"⟩
abbrev cX4_append : ByteArray := prog_6_method_2_code
def yX4_append : MethodName := ⟨RX4, "append", "(IJ)Z"⟩
abbrev cX4_readInto : ByteArray := prog_6_method_3_code
def yX4_readInto : MethodName := ⟨RX4, "readInto", "(LTwoKings$Plan;)I"⟩
abbrev cX4_readItem : ByteArray := prog_6_method_4_code
def yX4_readItem : MethodName := ⟨RX4, "readItem", "(I)I"⟩
abbrev cX4_readNumber : ByteArray := prog_6_method_5_code
def yX4_readNumber : MethodName := ⟨RX4, "readNumber", "(II)I"⟩
abbrev cX4_isFigure : ByteArray := prog_6_method_6_code
def yX4_isFigure : MethodName := ⟨RX4, "isFigure", "(I)Z"⟩
abbrev cX4_byteAt : ByteArray := prog_6_method_7_code
def yX4_byteAt : MethodName := ⟨RX4, "byteAt", "(I)I"⟩
def RX5 : String := "TwoKings$Shelf"
def TX5 : u_T := fun k => match k with
  | 0 => ("TwoKings$Shelf", "room", "I", true)
  | 1 => ("TwoKings$Shelf", "minutes", "[J", true)
  | 2 => ("TwoKings$Shelf", "years", "[I", true)
  | 3 => ("TwoKings$Shelf", "highWorths", "[I", true)
  | 4 => ("TwoKings$Shelf", "lowWorths", "[I", true)
  | 5 => ("TwoKings$Shelf", "laws", "[I", true)
  | 6 => ("TwoKings$Shelf", "top", "I", false)
  | _ => ("TwoKings$Shelf", "held", "I", false)
def tyX5 : Nat → FieldType := fun k => match k with
  | 0 => .int
  | 1 => .array .long
  | 2 => .array .int
  | 3 => .array .int
  | 4 => .array .int
  | 5 => .array .int
  | 6 => .int
  | _ => .int
abbrev wsX50 : List Cond := u_ws RX5 TX5 8
theorem nmX5 : ∀ a, a < 8 → ∀ b, b < 8 → a ≠ b → (TX5 a).2.1 ≠ (TX5 b).2.1 := by decide +kernel
theorem tyX5_ok : ∀ k, k < 8 → parseFieldDescriptor (TX5 k).2.2.1 = some (tyX5 k) := by decide +kernel
abbrev cX5_init : ByteArray := prog_7_method_1_code
def yX5_init : MethodName := ⟨RX5, "<init>", "(I)V"⟩
abbrev cX5_put : ByteArray := prog_7_method_2_code
def yX5_put : MethodName := ⟨RX5, "put", "(LTwoKings$Reign;)V"⟩
abbrev cX5_takeInto : ByteArray := prog_7_method_3_code
def yX5_takeInto : MethodName := ⟨RX5, "takeInto", "(LTwoKings$Reign;)V"⟩
abbrev cX5_clear : ByteArray := prog_7_method_4_code
def yX5_clear : MethodName := ⟨RX5, "clear", "()V"⟩
def RX6 : String := "TwoKings$Table"
def TX6 : u_T := fun k => match k with
  | 0 => ("TwoKings$Table", "judge", "LTwoKings$Judge;", true)
  | 1 => ("TwoKings$Table", "minutes", "[I", true)
  | 2 => ("TwoKings$Table", "rulers", "[I", true)
  | _ => ("TwoKings$Table", "lines", "I", false)
def tyX6 : Nat → FieldType := fun k => match k with
  | 0 => .object "TwoKings$Judge"
  | 1 => .array .int
  | 2 => .array .int
  | _ => .int
abbrev wsX60 : List Cond := u_ws RX6 TX6 4
theorem nmX6 : ∀ a, a < 4 → ∀ b, b < 4 → a ≠ b → (TX6 a).2.1 ≠ (TX6 b).2.1 := by decide +kernel
theorem tyX6_ok : ∀ k, k < 4 → parseFieldDescriptor (TX6 k).2.2.1 = some (tyX6 k) := by decide +kernel
abbrev cX6_init : ByteArray := prog_8_method_1_code
def yX6_init : MethodName := ⟨RX6, "<init>", "(LTwoKings$Judge;)V"⟩
abbrev cX6_addLine : ByteArray := prog_8_method_2_code
def yX6_addLine : MethodName := ⟨RX6, "addLine", "(II)Z"⟩
abbrev cX6_isSo : ByteArray := prog_8_method_3_code
def yX6_isSo : MethodName := ⟨RX6, "isSo", "(II)Z"⟩
abbrev cX6_forgedBits : ByteArray := prog_8_method_4_code
def yX6_forgedBits : MethodName := ⟨RX6, "forgedBits", "()I"⟩
abbrev cX6_linesSo : ByteArray := prog_8_method_5_code
def yX6_linesSo : MethodName := ⟨RX6, "linesSo", "(I)I"⟩
abbrev cX6_bestShift : ByteArray := prog_8_method_6_code
def yX6_bestShift : MethodName := ⟨RX6, "bestShift", "()I"⟩
def RX7 : String := "TwoKings"
def TX7 : u_T := fun k => match k with
  | 0 => ("TwoKings", "script", "LTwoKings$Script;", true)
  | 1 => ("TwoKings", "draft", "LTwoKings$Plan;", true)
  | 2 => ("TwoKings", "laid", "LTwoKings$Plan;", true)
  | 3 => ("TwoKings", "now", "LTwoKings$Reign;", true)
  | 4 => ("TwoKings", "judge", "LTwoKings$Judge;", true)
  | 5 => ("TwoKings", "council", "LTwoKings$Council;", true)
  | 6 => ("TwoKings", "table", "LTwoKings$Table;", true)
  | 7 => ("TwoKings", "past", "LTwoKings$Shelf;", true)
  | 8 => ("TwoKings", "kept", "LTwoKings$Shelf;", true)
  | 9 => ("TwoKings", "row", "[I", true)
  | _ => ("TwoKings", "rowLength", "I", false)
def tyX7 : Nat → FieldType := fun k => match k with
  | 0 => .object "TwoKings$Script"
  | 1 => .object "TwoKings$Plan"
  | 2 => .object "TwoKings$Plan"
  | 3 => .object "TwoKings$Reign"
  | 4 => .object "TwoKings$Judge"
  | 5 => .object "TwoKings$Council"
  | 6 => .object "TwoKings$Table"
  | 7 => .object "TwoKings$Shelf"
  | 8 => .object "TwoKings$Shelf"
  | 9 => .array .int
  | _ => .int
abbrev wsX70 : List Cond := u_ws RX7 TX7 11
theorem nmX7 : ∀ a, a < 11 → ∀ b, b < 11 → a ≠ b → (TX7 a).2.1 ≠ (TX7 b).2.1 := by decide +kernel
theorem tyX7_ok : ∀ k, k < 11 → parseFieldDescriptor (TX7 k).2.2.1 = some (tyX7 k) := by decide +kernel
abbrev cX7_init : ByteArray := prog_1_method_1_code
def yX7_init : MethodName := ⟨RX7, "<init>", "()V"⟩
abbrev cX7_write : ByteArray := prog_1_method_2_code
def yX7_write : MethodName := ⟨RX7, "write", "(IJ)I"⟩
abbrev cX7_wipe : ByteArray := prog_1_method_3_code
def yX7_wipe : MethodName := ⟨RX7, "wipe", "()I"⟩
abbrev cX7_fault : ByteArray := prog_1_method_4_code
def yX7_fault : MethodName := ⟨RX7, "fault", "()I"⟩
abbrev cX7_lay : ByteArray := prog_1_method_5_code
def yX7_lay : MethodName := ⟨RX7, "lay", "()I"⟩
abbrev cX7_act : ByteArray := prog_1_method_6_code
def yX7_act : MethodName := ⟨RX7, "act", "(II)I"⟩
abbrev cX7_year : ByteArray := prog_1_method_7_code
def yX7_year : MethodName := ⟨RX7, "year", "(I)I"⟩
abbrev cX7_rules : ByteArray := prog_1_method_8_code
def yX7_rules : MethodName := ⟨RX7, "rules", "(J)I"⟩
abbrev cX7_minutes : ByteArray := prog_1_method_9_code
def yX7_minutes : MethodName := ⟨RX7, "minutes", "(JII)I"⟩
abbrev cX7_next : ByteArray := prog_1_method_10_code
def yX7_next : MethodName := ⟨RX7, "next", "(JI)J"⟩
abbrev cX7_lawful : ByteArray := prog_1_method_11_code
def yX7_lawful : MethodName := ⟨RX7, "lawful", "(IJ)I"⟩
abbrev cX7_tell : ByteArray := prog_1_method_12_code
def yX7_tell : MethodName := ⟨RX7, "tell", "(I)I"⟩
abbrev cX7_noRow : ByteArray := prog_1_method_13_code
def yX7_noRow : MethodName := ⟨RX7, "noRow", "()I"⟩
abbrev cX7_soon : ByteArray := prog_1_method_14_code
def yX7_soon : MethodName := ⟨RX7, "soon", "(JI)J"⟩
abbrev cX7_pass : ByteArray := prog_1_method_15_code
def yX7_pass : MethodName := ⟨RX7, "pass", "(I)J"⟩
abbrev cX7_doAct : ByteArray := prog_1_method_16_code
def yX7_doAct : MethodName := ⟨RX7, "doAct", "(I)J"⟩
abbrev cX7_allow : ByteArray := prog_1_method_17_code
def yX7_allow : MethodName := ⟨RX7, "allow", "(IIZ)I"⟩
abbrev cX7_undo : ByteArray := prog_1_method_18_code
def yX7_undo : MethodName := ⟨RX7, "undo", "()I"⟩
abbrev cX7_gain : ByteArray := prog_1_method_19_code
def yX7_gain : MethodName := ⟨RX7, "gain", "(I)I"⟩
abbrev cX7_forbid : ByteArray := prog_1_method_20_code
def yX7_forbid : MethodName := ⟨RX7, "forbid", "(III)I"⟩
abbrev cX7_rests : ByteArray := prog_1_method_21_code
def yX7_rests : MethodName := ⟨RX7, "rests", "(I)I"⟩
abbrev cX7_firm : ByteArray := prog_1_method_22_code
def yX7_firm : MethodName := ⟨RX7, "firm", "(I)I"⟩
abbrev cX7_treaty : ByteArray := prog_1_method_23_code
def yX7_treaty : MethodName := ⟨RX7, "treaty", "(I)I"⟩
abbrev cX7_bargain : ByteArray := prog_1_method_24_code
def yX7_bargain : MethodName := ⟨RX7, "bargain", "(IIJ)J"⟩
abbrev cX7_line : ByteArray := prog_1_method_25_code
def yX7_line : MethodName := ⟨RX7, "line", "(II)I"⟩
abbrev cX7_noTable : ByteArray := prog_1_method_26_code
def yX7_noTable : MethodName := ⟨RX7, "noTable", "()I"⟩
abbrev cX7_forged : ByteArray := prog_1_method_27_code
def yX7_forged : MethodName := ⟨RX7, "forged", "()I"⟩
abbrev cX7_shift : ByteArray := prog_1_method_28_code
def yX7_shift : MethodName := ⟨RX7, "shift", "(I)I"⟩
abbrev cX7_wreck : ByteArray := prog_1_method_29_code
def yX7_wreck : MethodName := ⟨RX7, "wreck", "(JIII)I"⟩
abbrev cX7_drawn : ByteArray := prog_1_method_30_code
def yX7_drawn : MethodName := ⟨RX7, "drawn", "(II)I"⟩
abbrev cX7_keep : ByteArray := prog_1_method_31_code
def yX7_keep : MethodName := ⟨RX7, "keep", "()I"⟩
abbrev cX7_back : ByteArray := prog_1_method_32_code
def yX7_back : MethodName := ⟨RX7, "back", "()I"⟩
abbrev cX7_count : ByteArray := prog_1_method_33_code
def yX7_count : MethodName := ⟨RX7, "count", "(I)I"⟩
abbrev cX7_isAct : ByteArray := prog_1_method_34_code
def yX7_isAct : MethodName := ⟨RX7, "isAct", "(I)Z"⟩
abbrev cX7_isActOrNone : ByteArray := prog_1_method_35_code
def yX7_isActOrNone : MethodName := ⟨RX7, "isActOrNone", "(I)Z"⟩
abbrev cX7_isKing : ByteArray := prog_1_method_36_code
def yX7_isKing : MethodName := ⟨RX7, "isKing", "(I)Z"⟩
abbrev cX7_isRuler : ByteArray := prog_1_method_37_code
def yX7_isRuler : MethodName := ⟨RX7, "isRuler", "(I)Z"⟩
abbrev cX7_isMinute : ByteArray := prog_1_method_38_code
def yX7_isMinute : MethodName := ⟨RX7, "isMinute", "(J)Z"⟩
abbrev cX7_lawOf : ByteArray := prog_1_method_39_code
def yX7_lawOf : MethodName := ⟨RX7, "lawOf", "(II)I"⟩
abbrev cX7_lawBits : ByteArray := prog_1_method_40_code
def yX7_lawBits : MethodName := ⟨RX7, "lawBits", "(II)I"⟩
abbrev cX7_greatestDivisor : ByteArray := prog_1_method_41_code
def yX7_greatestDivisor : MethodName := ⟨RX7, "greatestDivisor", "(II)I"⟩
def RX8 : String := "TwoKingsModel"
def TX8 : u_T := fun k => match k with
  | 0 => ("TwoKingsModel", "length", "I", false)
  | 1 => ("TwoKingsModel", "text", "[B", true)
  | 2 => ("TwoKingsModel", "at", "I", false)
  | 3 => ("TwoKingsModel", "told", "[I", true)
  | 4 => ("TwoKingsModel", "acts", "[I", true)
  | 5 => ("TwoKingsModel", "act", "[I", true)
  | 6 => ("TwoKingsModel", "lawFor", "[I", true)
  | 7 => ("TwoKingsModel", "box", "[J", true)
  | 8 => ("TwoKingsModel", "kept", "I", false)
  | 9 => ("TwoKingsModel", "done", "I", false)
  | 10 => ("TwoKingsModel", "did", "[I", true)
  | 11 => ("TwoKingsModel", "rowMany", "I", false)
  | 12 => ("TwoKingsModel", "row", "[I", true)
  | 13 => ("TwoKingsModel", "begun", "[J", true)
  | 14 => ("TwoKingsModel", "lines", "I", false)
  | 15 => ("TwoKingsModel", "line", "[I", true)
  | 16 => ("TwoKingsModel", "shifted", "I", false)
  | _ => ("TwoKingsModel", "got", "[I", true)
def tyX8 : Nat → FieldType := fun k => match k with
  | 0 => .int
  | 1 => .array .byte
  | 2 => .int
  | 3 => .array .int
  | 4 => .array .int
  | 5 => .array .int
  | 6 => .array .int
  | 7 => .array .long
  | 8 => .int
  | 9 => .int
  | 10 => .array .int
  | 11 => .int
  | 12 => .array .int
  | 13 => .array .long
  | 14 => .int
  | 15 => .array .int
  | 16 => .int
  | _ => .array .int
abbrev wsX80 : List Cond := u_ws RX8 TX8 18
theorem nmX8 : ∀ a, a < 18 → ∀ b, b < 18 → a ≠ b → (TX8 a).2.1 ≠ (TX8 b).2.1 := by decide +kernel
theorem tyX8_ok : ∀ k, k < 18 → parseFieldDescriptor (TX8 k).2.2.1 = some (tyX8 k) := by decide +kernel
abbrev cX8_init : ByteArray := prog_10_method_1_code
def yX8_init : MethodName := ⟨RX8, "<init>", "()V"⟩
abbrev cX8_in : ByteArray := prog_10_method_2_code
def yX8_in : MethodName := ⟨RX8, "in", "(JJJ)Z"⟩
abbrev cX8_write : ByteArray := prog_10_method_3_code
def yX8_write : MethodName := ⟨RX8, "write", "(IJ)I"⟩
abbrev cX8_wipe : ByteArray := prog_10_method_4_code
def yX8_wipe : MethodName := ⟨RX8, "wipe", "()I"⟩
abbrev cX8_number : ByteArray := prog_10_method_5_code
def yX8_number : MethodName := ⟨RX8, "number", "()I"⟩
abbrev cX8_parts : ByteArray := prog_10_method_6_code
def yX8_parts : MethodName := ⟨RX8, "parts", "(I)I"⟩
abbrev cX8_isIn : ByteArray := prog_10_method_7_code
def yX8_isIn : MethodName := ⟨RX8, "isIn", "(III)Z"⟩
abbrev cX8_isItem : ByteArray := prog_10_method_8_code
def yX8_isItem : MethodName := ⟨RX8, "isItem", "()Z"⟩
abbrev cX8_isGood : ByteArray := prog_10_method_9_code
def yX8_isGood : MethodName := ⟨RX8, "isGood", "(I)Z"⟩
abbrev cX8_begins : ByteArray := prog_10_method_10_code
def yX8_begins : MethodName := ⟨RX8, "begins", "()V"⟩
abbrev cX8_takes : ByteArray := prog_10_method_11_code
def yX8_takes : MethodName := ⟨RX8, "takes", "()V"⟩
abbrev cX8_fault : ByteArray := prog_10_method_12_code
def yX8_fault : MethodName := ⟨RX8, "fault", "()I"⟩
abbrev cX8_lay : ByteArray := prog_10_method_13_code
def yX8_lay : MethodName := ⟨RX8, "lay", "()I"⟩
abbrev cX8_isAct : ByteArray := prog_10_method_14_code
def yX8_isAct : MethodName := ⟨RX8, "isAct", "(I)Z"⟩
abbrev cX8_isMinute : ByteArray := prog_10_method_15_code
def yX8_isMinute : MethodName := ⟨RX8, "isMinute", "(J)Z"⟩
abbrev cX8_act : ByteArray := prog_10_method_16_code
def yX8_act : MethodName := ⟨RX8, "act", "(II)I"⟩
abbrev cX8_year : ByteArray := prog_10_method_17_code
def yX8_year : MethodName := ⟨RX8, "year", "(I)I"⟩
abbrev cX8_ruler : ByteArray := prog_10_method_18_code
def yX8_ruler : MethodName := ⟨RX8, "ruler", "(J)I"⟩
abbrev cX8_rules : ByteArray := prog_10_method_19_code
def yX8_rules : MethodName := ⟨RX8, "rules", "(J)I"⟩
abbrev cX8_counted : ByteArray := prog_10_method_20_code
def yX8_counted : MethodName := ⟨RX8, "counted", "(JII)I"⟩
abbrev cX8_minutes : ByteArray := prog_10_method_21_code
def yX8_minutes : MethodName := ⟨RX8, "minutes", "(JII)I"⟩
abbrev cX8_next : ByteArray := prog_10_method_22_code
def yX8_next : MethodName := ⟨RX8, "next", "(JI)J"⟩
abbrev cX8_isKings : ByteArray := prog_10_method_23_code
def yX8_isKings : MethodName := ⟨RX8, "isKings", "(IJ)Z"⟩
abbrev cX8_isLawful : ByteArray := prog_10_method_24_code
def yX8_isLawful : MethodName := ⟨RX8, "isLawful", "(IJ)Z"⟩
abbrev cX8_lawful : ByteArray := prog_10_method_25_code
def yX8_lawful : MethodName := ⟨RX8, "lawful", "(IJ)I"⟩
abbrev cX8_lasts : ByteArray := prog_10_method_26_code
def yX8_lasts : MethodName := ⟨RX8, "lasts", "(I)I"⟩
abbrev cX8_tell : ByteArray := prog_10_method_27_code
def yX8_tell : MethodName := ⟨RX8, "tell", "(I)I"⟩
abbrev cX8_noRow : ByteArray := prog_10_method_28_code
def yX8_noRow : MethodName := ⟨RX8, "noRow", "()I"⟩
abbrev cX8_soon : ByteArray := prog_10_method_29_code
def yX8_soon : MethodName := ⟨RX8, "soon", "(JI)J"⟩
abbrev cX8_known : ByteArray := prog_10_method_30_code
def yX8_known : MethodName := ⟨RX8, "known", "(III)V"⟩
abbrev cX8_pass : ByteArray := prog_10_method_31_code
def yX8_pass : MethodName := ⟨RX8, "pass", "(I)J"⟩
abbrev cX8_doAct : ByteArray := prog_10_method_32_code
def yX8_doAct : MethodName := ⟨RX8, "doAct", "(I)J"⟩
abbrev cX8_allow : ByteArray := prog_10_method_33_code
def yX8_allow : MethodName := ⟨RX8, "allow", "(IIZ)I"⟩
abbrev cX8_undo : ByteArray := prog_10_method_34_code
def yX8_undo : MethodName := ⟨RX8, "undo", "()I"⟩
abbrev cX8_worth : ByteArray := prog_10_method_35_code
def yX8_worth : MethodName := ⟨RX8, "worth", "(II)I"⟩
abbrev cX8_gains : ByteArray := prog_10_method_36_code
def yX8_gains : MethodName := ⟨RX8, "gains", "(III)I"⟩
abbrev cX8_gain : ByteArray := prog_10_method_37_code
def yX8_gain : MethodName := ⟨RX8, "gain", "(I)I"⟩
abbrev cX8_forbid : ByteArray := prog_10_method_38_code
def yX8_forbid : MethodName := ⟨RX8, "forbid", "(III)I"⟩
abbrev cX8_isRest : ByteArray := prog_10_method_39_code
def yX8_isRest : MethodName := ⟨RX8, "isRest", "(II)Z"⟩
abbrev cX8_rests : ByteArray := prog_10_method_40_code
def yX8_rests : MethodName := ⟨RX8, "rests", "(I)I"⟩
abbrev cX8_isFirm : ByteArray := prog_10_method_41_code
def yX8_isFirm : MethodName := ⟨RX8, "isFirm", "(I)Z"⟩
abbrev cX8_isSet : ByteArray := prog_10_method_42_code
def yX8_isSet : MethodName := ⟨RX8, "isSet", "(I)Z"⟩
abbrev cX8_firm : ByteArray := prog_10_method_43_code
def yX8_firm : MethodName := ⟨RX8, "firm", "(I)I"⟩
abbrev cX8_together : ByteArray := prog_10_method_44_code
def yX8_together : MethodName := ⟨RX8, "together", "(I)I"⟩
abbrev cX8_treaty : ByteArray := prog_10_method_45_code
def yX8_treaty : MethodName := ⟨RX8, "treaty", "(I)I"⟩
abbrev cX8_bargain : ByteArray := prog_10_method_46_code
def yX8_bargain : MethodName := ⟨RX8, "bargain", "(IIJ)J"⟩
abbrev cX8_line : ByteArray := prog_10_method_47_code
def yX8_line : MethodName := ⟨RX8, "line", "(II)I"⟩
abbrev cX8_noTable : ByteArray := prog_10_method_48_code
def yX8_noTable : MethodName := ⟨RX8, "noTable", "()I"⟩
abbrev cX8_forged : ByteArray := prog_10_method_49_code
def yX8_forged : MethodName := ⟨RX8, "forged", "()I"⟩
abbrev cX8_so : ByteArray := prog_10_method_50_code
def yX8_so : MethodName := ⟨RX8, "so", "(I)I"⟩
abbrev cX8_shift : ByteArray := prog_10_method_51_code
def yX8_shift : MethodName := ⟨RX8, "shift", "(I)I"⟩
abbrev cX8_wreck : ByteArray := prog_10_method_52_code
def yX8_wreck : MethodName := ⟨RX8, "wreck", "(JIII)I"⟩
abbrev cX8_drawn : ByteArray := prog_10_method_53_code
def yX8_drawn : MethodName := ⟨RX8, "drawn", "(II)I"⟩
abbrev cX8_copies : ByteArray := prog_10_method_54_code
def yX8_copies : MethodName := ⟨RX8, "copies", "(II)V"⟩
abbrev cX8_keep : ByteArray := prog_10_method_55_code
def yX8_keep : MethodName := ⟨RX8, "keep", "()I"⟩
abbrev cX8_back : ByteArray := prog_10_method_56_code
def yX8_back : MethodName := ⟨RX8, "back", "()I"⟩
abbrev cX8_count : ByteArray := prog_10_method_57_code
def yX8_count : MethodName := ⟨RX8, "count", "(I)I"⟩
def RJ9 : String := "java/lang/Math"
def TJ9 : u_T := fun k => match k with
  | _ => ("", "", "", false)
def tyJ9 : Nat → FieldType := fun k => match k with
  | _ => .int
abbrev wsJ90 : List Cond := u_ws RJ9 TJ9 0
theorem nmJ9 : ∀ a, a < 0 → ∀ b, b < 0 → a ≠ b → (TJ9 a).2.1 ≠ (TJ9 b).2.1 := by decide +kernel
theorem tyJ9_ok : ∀ k, k < 0 → parseFieldDescriptor (TJ9 k).2.2.1 = some (tyJ9 k) := by decide +kernel
abbrev cJ9_floorMod_f86c9 : ByteArray := prog_11_method_52_code
def yJ9_floorMod_f86c9 : MethodName := ⟨RJ9, "floorMod", "(JJ)J"⟩
abbrev cJ9_max_7cf53 : ByteArray := prog_11_method_65_code
def yJ9_max_7cf53 : MethodName := ⟨RJ9, "max", "(II)I"⟩
abbrev cJ9_max_f86c9 : ByteArray := prog_11_method_66_code
def yJ9_max_f86c9 : MethodName := ⟨RJ9, "max", "(JJ)J"⟩
abbrev cJ9_min_7cf53 : ByteArray := prog_11_method_69_code
def yJ9_min_7cf53 : MethodName := ⟨RJ9, "min", "(II)I"⟩
def RJ10 : String := "java/lang/System"
def TJ10 : u_T := fun k => match k with
  | _ => ("", "", "", false)
def tyJ10 : Nat → FieldType := fun k => match k with
  | _ => .int
abbrev wsJ100 : List Cond := u_ws RJ10 TJ10 0
theorem nmJ10 : ∀ a, a < 0 → ∀ b, b < 0 → a ≠ b → (TJ10 a).2.1 ≠ (TJ10 b).2.1 := by decide +kernel
theorem tyJ10_ok : ∀ k, k < 0 → parseFieldDescriptor (TJ10 k).2.2.1 = some (tyJ10 k) := by decide +kernel
def RL : String := "TwoKingsLaw"
abbrev cL_law : ByteArray := code
def yL_law : MethodName := ⟨RL, "law", "([I)Z"⟩
abbrev vwCl : List vw_C := [(RX0, TX0, 2), (RX1, TX1, 2), (RX2, TX2, 8), (RX3, TX3, 5), (RX4, TX4, 3), (RX5, TX5, 8), (RX6, TX6, 4), (RX7, TX7, 11), (RX8, TX8, 18)]
end
section
theorem dX0_init_0 : decode cX0_init 0 = .ok (.aload_n 0, 1) := by decide +kernel
theorem dX0_init_1 : decode cX0_init 1 = .ok (.invokespecial 3, 3) := by decide +kernel
theorem dX0_init_4 : decode cX0_init 4 = .ok (.aload_n 0, 1) := by decide +kernel
theorem dX0_init_5 : decode cX0_init 5 = .ok (.aload_n 1, 1) := by decide +kernel
theorem dX0_init_6 : decode cX0_init 6 = .ok (.putfield 9, 3) := by decide +kernel
theorem dX0_init_9 : decode cX0_init 9 = .ok (.aload_n 0, 1) := by decide +kernel
theorem dX0_init_10 : decode cX0_init 10 = .ok (.aload_n 2, 1) := by decide +kernel
theorem dX0_init_11 : decode cX0_init 11 = .ok (.putfield 15, 3) := by decide +kernel
theorem dX0_init_14 : decode cX0_init 14 = .ok (.return_, 1) := by decide +kernel
theorem dX0_gainUnder_0 : decode cX0_gainUnder 0 = .ok (.iconst 0, 1) := by decide +kernel
theorem dX0_gainUnder_1 : decode cX0_gainUnder 1 = .ok (.istore_n 3, 1) := by decide +kernel
theorem dX0_gainUnder_2 : decode cX0_gainUnder 2 = .ok (.iconst 0, 1) := by decide +kernel
theorem dX0_gainUnder_3 : decode cX0_gainUnder 3 = .ok (.istore 4, 2) := by decide +kernel
theorem dX0_gainUnder_5 : decode cX0_gainUnder 5 = .ok (.iload 4, 2) := by decide +kernel
theorem dX0_gainUnder_7 : decode cX0_gainUnder 7 = .ok (.aload_n 0, 1) := by decide +kernel
theorem dX0_gainUnder_8 : decode cX0_gainUnder 8 = .ok (.getfield 9, 3) := by decide +kernel
theorem dX0_gainUnder_11 : decode cX0_gainUnder 11 = .ok (.getfield 19, 3) := by decide +kernel
theorem dX0_gainUnder_14 : decode cX0_gainUnder 14 = .ok (.if_icmp .ge 31, 3) := by decide +kernel
theorem dX0_gainUnder_17 : decode cX0_gainUnder 17 = .ok (.iload_n 1, 1) := by decide +kernel
theorem dX0_gainUnder_18 : decode cX0_gainUnder 18 = .ok (.iload 4, 2) := by decide +kernel
theorem dX0_gainUnder_20 : decode cX0_gainUnder 20 = .ok (.invokestatic 25, 3) := by decide +kernel
theorem dX0_gainUnder_23 : decode cX0_gainUnder 23 = .ok (.ifCond .eq 16, 3) := by decide +kernel
theorem dX0_gainUnder_26 : decode cX0_gainUnder 26 = .ok (.iload_n 3, 1) := by decide +kernel
theorem dX0_gainUnder_27 : decode cX0_gainUnder 27 = .ok (.aload_n 0, 1) := by decide +kernel
theorem dX0_gainUnder_28 : decode cX0_gainUnder 28 = .ok (.getfield 9, 3) := by decide +kernel
theorem dX0_gainUnder_31 : decode cX0_gainUnder 31 = .ok (.iload 4, 2) := by decide +kernel
theorem dX0_gainUnder_33 : decode cX0_gainUnder 33 = .ok (.iload_n 2, 1) := by decide +kernel
theorem dX0_gainUnder_34 : decode cX0_gainUnder 34 = .ok (.invokevirtual 29, 3) := by decide +kernel
theorem dX0_gainUnder_37 : decode cX0_gainUnder 37 = .ok (.iadd, 1) := by decide +kernel
theorem dX0_gainUnder_38 : decode cX0_gainUnder 38 = .ok (.istore_n 3, 1) := by decide +kernel
theorem dX0_gainUnder_39 : decode cX0_gainUnder 39 = .ok (.iinc 4 1, 3) := by decide +kernel
theorem dX0_gainUnder_42 : decode cX0_gainUnder 42 = .ok (.goto (-37), 3) := by decide +kernel
theorem dX0_gainUnder_45 : decode cX0_gainUnder 45 = .ok (.iload_n 3, 1) := by decide +kernel
theorem dX0_gainUnder_46 : decode cX0_gainUnder 46 = .ok (.ireturn, 1) := by decide +kernel
theorem dX0_gainIfForbidden_0 : decode cX0_gainIfForbidden 0 = .ok (.aload_n 0, 1) := by decide +kernel
theorem dX0_gainIfForbidden_1 : decode cX0_gainIfForbidden 1 = .ok (.getfield 15, 3) := by decide +kernel
theorem dX0_gainIfForbidden_4 : decode cX0_gainIfForbidden 4 = .ok (.getfield 32, 3) := by decide +kernel
theorem dX0_gainIfForbidden_7 : decode cX0_gainIfForbidden 7 = .ok (.istore 4, 2) := by decide +kernel
theorem dX0_gainIfForbidden_9 : decode cX0_gainIfForbidden 9 = .ok (.iload_n 1, 1) := by decide +kernel
theorem dX0_gainIfForbidden_10 : decode cX0_gainIfForbidden 10 = .ok (.ifCond .lt 15, 3) := by decide +kernel
theorem dX0_gainIfForbidden_13 : decode cX0_gainIfForbidden 13 = .ok (.iload 4, 2) := by decide +kernel
theorem dX0_gainIfForbidden_15 : decode cX0_gainIfForbidden 15 = .ok (.iload_n 1, 1) := by decide +kernel
theorem dX0_gainIfForbidden_16 : decode cX0_gainIfForbidden 16 = .ok (.iconst 1, 1) := by decide +kernel
theorem dX0_gainIfForbidden_17 : decode cX0_gainIfForbidden 17 = .ok (.invokestatic 37, 3) := by decide +kernel
theorem dX0_gainIfForbidden_20 : decode cX0_gainIfForbidden 20 = .ok (.iconst (-1), 1) := by decide +kernel
theorem dX0_gainIfForbidden_21 : decode cX0_gainIfForbidden 21 = .ok (.ixor, 1) := by decide +kernel
theorem dX0_gainIfForbidden_22 : decode cX0_gainIfForbidden 22 = .ok (.iand, 1) := by decide +kernel
theorem dX0_gainIfForbidden_23 : decode cX0_gainIfForbidden 23 = .ok (.istore 4, 2) := by decide +kernel
theorem dX0_gainIfForbidden_25 : decode cX0_gainIfForbidden 25 = .ok (.iload_n 2, 1) := by decide +kernel
theorem dX0_gainIfForbidden_26 : decode cX0_gainIfForbidden 26 = .ok (.ifCond .lt 15, 3) := by decide +kernel
theorem dX0_gainIfForbidden_29 : decode cX0_gainIfForbidden 29 = .ok (.iload 4, 2) := by decide +kernel
theorem dX0_gainIfForbidden_31 : decode cX0_gainIfForbidden 31 = .ok (.iload_n 2, 1) := by decide +kernel
theorem dX0_gainIfForbidden_32 : decode cX0_gainIfForbidden 32 = .ok (.iconst 2, 1) := by decide +kernel
theorem dX0_gainIfForbidden_33 : decode cX0_gainIfForbidden 33 = .ok (.invokestatic 37, 3) := by decide +kernel
theorem dX0_gainIfForbidden_36 : decode cX0_gainIfForbidden 36 = .ok (.iconst (-1), 1) := by decide +kernel
theorem dX0_gainIfForbidden_37 : decode cX0_gainIfForbidden 37 = .ok (.ixor, 1) := by decide +kernel
theorem dX0_gainIfForbidden_38 : decode cX0_gainIfForbidden 38 = .ok (.iand, 1) := by decide +kernel
theorem dX0_gainIfForbidden_39 : decode cX0_gainIfForbidden 39 = .ok (.istore 4, 2) := by decide +kernel
theorem dX0_gainIfForbidden_41 : decode cX0_gainIfForbidden 41 = .ok (.aload_n 0, 1) := by decide +kernel
theorem dX0_gainIfForbidden_42 : decode cX0_gainIfForbidden 42 = .ok (.iload 4, 2) := by decide +kernel
theorem dX0_gainIfForbidden_44 : decode cX0_gainIfForbidden 44 = .ok (.iload_n 3, 1) := by decide +kernel
theorem dX0_gainIfForbidden_45 : decode cX0_gainIfForbidden 45 = .ok (.invokevirtual 40, 3) := by decide +kernel
theorem dX0_gainIfForbidden_48 : decode cX0_gainIfForbidden 48 = .ok (.ireturn, 1) := by decide +kernel
theorem dX0_isRest_0 : decode cX0_isRest 0 = .ok (.aload_n 0, 1) := by decide +kernel
theorem dX0_isRest_1 : decode cX0_isRest 1 = .ok (.iload_n 1, 1) := by decide +kernel
theorem dX0_isRest_2 : decode cX0_isRest 2 = .ok (.iload_n 2, 1) := by decide +kernel
theorem dX0_isRest_3 : decode cX0_isRest 3 = .ok (.iconst 0, 1) := by decide +kernel
theorem dX0_isRest_4 : decode cX0_isRest 4 = .ok (.invokevirtual 43, 3) := by decide +kernel
theorem dX0_isRest_7 : decode cX0_isRest 7 = .ok (.istore_n 3, 1) := by decide +kernel
theorem dX0_isRest_8 : decode cX0_isRest 8 = .ok (.aload_n 0, 1) := by decide +kernel
theorem dX0_isRest_9 : decode cX0_isRest 9 = .ok (.iload_n 1, 1) := by decide +kernel
theorem dX0_isRest_10 : decode cX0_isRest 10 = .ok (.iload_n 2, 1) := by decide +kernel
theorem dX0_isRest_11 : decode cX0_isRest 11 = .ok (.iconst 1, 1) := by decide +kernel
theorem dX0_isRest_12 : decode cX0_isRest 12 = .ok (.invokevirtual 43, 3) := by decide +kernel
theorem dX0_isRest_15 : decode cX0_isRest 15 = .ok (.istore 4, 2) := by decide +kernel
theorem dX0_isRest_17 : decode cX0_isRest 17 = .ok (.iconst (-1), 1) := by decide +kernel
theorem dX0_isRest_18 : decode cX0_isRest 18 = .ok (.istore 5, 2) := by decide +kernel
theorem dX0_isRest_20 : decode cX0_isRest 20 = .ok (.iload 5, 2) := by decide +kernel
theorem dX0_isRest_22 : decode cX0_isRest 22 = .ok (.aload_n 0, 1) := by decide +kernel
theorem dX0_isRest_23 : decode cX0_isRest 23 = .ok (.getfield 9, 3) := by decide +kernel
theorem dX0_isRest_26 : decode cX0_isRest 26 = .ok (.getfield 19, 3) := by decide +kernel
theorem dX0_isRest_29 : decode cX0_isRest 29 = .ok (.if_icmp .ge 38, 3) := by decide +kernel
theorem dX0_isRest_32 : decode cX0_isRest 32 = .ok (.aload_n 0, 1) := by decide +kernel
theorem dX0_isRest_33 : decode cX0_isRest 33 = .ok (.iload 5, 2) := by decide +kernel
theorem dX0_isRest_35 : decode cX0_isRest 35 = .ok (.iload_n 2, 1) := by decide +kernel
theorem dX0_isRest_36 : decode cX0_isRest 36 = .ok (.iconst 0, 1) := by decide +kernel
theorem dX0_isRest_37 : decode cX0_isRest 37 = .ok (.invokevirtual 43, 3) := by decide +kernel
theorem dX0_isRest_40 : decode cX0_isRest 40 = .ok (.iload_n 3, 1) := by decide +kernel
theorem dX0_isRest_41 : decode cX0_isRest 41 = .ok (.if_icmp .le 5, 3) := by decide +kernel
theorem dX0_isRest_44 : decode cX0_isRest 44 = .ok (.iconst 0, 1) := by decide +kernel
theorem dX0_isRest_45 : decode cX0_isRest 45 = .ok (.ireturn, 1) := by decide +kernel
theorem dX0_isRest_46 : decode cX0_isRest 46 = .ok (.aload_n 0, 1) := by decide +kernel
theorem dX0_isRest_47 : decode cX0_isRest 47 = .ok (.iload_n 1, 1) := by decide +kernel
theorem dX0_isRest_48 : decode cX0_isRest 48 = .ok (.iload 5, 2) := by decide +kernel
theorem dX0_isRest_50 : decode cX0_isRest 50 = .ok (.iconst 1, 1) := by decide +kernel
theorem dX0_isRest_51 : decode cX0_isRest 51 = .ok (.invokevirtual 43, 3) := by decide +kernel
theorem dX0_isRest_54 : decode cX0_isRest 54 = .ok (.iload 4, 2) := by decide +kernel
theorem dX0_isRest_56 : decode cX0_isRest 56 = .ok (.if_icmp .le 5, 3) := by decide +kernel
theorem dX0_isRest_59 : decode cX0_isRest 59 = .ok (.iconst 0, 1) := by decide +kernel
theorem dX0_isRest_60 : decode cX0_isRest 60 = .ok (.ireturn, 1) := by decide +kernel
theorem dX0_isRest_61 : decode cX0_isRest 61 = .ok (.iinc 5 1, 3) := by decide +kernel
theorem dX0_isRest_64 : decode cX0_isRest 64 = .ok (.goto (-44), 3) := by decide +kernel
theorem dX0_isRest_67 : decode cX0_isRest 67 = .ok (.iconst 1, 1) := by decide +kernel
theorem dX0_isRest_68 : decode cX0_isRest 68 = .ok (.ireturn, 1) := by decide +kernel
theorem dX0_restCount_0 : decode cX0_restCount 0 = .ok (.iconst 0, 1) := by decide +kernel
theorem dX0_restCount_1 : decode cX0_restCount 1 = .ok (.istore_n 1, 1) := by decide +kernel
theorem dX0_restCount_2 : decode cX0_restCount 2 = .ok (.iconst (-1), 1) := by decide +kernel
theorem dX0_restCount_3 : decode cX0_restCount 3 = .ok (.istore_n 2, 1) := by decide +kernel
theorem dX0_restCount_4 : decode cX0_restCount 4 = .ok (.iload_n 2, 1) := by decide +kernel
theorem dX0_restCount_5 : decode cX0_restCount 5 = .ok (.aload_n 0, 1) := by decide +kernel
theorem dX0_restCount_6 : decode cX0_restCount 6 = .ok (.getfield 9, 3) := by decide +kernel
theorem dX0_restCount_9 : decode cX0_restCount 9 = .ok (.getfield 19, 3) := by decide +kernel
theorem dX0_restCount_12 : decode cX0_restCount 12 = .ok (.if_icmp .ge 40, 3) := by decide +kernel
theorem dX0_restCount_15 : decode cX0_restCount 15 = .ok (.iconst (-1), 1) := by decide +kernel
theorem dX0_restCount_16 : decode cX0_restCount 16 = .ok (.istore_n 3, 1) := by decide +kernel
theorem dX0_restCount_17 : decode cX0_restCount 17 = .ok (.iload_n 3, 1) := by decide +kernel
theorem dX0_restCount_18 : decode cX0_restCount 18 = .ok (.aload_n 0, 1) := by decide +kernel
theorem dX0_restCount_19 : decode cX0_restCount 19 = .ok (.getfield 9, 3) := by decide +kernel
theorem dX0_restCount_22 : decode cX0_restCount 22 = .ok (.getfield 19, 3) := by decide +kernel
theorem dX0_restCount_25 : decode cX0_restCount 25 = .ok (.if_icmp .ge 21, 3) := by decide +kernel
theorem dX0_restCount_28 : decode cX0_restCount 28 = .ok (.aload_n 0, 1) := by decide +kernel
theorem dX0_restCount_29 : decode cX0_restCount 29 = .ok (.iload_n 2, 1) := by decide +kernel
theorem dX0_restCount_30 : decode cX0_restCount 30 = .ok (.iload_n 3, 1) := by decide +kernel
theorem dX0_restCount_31 : decode cX0_restCount 31 = .ok (.invokevirtual 47, 3) := by decide +kernel
theorem dX0_restCount_34 : decode cX0_restCount 34 = .ok (.ifCond .eq 6, 3) := by decide +kernel
theorem dX0_restCount_37 : decode cX0_restCount 37 = .ok (.iinc 1 1, 3) := by decide +kernel
theorem dX0_restCount_40 : decode cX0_restCount 40 = .ok (.iinc 3 1, 3) := by decide +kernel
theorem dX0_restCount_43 : decode cX0_restCount 43 = .ok (.goto (-26), 3) := by decide +kernel
theorem dX0_restCount_46 : decode cX0_restCount 46 = .ok (.iinc 2 1, 3) := by decide +kernel
theorem dX0_restCount_49 : decode cX0_restCount 49 = .ok (.goto (-45), 3) := by decide +kernel
theorem dX0_restCount_52 : decode cX0_restCount 52 = .ok (.iload_n 1, 1) := by decide +kernel
theorem dX0_restCount_53 : decode cX0_restCount 53 = .ok (.ireturn, 1) := by decide +kernel
theorem dX0_actOfFirstRest_0 : decode cX0_actOfFirstRest 0 = .ok (.iconst (-1), 1) := by decide +kernel
theorem dX0_actOfFirstRest_1 : decode cX0_actOfFirstRest 1 = .ok (.istore_n 2, 1) := by decide +kernel
theorem dX0_actOfFirstRest_2 : decode cX0_actOfFirstRest 2 = .ok (.iload_n 2, 1) := by decide +kernel
theorem dX0_actOfFirstRest_3 : decode cX0_actOfFirstRest 3 = .ok (.aload_n 0, 1) := by decide +kernel
theorem dX0_actOfFirstRest_4 : decode cX0_actOfFirstRest 4 = .ok (.getfield 9, 3) := by decide +kernel
theorem dX0_actOfFirstRest_7 : decode cX0_actOfFirstRest 7 = .ok (.getfield 19, 3) := by decide +kernel
theorem dX0_actOfFirstRest_10 : decode cX0_actOfFirstRest 10 = .ok (.if_icmp .ge 47, 3) := by decide +kernel
theorem dX0_actOfFirstRest_13 : decode cX0_actOfFirstRest 13 = .ok (.iconst (-1), 1) := by decide +kernel
theorem dX0_actOfFirstRest_14 : decode cX0_actOfFirstRest 14 = .ok (.istore_n 3, 1) := by decide +kernel
theorem dX0_actOfFirstRest_15 : decode cX0_actOfFirstRest 15 = .ok (.iload_n 3, 1) := by decide +kernel
theorem dX0_actOfFirstRest_16 : decode cX0_actOfFirstRest 16 = .ok (.aload_n 0, 1) := by decide +kernel
theorem dX0_actOfFirstRest_17 : decode cX0_actOfFirstRest 17 = .ok (.getfield 9, 3) := by decide +kernel
theorem dX0_actOfFirstRest_20 : decode cX0_actOfFirstRest 20 = .ok (.getfield 19, 3) := by decide +kernel
theorem dX0_actOfFirstRest_23 : decode cX0_actOfFirstRest 23 = .ok (.if_icmp .ge 28, 3) := by decide +kernel
theorem dX0_actOfFirstRest_26 : decode cX0_actOfFirstRest 26 = .ok (.aload_n 0, 1) := by decide +kernel
theorem dX0_actOfFirstRest_27 : decode cX0_actOfFirstRest 27 = .ok (.iload_n 2, 1) := by decide +kernel
theorem dX0_actOfFirstRest_28 : decode cX0_actOfFirstRest 28 = .ok (.iload_n 3, 1) := by decide +kernel
theorem dX0_actOfFirstRest_29 : decode cX0_actOfFirstRest 29 = .ok (.invokevirtual 47, 3) := by decide +kernel
theorem dX0_actOfFirstRest_32 : decode cX0_actOfFirstRest 32 = .ok (.ifCond .eq 13, 3) := by decide +kernel
theorem dX0_actOfFirstRest_35 : decode cX0_actOfFirstRest 35 = .ok (.iload_n 1, 1) := by decide +kernel
theorem dX0_actOfFirstRest_36 : decode cX0_actOfFirstRest 36 = .ok (.ifCond .ne 7, 3) := by decide +kernel
theorem dX0_actOfFirstRest_39 : decode cX0_actOfFirstRest 39 = .ok (.iload_n 2, 1) := by decide +kernel
theorem dX0_actOfFirstRest_40 : decode cX0_actOfFirstRest 40 = .ok (.goto 4, 3) := by decide +kernel
theorem dX0_actOfFirstRest_43 : decode cX0_actOfFirstRest 43 = .ok (.iload_n 3, 1) := by decide +kernel
theorem dX0_actOfFirstRest_44 : decode cX0_actOfFirstRest 44 = .ok (.ireturn, 1) := by decide +kernel
theorem dX0_actOfFirstRest_45 : decode cX0_actOfFirstRest 45 = .ok (.iinc 3 1, 3) := by decide +kernel
theorem dX0_actOfFirstRest_48 : decode cX0_actOfFirstRest 48 = .ok (.goto (-33), 3) := by decide +kernel
theorem dX0_actOfFirstRest_51 : decode cX0_actOfFirstRest 51 = .ok (.iinc 2 1, 3) := by decide +kernel
theorem dX0_actOfFirstRest_54 : decode cX0_actOfFirstRest 54 = .ok (.goto (-52), 3) := by decide +kernel
theorem dX0_actOfFirstRest_57 : decode cX0_actOfFirstRest 57 = .ok (.iconst (-1), 1) := by decide +kernel
theorem dX0_actOfFirstRest_58 : decode cX0_actOfFirstRest 58 = .ok (.ireturn, 1) := by decide +kernel
theorem dX0_lawsOfTreaty_0 : decode cX0_lawsOfTreaty 0 = .ok (.aload_n 0, 1) := by decide +kernel
theorem dX0_lawsOfTreaty_1 : decode cX0_lawsOfTreaty 1 = .ok (.getfield 15, 3) := by decide +kernel
theorem dX0_lawsOfTreaty_4 : decode cX0_lawsOfTreaty 4 = .ok (.getfield 32, 3) := by decide +kernel
theorem dX0_lawsOfTreaty_7 : decode cX0_lawsOfTreaty 7 = .ok (.istore_n 2, 1) := by decide +kernel
theorem dX0_lawsOfTreaty_8 : decode cX0_lawsOfTreaty 8 = .ok (.iconst 0, 1) := by decide +kernel
theorem dX0_lawsOfTreaty_9 : decode cX0_lawsOfTreaty 9 = .ok (.istore_n 3, 1) := by decide +kernel
theorem dX0_lawsOfTreaty_10 : decode cX0_lawsOfTreaty 10 = .ok (.iload_n 3, 1) := by decide +kernel
theorem dX0_lawsOfTreaty_11 : decode cX0_lawsOfTreaty 11 = .ok (.aload_n 0, 1) := by decide +kernel
theorem dX0_lawsOfTreaty_12 : decode cX0_lawsOfTreaty 12 = .ok (.getfield 9, 3) := by decide +kernel
theorem dX0_lawsOfTreaty_15 : decode cX0_lawsOfTreaty 15 = .ok (.getfield 19, 3) := by decide +kernel
theorem dX0_lawsOfTreaty_18 : decode cX0_lawsOfTreaty 18 = .ok (.if_icmp .ge 26, 3) := by decide +kernel
theorem dX0_lawsOfTreaty_21 : decode cX0_lawsOfTreaty 21 = .ok (.iload_n 1, 1) := by decide +kernel
theorem dX0_lawsOfTreaty_22 : decode cX0_lawsOfTreaty 22 = .ok (.iload_n 3, 1) := by decide +kernel
theorem dX0_lawsOfTreaty_23 : decode cX0_lawsOfTreaty 23 = .ok (.ishr, 1) := by decide +kernel
theorem dX0_lawsOfTreaty_24 : decode cX0_lawsOfTreaty 24 = .ok (.iconst 1, 1) := by decide +kernel
theorem dX0_lawsOfTreaty_25 : decode cX0_lawsOfTreaty 25 = .ok (.iand, 1) := by decide +kernel
theorem dX0_lawsOfTreaty_26 : decode cX0_lawsOfTreaty 26 = .ok (.iconst 1, 1) := by decide +kernel
theorem dX0_lawsOfTreaty_27 : decode cX0_lawsOfTreaty 27 = .ok (.if_icmp .ne 11, 3) := by decide +kernel
theorem dX0_lawsOfTreaty_30 : decode cX0_lawsOfTreaty 30 = .ok (.iload_n 2, 1) := by decide +kernel
theorem dX0_lawsOfTreaty_31 : decode cX0_lawsOfTreaty 31 = .ok (.iload_n 3, 1) := by decide +kernel
theorem dX0_lawsOfTreaty_32 : decode cX0_lawsOfTreaty 32 = .ok (.iconst 3, 1) := by decide +kernel
theorem dX0_lawsOfTreaty_33 : decode cX0_lawsOfTreaty 33 = .ok (.invokestatic 37, 3) := by decide +kernel
theorem dX0_lawsOfTreaty_36 : decode cX0_lawsOfTreaty 36 = .ok (.ior, 1) := by decide +kernel
theorem dX0_lawsOfTreaty_37 : decode cX0_lawsOfTreaty 37 = .ok (.istore_n 2, 1) := by decide +kernel
theorem dX0_lawsOfTreaty_38 : decode cX0_lawsOfTreaty 38 = .ok (.iinc 3 1, 3) := by decide +kernel
theorem dX0_lawsOfTreaty_41 : decode cX0_lawsOfTreaty 41 = .ok (.goto (-31), 3) := by decide +kernel
theorem dX0_lawsOfTreaty_44 : decode cX0_lawsOfTreaty 44 = .ok (.iload_n 2, 1) := by decide +kernel
theorem dX0_lawsOfTreaty_45 : decode cX0_lawsOfTreaty 45 = .ok (.ireturn, 1) := by decide +kernel
theorem dX0_isFirm_0 : decode cX0_isFirm 0 = .ok (.aload_n 0, 1) := by decide +kernel
theorem dX0_isFirm_1 : decode cX0_isFirm 1 = .ok (.iload_n 1, 1) := by decide +kernel
theorem dX0_isFirm_2 : decode cX0_isFirm 2 = .ok (.invokevirtual 51, 3) := by decide +kernel
theorem dX0_isFirm_5 : decode cX0_isFirm 5 = .ok (.istore_n 2, 1) := by decide +kernel
theorem dX0_isFirm_6 : decode cX0_isFirm 6 = .ok (.iconst 0, 1) := by decide +kernel
theorem dX0_isFirm_7 : decode cX0_isFirm 7 = .ok (.istore_n 3, 1) := by decide +kernel
theorem dX0_isFirm_8 : decode cX0_isFirm 8 = .ok (.iload_n 3, 1) := by decide +kernel
theorem dX0_isFirm_9 : decode cX0_isFirm 9 = .ok (.aload_n 0, 1) := by decide +kernel
theorem dX0_isFirm_10 : decode cX0_isFirm 10 = .ok (.getfield 9, 3) := by decide +kernel
theorem dX0_isFirm_13 : decode cX0_isFirm 13 = .ok (.getfield 19, 3) := by decide +kernel
theorem dX0_isFirm_16 : decode cX0_isFirm 16 = .ok (.if_icmp .ge 41, 3) := by decide +kernel
theorem dX0_isFirm_19 : decode cX0_isFirm 19 = .ok (.iload_n 2, 1) := by decide +kernel
theorem dX0_isFirm_20 : decode cX0_isFirm 20 = .ok (.iload_n 3, 1) := by decide +kernel
theorem dX0_isFirm_21 : decode cX0_isFirm 21 = .ok (.iconst 3, 1) := by decide +kernel
theorem dX0_isFirm_22 : decode cX0_isFirm 22 = .ok (.invokestatic 37, 3) := by decide +kernel
theorem dX0_isFirm_25 : decode cX0_isFirm 25 = .ok (.iconst (-1), 1) := by decide +kernel
theorem dX0_isFirm_26 : decode cX0_isFirm 26 = .ok (.ixor, 1) := by decide +kernel
theorem dX0_isFirm_27 : decode cX0_isFirm 27 = .ok (.iand, 1) := by decide +kernel
theorem dX0_isFirm_28 : decode cX0_isFirm 28 = .ok (.istore 4, 2) := by decide +kernel
theorem dX0_isFirm_30 : decode cX0_isFirm 30 = .ok (.iload_n 1, 1) := by decide +kernel
theorem dX0_isFirm_31 : decode cX0_isFirm 31 = .ok (.iload_n 3, 1) := by decide +kernel
theorem dX0_isFirm_32 : decode cX0_isFirm 32 = .ok (.ishr, 1) := by decide +kernel
theorem dX0_isFirm_33 : decode cX0_isFirm 33 = .ok (.iconst 1, 1) := by decide +kernel
theorem dX0_isFirm_34 : decode cX0_isFirm 34 = .ok (.iand, 1) := by decide +kernel
theorem dX0_isFirm_35 : decode cX0_isFirm 35 = .ok (.iconst 1, 1) := by decide +kernel
theorem dX0_isFirm_36 : decode cX0_isFirm 36 = .ok (.if_icmp .ne 15, 3) := by decide +kernel
theorem dX0_isFirm_39 : decode cX0_isFirm 39 = .ok (.aload_n 0, 1) := by decide +kernel
theorem dX0_isFirm_40 : decode cX0_isFirm 40 = .ok (.iload 4, 2) := by decide +kernel
theorem dX0_isFirm_42 : decode cX0_isFirm 42 = .ok (.iload_n 2, 1) := by decide +kernel
theorem dX0_isFirm_43 : decode cX0_isFirm 43 = .ok (.invokevirtual 55, 3) := by decide +kernel
theorem dX0_isFirm_46 : decode cX0_isFirm 46 = .ok (.ifCond .eq 5, 3) := by decide +kernel
theorem dX0_isFirm_49 : decode cX0_isFirm 49 = .ok (.iconst 0, 1) := by decide +kernel
theorem dX0_isFirm_50 : decode cX0_isFirm 50 = .ok (.ireturn, 1) := by decide +kernel
theorem dX0_isFirm_51 : decode cX0_isFirm 51 = .ok (.iinc 3 1, 3) := by decide +kernel
theorem dX0_isFirm_54 : decode cX0_isFirm 54 = .ok (.goto (-46), 3) := by decide +kernel
theorem dX0_isFirm_57 : decode cX0_isFirm 57 = .ok (.iconst 1, 1) := by decide +kernel
theorem dX0_isFirm_58 : decode cX0_isFirm 58 = .ok (.ireturn, 1) := by decide +kernel
theorem dX0_suitsEither_0 : decode cX0_suitsEither 0 = .ok (.aload_n 0, 1) := by decide +kernel
theorem dX0_suitsEither_1 : decode cX0_suitsEither 1 = .ok (.iload_n 1, 1) := by decide +kernel
theorem dX0_suitsEither_2 : decode cX0_suitsEither 2 = .ok (.iconst 0, 1) := by decide +kernel
theorem dX0_suitsEither_3 : decode cX0_suitsEither 3 = .ok (.invokevirtual 40, 3) := by decide +kernel
theorem dX0_suitsEither_6 : decode cX0_suitsEither 6 = .ok (.aload_n 0, 1) := by decide +kernel
theorem dX0_suitsEither_7 : decode cX0_suitsEither 7 = .ok (.iload_n 2, 1) := by decide +kernel
theorem dX0_suitsEither_8 : decode cX0_suitsEither 8 = .ok (.iconst 0, 1) := by decide +kernel
theorem dX0_suitsEither_9 : decode cX0_suitsEither 9 = .ok (.invokevirtual 40, 3) := by decide +kernel
theorem dX0_suitsEither_12 : decode cX0_suitsEither 12 = .ok (.if_icmp .gt 18, 3) := by decide +kernel
theorem dX0_suitsEither_15 : decode cX0_suitsEither 15 = .ok (.aload_n 0, 1) := by decide +kernel
theorem dX0_suitsEither_16 : decode cX0_suitsEither 16 = .ok (.iload_n 1, 1) := by decide +kernel
theorem dX0_suitsEither_17 : decode cX0_suitsEither 17 = .ok (.iconst 1, 1) := by decide +kernel
theorem dX0_suitsEither_18 : decode cX0_suitsEither 18 = .ok (.invokevirtual 40, 3) := by decide +kernel
theorem dX0_suitsEither_21 : decode cX0_suitsEither 21 = .ok (.aload_n 0, 1) := by decide +kernel
theorem dX0_suitsEither_22 : decode cX0_suitsEither 22 = .ok (.iload_n 2, 1) := by decide +kernel
theorem dX0_suitsEither_23 : decode cX0_suitsEither 23 = .ok (.iconst 1, 1) := by decide +kernel
theorem dX0_suitsEither_24 : decode cX0_suitsEither 24 = .ok (.invokevirtual 40, 3) := by decide +kernel
theorem dX0_suitsEither_27 : decode cX0_suitsEither 27 = .ok (.if_icmp .le 7, 3) := by decide +kernel
theorem dX0_suitsEither_30 : decode cX0_suitsEither 30 = .ok (.iconst 1, 1) := by decide +kernel
theorem dX0_suitsEither_31 : decode cX0_suitsEither 31 = .ok (.goto 4, 3) := by decide +kernel
theorem dX0_suitsEither_34 : decode cX0_suitsEither 34 = .ok (.iconst 0, 1) := by decide +kernel
theorem dX0_suitsEither_35 : decode cX0_suitsEither 35 = .ok (.ireturn, 1) := by decide +kernel
theorem dX0_gainsOfTreaty_0 : decode cX0_gainsOfTreaty 0 = .ok (.aload_n 0, 1) := by decide +kernel
theorem dX0_gainsOfTreaty_1 : decode cX0_gainsOfTreaty 1 = .ok (.iload_n 1, 1) := by decide +kernel
theorem dX0_gainsOfTreaty_2 : decode cX0_gainsOfTreaty 2 = .ok (.invokevirtual 51, 3) := by decide +kernel
theorem dX0_gainsOfTreaty_5 : decode cX0_gainsOfTreaty 5 = .ok (.istore_n 2, 1) := by decide +kernel
theorem dX0_gainsOfTreaty_6 : decode cX0_gainsOfTreaty 6 = .ok (.aload_n 0, 1) := by decide +kernel
theorem dX0_gainsOfTreaty_7 : decode cX0_gainsOfTreaty 7 = .ok (.iload_n 2, 1) := by decide +kernel
theorem dX0_gainsOfTreaty_8 : decode cX0_gainsOfTreaty 8 = .ok (.iconst 0, 1) := by decide +kernel
theorem dX0_gainsOfTreaty_9 : decode cX0_gainsOfTreaty 9 = .ok (.invokevirtual 40, 3) := by decide +kernel
theorem dX0_gainsOfTreaty_12 : decode cX0_gainsOfTreaty 12 = .ok (.aload_n 0, 1) := by decide +kernel
theorem dX0_gainsOfTreaty_13 : decode cX0_gainsOfTreaty 13 = .ok (.iload_n 2, 1) := by decide +kernel
theorem dX0_gainsOfTreaty_14 : decode cX0_gainsOfTreaty 14 = .ok (.iconst 1, 1) := by decide +kernel
theorem dX0_gainsOfTreaty_15 : decode cX0_gainsOfTreaty 15 = .ok (.invokevirtual 40, 3) := by decide +kernel
theorem dX0_gainsOfTreaty_18 : decode cX0_gainsOfTreaty 18 = .ok (.iadd, 1) := by decide +kernel
theorem dX0_gainsOfTreaty_19 : decode cX0_gainsOfTreaty 19 = .ok (.ireturn, 1) := by decide +kernel
theorem dX0_bestTreaty_0 : decode cX0_bestTreaty 0 = .ok (.iconst 0, 1) := by decide +kernel
theorem dX0_bestTreaty_1 : decode cX0_bestTreaty 1 = .ok (.istore_n 1, 1) := by decide +kernel
theorem dX0_bestTreaty_2 : decode cX0_bestTreaty 2 = .ok (.aload_n 0, 1) := by decide +kernel
theorem dX0_bestTreaty_3 : decode cX0_bestTreaty 3 = .ok (.iconst 0, 1) := by decide +kernel
theorem dX0_bestTreaty_4 : decode cX0_bestTreaty 4 = .ok (.invokevirtual 58, 3) := by decide +kernel
theorem dX0_bestTreaty_7 : decode cX0_bestTreaty 7 = .ok (.istore_n 2, 1) := by decide +kernel
theorem dX0_bestTreaty_8 : decode cX0_bestTreaty 8 = .ok (.iconst 1, 1) := by decide +kernel
theorem dX0_bestTreaty_9 : decode cX0_bestTreaty 9 = .ok (.istore_n 3, 1) := by decide +kernel
theorem dX0_bestTreaty_10 : decode cX0_bestTreaty 10 = .ok (.iload_n 3, 1) := by decide +kernel
theorem dX0_bestTreaty_11 : decode cX0_bestTreaty 11 = .ok (.iconst 1, 1) := by decide +kernel
theorem dX0_bestTreaty_12 : decode cX0_bestTreaty 12 = .ok (.aload_n 0, 1) := by decide +kernel
theorem dX0_bestTreaty_13 : decode cX0_bestTreaty 13 = .ok (.getfield 9, 3) := by decide +kernel
theorem dX0_bestTreaty_16 : decode cX0_bestTreaty 16 = .ok (.getfield 19, 3) := by decide +kernel
theorem dX0_bestTreaty_19 : decode cX0_bestTreaty 19 = .ok (.ishl, 1) := by decide +kernel
theorem dX0_bestTreaty_20 : decode cX0_bestTreaty 20 = .ok (.if_icmp .ge 35, 3) := by decide +kernel
theorem dX0_bestTreaty_23 : decode cX0_bestTreaty 23 = .ok (.aload_n 0, 1) := by decide +kernel
theorem dX0_bestTreaty_24 : decode cX0_bestTreaty 24 = .ok (.iload_n 3, 1) := by decide +kernel
theorem dX0_bestTreaty_25 : decode cX0_bestTreaty 25 = .ok (.invokevirtual 58, 3) := by decide +kernel
theorem dX0_bestTreaty_28 : decode cX0_bestTreaty 28 = .ok (.istore 4, 2) := by decide +kernel
theorem dX0_bestTreaty_30 : decode cX0_bestTreaty 30 = .ok (.iload 4, 2) := by decide +kernel
theorem dX0_bestTreaty_32 : decode cX0_bestTreaty 32 = .ok (.iload_n 2, 1) := by decide +kernel
theorem dX0_bestTreaty_33 : decode cX0_bestTreaty 33 = .ok (.if_icmp .le 16, 3) := by decide +kernel
theorem dX0_bestTreaty_36 : decode cX0_bestTreaty 36 = .ok (.aload_n 0, 1) := by decide +kernel
theorem dX0_bestTreaty_37 : decode cX0_bestTreaty 37 = .ok (.iload_n 3, 1) := by decide +kernel
theorem dX0_bestTreaty_38 : decode cX0_bestTreaty 38 = .ok (.invokevirtual 61, 3) := by decide +kernel
theorem dX0_bestTreaty_41 : decode cX0_bestTreaty 41 = .ok (.ifCond .eq 8, 3) := by decide +kernel
theorem dX0_bestTreaty_44 : decode cX0_bestTreaty 44 = .ok (.iload 4, 2) := by decide +kernel
theorem dX0_bestTreaty_46 : decode cX0_bestTreaty 46 = .ok (.istore_n 2, 1) := by decide +kernel
theorem dX0_bestTreaty_47 : decode cX0_bestTreaty 47 = .ok (.iload_n 3, 1) := by decide +kernel
theorem dX0_bestTreaty_48 : decode cX0_bestTreaty 48 = .ok (.istore_n 1, 1) := by decide +kernel
theorem dX0_bestTreaty_49 : decode cX0_bestTreaty 49 = .ok (.iinc 3 1, 3) := by decide +kernel
theorem dX0_bestTreaty_52 : decode cX0_bestTreaty 52 = .ok (.goto (-42), 3) := by decide +kernel
theorem dX0_bestTreaty_55 : decode cX0_bestTreaty 55 = .ok (.iload_n 1, 1) := by decide +kernel
theorem dX0_bestTreaty_56 : decode cX0_bestTreaty 56 = .ok (.ireturn, 1) := by decide +kernel
theorem dX1_init_0 : decode cX1_init 0 = .ok (.aload_n 0, 1) := by decide +kernel
theorem dX1_init_1 : decode cX1_init 1 = .ok (.invokespecial 3, 3) := by decide +kernel
theorem dX1_init_4 : decode cX1_init 4 = .ok (.aload_n 0, 1) := by decide +kernel
theorem dX1_init_5 : decode cX1_init 5 = .ok (.aload_n 1, 1) := by decide +kernel
theorem dX1_init_6 : decode cX1_init 6 = .ok (.putfield 9, 3) := by decide +kernel
theorem dX1_init_9 : decode cX1_init 9 = .ok (.aload_n 0, 1) := by decide +kernel
theorem dX1_init_10 : decode cX1_init 10 = .ok (.aload_n 2, 1) := by decide +kernel
theorem dX1_init_11 : decode cX1_init 11 = .ok (.putfield 15, 3) := by decide +kernel
theorem dX1_init_14 : decode cX1_init 14 = .ok (.return_, 1) := by decide +kernel
theorem dX1_rulerAt_0 : decode cX1_rulerAt 0 = .ok (.aload_n 0, 1) := by decide +kernel
theorem dX1_rulerAt_1 : decode cX1_rulerAt 1 = .ok (.aload_n 0, 1) := by decide +kernel
theorem dX1_rulerAt_2 : decode cX1_rulerAt 2 = .ok (.getfield 9, 3) := by decide +kernel
theorem dX1_rulerAt_5 : decode cX1_rulerAt 5 = .ok (.lload_n 1, 1) := by decide +kernel
theorem dX1_rulerAt_6 : decode cX1_rulerAt 6 = .ok (.aload_n 0, 1) := by decide +kernel
theorem dX1_rulerAt_7 : decode cX1_rulerAt 7 = .ok (.getfield 15, 3) := by decide +kernel
theorem dX1_rulerAt_10 : decode cX1_rulerAt 10 = .ok (.getfield 19, 3) := by decide +kernel
theorem dX1_rulerAt_13 : decode cX1_rulerAt 13 = .ok (.invokevirtual 25, 3) := by decide +kernel
theorem dX1_rulerAt_16 : decode cX1_rulerAt 16 = .ok (.invokevirtual 31, 3) := by decide +kernel
theorem dX1_rulerAt_19 : decode cX1_rulerAt 19 = .ok (.ireturn, 1) := by decide +kernel
theorem dX1_rulerAtParts_0 : decode cX1_rulerAtParts 0 = .ok (.lload_n 1, 1) := by decide +kernel
theorem dX1_rulerAtParts_1 : decode cX1_rulerAtParts 1 = .ok (.aload_n 0, 1) := by decide +kernel
theorem dX1_rulerAtParts_2 : decode cX1_rulerAtParts 2 = .ok (.getfield 9, 3) := by decide +kernel
theorem dX1_rulerAtParts_5 : decode cX1_rulerAtParts 5 = .ok (.invokevirtual 35, 3) := by decide +kernel
theorem dX1_rulerAtParts_8 : decode cX1_rulerAtParts 8 = .ok (.i2l, 1) := by decide +kernel
theorem dX1_rulerAtParts_9 : decode cX1_rulerAtParts 9 = .ok (.ladd, 1) := by decide +kernel
theorem dX1_rulerAtParts_10 : decode cX1_rulerAtParts 10 = .ok (.lstore_n 3, 1) := by decide +kernel
theorem dX1_rulerAtParts_11 : decode cX1_rulerAtParts 11 = .ok (.aload_n 0, 1) := by decide +kernel
theorem dX1_rulerAtParts_12 : decode cX1_rulerAtParts 12 = .ok (.getfield 9, 3) := by decide +kernel
theorem dX1_rulerAtParts_15 : decode cX1_rulerAtParts 15 = .ok (.invokevirtual 39, 3) := by decide +kernel
theorem dX1_rulerAtParts_18 : decode cX1_rulerAtParts 18 = .ok (.i2l, 1) := by decide +kernel
theorem dX1_rulerAtParts_19 : decode cX1_rulerAtParts 19 = .ok (.lstore 5, 2) := by decide +kernel
theorem dX1_rulerAtParts_21 : decode cX1_rulerAtParts 21 = .ok (.lload_n 1, 1) := by decide +kernel
theorem dX1_rulerAtParts_22 : decode cX1_rulerAtParts 22 = .ok (.lconst 0, 1) := by decide +kernel
theorem dX1_rulerAtParts_23 : decode cX1_rulerAtParts 23 = .ok (.lcmp, 1) := by decide +kernel
theorem dX1_rulerAtParts_24 : decode cX1_rulerAtParts 24 = .ok (.ifCond .eq 16, 3) := by decide +kernel
theorem dX1_rulerAtParts_27 : decode cX1_rulerAtParts 27 = .ok (.lload_n 3, 1) := by decide +kernel
theorem dX1_rulerAtParts_28 : decode cX1_rulerAtParts 28 = .ok (.aload_n 0, 1) := by decide +kernel
theorem dX1_rulerAtParts_29 : decode cX1_rulerAtParts 29 = .ok (.getfield 9, 3) := by decide +kernel
theorem dX1_rulerAtParts_32 : decode cX1_rulerAtParts 32 = .ok (.invokevirtual 42, 3) := by decide +kernel
theorem dX1_rulerAtParts_35 : decode cX1_rulerAtParts 35 = .ok (.i2l, 1) := by decide +kernel
theorem dX1_rulerAtParts_36 : decode cX1_rulerAtParts 36 = .ok (.lcmp, 1) := by decide +kernel
theorem dX1_rulerAtParts_37 : decode cX1_rulerAtParts 37 = .ok (.ifCond .le 5, 3) := by decide +kernel
theorem dX1_rulerAtParts_40 : decode cX1_rulerAtParts 40 = .ok (.iconst 2, 1) := by decide +kernel
theorem dX1_rulerAtParts_41 : decode cX1_rulerAtParts 41 = .ok (.ireturn, 1) := by decide +kernel
theorem dX1_rulerAtParts_42 : decode cX1_rulerAtParts 42 = .ok (.lload_n 1, 1) := by decide +kernel
theorem dX1_rulerAtParts_43 : decode cX1_rulerAtParts 43 = .ok (.lload 5, 2) := by decide +kernel
theorem dX1_rulerAtParts_45 : decode cX1_rulerAtParts 45 = .ok (.lcmp, 1) := by decide +kernel
theorem dX1_rulerAtParts_46 : decode cX1_rulerAtParts 46 = .ok (.ifCond .gt 12, 3) := by decide +kernel
theorem dX1_rulerAtParts_49 : decode cX1_rulerAtParts 49 = .ok (.lload 5, 2) := by decide +kernel
theorem dX1_rulerAtParts_51 : decode cX1_rulerAtParts 51 = .ok (.lload_n 3, 1) := by decide +kernel
theorem dX1_rulerAtParts_52 : decode cX1_rulerAtParts 52 = .ok (.lcmp, 1) := by decide +kernel
theorem dX1_rulerAtParts_53 : decode cX1_rulerAtParts 53 = .ok (.ifCond .ge 5, 3) := by decide +kernel
theorem dX1_rulerAtParts_56 : decode cX1_rulerAtParts 56 = .ok (.iconst 2, 1) := by decide +kernel
theorem dX1_rulerAtParts_57 : decode cX1_rulerAtParts 57 = .ok (.ireturn, 1) := by decide +kernel
theorem dX1_rulerAtParts_58 : decode cX1_rulerAtParts 58 = .ok (.lload_n 1, 1) := by decide +kernel
theorem dX1_rulerAtParts_59 : decode cX1_rulerAtParts 59 = .ok (.lload 5, 2) := by decide +kernel
theorem dX1_rulerAtParts_61 : decode cX1_rulerAtParts 61 = .ok (.lcmp, 1) := by decide +kernel
theorem dX1_rulerAtParts_62 : decode cX1_rulerAtParts 62 = .ok (.ifCond .ge 7, 3) := by decide +kernel
theorem dX1_rulerAtParts_65 : decode cX1_rulerAtParts 65 = .ok (.iconst 0, 1) := by decide +kernel
theorem dX1_rulerAtParts_66 : decode cX1_rulerAtParts 66 = .ok (.goto 4, 3) := by decide +kernel
theorem dX1_rulerAtParts_69 : decode cX1_rulerAtParts 69 = .ok (.iconst 1, 1) := by decide +kernel
theorem dX1_rulerAtParts_70 : decode cX1_rulerAtParts 70 = .ok (.ireturn, 1) := by decide +kernel
theorem dX1_stretchFrom_0 : decode cX1_stretchFrom 0 = .ok (.aload_n 0, 1) := by decide +kernel
theorem dX1_stretchFrom_1 : decode cX1_stretchFrom 1 = .ok (.getfield 9, 3) := by decide +kernel
theorem dX1_stretchFrom_4 : decode cX1_stretchFrom 4 = .ok (.lload_n 1, 1) := by decide +kernel
theorem dX1_stretchFrom_5 : decode cX1_stretchFrom 5 = .ok (.aload_n 0, 1) := by decide +kernel
theorem dX1_stretchFrom_6 : decode cX1_stretchFrom 6 = .ok (.getfield 15, 3) := by decide +kernel
theorem dX1_stretchFrom_9 : decode cX1_stretchFrom 9 = .ok (.getfield 19, 3) := by decide +kernel
theorem dX1_stretchFrom_12 : decode cX1_stretchFrom 12 = .ok (.invokevirtual 25, 3) := by decide +kernel
theorem dX1_stretchFrom_15 : decode cX1_stretchFrom 15 = .ok (.lstore_n 3, 1) := by decide +kernel
theorem dX1_stretchFrom_16 : decode cX1_stretchFrom 16 = .ok (.aload_n 0, 1) := by decide +kernel
theorem dX1_stretchFrom_17 : decode cX1_stretchFrom 17 = .ok (.lload_n 3, 1) := by decide +kernel
theorem dX1_stretchFrom_18 : decode cX1_stretchFrom 18 = .ok (.invokevirtual 31, 3) := by decide +kernel
theorem dX1_stretchFrom_21 : decode cX1_stretchFrom 21 = .ok (.istore 5, 2) := by decide +kernel
theorem dX1_stretchFrom_23 : decode cX1_stretchFrom 23 = .ok (.iload 5, 2) := by decide +kernel
theorem dX1_stretchFrom_25 : decode cX1_stretchFrom 25 = .ok (.iconst 2, 1) := by decide +kernel
theorem dX1_stretchFrom_26 : decode cX1_stretchFrom 26 = .ok (.if_icmp .ne 5, 3) := by decide +kernel
theorem dX1_stretchFrom_29 : decode cX1_stretchFrom 29 = .ok (.iconst 1, 1) := by decide +kernel
theorem dX1_stretchFrom_30 : decode cX1_stretchFrom 30 = .ok (.ireturn, 1) := by decide +kernel
theorem dX1_stretchFrom_31 : decode cX1_stretchFrom 31 = .ok (.iload 5, 2) := by decide +kernel
theorem dX1_stretchFrom_33 : decode cX1_stretchFrom 33 = .ok (.ifCond .ne 14, 3) := by decide +kernel
theorem dX1_stretchFrom_36 : decode cX1_stretchFrom 36 = .ok (.aload_n 0, 1) := by decide +kernel
theorem dX1_stretchFrom_37 : decode cX1_stretchFrom 37 = .ok (.getfield 9, 3) := by decide +kernel
theorem dX1_stretchFrom_40 : decode cX1_stretchFrom 40 = .ok (.invokevirtual 39, 3) := by decide +kernel
theorem dX1_stretchFrom_43 : decode cX1_stretchFrom 43 = .ok (.i2l, 1) := by decide +kernel
theorem dX1_stretchFrom_44 : decode cX1_stretchFrom 44 = .ok (.goto 11, 3) := by decide +kernel
theorem dX1_stretchFrom_47 : decode cX1_stretchFrom 47 = .ok (.aload_n 0, 1) := by decide +kernel
theorem dX1_stretchFrom_48 : decode cX1_stretchFrom 48 = .ok (.getfield 9, 3) := by decide +kernel
theorem dX1_stretchFrom_51 : decode cX1_stretchFrom 51 = .ok (.invokevirtual 42, 3) := by decide +kernel
theorem dX1_stretchFrom_54 : decode cX1_stretchFrom 54 = .ok (.i2l, 1) := by decide +kernel
theorem dX1_stretchFrom_55 : decode cX1_stretchFrom 55 = .ok (.lstore 6, 2) := by decide +kernel
theorem dX1_stretchFrom_57 : decode cX1_stretchFrom 57 = .ok (.lconst 1, 1) := by decide +kernel
theorem dX1_stretchFrom_58 : decode cX1_stretchFrom 58 = .ok (.lload 6, 2) := by decide +kernel
theorem dX1_stretchFrom_60 : decode cX1_stretchFrom 60 = .ok (.lload_n 3, 1) := by decide +kernel
theorem dX1_stretchFrom_61 : decode cX1_stretchFrom 61 = .ok (.lsub, 1) := by decide +kernel
theorem dX1_stretchFrom_62 : decode cX1_stretchFrom 62 = .ok (.aload_n 0, 1) := by decide +kernel
theorem dX1_stretchFrom_63 : decode cX1_stretchFrom 63 = .ok (.getfield 9, 3) := by decide +kernel
theorem dX1_stretchFrom_66 : decode cX1_stretchFrom 66 = .ok (.invokevirtual 35, 3) := by decide +kernel
theorem dX1_stretchFrom_69 : decode cX1_stretchFrom 69 = .ok (.i2l, 1) := by decide +kernel
theorem dX1_stretchFrom_70 : decode cX1_stretchFrom 70 = .ok (.ldiv, 1) := by decide +kernel
theorem dX1_stretchFrom_71 : decode cX1_stretchFrom 71 = .ok (.invokestatic 45, 3) := by decide +kernel
theorem dX1_stretchFrom_74 : decode cX1_stretchFrom 74 = .ok (.l2i, 1) := by decide +kernel
theorem dX1_stretchFrom_75 : decode cX1_stretchFrom 75 = .ok (.ireturn, 1) := by decide +kernel
theorem dX1_minutesOf_0 : decode cX1_minutesOf 0 = .ok (.aload_n 0, 1) := by decide +kernel
theorem dX1_minutesOf_1 : decode cX1_minutesOf 1 = .ok (.getfield 9, 3) := by decide +kernel
theorem dX1_minutesOf_4 : decode cX1_minutesOf 4 = .ok (.invokevirtual 51, 3) := by decide +kernel
theorem dX1_minutesOf_7 : decode cX1_minutesOf 7 = .ok (.istore 5, 2) := by decide +kernel
theorem dX1_minutesOf_9 : decode cX1_minutesOf 9 = .ok (.iload 4, 2) := by decide +kernel
theorem dX1_minutesOf_11 : decode cX1_minutesOf 11 = .ok (.iload 5, 2) := by decide +kernel
theorem dX1_minutesOf_13 : decode cX1_minutesOf 13 = .ok (.idiv, 1) := by decide +kernel
theorem dX1_minutesOf_14 : decode cX1_minutesOf 14 = .ok (.aload_n 0, 1) := by decide +kernel
theorem dX1_minutesOf_15 : decode cX1_minutesOf 15 = .ok (.iload_n 1, 1) := by decide +kernel
theorem dX1_minutesOf_16 : decode cX1_minutesOf 16 = .ok (.lload_n 2, 1) := by decide +kernel
theorem dX1_minutesOf_17 : decode cX1_minutesOf 17 = .ok (.iload 5, 2) := by decide +kernel
theorem dX1_minutesOf_19 : decode cX1_minutesOf 19 = .ok (.invokevirtual 54, 3) := by decide +kernel
theorem dX1_minutesOf_22 : decode cX1_minutesOf 22 = .ok (.imul, 1) := by decide +kernel
theorem dX1_minutesOf_23 : decode cX1_minutesOf 23 = .ok (.aload_n 0, 1) := by decide +kernel
theorem dX1_minutesOf_24 : decode cX1_minutesOf 24 = .ok (.iload_n 1, 1) := by decide +kernel
theorem dX1_minutesOf_25 : decode cX1_minutesOf 25 = .ok (.lload_n 2, 1) := by decide +kernel
theorem dX1_minutesOf_26 : decode cX1_minutesOf 26 = .ok (.iload 4, 2) := by decide +kernel
theorem dX1_minutesOf_28 : decode cX1_minutesOf 28 = .ok (.iload 5, 2) := by decide +kernel
theorem dX1_minutesOf_30 : decode cX1_minutesOf 30 = .ok (.irem, 1) := by decide +kernel
theorem dX1_minutesOf_31 : decode cX1_minutesOf 31 = .ok (.invokevirtual 54, 3) := by decide +kernel
theorem dX1_minutesOf_34 : decode cX1_minutesOf 34 = .ok (.iadd, 1) := by decide +kernel
theorem dX1_minutesOf_35 : decode cX1_minutesOf 35 = .ok (.ireturn, 1) := by decide +kernel
theorem dX1_minutesWithinRound_0 : decode cX1_minutesWithinRound 0 = .ok (.iconst 0, 1) := by decide +kernel
theorem dX1_minutesWithinRound_1 : decode cX1_minutesWithinRound 1 = .ok (.istore 5, 2) := by decide +kernel
theorem dX1_minutesWithinRound_3 : decode cX1_minutesWithinRound 3 = .ok (.iconst 1, 1) := by decide +kernel
theorem dX1_minutesWithinRound_4 : decode cX1_minutesWithinRound 4 = .ok (.istore 6, 2) := by decide +kernel
theorem dX1_minutesWithinRound_6 : decode cX1_minutesWithinRound 6 = .ok (.iconst 0, 1) := by decide +kernel
theorem dX1_minutesWithinRound_7 : decode cX1_minutesWithinRound 7 = .ok (.istore 7, 2) := by decide +kernel
theorem dX1_minutesWithinRound_9 : decode cX1_minutesWithinRound 9 = .ok (.iload 7, 2) := by decide +kernel
theorem dX1_minutesWithinRound_11 : decode cX1_minutesWithinRound 11 = .ok (.iload 4, 2) := by decide +kernel
theorem dX1_minutesWithinRound_13 : decode cX1_minutesWithinRound 13 = .ok (.if_icmp .ge 56, 3) := by decide +kernel
theorem dX1_minutesWithinRound_16 : decode cX1_minutesWithinRound 16 = .ok (.aload_n 0, 1) := by decide +kernel
theorem dX1_minutesWithinRound_17 : decode cX1_minutesWithinRound 17 = .ok (.lload_n 2, 1) := by decide +kernel
theorem dX1_minutesWithinRound_18 : decode cX1_minutesWithinRound 18 = .ok (.iload 7, 2) := by decide +kernel
theorem dX1_minutesWithinRound_20 : decode cX1_minutesWithinRound 20 = .ok (.i2l, 1) := by decide +kernel
theorem dX1_minutesWithinRound_21 : decode cX1_minutesWithinRound 21 = .ok (.ladd, 1) := by decide +kernel
theorem dX1_minutesWithinRound_22 : decode cX1_minutesWithinRound 22 = .ok (.invokevirtual 58, 3) := by decide +kernel
theorem dX1_minutesWithinRound_25 : decode cX1_minutesWithinRound 25 = .ok (.iload 4, 2) := by decide +kernel
theorem dX1_minutesWithinRound_27 : decode cX1_minutesWithinRound 27 = .ok (.iload 7, 2) := by decide +kernel
theorem dX1_minutesWithinRound_29 : decode cX1_minutesWithinRound 29 = .ok (.isub, 1) := by decide +kernel
theorem dX1_minutesWithinRound_30 : decode cX1_minutesWithinRound 30 = .ok (.invokestatic 61, 3) := by decide +kernel
theorem dX1_minutesWithinRound_33 : decode cX1_minutesWithinRound 33 = .ok (.istore 6, 2) := by decide +kernel
theorem dX1_minutesWithinRound_35 : decode cX1_minutesWithinRound 35 = .ok (.aload_n 0, 1) := by decide +kernel
theorem dX1_minutesWithinRound_36 : decode cX1_minutesWithinRound 36 = .ok (.lload_n 2, 1) := by decide +kernel
theorem dX1_minutesWithinRound_37 : decode cX1_minutesWithinRound 37 = .ok (.iload 7, 2) := by decide +kernel
theorem dX1_minutesWithinRound_39 : decode cX1_minutesWithinRound 39 = .ok (.i2l, 1) := by decide +kernel
theorem dX1_minutesWithinRound_40 : decode cX1_minutesWithinRound 40 = .ok (.ladd, 1) := by decide +kernel
theorem dX1_minutesWithinRound_41 : decode cX1_minutesWithinRound 41 = .ok (.invokevirtual 65, 3) := by decide +kernel
theorem dX1_minutesWithinRound_44 : decode cX1_minutesWithinRound 44 = .ok (.iload_n 1, 1) := by decide +kernel
theorem dX1_minutesWithinRound_45 : decode cX1_minutesWithinRound 45 = .ok (.if_icmp .ne 10, 3) := by decide +kernel
theorem dX1_minutesWithinRound_48 : decode cX1_minutesWithinRound 48 = .ok (.iload 5, 2) := by decide +kernel
theorem dX1_minutesWithinRound_50 : decode cX1_minutesWithinRound 50 = .ok (.iload 6, 2) := by decide +kernel
theorem dX1_minutesWithinRound_52 : decode cX1_minutesWithinRound 52 = .ok (.iadd, 1) := by decide +kernel
theorem dX1_minutesWithinRound_53 : decode cX1_minutesWithinRound 53 = .ok (.istore 5, 2) := by decide +kernel
theorem dX1_minutesWithinRound_55 : decode cX1_minutesWithinRound 55 = .ok (.iload 7, 2) := by decide +kernel
theorem dX1_minutesWithinRound_57 : decode cX1_minutesWithinRound 57 = .ok (.iconst 1, 1) := by decide +kernel
theorem dX1_minutesWithinRound_58 : decode cX1_minutesWithinRound 58 = .ok (.iload 6, 2) := by decide +kernel
theorem dX1_minutesWithinRound_60 : decode cX1_minutesWithinRound 60 = .ok (.invokestatic 68, 3) := by decide +kernel
theorem dX1_minutesWithinRound_63 : decode cX1_minutesWithinRound 63 = .ok (.iadd, 1) := by decide +kernel
theorem dX1_minutesWithinRound_64 : decode cX1_minutesWithinRound 64 = .ok (.istore 7, 2) := by decide +kernel
theorem dX1_minutesWithinRound_66 : decode cX1_minutesWithinRound 66 = .ok (.goto (-57), 3) := by decide +kernel
theorem dX1_minutesWithinRound_69 : decode cX1_minutesWithinRound 69 = .ok (.iload 5, 2) := by decide +kernel
theorem dX1_minutesWithinRound_71 : decode cX1_minutesWithinRound 71 = .ok (.ireturn, 1) := by decide +kernel
theorem dX1_firstOf_0 : decode cX1_firstOf 0 = .ok (.sipush 2000, 3) := by decide +kernel
theorem dX1_firstOf_3 : decode cX1_firstOf 3 = .ok (.aload_n 0, 1) := by decide +kernel
theorem dX1_firstOf_4 : decode cX1_firstOf 4 = .ok (.getfield 9, 3) := by decide +kernel
theorem dX1_firstOf_7 : decode cX1_firstOf 7 = .ok (.invokevirtual 51, 3) := by decide +kernel
theorem dX1_firstOf_10 : decode cX1_firstOf 10 = .ok (.invokestatic 61, 3) := by decide +kernel
theorem dX1_firstOf_13 : decode cX1_firstOf 13 = .ok (.istore 4, 2) := by decide +kernel
theorem dX1_firstOf_15 : decode cX1_firstOf 15 = .ok (.iconst 1, 1) := by decide +kernel
theorem dX1_firstOf_16 : decode cX1_firstOf 16 = .ok (.istore 5, 2) := by decide +kernel
theorem dX1_firstOf_18 : decode cX1_firstOf 18 = .ok (.iconst 0, 1) := by decide +kernel
theorem dX1_firstOf_19 : decode cX1_firstOf 19 = .ok (.istore 6, 2) := by decide +kernel
theorem dX1_firstOf_21 : decode cX1_firstOf 21 = .ok (.iload 6, 2) := by decide +kernel
theorem dX1_firstOf_23 : decode cX1_firstOf 23 = .ok (.iload 4, 2) := by decide +kernel
theorem dX1_firstOf_25 : decode cX1_firstOf 25 = .ok (.if_icmp .gt 47, 3) := by decide +kernel
theorem dX1_firstOf_28 : decode cX1_firstOf 28 = .ok (.aload_n 0, 1) := by decide +kernel
theorem dX1_firstOf_29 : decode cX1_firstOf 29 = .ok (.lload_n 2, 1) := by decide +kernel
theorem dX1_firstOf_30 : decode cX1_firstOf 30 = .ok (.iload 6, 2) := by decide +kernel
theorem dX1_firstOf_32 : decode cX1_firstOf 32 = .ok (.i2l, 1) := by decide +kernel
theorem dX1_firstOf_33 : decode cX1_firstOf 33 = .ok (.ladd, 1) := by decide +kernel
theorem dX1_firstOf_34 : decode cX1_firstOf 34 = .ok (.invokevirtual 65, 3) := by decide +kernel
theorem dX1_firstOf_37 : decode cX1_firstOf 37 = .ok (.iload_n 1, 1) := by decide +kernel
theorem dX1_firstOf_38 : decode cX1_firstOf 38 = .ok (.if_icmp .ne 9, 3) := by decide +kernel
theorem dX1_firstOf_41 : decode cX1_firstOf 41 = .ok (.lload_n 2, 1) := by decide +kernel
theorem dX1_firstOf_42 : decode cX1_firstOf 42 = .ok (.iload 6, 2) := by decide +kernel
theorem dX1_firstOf_44 : decode cX1_firstOf 44 = .ok (.i2l, 1) := by decide +kernel
theorem dX1_firstOf_45 : decode cX1_firstOf 45 = .ok (.ladd, 1) := by decide +kernel
theorem dX1_firstOf_46 : decode cX1_firstOf 46 = .ok (.lreturn, 1) := by decide +kernel
theorem dX1_firstOf_47 : decode cX1_firstOf 47 = .ok (.aload_n 0, 1) := by decide +kernel
theorem dX1_firstOf_48 : decode cX1_firstOf 48 = .ok (.lload_n 2, 1) := by decide +kernel
theorem dX1_firstOf_49 : decode cX1_firstOf 49 = .ok (.iload 6, 2) := by decide +kernel
theorem dX1_firstOf_51 : decode cX1_firstOf 51 = .ok (.i2l, 1) := by decide +kernel
theorem dX1_firstOf_52 : decode cX1_firstOf 52 = .ok (.ladd, 1) := by decide +kernel
theorem dX1_firstOf_53 : decode cX1_firstOf 53 = .ok (.invokevirtual 58, 3) := by decide +kernel
theorem dX1_firstOf_56 : decode cX1_firstOf 56 = .ok (.istore 5, 2) := by decide +kernel
theorem dX1_firstOf_58 : decode cX1_firstOf 58 = .ok (.iload 6, 2) := by decide +kernel
theorem dX1_firstOf_60 : decode cX1_firstOf 60 = .ok (.iconst 1, 1) := by decide +kernel
theorem dX1_firstOf_61 : decode cX1_firstOf 61 = .ok (.iload 5, 2) := by decide +kernel
theorem dX1_firstOf_63 : decode cX1_firstOf 63 = .ok (.invokestatic 68, 3) := by decide +kernel
theorem dX1_firstOf_66 : decode cX1_firstOf 66 = .ok (.iadd, 1) := by decide +kernel
theorem dX1_firstOf_67 : decode cX1_firstOf 67 = .ok (.istore 6, 2) := by decide +kernel
theorem dX1_firstOf_69 : decode cX1_firstOf 69 = .ok (.goto (-48), 3) := by decide +kernel
theorem dX1_firstOf_72 : decode cX1_firstOf 72 = .ok (.ldc2_w 70, 3) := by decide +kernel
theorem dX1_firstOf_75 : decode cX1_firstOf 75 = .ok (.lreturn, 1) := by decide +kernel
theorem dX1_isLawful_0 : decode cX1_isLawful 0 = .ok (.aload_n 0, 1) := by decide +kernel
theorem dX1_isLawful_1 : decode cX1_isLawful 1 = .ok (.getfield 15, 3) := by decide +kernel
theorem dX1_isLawful_4 : decode cX1_isLawful 4 = .ok (.getfield 72, 3) := by decide +kernel
theorem dX1_isLawful_7 : decode cX1_isLawful 7 = .ok (.iload_n 1, 1) := by decide +kernel
theorem dX1_isLawful_8 : decode cX1_isLawful 8 = .ok (.invokestatic 75, 3) := by decide +kernel
theorem dX1_isLawful_11 : decode cX1_isLawful 11 = .ok (.istore 4, 2) := by decide +kernel
theorem dX1_isLawful_13 : decode cX1_isLawful 13 = .ok (.aload_n 0, 1) := by decide +kernel
theorem dX1_isLawful_14 : decode cX1_isLawful 14 = .ok (.lload_n 2, 1) := by decide +kernel
theorem dX1_isLawful_15 : decode cX1_isLawful 15 = .ok (.invokevirtual 65, 3) := by decide +kernel
theorem dX1_isLawful_18 : decode cX1_isLawful 18 = .ok (.istore 5, 2) := by decide +kernel
theorem dX1_isLawful_20 : decode cX1_isLawful 20 = .ok (.iload 5, 2) := by decide +kernel
theorem dX1_isLawful_22 : decode cX1_isLawful 22 = .ok (.iconst 2, 1) := by decide +kernel
theorem dX1_isLawful_23 : decode cX1_isLawful 23 = .ok (.if_icmp .eq 18, 3) := by decide +kernel
theorem dX1_isLawful_26 : decode cX1_isLawful 26 = .ok (.iload 4, 2) := by decide +kernel
theorem dX1_isLawful_28 : decode cX1_isLawful 28 = .ok (.iload 5, 2) := by decide +kernel
theorem dX1_isLawful_30 : decode cX1_isLawful 30 = .ok (.ishr, 1) := by decide +kernel
theorem dX1_isLawful_31 : decode cX1_isLawful 31 = .ok (.iconst 1, 1) := by decide +kernel
theorem dX1_isLawful_32 : decode cX1_isLawful 32 = .ok (.iand, 1) := by decide +kernel
theorem dX1_isLawful_33 : decode cX1_isLawful 33 = .ok (.iconst 1, 1) := by decide +kernel
theorem dX1_isLawful_34 : decode cX1_isLawful 34 = .ok (.if_icmp .ne 7, 3) := by decide +kernel
theorem dX1_isLawful_37 : decode cX1_isLawful 37 = .ok (.iconst 1, 1) := by decide +kernel
theorem dX1_isLawful_38 : decode cX1_isLawful 38 = .ok (.goto 4, 3) := by decide +kernel
theorem dX1_isLawful_41 : decode cX1_isLawful 41 = .ok (.iconst 0, 1) := by decide +kernel
theorem dX1_isLawful_42 : decode cX1_isLawful 42 = .ok (.istore 6, 2) := by decide +kernel
theorem dX1_isLawful_44 : decode cX1_isLawful 44 = .ok (.aload_n 0, 1) := by decide +kernel
theorem dX1_isLawful_45 : decode cX1_isLawful 45 = .ok (.getfield 9, 3) := by decide +kernel
theorem dX1_isLawful_48 : decode cX1_isLawful 48 = .ok (.iload_n 1, 1) := by decide +kernel
theorem dX1_isLawful_49 : decode cX1_isLawful 49 = .ok (.iconst 0, 1) := by decide +kernel
theorem dX1_isLawful_50 : decode cX1_isLawful 50 = .ok (.invokevirtual 78, 3) := by decide +kernel
theorem dX1_isLawful_53 : decode cX1_isLawful 53 = .ok (.tableswitch 80 0 3 #[31, 34, 31, 62], 31) := by decide +kernel
theorem dX1_isLawful_84 : decode cX1_isLawful 84 = .ok (.iload 6, 2) := by decide +kernel
theorem dX1_isLawful_86 : decode cX1_isLawful 86 = .ok (.ireturn, 1) := by decide +kernel
theorem dX1_isLawful_87 : decode cX1_isLawful 87 = .ok (.iload 6, 2) := by decide +kernel
theorem dX1_isLawful_89 : decode cX1_isLawful 89 = .ok (.ifCond .eq 24, 3) := by decide +kernel
theorem dX1_isLawful_92 : decode cX1_isLawful 92 = .ok (.aload_n 0, 1) := by decide +kernel
theorem dX1_isLawful_93 : decode cX1_isLawful 93 = .ok (.lload_n 2, 1) := by decide +kernel
theorem dX1_isLawful_94 : decode cX1_isLawful 94 = .ok (.invokevirtual 58, 3) := by decide +kernel
theorem dX1_isLawful_97 : decode cX1_isLawful 97 = .ok (.aload_n 0, 1) := by decide +kernel
theorem dX1_isLawful_98 : decode cX1_isLawful 98 = .ok (.getfield 9, 3) := by decide +kernel
theorem dX1_isLawful_101 : decode cX1_isLawful 101 = .ok (.iload_n 1, 1) := by decide +kernel
theorem dX1_isLawful_102 : decode cX1_isLawful 102 = .ok (.iconst 2, 1) := by decide +kernel
theorem dX1_isLawful_103 : decode cX1_isLawful 103 = .ok (.invokevirtual 78, 3) := by decide +kernel
theorem dX1_isLawful_106 : decode cX1_isLawful 106 = .ok (.if_icmp .lt 7, 3) := by decide +kernel
theorem dX1_isLawful_109 : decode cX1_isLawful 109 = .ok (.iconst 1, 1) := by decide +kernel
theorem dX1_isLawful_110 : decode cX1_isLawful 110 = .ok (.goto 4, 3) := by decide +kernel
theorem dX1_isLawful_113 : decode cX1_isLawful 113 = .ok (.iconst 0, 1) := by decide +kernel
theorem dX1_isLawful_114 : decode cX1_isLawful 114 = .ok (.ireturn, 1) := by decide +kernel
theorem dX1_isLawful_115 : decode cX1_isLawful 115 = .ok (.iload 4, 2) := by decide +kernel
theorem dX1_isLawful_117 : decode cX1_isLawful 117 = .ok (.iconst 3, 1) := by decide +kernel
theorem dX1_isLawful_118 : decode cX1_isLawful 118 = .ok (.if_icmp .ne 13, 3) := by decide +kernel
theorem dX1_isLawful_121 : decode cX1_isLawful 121 = .ok (.iload 5, 2) := by decide +kernel
theorem dX1_isLawful_123 : decode cX1_isLawful 123 = .ok (.iconst 2, 1) := by decide +kernel
theorem dX1_isLawful_124 : decode cX1_isLawful 124 = .ok (.if_icmp .eq 7, 3) := by decide +kernel
theorem dX1_isLawful_127 : decode cX1_isLawful 127 = .ok (.iconst 1, 1) := by decide +kernel
theorem dX1_isLawful_128 : decode cX1_isLawful 128 = .ok (.goto 4, 3) := by decide +kernel
theorem dX1_isLawful_131 : decode cX1_isLawful 131 = .ok (.iconst 0, 1) := by decide +kernel
theorem dX1_isLawful_132 : decode cX1_isLawful 132 = .ok (.ireturn, 1) := by decide +kernel
theorem dX1_isLawful_133 : decode cX1_isLawful 133 = .ok (.iload 4, 2) := by decide +kernel
theorem dX1_isLawful_135 : decode cX1_isLawful 135 = .ok (.ifCond .eq 13, 3) := by decide +kernel
theorem dX1_isLawful_138 : decode cX1_isLawful 138 = .ok (.iload 5, 2) := by decide +kernel
theorem dX1_isLawful_140 : decode cX1_isLawful 140 = .ok (.iconst 2, 1) := by decide +kernel
theorem dX1_isLawful_141 : decode cX1_isLawful 141 = .ok (.if_icmp .ne 7, 3) := by decide +kernel
theorem dX1_isLawful_144 : decode cX1_isLawful 144 = .ok (.iconst 1, 1) := by decide +kernel
theorem dX1_isLawful_145 : decode cX1_isLawful 145 = .ok (.goto 4, 3) := by decide +kernel
theorem dX1_isLawful_148 : decode cX1_isLawful 148 = .ok (.iconst 0, 1) := by decide +kernel
theorem dX1_isLawful_149 : decode cX1_isLawful 149 = .ok (.ireturn, 1) := by decide +kernel
theorem dX1_firstLawful_0 : decode cX1_firstLawful 0 = .ok (.sipush 5000, 3) := by decide +kernel
theorem dX1_firstLawful_3 : decode cX1_firstLawful 3 = .ok (.aload_n 0, 1) := by decide +kernel
theorem dX1_firstLawful_4 : decode cX1_firstLawful 4 = .ok (.getfield 9, 3) := by decide +kernel
theorem dX1_firstLawful_7 : decode cX1_firstLawful 7 = .ok (.invokevirtual 51, 3) := by decide +kernel
theorem dX1_firstLawful_10 : decode cX1_firstLawful 10 = .ok (.invokestatic 61, 3) := by decide +kernel
theorem dX1_firstLawful_13 : decode cX1_firstLawful 13 = .ok (.istore 5, 2) := by decide +kernel
theorem dX1_firstLawful_15 : decode cX1_firstLawful 15 = .ok (.iconst 1, 1) := by decide +kernel
theorem dX1_firstLawful_16 : decode cX1_firstLawful 16 = .ok (.istore 6, 2) := by decide +kernel
theorem dX1_firstLawful_18 : decode cX1_firstLawful 18 = .ok (.iconst 0, 1) := by decide +kernel
theorem dX1_firstLawful_19 : decode cX1_firstLawful 19 = .ok (.istore 7, 2) := by decide +kernel
theorem dX1_firstLawful_21 : decode cX1_firstLawful 21 = .ok (.iload 7, 2) := by decide +kernel
theorem dX1_firstLawful_23 : decode cX1_firstLawful 23 = .ok (.iload 5, 2) := by decide +kernel
theorem dX1_firstLawful_25 : decode cX1_firstLawful 25 = .ok (.if_icmp .gt 60, 3) := by decide +kernel
theorem dX1_firstLawful_28 : decode cX1_firstLawful 28 = .ok (.aload_n 0, 1) := by decide +kernel
theorem dX1_firstLawful_29 : decode cX1_firstLawful 29 = .ok (.iload_n 1, 1) := by decide +kernel
theorem dX1_firstLawful_30 : decode cX1_firstLawful 30 = .ok (.lload_n 3, 1) := by decide +kernel
theorem dX1_firstLawful_31 : decode cX1_firstLawful 31 = .ok (.iload 7, 2) := by decide +kernel
theorem dX1_firstLawful_33 : decode cX1_firstLawful 33 = .ok (.i2l, 1) := by decide +kernel
theorem dX1_firstLawful_34 : decode cX1_firstLawful 34 = .ok (.ladd, 1) := by decide +kernel
theorem dX1_firstLawful_35 : decode cX1_firstLawful 35 = .ok (.invokevirtual 81, 3) := by decide +kernel
theorem dX1_firstLawful_38 : decode cX1_firstLawful 38 = .ok (.ifCond .eq 22, 3) := by decide +kernel
theorem dX1_firstLawful_41 : decode cX1_firstLawful 41 = .ok (.aload_n 0, 1) := by decide +kernel
theorem dX1_firstLawful_42 : decode cX1_firstLawful 42 = .ok (.iload_n 2, 1) := by decide +kernel
theorem dX1_firstLawful_43 : decode cX1_firstLawful 43 = .ok (.lload_n 3, 1) := by decide +kernel
theorem dX1_firstLawful_44 : decode cX1_firstLawful 44 = .ok (.iload 7, 2) := by decide +kernel
theorem dX1_firstLawful_46 : decode cX1_firstLawful 46 = .ok (.i2l, 1) := by decide +kernel
theorem dX1_firstLawful_47 : decode cX1_firstLawful 47 = .ok (.ladd, 1) := by decide +kernel
theorem dX1_firstLawful_48 : decode cX1_firstLawful 48 = .ok (.invokevirtual 81, 3) := by decide +kernel
theorem dX1_firstLawful_51 : decode cX1_firstLawful 51 = .ok (.ifCond .eq 9, 3) := by decide +kernel
theorem dX1_firstLawful_54 : decode cX1_firstLawful 54 = .ok (.lload_n 3, 1) := by decide +kernel
theorem dX1_firstLawful_55 : decode cX1_firstLawful 55 = .ok (.iload 7, 2) := by decide +kernel
theorem dX1_firstLawful_57 : decode cX1_firstLawful 57 = .ok (.i2l, 1) := by decide +kernel
theorem dX1_firstLawful_58 : decode cX1_firstLawful 58 = .ok (.ladd, 1) := by decide +kernel
theorem dX1_firstLawful_59 : decode cX1_firstLawful 59 = .ok (.lreturn, 1) := by decide +kernel
theorem dX1_firstLawful_60 : decode cX1_firstLawful 60 = .ok (.aload_n 0, 1) := by decide +kernel
theorem dX1_firstLawful_61 : decode cX1_firstLawful 61 = .ok (.lload_n 3, 1) := by decide +kernel
theorem dX1_firstLawful_62 : decode cX1_firstLawful 62 = .ok (.iload 7, 2) := by decide +kernel
theorem dX1_firstLawful_64 : decode cX1_firstLawful 64 = .ok (.i2l, 1) := by decide +kernel
theorem dX1_firstLawful_65 : decode cX1_firstLawful 65 = .ok (.ladd, 1) := by decide +kernel
theorem dX1_firstLawful_66 : decode cX1_firstLawful 66 = .ok (.invokevirtual 58, 3) := by decide +kernel
theorem dX1_firstLawful_69 : decode cX1_firstLawful 69 = .ok (.istore 6, 2) := by decide +kernel
theorem dX1_firstLawful_71 : decode cX1_firstLawful 71 = .ok (.iload 7, 2) := by decide +kernel
theorem dX1_firstLawful_73 : decode cX1_firstLawful 73 = .ok (.iconst 1, 1) := by decide +kernel
theorem dX1_firstLawful_74 : decode cX1_firstLawful 74 = .ok (.iload 6, 2) := by decide +kernel
theorem dX1_firstLawful_76 : decode cX1_firstLawful 76 = .ok (.invokestatic 68, 3) := by decide +kernel
theorem dX1_firstLawful_79 : decode cX1_firstLawful 79 = .ok (.iadd, 1) := by decide +kernel
theorem dX1_firstLawful_80 : decode cX1_firstLawful 80 = .ok (.istore 7, 2) := by decide +kernel
theorem dX1_firstLawful_82 : decode cX1_firstLawful 82 = .ok (.goto (-61), 3) := by decide +kernel
theorem dX1_firstLawful_85 : decode cX1_firstLawful 85 = .ok (.ldc2_w 70, 3) := by decide +kernel
theorem dX1_firstLawful_88 : decode cX1_firstLawful 88 = .ok (.lreturn, 1) := by decide +kernel
theorem dX2_init_0 : decode cX2_init 0 = .ok (.aload_n 0, 1) := by decide +kernel
theorem dX2_init_1 : decode cX2_init 1 = .ok (.invokespecial 3, 3) := by decide +kernel
theorem dX2_init_4 : decode cX2_init 4 = .ok (.aload_n 0, 1) := by decide +kernel
theorem dX2_init_5 : decode cX2_init 5 = .ok (.bipush 30, 2) := by decide +kernel
theorem dX2_init_7 : decode cX2_init 7 = .ok (.newarray .int, 2) := by decide +kernel
theorem dX2_init_9 : decode cX2_init 9 = .ok (.putfield 11, 3) := by decide +kernel
theorem dX2_init_12 : decode cX2_init 12 = .ok (.aload_n 0, 1) := by decide +kernel
theorem dX2_init_13 : decode cX2_init 13 = .ok (.invokevirtual 15, 3) := by decide +kernel
theorem dX2_init_16 : decode cX2_init 16 = .ok (.return_, 1) := by decide +kernel
theorem dX2_clear_0 : decode cX2_clear 0 = .ok (.aload_n 0, 1) := by decide +kernel
theorem dX2_clear_1 : decode cX2_clear 1 = .ok (.sipush 745, 3) := by decide +kernel
theorem dX2_clear_4 : decode cX2_clear 4 = .ok (.putfield 18, 3) := by decide +kernel
theorem dX2_clear_7 : decode cX2_clear 7 = .ok (.aload_n 0, 1) := by decide +kernel
theorem dX2_clear_8 : decode cX2_clear 8 = .ok (.iconst 1, 1) := by decide +kernel
theorem dX2_clear_9 : decode cX2_clear 9 = .ok (.putfield 22, 3) := by decide +kernel
theorem dX2_clear_12 : decode cX2_clear 12 = .ok (.aload_n 0, 1) := by decide +kernel
theorem dX2_clear_13 : decode cX2_clear 13 = .ok (.iconst 1, 1) := by decide +kernel
theorem dX2_clear_14 : decode cX2_clear 14 = .ok (.putfield 25, 3) := by decide +kernel
theorem dX2_clear_17 : decode cX2_clear 17 = .ok (.aload_n 0, 1) := by decide +kernel
theorem dX2_clear_18 : decode cX2_clear 18 = .ok (.iconst 2, 1) := by decide +kernel
theorem dX2_clear_19 : decode cX2_clear 19 = .ok (.putfield 28, 3) := by decide +kernel
theorem dX2_clear_22 : decode cX2_clear 22 = .ok (.aload_n 0, 1) := by decide +kernel
theorem dX2_clear_23 : decode cX2_clear 23 = .ok (.iconst 0, 1) := by decide +kernel
theorem dX2_clear_24 : decode cX2_clear 24 = .ok (.putfield 31, 3) := by decide +kernel
theorem dX2_clear_27 : decode cX2_clear 27 = .ok (.aload_n 0, 1) := by decide +kernel
theorem dX2_clear_28 : decode cX2_clear 28 = .ok (.iconst 0, 1) := by decide +kernel
theorem dX2_clear_29 : decode cX2_clear 29 = .ok (.putfield 34, 3) := by decide +kernel
theorem dX2_clear_32 : decode cX2_clear 32 = .ok (.aload_n 0, 1) := by decide +kernel
theorem dX2_clear_33 : decode cX2_clear 33 = .ok (.iconst 0, 1) := by decide +kernel
theorem dX2_clear_34 : decode cX2_clear 34 = .ok (.putfield 37, 3) := by decide +kernel
theorem dX2_clear_37 : decode cX2_clear 37 = .ok (.return_, 1) := by decide +kernel
theorem dX2_copyFrom_0 : decode cX2_copyFrom 0 = .ok (.aload_n 0, 1) := by decide +kernel
theorem dX2_copyFrom_1 : decode cX2_copyFrom 1 = .ok (.aload_n 1, 1) := by decide +kernel
theorem dX2_copyFrom_2 : decode cX2_copyFrom 2 = .ok (.getfield 18, 3) := by decide +kernel
theorem dX2_copyFrom_5 : decode cX2_copyFrom 5 = .ok (.putfield 18, 3) := by decide +kernel
theorem dX2_copyFrom_8 : decode cX2_copyFrom 8 = .ok (.aload_n 0, 1) := by decide +kernel
theorem dX2_copyFrom_9 : decode cX2_copyFrom 9 = .ok (.aload_n 1, 1) := by decide +kernel
theorem dX2_copyFrom_10 : decode cX2_copyFrom 10 = .ok (.getfield 22, 3) := by decide +kernel
theorem dX2_copyFrom_13 : decode cX2_copyFrom 13 = .ok (.putfield 22, 3) := by decide +kernel
theorem dX2_copyFrom_16 : decode cX2_copyFrom 16 = .ok (.aload_n 0, 1) := by decide +kernel
theorem dX2_copyFrom_17 : decode cX2_copyFrom 17 = .ok (.aload_n 1, 1) := by decide +kernel
theorem dX2_copyFrom_18 : decode cX2_copyFrom 18 = .ok (.getfield 25, 3) := by decide +kernel
theorem dX2_copyFrom_21 : decode cX2_copyFrom 21 = .ok (.putfield 25, 3) := by decide +kernel
theorem dX2_copyFrom_24 : decode cX2_copyFrom 24 = .ok (.aload_n 0, 1) := by decide +kernel
theorem dX2_copyFrom_25 : decode cX2_copyFrom 25 = .ok (.aload_n 1, 1) := by decide +kernel
theorem dX2_copyFrom_26 : decode cX2_copyFrom 26 = .ok (.getfield 28, 3) := by decide +kernel
theorem dX2_copyFrom_29 : decode cX2_copyFrom 29 = .ok (.putfield 28, 3) := by decide +kernel
theorem dX2_copyFrom_32 : decode cX2_copyFrom 32 = .ok (.aload_n 0, 1) := by decide +kernel
theorem dX2_copyFrom_33 : decode cX2_copyFrom 33 = .ok (.aload_n 1, 1) := by decide +kernel
theorem dX2_copyFrom_34 : decode cX2_copyFrom 34 = .ok (.getfield 31, 3) := by decide +kernel
theorem dX2_copyFrom_37 : decode cX2_copyFrom 37 = .ok (.putfield 31, 3) := by decide +kernel
theorem dX2_copyFrom_40 : decode cX2_copyFrom 40 = .ok (.aload_n 0, 1) := by decide +kernel
theorem dX2_copyFrom_41 : decode cX2_copyFrom 41 = .ok (.aload_n 1, 1) := by decide +kernel
theorem dX2_copyFrom_42 : decode cX2_copyFrom 42 = .ok (.getfield 34, 3) := by decide +kernel
theorem dX2_copyFrom_45 : decode cX2_copyFrom 45 = .ok (.putfield 34, 3) := by decide +kernel
theorem dX2_copyFrom_48 : decode cX2_copyFrom 48 = .ok (.aload_n 0, 1) := by decide +kernel
theorem dX2_copyFrom_49 : decode cX2_copyFrom 49 = .ok (.aload_n 1, 1) := by decide +kernel
theorem dX2_copyFrom_50 : decode cX2_copyFrom 50 = .ok (.getfield 37, 3) := by decide +kernel
theorem dX2_copyFrom_53 : decode cX2_copyFrom 53 = .ok (.putfield 37, 3) := by decide +kernel
theorem dX2_copyFrom_56 : decode cX2_copyFrom 56 = .ok (.aload_n 1, 1) := by decide +kernel
theorem dX2_copyFrom_57 : decode cX2_copyFrom 57 = .ok (.getfield 11, 3) := by decide +kernel
theorem dX2_copyFrom_60 : decode cX2_copyFrom 60 = .ok (.iconst 0, 1) := by decide +kernel
theorem dX2_copyFrom_61 : decode cX2_copyFrom 61 = .ok (.aload_n 0, 1) := by decide +kernel
theorem dX2_copyFrom_62 : decode cX2_copyFrom 62 = .ok (.getfield 11, 3) := by decide +kernel
theorem dX2_copyFrom_65 : decode cX2_copyFrom 65 = .ok (.iconst 0, 1) := by decide +kernel
theorem dX2_copyFrom_66 : decode cX2_copyFrom 66 = .ok (.aload_n 0, 1) := by decide +kernel
theorem dX2_copyFrom_67 : decode cX2_copyFrom 67 = .ok (.getfield 11, 3) := by decide +kernel
theorem dX2_copyFrom_70 : decode cX2_copyFrom 70 = .ok (.arraylength, 1) := by decide +kernel
theorem dX2_copyFrom_71 : decode cX2_copyFrom 71 = .ok (.invokestatic 40, 3) := by decide +kernel
theorem dX2_copyFrom_74 : decode cX2_copyFrom 74 = .ok (.return_, 1) := by decide +kernel
theorem dX2_addFirstAct_0 : decode cX2_addFirstAct 0 = .ok (.aload_n 0, 1) := by decide +kernel
theorem dX2_addFirstAct_1 : decode cX2_addFirstAct 1 = .ok (.getfield 11, 3) := by decide +kernel
theorem dX2_addFirstAct_4 : decode cX2_addFirstAct 4 = .ok (.iconst 0, 1) := by decide +kernel
theorem dX2_addFirstAct_5 : decode cX2_addFirstAct 5 = .ok (.iconst 0, 1) := by decide +kernel
theorem dX2_addFirstAct_6 : decode cX2_addFirstAct 6 = .ok (.iastore, 1) := by decide +kernel
theorem dX2_addFirstAct_7 : decode cX2_addFirstAct 7 = .ok (.aload_n 0, 1) := by decide +kernel
theorem dX2_addFirstAct_8 : decode cX2_addFirstAct 8 = .ok (.getfield 11, 3) := by decide +kernel
theorem dX2_addFirstAct_11 : decode cX2_addFirstAct 11 = .ok (.iconst 1, 1) := by decide +kernel
theorem dX2_addFirstAct_12 : decode cX2_addFirstAct 12 = .ok (.iconst 1, 1) := by decide +kernel
theorem dX2_addFirstAct_13 : decode cX2_addFirstAct 13 = .ok (.iastore, 1) := by decide +kernel
theorem dX2_addFirstAct_14 : decode cX2_addFirstAct 14 = .ok (.aload_n 0, 1) := by decide +kernel
theorem dX2_addFirstAct_15 : decode cX2_addFirstAct 15 = .ok (.getfield 11, 3) := by decide +kernel
theorem dX2_addFirstAct_18 : decode cX2_addFirstAct 18 = .ok (.iconst 2, 1) := by decide +kernel
theorem dX2_addFirstAct_19 : decode cX2_addFirstAct 19 = .ok (.iconst 1, 1) := by decide +kernel
theorem dX2_addFirstAct_20 : decode cX2_addFirstAct 20 = .ok (.iastore, 1) := by decide +kernel
theorem dX2_addFirstAct_21 : decode cX2_addFirstAct 21 = .ok (.aload_n 0, 1) := by decide +kernel
theorem dX2_addFirstAct_22 : decode cX2_addFirstAct 22 = .ok (.getfield 11, 3) := by decide +kernel
theorem dX2_addFirstAct_25 : decode cX2_addFirstAct 25 = .ok (.iconst 3, 1) := by decide +kernel
theorem dX2_addFirstAct_26 : decode cX2_addFirstAct 26 = .ok (.bipush 55, 2) := by decide +kernel
theorem dX2_addFirstAct_28 : decode cX2_addFirstAct 28 = .ok (.iastore, 1) := by decide +kernel
theorem dX2_addFirstAct_29 : decode cX2_addFirstAct 29 = .ok (.aload_n 0, 1) := by decide +kernel
theorem dX2_addFirstAct_30 : decode cX2_addFirstAct 30 = .ok (.getfield 11, 3) := by decide +kernel
theorem dX2_addFirstAct_33 : decode cX2_addFirstAct 33 = .ok (.iconst 4, 1) := by decide +kernel
theorem dX2_addFirstAct_34 : decode cX2_addFirstAct 34 = .ok (.bipush 55, 2) := by decide +kernel
theorem dX2_addFirstAct_36 : decode cX2_addFirstAct 36 = .ok (.iastore, 1) := by decide +kernel
theorem dX2_addFirstAct_37 : decode cX2_addFirstAct 37 = .ok (.aload_n 0, 1) := by decide +kernel
theorem dX2_addFirstAct_38 : decode cX2_addFirstAct 38 = .ok (.iconst 1, 1) := by decide +kernel
theorem dX2_addFirstAct_39 : decode cX2_addFirstAct 39 = .ok (.putfield 37, 3) := by decide +kernel
theorem dX2_addFirstAct_42 : decode cX2_addFirstAct 42 = .ok (.return_, 1) := by decide +kernel
theorem dX2_numbersBehind_0 : decode cX2_numbersBehind 0 = .ok (.iload_n 0, 1) := by decide +kernel
theorem dX2_numbersBehind_1 : decode cX2_numbersBehind 1 = .ok (.lookupswitch 51 #[(97, 49), (111, 45), (115, 47), (116, 43)], 43) := by decide +kernel
theorem dX2_numbersBehind_44 : decode cX2_numbersBehind 44 = .ok (.iconst 4, 1) := by decide +kernel
theorem dX2_numbersBehind_45 : decode cX2_numbersBehind 45 = .ok (.ireturn, 1) := by decide +kernel
theorem dX2_numbersBehind_46 : decode cX2_numbersBehind 46 = .ok (.iconst 1, 1) := by decide +kernel
theorem dX2_numbersBehind_47 : decode cX2_numbersBehind 47 = .ok (.ireturn, 1) := by decide +kernel
theorem dX2_numbersBehind_48 : decode cX2_numbersBehind 48 = .ok (.iconst 1, 1) := by decide +kernel
theorem dX2_numbersBehind_49 : decode cX2_numbersBehind 49 = .ok (.ireturn, 1) := by decide +kernel
theorem dX2_numbersBehind_50 : decode cX2_numbersBehind 50 = .ok (.iconst 5, 1) := by decide +kernel
theorem dX2_numbersBehind_51 : decode cX2_numbersBehind 51 = .ok (.ireturn, 1) := by decide +kernel
theorem dX2_numbersBehind_52 : decode cX2_numbersBehind 52 = .ok (.iconst 0, 1) := by decide +kernel
theorem dX2_numbersBehind_53 : decode cX2_numbersBehind 53 = .ok (.ireturn, 1) := by decide +kernel
theorem dX2_takeItem_0 : decode cX2_takeItem 0 = .ok (.aload_n 2, 1) := by decide +kernel
theorem dX2_takeItem_1 : decode cX2_takeItem 1 = .ok (.arraylength, 1) := by decide +kernel
theorem dX2_takeItem_2 : decode cX2_takeItem 2 = .ok (.iconst 5, 1) := by decide +kernel
theorem dX2_takeItem_3 : decode cX2_takeItem 3 = .ok (.if_icmp .ge 5, 3) := by decide +kernel
theorem dX2_takeItem_6 : decode cX2_takeItem 6 = .ok (.iconst 0, 1) := by decide +kernel
theorem dX2_takeItem_7 : decode cX2_takeItem 7 = .ok (.ireturn, 1) := by decide +kernel
theorem dX2_takeItem_8 : decode cX2_takeItem 8 = .ok (.iload_n 1, 1) := by decide +kernel
theorem dX2_takeItem_9 : decode cX2_takeItem 9 = .ok (.lookupswitch 82 #[(97, 76), (111, 60), (115, 68), (116, 43)], 43) := by decide +kernel
theorem dX2_takeItem_52 : decode cX2_takeItem 52 = .ok (.aload_n 0, 1) := by decide +kernel
theorem dX2_takeItem_53 : decode cX2_takeItem 53 = .ok (.aload_n 2, 1) := by decide +kernel
theorem dX2_takeItem_54 : decode cX2_takeItem 54 = .ok (.iconst 0, 1) := by decide +kernel
theorem dX2_takeItem_55 : decode cX2_takeItem 55 = .ok (.iaload, 1) := by decide +kernel
theorem dX2_takeItem_56 : decode cX2_takeItem 56 = .ok (.aload_n 2, 1) := by decide +kernel
theorem dX2_takeItem_57 : decode cX2_takeItem 57 = .ok (.iconst 1, 1) := by decide +kernel
theorem dX2_takeItem_58 : decode cX2_takeItem 58 = .ok (.iaload, 1) := by decide +kernel
theorem dX2_takeItem_59 : decode cX2_takeItem 59 = .ok (.aload_n 2, 1) := by decide +kernel
theorem dX2_takeItem_60 : decode cX2_takeItem 60 = .ok (.iconst 2, 1) := by decide +kernel
theorem dX2_takeItem_61 : decode cX2_takeItem 61 = .ok (.iaload, 1) := by decide +kernel
theorem dX2_takeItem_62 : decode cX2_takeItem 62 = .ok (.aload_n 2, 1) := by decide +kernel
theorem dX2_takeItem_63 : decode cX2_takeItem 63 = .ok (.iconst 3, 1) := by decide +kernel
theorem dX2_takeItem_64 : decode cX2_takeItem 64 = .ok (.iaload, 1) := by decide +kernel
theorem dX2_takeItem_65 : decode cX2_takeItem 65 = .ok (.invokevirtual 46, 3) := by decide +kernel
theorem dX2_takeItem_68 : decode cX2_takeItem 68 = .ok (.ireturn, 1) := by decide +kernel
theorem dX2_takeItem_69 : decode cX2_takeItem 69 = .ok (.aload_n 0, 1) := by decide +kernel
theorem dX2_takeItem_70 : decode cX2_takeItem 70 = .ok (.aload_n 2, 1) := by decide +kernel
theorem dX2_takeItem_71 : decode cX2_takeItem 71 = .ok (.iconst 0, 1) := by decide +kernel
theorem dX2_takeItem_72 : decode cX2_takeItem 72 = .ok (.iaload, 1) := by decide +kernel
theorem dX2_takeItem_73 : decode cX2_takeItem 73 = .ok (.invokevirtual 50, 3) := by decide +kernel
theorem dX2_takeItem_76 : decode cX2_takeItem 76 = .ok (.ireturn, 1) := by decide +kernel
theorem dX2_takeItem_77 : decode cX2_takeItem 77 = .ok (.aload_n 0, 1) := by decide +kernel
theorem dX2_takeItem_78 : decode cX2_takeItem 78 = .ok (.aload_n 2, 1) := by decide +kernel
theorem dX2_takeItem_79 : decode cX2_takeItem 79 = .ok (.iconst 0, 1) := by decide +kernel
theorem dX2_takeItem_80 : decode cX2_takeItem 80 = .ok (.iaload, 1) := by decide +kernel
theorem dX2_takeItem_81 : decode cX2_takeItem 81 = .ok (.invokevirtual 54, 3) := by decide +kernel
theorem dX2_takeItem_84 : decode cX2_takeItem 84 = .ok (.ireturn, 1) := by decide +kernel
theorem dX2_takeItem_85 : decode cX2_takeItem 85 = .ok (.aload_n 0, 1) := by decide +kernel
theorem dX2_takeItem_86 : decode cX2_takeItem 86 = .ok (.aload_n 2, 1) := by decide +kernel
theorem dX2_takeItem_87 : decode cX2_takeItem 87 = .ok (.invokevirtual 57, 3) := by decide +kernel
theorem dX2_takeItem_90 : decode cX2_takeItem 90 = .ok (.ireturn, 1) := by decide +kernel
theorem dX2_takeItem_91 : decode cX2_takeItem 91 = .ok (.iconst 0, 1) := by decide +kernel
theorem dX2_takeItem_92 : decode cX2_takeItem 92 = .ok (.ireturn, 1) := by decide +kernel
theorem dX2_takeTide_0 : decode cX2_takeTide 0 = .ok (.iload_n 1, 1) := by decide +kernel
theorem dX2_takeTide_1 : decode cX2_takeTide 1 = .ok (.bipush 20, 2) := by decide +kernel
theorem dX2_takeTide_3 : decode cX2_takeTide 3 = .ok (.if_icmp .lt 29, 3) := by decide +kernel
theorem dX2_takeTide_6 : decode cX2_takeTide 6 = .ok (.iload_n 1, 1) := by decide +kernel
theorem dX2_takeTide_7 : decode cX2_takeTide 7 = .ok (.sipush 999, 3) := by decide +kernel
theorem dX2_takeTide_10 : decode cX2_takeTide 10 = .ok (.if_icmp .gt 22, 3) := by decide +kernel
theorem dX2_takeTide_13 : decode cX2_takeTide 13 = .ok (.iload_n 2, 1) := by decide +kernel
theorem dX2_takeTide_14 : decode cX2_takeTide 14 = .ok (.iconst 1, 1) := by decide +kernel
theorem dX2_takeTide_15 : decode cX2_takeTide 15 = .ok (.if_icmp .lt 17, 3) := by decide +kernel
theorem dX2_takeTide_18 : decode cX2_takeTide 18 = .ok (.iload_n 2, 1) := by decide +kernel
theorem dX2_takeTide_19 : decode cX2_takeTide 19 = .ok (.bipush 20, 2) := by decide +kernel
theorem dX2_takeTide_21 : decode cX2_takeTide 21 = .ok (.if_icmp .gt 11, 3) := by decide +kernel
theorem dX2_takeTide_24 : decode cX2_takeTide 24 = .ok (.iload_n 1, 1) := by decide +kernel
theorem dX2_takeTide_25 : decode cX2_takeTide 25 = .ok (.bipush 20, 2) := by decide +kernel
theorem dX2_takeTide_27 : decode cX2_takeTide 27 = .ok (.iload_n 2, 1) := by decide +kernel
theorem dX2_takeTide_28 : decode cX2_takeTide 28 = .ok (.imul, 1) := by decide +kernel
theorem dX2_takeTide_29 : decode cX2_takeTide 29 = .ok (.if_icmp .ge 5, 3) := by decide +kernel
theorem dX2_takeTide_32 : decode cX2_takeTide 32 = .ok (.iconst 0, 1) := by decide +kernel
theorem dX2_takeTide_33 : decode cX2_takeTide 33 = .ok (.ireturn, 1) := by decide +kernel
theorem dX2_takeTide_34 : decode cX2_takeTide 34 = .ok (.iload 4, 2) := by decide +kernel
theorem dX2_takeTide_36 : decode cX2_takeTide 36 = .ok (.iconst 2, 1) := by decide +kernel
theorem dX2_takeTide_37 : decode cX2_takeTide 37 = .ok (.if_icmp .lt 23, 3) := by decide +kernel
theorem dX2_takeTide_40 : decode cX2_takeTide 40 = .ok (.iload 4, 2) := by decide +kernel
theorem dX2_takeTide_42 : decode cX2_takeTide 42 = .ok (.bipush 20, 2) := by decide +kernel
theorem dX2_takeTide_44 : decode cX2_takeTide 44 = .ok (.if_icmp .gt 16, 3) := by decide +kernel
theorem dX2_takeTide_47 : decode cX2_takeTide 47 = .ok (.iload_n 3, 1) := by decide +kernel
theorem dX2_takeTide_48 : decode cX2_takeTide 48 = .ok (.iconst 1, 1) := by decide +kernel
theorem dX2_takeTide_49 : decode cX2_takeTide 49 = .ok (.if_icmp .lt 11, 3) := by decide +kernel
theorem dX2_takeTide_52 : decode cX2_takeTide 52 = .ok (.iload_n 3, 1) := by decide +kernel
theorem dX2_takeTide_53 : decode cX2_takeTide 53 = .ok (.iload 4, 2) := by decide +kernel
theorem dX2_takeTide_55 : decode cX2_takeTide 55 = .ok (.iconst 1, 1) := by decide +kernel
theorem dX2_takeTide_56 : decode cX2_takeTide 56 = .ok (.isub, 1) := by decide +kernel
theorem dX2_takeTide_57 : decode cX2_takeTide 57 = .ok (.if_icmp .le 5, 3) := by decide +kernel
theorem dX2_takeTide_60 : decode cX2_takeTide 60 = .ok (.iconst 0, 1) := by decide +kernel
theorem dX2_takeTide_61 : decode cX2_takeTide 61 = .ok (.ireturn, 1) := by decide +kernel
theorem dX2_takeTide_62 : decode cX2_takeTide 62 = .ok (.aload_n 0, 1) := by decide +kernel
theorem dX2_takeTide_63 : decode cX2_takeTide 63 = .ok (.iload_n 1, 1) := by decide +kernel
theorem dX2_takeTide_64 : decode cX2_takeTide 64 = .ok (.putfield 18, 3) := by decide +kernel
theorem dX2_takeTide_67 : decode cX2_takeTide 67 = .ok (.aload_n 0, 1) := by decide +kernel
theorem dX2_takeTide_68 : decode cX2_takeTide 68 = .ok (.iload_n 2, 1) := by decide +kernel
theorem dX2_takeTide_69 : decode cX2_takeTide 69 = .ok (.putfield 22, 3) := by decide +kernel
theorem dX2_takeTide_72 : decode cX2_takeTide 72 = .ok (.aload_n 0, 1) := by decide +kernel
theorem dX2_takeTide_73 : decode cX2_takeTide 73 = .ok (.iload_n 3, 1) := by decide +kernel
theorem dX2_takeTide_74 : decode cX2_takeTide 74 = .ok (.putfield 25, 3) := by decide +kernel
theorem dX2_takeTide_77 : decode cX2_takeTide 77 = .ok (.aload_n 0, 1) := by decide +kernel
theorem dX2_takeTide_78 : decode cX2_takeTide 78 = .ok (.iload 4, 2) := by decide +kernel
theorem dX2_takeTide_80 : decode cX2_takeTide 80 = .ok (.putfield 28, 3) := by decide +kernel
theorem dX2_takeTide_83 : decode cX2_takeTide 83 = .ok (.iconst 1, 1) := by decide +kernel
theorem dX2_takeTide_84 : decode cX2_takeTide 84 = .ok (.ireturn, 1) := by decide +kernel
theorem dX2_takeOrigin_0 : decode cX2_takeOrigin 0 = .ok (.iload_n 1, 1) := by decide +kernel
theorem dX2_takeOrigin_1 : decode cX2_takeOrigin 1 = .ok (.ifCond .lt 10, 3) := by decide +kernel
theorem dX2_takeOrigin_4 : decode cX2_takeOrigin 4 = .ok (.iload_n 1, 1) := by decide +kernel
theorem dX2_takeOrigin_5 : decode cX2_takeOrigin 5 = .ok (.sipush 999, 3) := by decide +kernel
theorem dX2_takeOrigin_8 : decode cX2_takeOrigin 8 = .ok (.if_icmp .le 5, 3) := by decide +kernel
theorem dX2_takeOrigin_11 : decode cX2_takeOrigin 11 = .ok (.iconst 0, 1) := by decide +kernel
theorem dX2_takeOrigin_12 : decode cX2_takeOrigin 12 = .ok (.ireturn, 1) := by decide +kernel
theorem dX2_takeOrigin_13 : decode cX2_takeOrigin 13 = .ok (.aload_n 0, 1) := by decide +kernel
theorem dX2_takeOrigin_14 : decode cX2_takeOrigin 14 = .ok (.iload_n 1, 1) := by decide +kernel
theorem dX2_takeOrigin_15 : decode cX2_takeOrigin 15 = .ok (.putfield 31, 3) := by decide +kernel
theorem dX2_takeOrigin_18 : decode cX2_takeOrigin 18 = .ok (.iconst 1, 1) := by decide +kernel
theorem dX2_takeOrigin_19 : decode cX2_takeOrigin 19 = .ok (.ireturn, 1) := by decide +kernel
theorem dX2_takeSilt_0 : decode cX2_takeSilt 0 = .ok (.iload_n 1, 1) := by decide +kernel
theorem dX2_takeSilt_1 : decode cX2_takeSilt 1 = .ok (.ifCond .lt 9, 3) := by decide +kernel
theorem dX2_takeSilt_4 : decode cX2_takeSilt 4 = .ok (.iload_n 1, 1) := by decide +kernel
theorem dX2_takeSilt_5 : decode cX2_takeSilt 5 = .ok (.bipush 99, 2) := by decide +kernel
theorem dX2_takeSilt_7 : decode cX2_takeSilt 7 = .ok (.if_icmp .le 5, 3) := by decide +kernel
theorem dX2_takeSilt_10 : decode cX2_takeSilt 10 = .ok (.iconst 0, 1) := by decide +kernel
theorem dX2_takeSilt_11 : decode cX2_takeSilt 11 = .ok (.ireturn, 1) := by decide +kernel
theorem dX2_takeSilt_12 : decode cX2_takeSilt 12 = .ok (.aload_n 0, 1) := by decide +kernel
theorem dX2_takeSilt_13 : decode cX2_takeSilt 13 = .ok (.iload_n 1, 1) := by decide +kernel
theorem dX2_takeSilt_14 : decode cX2_takeSilt 14 = .ok (.putfield 34, 3) := by decide +kernel
theorem dX2_takeSilt_17 : decode cX2_takeSilt 17 = .ok (.iconst 1, 1) := by decide +kernel
theorem dX2_takeSilt_18 : decode cX2_takeSilt 18 = .ok (.ireturn, 1) := by decide +kernel
theorem dX2_takeAct_0 : decode cX2_takeAct 0 = .ok (.aload_n 0, 1) := by decide +kernel
theorem dX2_takeAct_1 : decode cX2_takeAct 1 = .ok (.getfield 37, 3) := by decide +kernel
theorem dX2_takeAct_4 : decode cX2_takeAct 4 = .ok (.ifCond .lt 18, 3) := by decide +kernel
theorem dX2_takeAct_7 : decode cX2_takeAct 7 = .ok (.aload_n 0, 1) := by decide +kernel
theorem dX2_takeAct_8 : decode cX2_takeAct 8 = .ok (.getfield 37, 3) := by decide +kernel
theorem dX2_takeAct_11 : decode cX2_takeAct 11 = .ok (.bipush 6, 2) := by decide +kernel
theorem dX2_takeAct_13 : decode cX2_takeAct 13 = .ok (.if_icmp .ge 9, 3) := by decide +kernel
theorem dX2_takeAct_16 : decode cX2_takeAct 16 = .ok (.aload_n 1, 1) := by decide +kernel
theorem dX2_takeAct_17 : decode cX2_takeAct 17 = .ok (.arraylength, 1) := by decide +kernel
theorem dX2_takeAct_18 : decode cX2_takeAct 18 = .ok (.iconst 5, 1) := by decide +kernel
theorem dX2_takeAct_19 : decode cX2_takeAct 19 = .ok (.if_icmp .ge 5, 3) := by decide +kernel
theorem dX2_takeAct_22 : decode cX2_takeAct 22 = .ok (.iconst 0, 1) := by decide +kernel
theorem dX2_takeAct_23 : decode cX2_takeAct 23 = .ok (.ireturn, 1) := by decide +kernel
theorem dX2_takeAct_24 : decode cX2_takeAct 24 = .ok (.aload_n 1, 1) := by decide +kernel
theorem dX2_takeAct_25 : decode cX2_takeAct 25 = .ok (.iconst 0, 1) := by decide +kernel
theorem dX2_takeAct_26 : decode cX2_takeAct 26 = .ok (.iaload, 1) := by decide +kernel
theorem dX2_takeAct_27 : decode cX2_takeAct 27 = .ok (.iconst 4, 1) := by decide +kernel
theorem dX2_takeAct_28 : decode cX2_takeAct 28 = .ok (.if_icmp .gt 25, 3) := by decide +kernel
theorem dX2_takeAct_31 : decode cX2_takeAct 31 = .ok (.aload_n 1, 1) := by decide +kernel
theorem dX2_takeAct_32 : decode cX2_takeAct 32 = .ok (.iconst 1, 1) := by decide +kernel
theorem dX2_takeAct_33 : decode cX2_takeAct 33 = .ok (.iaload, 1) := by decide +kernel
theorem dX2_takeAct_34 : decode cX2_takeAct 34 = .ok (.iconst 3, 1) := by decide +kernel
theorem dX2_takeAct_35 : decode cX2_takeAct 35 = .ok (.if_icmp .gt 18, 3) := by decide +kernel
theorem dX2_takeAct_38 : decode cX2_takeAct 38 = .ok (.aload_n 1, 1) := by decide +kernel
theorem dX2_takeAct_39 : decode cX2_takeAct 39 = .ok (.iconst 2, 1) := by decide +kernel
theorem dX2_takeAct_40 : decode cX2_takeAct 40 = .ok (.iaload, 1) := by decide +kernel
theorem dX2_takeAct_41 : decode cX2_takeAct 41 = .ok (.iconst 1, 1) := by decide +kernel
theorem dX2_takeAct_42 : decode cX2_takeAct 42 = .ok (.if_icmp .lt 11, 3) := by decide +kernel
theorem dX2_takeAct_45 : decode cX2_takeAct 45 = .ok (.aload_n 1, 1) := by decide +kernel
theorem dX2_takeAct_46 : decode cX2_takeAct 46 = .ok (.iconst 2, 1) := by decide +kernel
theorem dX2_takeAct_47 : decode cX2_takeAct 47 = .ok (.iaload, 1) := by decide +kernel
theorem dX2_takeAct_48 : decode cX2_takeAct 48 = .ok (.bipush 99, 2) := by decide +kernel
theorem dX2_takeAct_50 : decode cX2_takeAct 50 = .ok (.if_icmp .le 5, 3) := by decide +kernel
theorem dX2_takeAct_53 : decode cX2_takeAct 53 = .ok (.iconst 0, 1) := by decide +kernel
theorem dX2_takeAct_54 : decode cX2_takeAct 54 = .ok (.ireturn, 1) := by decide +kernel
theorem dX2_takeAct_55 : decode cX2_takeAct 55 = .ok (.aload_n 1, 1) := by decide +kernel
theorem dX2_takeAct_56 : decode cX2_takeAct 56 = .ok (.iconst 3, 1) := by decide +kernel
theorem dX2_takeAct_57 : decode cX2_takeAct 57 = .ok (.iaload, 1) := by decide +kernel
theorem dX2_takeAct_58 : decode cX2_takeAct 58 = .ok (.bipush 99, 2) := by decide +kernel
theorem dX2_takeAct_60 : decode cX2_takeAct 60 = .ok (.if_icmp .gt 11, 3) := by decide +kernel
theorem dX2_takeAct_63 : decode cX2_takeAct 63 = .ok (.aload_n 1, 1) := by decide +kernel
theorem dX2_takeAct_64 : decode cX2_takeAct 64 = .ok (.iconst 4, 1) := by decide +kernel
theorem dX2_takeAct_65 : decode cX2_takeAct 65 = .ok (.iaload, 1) := by decide +kernel
theorem dX2_takeAct_66 : decode cX2_takeAct 66 = .ok (.bipush 99, 2) := by decide +kernel
theorem dX2_takeAct_68 : decode cX2_takeAct 68 = .ok (.if_icmp .le 5, 3) := by decide +kernel
theorem dX2_takeAct_71 : decode cX2_takeAct 71 = .ok (.iconst 0, 1) := by decide +kernel
theorem dX2_takeAct_72 : decode cX2_takeAct 72 = .ok (.ireturn, 1) := by decide +kernel
theorem dX2_takeAct_73 : decode cX2_takeAct 73 = .ok (.aload_n 1, 1) := by decide +kernel
theorem dX2_takeAct_74 : decode cX2_takeAct 74 = .ok (.iconst 0, 1) := by decide +kernel
theorem dX2_takeAct_75 : decode cX2_takeAct 75 = .ok (.aload_n 0, 1) := by decide +kernel
theorem dX2_takeAct_76 : decode cX2_takeAct 76 = .ok (.getfield 11, 3) := by decide +kernel
theorem dX2_takeAct_79 : decode cX2_takeAct 79 = .ok (.aload_n 0, 1) := by decide +kernel
theorem dX2_takeAct_80 : decode cX2_takeAct 80 = .ok (.getfield 37, 3) := by decide +kernel
theorem dX2_takeAct_83 : decode cX2_takeAct 83 = .ok (.iconst 5, 1) := by decide +kernel
theorem dX2_takeAct_84 : decode cX2_takeAct 84 = .ok (.imul, 1) := by decide +kernel
theorem dX2_takeAct_85 : decode cX2_takeAct 85 = .ok (.iconst 5, 1) := by decide +kernel
theorem dX2_takeAct_86 : decode cX2_takeAct 86 = .ok (.invokestatic 40, 3) := by decide +kernel
theorem dX2_takeAct_89 : decode cX2_takeAct 89 = .ok (.aload_n 0, 1) := by decide +kernel
theorem dX2_takeAct_90 : decode cX2_takeAct 90 = .ok (.dup, 1) := by decide +kernel
theorem dX2_takeAct_91 : decode cX2_takeAct 91 = .ok (.getfield 37, 3) := by decide +kernel
theorem dX2_takeAct_94 : decode cX2_takeAct 94 = .ok (.iconst 1, 1) := by decide +kernel
theorem dX2_takeAct_95 : decode cX2_takeAct 95 = .ok (.iadd, 1) := by decide +kernel
theorem dX2_takeAct_96 : decode cX2_takeAct 96 = .ok (.putfield 37, 3) := by decide +kernel
theorem dX2_takeAct_99 : decode cX2_takeAct 99 = .ok (.iconst 1, 1) := by decide +kernel
theorem dX2_takeAct_100 : decode cX2_takeAct 100 = .ok (.ireturn, 1) := by decide +kernel
theorem dX2_numberOf_0 : decode cX2_numberOf 0 = .ok (.iload_n 1, 1) := by decide +kernel
theorem dX2_numberOf_1 : decode cX2_numberOf 1 = .ok (.iconst 5, 1) := by decide +kernel
theorem dX2_numberOf_2 : decode cX2_numberOf 2 = .ok (.imul, 1) := by decide +kernel
theorem dX2_numberOf_3 : decode cX2_numberOf 3 = .ok (.iload_n 2, 1) := by decide +kernel
theorem dX2_numberOf_4 : decode cX2_numberOf 4 = .ok (.iadd, 1) := by decide +kernel
theorem dX2_numberOf_5 : decode cX2_numberOf 5 = .ok (.istore_n 3, 1) := by decide +kernel
theorem dX2_numberOf_6 : decode cX2_numberOf 6 = .ok (.iload_n 3, 1) := by decide +kernel
theorem dX2_numberOf_7 : decode cX2_numberOf 7 = .ok (.ifCond .lt 21, 3) := by decide +kernel
theorem dX2_numberOf_10 : decode cX2_numberOf 10 = .ok (.iload_n 3, 1) := by decide +kernel
theorem dX2_numberOf_11 : decode cX2_numberOf 11 = .ok (.aload_n 0, 1) := by decide +kernel
theorem dX2_numberOf_12 : decode cX2_numberOf 12 = .ok (.getfield 11, 3) := by decide +kernel
theorem dX2_numberOf_15 : decode cX2_numberOf 15 = .ok (.arraylength, 1) := by decide +kernel
theorem dX2_numberOf_16 : decode cX2_numberOf 16 = .ok (.if_icmp .ge 12, 3) := by decide +kernel
theorem dX2_numberOf_19 : decode cX2_numberOf 19 = .ok (.aload_n 0, 1) := by decide +kernel
theorem dX2_numberOf_20 : decode cX2_numberOf 20 = .ok (.getfield 11, 3) := by decide +kernel
theorem dX2_numberOf_23 : decode cX2_numberOf 23 = .ok (.iload_n 3, 1) := by decide +kernel
theorem dX2_numberOf_24 : decode cX2_numberOf 24 = .ok (.iaload, 1) := by decide +kernel
theorem dX2_numberOf_25 : decode cX2_numberOf 25 = .ok (.goto 4, 3) := by decide +kernel
theorem dX2_numberOf_28 : decode cX2_numberOf 28 = .ok (.iconst 0, 1) := by decide +kernel
theorem dX2_numberOf_29 : decode cX2_numberOf 29 = .ok (.ireturn, 1) := by decide +kernel
theorem dX2_worth_0 : decode cX2_worth 0 = .ok (.aload_n 0, 1) := by decide +kernel
theorem dX2_worth_1 : decode cX2_worth 1 = .ok (.iload_n 1, 1) := by decide +kernel
theorem dX2_worth_2 : decode cX2_worth 2 = .ok (.iload_n 2, 1) := by decide +kernel
theorem dX2_worth_3 : decode cX2_worth 3 = .ok (.ifCond .ne 7, 3) := by decide +kernel
theorem dX2_worth_6 : decode cX2_worth 6 = .ok (.iconst 3, 1) := by decide +kernel
theorem dX2_worth_7 : decode cX2_worth 7 = .ok (.goto 4, 3) := by decide +kernel
theorem dX2_worth_10 : decode cX2_worth 10 = .ok (.iconst 4, 1) := by decide +kernel
theorem dX2_worth_11 : decode cX2_worth 11 = .ok (.invokevirtual 61, 3) := by decide +kernel
theorem dX2_worth_14 : decode cX2_worth 14 = .ok (.bipush 50, 2) := by decide +kernel
theorem dX2_worth_16 : decode cX2_worth 16 = .ok (.isub, 1) := by decide +kernel
theorem dX2_worth_17 : decode cX2_worth 17 = .ok (.ireturn, 1) := by decide +kernel
theorem dX2_minutesTaken_0 : decode cX2_minutesTaken 0 = .ok (.aload_n 0, 1) := by decide +kernel
theorem dX2_minutesTaken_1 : decode cX2_minutesTaken 1 = .ok (.iload_n 1, 1) := by decide +kernel
theorem dX2_minutesTaken_2 : decode cX2_minutesTaken 2 = .ok (.iconst 0, 1) := by decide +kernel
theorem dX2_minutesTaken_3 : decode cX2_minutesTaken 3 = .ok (.invokevirtual 61, 3) := by decide +kernel
theorem dX2_minutesTaken_6 : decode cX2_minutesTaken 6 = .ok (.istore_n 2, 1) := by decide +kernel
theorem dX2_minutesTaken_7 : decode cX2_minutesTaken 7 = .ok (.iload_n 2, 1) := by decide +kernel
theorem dX2_minutesTaken_8 : decode cX2_minutesTaken 8 = .ok (.iconst 1, 1) := by decide +kernel
theorem dX2_minutesTaken_9 : decode cX2_minutesTaken 9 = .ok (.if_icmp .eq 8, 3) := by decide +kernel
theorem dX2_minutesTaken_12 : decode cX2_minutesTaken 12 = .ok (.iload_n 2, 1) := by decide +kernel
theorem dX2_minutesTaken_13 : decode cX2_minutesTaken 13 = .ok (.iconst 2, 1) := by decide +kernel
theorem dX2_minutesTaken_14 : decode cX2_minutesTaken 14 = .ok (.if_icmp .ne 12, 3) := by decide +kernel
theorem dX2_minutesTaken_17 : decode cX2_minutesTaken 17 = .ok (.aload_n 0, 1) := by decide +kernel
theorem dX2_minutesTaken_18 : decode cX2_minutesTaken 18 = .ok (.iload_n 1, 1) := by decide +kernel
theorem dX2_minutesTaken_19 : decode cX2_minutesTaken 19 = .ok (.iconst 2, 1) := by decide +kernel
theorem dX2_minutesTaken_20 : decode cX2_minutesTaken 20 = .ok (.invokevirtual 61, 3) := by decide +kernel
theorem dX2_minutesTaken_23 : decode cX2_minutesTaken 23 = .ok (.goto 4, 3) := by decide +kernel
theorem dX2_minutesTaken_26 : decode cX2_minutesTaken 26 = .ok (.iconst 1, 1) := by decide +kernel
theorem dX2_minutesTaken_27 : decode cX2_minutesTaken 27 = .ok (.ireturn, 1) := by decide +kernel
theorem dX2_toldLaws_0 : decode cX2_toldLaws 0 = .ok (.iconst 0, 1) := by decide +kernel
theorem dX2_toldLaws_1 : decode cX2_toldLaws 1 = .ok (.istore_n 1, 1) := by decide +kernel
theorem dX2_toldLaws_2 : decode cX2_toldLaws 2 = .ok (.iconst 0, 1) := by decide +kernel
theorem dX2_toldLaws_3 : decode cX2_toldLaws 3 = .ok (.istore_n 2, 1) := by decide +kernel
theorem dX2_toldLaws_4 : decode cX2_toldLaws 4 = .ok (.iload_n 2, 1) := by decide +kernel
theorem dX2_toldLaws_5 : decode cX2_toldLaws 5 = .ok (.aload_n 0, 1) := by decide +kernel
theorem dX2_toldLaws_6 : decode cX2_toldLaws 6 = .ok (.getfield 37, 3) := by decide +kernel
theorem dX2_toldLaws_9 : decode cX2_toldLaws 9 = .ok (.if_icmp .ge 22, 3) := by decide +kernel
theorem dX2_toldLaws_12 : decode cX2_toldLaws 12 = .ok (.iload_n 1, 1) := by decide +kernel
theorem dX2_toldLaws_13 : decode cX2_toldLaws 13 = .ok (.iload_n 2, 1) := by decide +kernel
theorem dX2_toldLaws_14 : decode cX2_toldLaws 14 = .ok (.aload_n 0, 1) := by decide +kernel
theorem dX2_toldLaws_15 : decode cX2_toldLaws 15 = .ok (.iload_n 2, 1) := by decide +kernel
theorem dX2_toldLaws_16 : decode cX2_toldLaws 16 = .ok (.iconst 1, 1) := by decide +kernel
theorem dX2_toldLaws_17 : decode cX2_toldLaws 17 = .ok (.invokevirtual 61, 3) := by decide +kernel
theorem dX2_toldLaws_20 : decode cX2_toldLaws 20 = .ok (.invokestatic 65, 3) := by decide +kernel
theorem dX2_toldLaws_23 : decode cX2_toldLaws 23 = .ok (.ior, 1) := by decide +kernel
theorem dX2_toldLaws_24 : decode cX2_toldLaws 24 = .ok (.istore_n 1, 1) := by decide +kernel
theorem dX2_toldLaws_25 : decode cX2_toldLaws 25 = .ok (.iinc 2 1, 3) := by decide +kernel
theorem dX2_toldLaws_28 : decode cX2_toldLaws 28 = .ok (.goto (-24), 3) := by decide +kernel
theorem dX2_toldLaws_31 : decode cX2_toldLaws 31 = .ok (.iload_n 1, 1) := by decide +kernel
theorem dX2_toldLaws_32 : decode cX2_toldLaws 32 = .ok (.ireturn, 1) := by decide +kernel
theorem dX2_partsOfMinute_0 : decode cX2_partsOfMinute 0 = .ok (.iconst 1, 1) := by decide +kernel
theorem dX2_partsOfMinute_1 : decode cX2_partsOfMinute 1 = .ok (.aload_n 0, 1) := by decide +kernel
theorem dX2_partsOfMinute_2 : decode cX2_partsOfMinute 2 = .ok (.getfield 22, 3) := by decide +kernel
theorem dX2_partsOfMinute_5 : decode cX2_partsOfMinute 5 = .ok (.aload_n 0, 1) := by decide +kernel
theorem dX2_partsOfMinute_6 : decode cX2_partsOfMinute 6 = .ok (.getfield 28, 3) := by decide +kernel
theorem dX2_partsOfMinute_9 : decode cX2_partsOfMinute 9 = .ok (.imul, 1) := by decide +kernel
theorem dX2_partsOfMinute_10 : decode cX2_partsOfMinute 10 = .ok (.invokestatic 68, 3) := by decide +kernel
theorem dX2_partsOfMinute_13 : decode cX2_partsOfMinute 13 = .ok (.ireturn, 1) := by decide +kernel
theorem dX2_partsOfTide_0 : decode cX2_partsOfTide 0 = .ok (.iconst 1, 1) := by decide +kernel
theorem dX2_partsOfTide_1 : decode cX2_partsOfTide 1 = .ok (.aload_n 0, 1) := by decide +kernel
theorem dX2_partsOfTide_2 : decode cX2_partsOfTide 2 = .ok (.getfield 18, 3) := by decide +kernel
theorem dX2_partsOfTide_5 : decode cX2_partsOfTide 5 = .ok (.aload_n 0, 1) := by decide +kernel
theorem dX2_partsOfTide_6 : decode cX2_partsOfTide 6 = .ok (.getfield 28, 3) := by decide +kernel
theorem dX2_partsOfTide_9 : decode cX2_partsOfTide 9 = .ok (.imul, 1) := by decide +kernel
theorem dX2_partsOfTide_10 : decode cX2_partsOfTide 10 = .ok (.invokestatic 68, 3) := by decide +kernel
theorem dX2_partsOfTide_13 : decode cX2_partsOfTide 13 = .ok (.ireturn, 1) := by decide +kernel
theorem dX2_partsOfHigh_0 : decode cX2_partsOfHigh 0 = .ok (.aload_n 0, 1) := by decide +kernel
theorem dX2_partsOfHigh_1 : decode cX2_partsOfHigh 1 = .ok (.getfield 18, 3) := by decide +kernel
theorem dX2_partsOfHigh_4 : decode cX2_partsOfHigh 4 = .ok (.aload_n 0, 1) := by decide +kernel
theorem dX2_partsOfHigh_5 : decode cX2_partsOfHigh 5 = .ok (.getfield 25, 3) := by decide +kernel
theorem dX2_partsOfHigh_8 : decode cX2_partsOfHigh 8 = .ok (.imul, 1) := by decide +kernel
theorem dX2_partsOfHigh_9 : decode cX2_partsOfHigh 9 = .ok (.ireturn, 1) := by decide +kernel
theorem dX2_minutesOfRound_0 : decode cX2_minutesOfRound 0 = .ok (.iconst 1, 1) := by decide +kernel
theorem dX2_minutesOfRound_1 : decode cX2_minutesOfRound 1 = .ok (.aload_n 0, 1) := by decide +kernel
theorem dX2_minutesOfRound_2 : decode cX2_minutesOfRound 2 = .ok (.getfield 18, 3) := by decide +kernel
theorem dX2_minutesOfRound_5 : decode cX2_minutesOfRound 5 = .ok (.invokestatic 68, 3) := by decide +kernel
theorem dX2_minutesOfRound_8 : decode cX2_minutesOfRound 8 = .ok (.ireturn, 1) := by decide +kernel
theorem dX2_partsBehindBegin_0 : decode cX2_partsBehindBegin 0 = .ok (.lload_n 1, 1) := by decide +kernel
theorem dX2_partsBehindBegin_1 : decode cX2_partsBehindBegin 1 = .ok (.aload_n 0, 1) := by decide +kernel
theorem dX2_partsBehindBegin_2 : decode cX2_partsBehindBegin 2 = .ok (.getfield 31, 3) := by decide +kernel
theorem dX2_partsBehindBegin_5 : decode cX2_partsBehindBegin 5 = .ok (.i2l, 1) := by decide +kernel
theorem dX2_partsBehindBegin_6 : decode cX2_partsBehindBegin 6 = .ok (.lsub, 1) := by decide +kernel
theorem dX2_partsBehindBegin_7 : decode cX2_partsBehindBegin 7 = .ok (.aload_n 0, 1) := by decide +kernel
theorem dX2_partsBehindBegin_8 : decode cX2_partsBehindBegin 8 = .ok (.getfield 34, 3) := by decide +kernel
theorem dX2_partsBehindBegin_11 : decode cX2_partsBehindBegin 11 = .ok (.i2l, 1) := by decide +kernel
theorem dX2_partsBehindBegin_12 : decode cX2_partsBehindBegin 12 = .ok (.iload_n 3, 1) := by decide +kernel
theorem dX2_partsBehindBegin_13 : decode cX2_partsBehindBegin 13 = .ok (.i2l, 1) := by decide +kernel
theorem dX2_partsBehindBegin_14 : decode cX2_partsBehindBegin 14 = .ok (.lmul, 1) := by decide +kernel
theorem dX2_partsBehindBegin_15 : decode cX2_partsBehindBegin 15 = .ok (.lsub, 1) := by decide +kernel
theorem dX2_partsBehindBegin_16 : decode cX2_partsBehindBegin 16 = .ok (.lstore 4, 2) := by decide +kernel
theorem dX2_partsBehindBegin_18 : decode cX2_partsBehindBegin 18 = .ok (.lload 4, 2) := by decide +kernel
theorem dX2_partsBehindBegin_20 : decode cX2_partsBehindBegin 20 = .ok (.aload_n 0, 1) := by decide +kernel
theorem dX2_partsBehindBegin_21 : decode cX2_partsBehindBegin 21 = .ok (.invokevirtual 73, 3) := by decide +kernel
theorem dX2_partsBehindBegin_24 : decode cX2_partsBehindBegin 24 = .ok (.i2l, 1) := by decide +kernel
theorem dX2_partsBehindBegin_25 : decode cX2_partsBehindBegin 25 = .ok (.lmul, 1) := by decide +kernel
theorem dX2_partsBehindBegin_26 : decode cX2_partsBehindBegin 26 = .ok (.aload_n 0, 1) := by decide +kernel
theorem dX2_partsBehindBegin_27 : decode cX2_partsBehindBegin 27 = .ok (.invokevirtual 77, 3) := by decide +kernel
theorem dX2_partsBehindBegin_30 : decode cX2_partsBehindBegin 30 = .ok (.i2l, 1) := by decide +kernel
theorem dX2_partsBehindBegin_31 : decode cX2_partsBehindBegin 31 = .ok (.invokestatic 80, 3) := by decide +kernel
theorem dX2_partsBehindBegin_34 : decode cX2_partsBehindBegin 34 = .ok (.lreturn, 1) := by decide +kernel
theorem dX3_init_0 : decode cX3_init 0 = .ok (.aload_n 0, 1) := by decide +kernel
theorem dX3_init_1 : decode cX3_init 1 = .ok (.invokespecial 1, 3) := by decide +kernel
theorem dX3_init_4 : decode cX3_init 4 = .ok (.return_, 1) := by decide +kernel
theorem dX3_startOver_0 : decode cX3_startOver 0 = .ok (.aload_n 0, 1) := by decide +kernel
theorem dX3_startOver_1 : decode cX3_startOver 1 = .ok (.lconst 0, 1) := by decide +kernel
theorem dX3_startOver_2 : decode cX3_startOver 2 = .ok (.putfield 7, 3) := by decide +kernel
theorem dX3_startOver_5 : decode cX3_startOver 5 = .ok (.aload_n 0, 1) := by decide +kernel
theorem dX3_startOver_6 : decode cX3_startOver 6 = .ok (.iconst 0, 1) := by decide +kernel
theorem dX3_startOver_7 : decode cX3_startOver 7 = .ok (.putfield 13, 3) := by decide +kernel
theorem dX3_startOver_10 : decode cX3_startOver 10 = .ok (.aload_n 0, 1) := by decide +kernel
theorem dX3_startOver_11 : decode cX3_startOver 11 = .ok (.iconst 0, 1) := by decide +kernel
theorem dX3_startOver_12 : decode cX3_startOver 12 = .ok (.putfield 17, 3) := by decide +kernel
theorem dX3_startOver_15 : decode cX3_startOver 15 = .ok (.aload_n 0, 1) := by decide +kernel
theorem dX3_startOver_16 : decode cX3_startOver 16 = .ok (.iconst 0, 1) := by decide +kernel
theorem dX3_startOver_17 : decode cX3_startOver 17 = .ok (.putfield 20, 3) := by decide +kernel
theorem dX3_startOver_20 : decode cX3_startOver 20 = .ok (.aload_n 0, 1) := by decide +kernel
theorem dX3_startOver_21 : decode cX3_startOver 21 = .ok (.iload_n 1, 1) := by decide +kernel
theorem dX3_startOver_22 : decode cX3_startOver 22 = .ok (.putfield 23, 3) := by decide +kernel
theorem dX3_startOver_25 : decode cX3_startOver 25 = .ok (.return_, 1) := by decide +kernel
theorem dX4_init_0 : decode cX4_init 0 = .ok (.aload_n 0, 1) := by decide +kernel
theorem dX4_init_1 : decode cX4_init 1 = .ok (.invokespecial 3, 3) := by decide +kernel
theorem dX4_init_4 : decode cX4_init 4 = .ok (.aload_n 0, 1) := by decide +kernel
theorem dX4_init_5 : decode cX4_init 5 = .ok (.sipush 400, 3) := by decide +kernel
theorem dX4_init_8 : decode cX4_init 8 = .ok (.newarray .byte, 2) := by decide +kernel
theorem dX4_init_10 : decode cX4_init 10 = .ok (.putfield 11, 3) := by decide +kernel
theorem dX4_init_13 : decode cX4_init 13 = .ok (.aload_n 0, 1) := by decide +kernel
theorem dX4_init_14 : decode cX4_init 14 = .ok (.iconst 5, 1) := by decide +kernel
theorem dX4_init_15 : decode cX4_init 15 = .ok (.newarray .int, 2) := by decide +kernel
theorem dX4_init_17 : decode cX4_init 17 = .ok (.putfield 17, 3) := by decide +kernel
theorem dX4_init_20 : decode cX4_init 20 = .ok (.return_, 1) := by decide +kernel
theorem dX4_append_0 : decode cX4_append 0 = .ok (.aload_n 0, 1) := by decide +kernel
theorem dX4_append_1 : decode cX4_append 1 = .ok (.getfield 21, 3) := by decide +kernel
theorem dX4_append_4 : decode cX4_append 4 = .ok (.iload_n 1, 1) := by decide +kernel
theorem dX4_append_5 : decode cX4_append 5 = .ok (.iadd, 1) := by decide +kernel
theorem dX4_append_6 : decode cX4_append 6 = .ok (.aload_n 0, 1) := by decide +kernel
theorem dX4_append_7 : decode cX4_append 7 = .ok (.getfield 11, 3) := by decide +kernel
theorem dX4_append_10 : decode cX4_append 10 = .ok (.arraylength, 1) := by decide +kernel
theorem dX4_append_11 : decode cX4_append 11 = .ok (.if_icmp .le 5, 3) := by decide +kernel
theorem dX4_append_14 : decode cX4_append 14 = .ok (.iconst 0, 1) := by decide +kernel
theorem dX4_append_15 : decode cX4_append 15 = .ok (.ireturn, 1) := by decide +kernel
theorem dX4_append_16 : decode cX4_append 16 = .ok (.iload_n 1, 1) := by decide +kernel
theorem dX4_append_17 : decode cX4_append 17 = .ok (.iconst 1, 1) := by decide +kernel
theorem dX4_append_18 : decode cX4_append 18 = .ok (.isub, 1) := by decide +kernel
theorem dX4_append_19 : decode cX4_append 19 = .ok (.istore 4, 2) := by decide +kernel
theorem dX4_append_21 : decode cX4_append 21 = .ok (.iload 4, 2) := by decide +kernel
theorem dX4_append_23 : decode cX4_append 23 = .ok (.ifCond .lt 37, 3) := by decide +kernel
theorem dX4_append_26 : decode cX4_append 26 = .ok (.aload_n 0, 1) := by decide +kernel
theorem dX4_append_27 : decode cX4_append 27 = .ok (.getfield 11, 3) := by decide +kernel
theorem dX4_append_30 : decode cX4_append 30 = .ok (.aload_n 0, 1) := by decide +kernel
theorem dX4_append_31 : decode cX4_append 31 = .ok (.getfield 21, 3) := by decide +kernel
theorem dX4_append_34 : decode cX4_append 34 = .ok (.lload_n 2, 1) := by decide +kernel
theorem dX4_append_35 : decode cX4_append 35 = .ok (.bipush 8, 2) := by decide +kernel
theorem dX4_append_37 : decode cX4_append 37 = .ok (.iload 4, 2) := by decide +kernel
theorem dX4_append_39 : decode cX4_append 39 = .ok (.imul, 1) := by decide +kernel
theorem dX4_append_40 : decode cX4_append 40 = .ok (.lushr, 1) := by decide +kernel
theorem dX4_append_41 : decode cX4_append 41 = .ok (.l2i, 1) := by decide +kernel
theorem dX4_append_42 : decode cX4_append 42 = .ok (.i2b, 1) := by decide +kernel
theorem dX4_append_43 : decode cX4_append 43 = .ok (.bastore, 1) := by decide +kernel
theorem dX4_append_44 : decode cX4_append 44 = .ok (.aload_n 0, 1) := by decide +kernel
theorem dX4_append_45 : decode cX4_append 45 = .ok (.dup, 1) := by decide +kernel
theorem dX4_append_46 : decode cX4_append 46 = .ok (.getfield 21, 3) := by decide +kernel
theorem dX4_append_49 : decode cX4_append 49 = .ok (.iconst 1, 1) := by decide +kernel
theorem dX4_append_50 : decode cX4_append 50 = .ok (.iadd, 1) := by decide +kernel
theorem dX4_append_51 : decode cX4_append 51 = .ok (.putfield 21, 3) := by decide +kernel
theorem dX4_append_54 : decode cX4_append 54 = .ok (.iinc 4 (-1), 3) := by decide +kernel
theorem dX4_append_57 : decode cX4_append 57 = .ok (.goto (-36), 3) := by decide +kernel
theorem dX4_append_60 : decode cX4_append 60 = .ok (.iconst 1, 1) := by decide +kernel
theorem dX4_append_61 : decode cX4_append 61 = .ok (.ireturn, 1) := by decide +kernel
theorem dX4_readInto_0 : decode cX4_readInto 0 = .ok (.aload_n 1, 1) := by decide +kernel
theorem dX4_readInto_1 : decode cX4_readInto 1 = .ok (.invokevirtual 25, 3) := by decide +kernel
theorem dX4_readInto_4 : decode cX4_readInto 4 = .ok (.iconst 0, 1) := by decide +kernel
theorem dX4_readInto_5 : decode cX4_readInto 5 = .ok (.istore_n 2, 1) := by decide +kernel
theorem dX4_readInto_6 : decode cX4_readInto 6 = .ok (.iconst 0, 1) := by decide +kernel
theorem dX4_readInto_7 : decode cX4_readInto 7 = .ok (.istore_n 3, 1) := by decide +kernel
theorem dX4_readInto_8 : decode cX4_readInto 8 = .ok (.iload_n 3, 1) := by decide +kernel
theorem dX4_readInto_9 : decode cX4_readInto 9 = .ok (.sipush 400, 3) := by decide +kernel
theorem dX4_readInto_12 : decode cX4_readInto 12 = .ok (.if_icmp .ge 52, 3) := by decide +kernel
theorem dX4_readInto_15 : decode cX4_readInto 15 = .ok (.iload_n 2, 1) := by decide +kernel
theorem dX4_readInto_16 : decode cX4_readInto 16 = .ok (.aload_n 0, 1) := by decide +kernel
theorem dX4_readInto_17 : decode cX4_readInto 17 = .ok (.getfield 21, 3) := by decide +kernel
theorem dX4_readInto_20 : decode cX4_readInto 20 = .ok (.if_icmp .ge 44, 3) := by decide +kernel
theorem dX4_readInto_23 : decode cX4_readInto 23 = .ok (.aload_n 0, 1) := by decide +kernel
theorem dX4_readInto_24 : decode cX4_readInto 24 = .ok (.iload_n 2, 1) := by decide +kernel
theorem dX4_readInto_25 : decode cX4_readInto 25 = .ok (.invokevirtual 28, 3) := by decide +kernel
theorem dX4_readInto_28 : decode cX4_readInto 28 = .ok (.istore 4, 2) := by decide +kernel
theorem dX4_readInto_30 : decode cX4_readInto 30 = .ok (.iload 4, 2) := by decide +kernel
theorem dX4_readInto_32 : decode cX4_readInto 32 = .ok (.bipush (-4), 2) := by decide +kernel
theorem dX4_readInto_34 : decode cX4_readInto 34 = .ok (.if_icmp .eq 19, 3) := by decide +kernel
theorem dX4_readInto_37 : decode cX4_readInto 37 = .ok (.aload_n 1, 1) := by decide +kernel
theorem dX4_readInto_38 : decode cX4_readInto 38 = .ok (.aload_n 0, 1) := by decide +kernel
theorem dX4_readInto_39 : decode cX4_readInto 39 = .ok (.iload_n 2, 1) := by decide +kernel
theorem dX4_readInto_40 : decode cX4_readInto 40 = .ok (.invokevirtual 32, 3) := by decide +kernel
theorem dX4_readInto_43 : decode cX4_readInto 43 = .ok (.aload_n 0, 1) := by decide +kernel
theorem dX4_readInto_44 : decode cX4_readInto 44 = .ok (.getfield 17, 3) := by decide +kernel
theorem dX4_readInto_47 : decode cX4_readInto 47 = .ok (.invokevirtual 35, 3) := by decide +kernel
theorem dX4_readInto_50 : decode cX4_readInto 50 = .ok (.ifCond .ne 5, 3) := by decide +kernel
theorem dX4_readInto_53 : decode cX4_readInto 53 = .ok (.iload_n 2, 1) := by decide +kernel
theorem dX4_readInto_54 : decode cX4_readInto 54 = .ok (.ireturn, 1) := by decide +kernel
theorem dX4_readInto_55 : decode cX4_readInto 55 = .ok (.iload 4, 2) := by decide +kernel
theorem dX4_readInto_57 : decode cX4_readInto 57 = .ok (.istore_n 2, 1) := by decide +kernel
theorem dX4_readInto_58 : decode cX4_readInto 58 = .ok (.iinc 3 1, 3) := by decide +kernel
theorem dX4_readInto_61 : decode cX4_readInto 61 = .ok (.goto (-53), 3) := by decide +kernel
theorem dX4_readInto_64 : decode cX4_readInto 64 = .ok (.bipush (-4), 2) := by decide +kernel
theorem dX4_readInto_66 : decode cX4_readInto 66 = .ok (.ireturn, 1) := by decide +kernel
theorem dX4_readItem_0 : decode cX4_readItem 0 = .ok (.aload_n 0, 1) := by decide +kernel
theorem dX4_readItem_1 : decode cX4_readItem 1 = .ok (.iload_n 1, 1) := by decide +kernel
theorem dX4_readItem_2 : decode cX4_readItem 2 = .ok (.invokevirtual 32, 3) := by decide +kernel
theorem dX4_readItem_5 : decode cX4_readItem 5 = .ok (.invokestatic 39, 3) := by decide +kernel
theorem dX4_readItem_8 : decode cX4_readItem 8 = .ok (.istore_n 2, 1) := by decide +kernel
theorem dX4_readItem_9 : decode cX4_readItem 9 = .ok (.iload_n 2, 1) := by decide +kernel
theorem dX4_readItem_10 : decode cX4_readItem 10 = .ok (.ifCond .ne 6, 3) := by decide +kernel
theorem dX4_readItem_13 : decode cX4_readItem 13 = .ok (.bipush (-4), 2) := by decide +kernel
theorem dX4_readItem_15 : decode cX4_readItem 15 = .ok (.ireturn, 1) := by decide +kernel
theorem dX4_readItem_16 : decode cX4_readItem 16 = .ok (.iload_n 1, 1) := by decide +kernel
theorem dX4_readItem_17 : decode cX4_readItem 17 = .ok (.iconst 1, 1) := by decide +kernel
theorem dX4_readItem_18 : decode cX4_readItem 18 = .ok (.iadd, 1) := by decide +kernel
theorem dX4_readItem_19 : decode cX4_readItem 19 = .ok (.istore_n 3, 1) := by decide +kernel
theorem dX4_readItem_20 : decode cX4_readItem 20 = .ok (.iconst 0, 1) := by decide +kernel
theorem dX4_readItem_21 : decode cX4_readItem 21 = .ok (.istore 4, 2) := by decide +kernel
theorem dX4_readItem_23 : decode cX4_readItem 23 = .ok (.iload 4, 2) := by decide +kernel
theorem dX4_readItem_25 : decode cX4_readItem 25 = .ok (.iload_n 2, 1) := by decide +kernel
theorem dX4_readItem_26 : decode cX4_readItem 26 = .ok (.if_icmp .ge 56, 3) := by decide +kernel
theorem dX4_readItem_29 : decode cX4_readItem 29 = .ok (.aload_n 0, 1) := by decide +kernel
theorem dX4_readItem_30 : decode cX4_readItem 30 = .ok (.iload_n 3, 1) := by decide +kernel
theorem dX4_readItem_31 : decode cX4_readItem 31 = .ok (.iload 4, 2) := by decide +kernel
theorem dX4_readItem_33 : decode cX4_readItem 33 = .ok (.invokevirtual 42, 3) := by decide +kernel
theorem dX4_readItem_36 : decode cX4_readItem 36 = .ok (.istore_n 3, 1) := by decide +kernel
theorem dX4_readItem_37 : decode cX4_readItem 37 = .ok (.iload 4, 2) := by decide +kernel
theorem dX4_readItem_39 : decode cX4_readItem 39 = .ok (.iconst 1, 1) := by decide +kernel
theorem dX4_readItem_40 : decode cX4_readItem 40 = .ok (.iadd, 1) := by decide +kernel
theorem dX4_readItem_41 : decode cX4_readItem 41 = .ok (.iload_n 2, 1) := by decide +kernel
theorem dX4_readItem_42 : decode cX4_readItem 42 = .ok (.if_icmp .ge 8, 3) := by decide +kernel
theorem dX4_readItem_45 : decode cX4_readItem 45 = .ok (.bipush 44, 2) := by decide +kernel
theorem dX4_readItem_47 : decode cX4_readItem 47 = .ok (.goto 5, 3) := by decide +kernel
theorem dX4_readItem_50 : decode cX4_readItem 50 = .ok (.bipush 59, 2) := by decide +kernel
theorem dX4_readItem_52 : decode cX4_readItem 52 = .ok (.istore 5, 2) := by decide +kernel
theorem dX4_readItem_54 : decode cX4_readItem 54 = .ok (.iload_n 3, 1) := by decide +kernel
theorem dX4_readItem_55 : decode cX4_readItem 55 = .ok (.bipush (-4), 2) := by decide +kernel
theorem dX4_readItem_57 : decode cX4_readItem 57 = .ok (.if_icmp .eq 13, 3) := by decide +kernel
theorem dX4_readItem_60 : decode cX4_readItem 60 = .ok (.aload_n 0, 1) := by decide +kernel
theorem dX4_readItem_61 : decode cX4_readItem 61 = .ok (.iload_n 3, 1) := by decide +kernel
theorem dX4_readItem_62 : decode cX4_readItem 62 = .ok (.invokevirtual 32, 3) := by decide +kernel
theorem dX4_readItem_65 : decode cX4_readItem 65 = .ok (.iload 5, 2) := by decide +kernel
theorem dX4_readItem_67 : decode cX4_readItem 67 = .ok (.if_icmp .eq 6, 3) := by decide +kernel
theorem dX4_readItem_70 : decode cX4_readItem 70 = .ok (.bipush (-4), 2) := by decide +kernel
theorem dX4_readItem_72 : decode cX4_readItem 72 = .ok (.ireturn, 1) := by decide +kernel
theorem dX4_readItem_73 : decode cX4_readItem 73 = .ok (.iinc 3 1, 3) := by decide +kernel
theorem dX4_readItem_76 : decode cX4_readItem 76 = .ok (.iinc 4 1, 3) := by decide +kernel
theorem dX4_readItem_79 : decode cX4_readItem 79 = .ok (.goto (-56), 3) := by decide +kernel
theorem dX4_readItem_82 : decode cX4_readItem 82 = .ok (.iload_n 3, 1) := by decide +kernel
theorem dX4_readItem_83 : decode cX4_readItem 83 = .ok (.ireturn, 1) := by decide +kernel
theorem dX4_readNumber_0 : decode cX4_readNumber 0 = .ok (.iconst 0, 1) := by decide +kernel
theorem dX4_readNumber_1 : decode cX4_readNumber 1 = .ok (.istore_n 3, 1) := by decide +kernel
theorem dX4_readNumber_2 : decode cX4_readNumber 2 = .ok (.iconst 0, 1) := by decide +kernel
theorem dX4_readNumber_3 : decode cX4_readNumber 3 = .ok (.istore 4, 2) := by decide +kernel
theorem dX4_readNumber_5 : decode cX4_readNumber 5 = .ok (.iload 4, 2) := by decide +kernel
theorem dX4_readNumber_7 : decode cX4_readNumber 7 = .ok (.iconst 3, 1) := by decide +kernel
theorem dX4_readNumber_8 : decode cX4_readNumber 8 = .ok (.if_icmp .ge 40, 3) := by decide +kernel
theorem dX4_readNumber_11 : decode cX4_readNumber 11 = .ok (.aload_n 0, 1) := by decide +kernel
theorem dX4_readNumber_12 : decode cX4_readNumber 12 = .ok (.iload_n 1, 1) := by decide +kernel
theorem dX4_readNumber_13 : decode cX4_readNumber 13 = .ok (.iload 4, 2) := by decide +kernel
theorem dX4_readNumber_15 : decode cX4_readNumber 15 = .ok (.iadd, 1) := by decide +kernel
theorem dX4_readNumber_16 : decode cX4_readNumber 16 = .ok (.invokevirtual 32, 3) := by decide +kernel
theorem dX4_readNumber_19 : decode cX4_readNumber 19 = .ok (.invokestatic 46, 3) := by decide +kernel
theorem dX4_readNumber_22 : decode cX4_readNumber 22 = .ok (.ifCond .eq 26, 3) := by decide +kernel
theorem dX4_readNumber_25 : decode cX4_readNumber 25 = .ok (.iload_n 3, 1) := by decide +kernel
theorem dX4_readNumber_26 : decode cX4_readNumber 26 = .ok (.bipush 10, 2) := by decide +kernel
theorem dX4_readNumber_28 : decode cX4_readNumber 28 = .ok (.imul, 1) := by decide +kernel
theorem dX4_readNumber_29 : decode cX4_readNumber 29 = .ok (.aload_n 0, 1) := by decide +kernel
theorem dX4_readNumber_30 : decode cX4_readNumber 30 = .ok (.iload_n 1, 1) := by decide +kernel
theorem dX4_readNumber_31 : decode cX4_readNumber 31 = .ok (.iload 4, 2) := by decide +kernel
theorem dX4_readNumber_33 : decode cX4_readNumber 33 = .ok (.iadd, 1) := by decide +kernel
theorem dX4_readNumber_34 : decode cX4_readNumber 34 = .ok (.invokevirtual 32, 3) := by decide +kernel
theorem dX4_readNumber_37 : decode cX4_readNumber 37 = .ok (.iadd, 1) := by decide +kernel
theorem dX4_readNumber_38 : decode cX4_readNumber 38 = .ok (.bipush 48, 2) := by decide +kernel
theorem dX4_readNumber_40 : decode cX4_readNumber 40 = .ok (.isub, 1) := by decide +kernel
theorem dX4_readNumber_41 : decode cX4_readNumber 41 = .ok (.istore_n 3, 1) := by decide +kernel
theorem dX4_readNumber_42 : decode cX4_readNumber 42 = .ok (.iinc 4 1, 3) := by decide +kernel
theorem dX4_readNumber_45 : decode cX4_readNumber 45 = .ok (.goto (-40), 3) := by decide +kernel
theorem dX4_readNumber_48 : decode cX4_readNumber 48 = .ok (.iload 4, 2) := by decide +kernel
theorem dX4_readNumber_50 : decode cX4_readNumber 50 = .ok (.ifCond .eq 16, 3) := by decide +kernel
theorem dX4_readNumber_53 : decode cX4_readNumber 53 = .ok (.iload_n 2, 1) := by decide +kernel
theorem dX4_readNumber_54 : decode cX4_readNumber 54 = .ok (.ifCond .lt 12, 3) := by decide +kernel
theorem dX4_readNumber_57 : decode cX4_readNumber 57 = .ok (.iload_n 2, 1) := by decide +kernel
theorem dX4_readNumber_58 : decode cX4_readNumber 58 = .ok (.aload_n 0, 1) := by decide +kernel
theorem dX4_readNumber_59 : decode cX4_readNumber 59 = .ok (.getfield 17, 3) := by decide +kernel
theorem dX4_readNumber_62 : decode cX4_readNumber 62 = .ok (.arraylength, 1) := by decide +kernel
theorem dX4_readNumber_63 : decode cX4_readNumber 63 = .ok (.if_icmp .lt 6, 3) := by decide +kernel
theorem dX4_readNumber_66 : decode cX4_readNumber 66 = .ok (.bipush (-4), 2) := by decide +kernel
theorem dX4_readNumber_68 : decode cX4_readNumber 68 = .ok (.ireturn, 1) := by decide +kernel
theorem dX4_readNumber_69 : decode cX4_readNumber 69 = .ok (.aload_n 0, 1) := by decide +kernel
theorem dX4_readNumber_70 : decode cX4_readNumber 70 = .ok (.getfield 17, 3) := by decide +kernel
theorem dX4_readNumber_73 : decode cX4_readNumber 73 = .ok (.iload_n 2, 1) := by decide +kernel
theorem dX4_readNumber_74 : decode cX4_readNumber 74 = .ok (.iload_n 3, 1) := by decide +kernel
theorem dX4_readNumber_75 : decode cX4_readNumber 75 = .ok (.iastore, 1) := by decide +kernel
theorem dX4_readNumber_76 : decode cX4_readNumber 76 = .ok (.iload_n 1, 1) := by decide +kernel
theorem dX4_readNumber_77 : decode cX4_readNumber 77 = .ok (.iload 4, 2) := by decide +kernel
theorem dX4_readNumber_79 : decode cX4_readNumber 79 = .ok (.iadd, 1) := by decide +kernel
theorem dX4_readNumber_80 : decode cX4_readNumber 80 = .ok (.ireturn, 1) := by decide +kernel
theorem dX4_isFigure_0 : decode cX4_isFigure 0 = .ok (.iload_n 0, 1) := by decide +kernel
theorem dX4_isFigure_1 : decode cX4_isFigure 1 = .ok (.bipush 48, 2) := by decide +kernel
theorem dX4_isFigure_3 : decode cX4_isFigure 3 = .ok (.if_icmp .lt 13, 3) := by decide +kernel
theorem dX4_isFigure_6 : decode cX4_isFigure 6 = .ok (.iload_n 0, 1) := by decide +kernel
theorem dX4_isFigure_7 : decode cX4_isFigure 7 = .ok (.bipush 57, 2) := by decide +kernel
theorem dX4_isFigure_9 : decode cX4_isFigure 9 = .ok (.if_icmp .gt 7, 3) := by decide +kernel
theorem dX4_isFigure_12 : decode cX4_isFigure 12 = .ok (.iconst 1, 1) := by decide +kernel
theorem dX4_isFigure_13 : decode cX4_isFigure 13 = .ok (.goto 4, 3) := by decide +kernel
theorem dX4_isFigure_16 : decode cX4_isFigure 16 = .ok (.iconst 0, 1) := by decide +kernel
theorem dX4_isFigure_17 : decode cX4_isFigure 17 = .ok (.ireturn, 1) := by decide +kernel
theorem dX4_byteAt_0 : decode cX4_byteAt 0 = .ok (.iload_n 1, 1) := by decide +kernel
theorem dX4_byteAt_1 : decode cX4_byteAt 1 = .ok (.ifCond .lt 33, 3) := by decide +kernel
theorem dX4_byteAt_4 : decode cX4_byteAt 4 = .ok (.iload_n 1, 1) := by decide +kernel
theorem dX4_byteAt_5 : decode cX4_byteAt 5 = .ok (.aload_n 0, 1) := by decide +kernel
theorem dX4_byteAt_6 : decode cX4_byteAt 6 = .ok (.getfield 21, 3) := by decide +kernel
theorem dX4_byteAt_9 : decode cX4_byteAt 9 = .ok (.if_icmp .ge 25, 3) := by decide +kernel
theorem dX4_byteAt_12 : decode cX4_byteAt 12 = .ok (.iload_n 1, 1) := by decide +kernel
theorem dX4_byteAt_13 : decode cX4_byteAt 13 = .ok (.aload_n 0, 1) := by decide +kernel
theorem dX4_byteAt_14 : decode cX4_byteAt 14 = .ok (.getfield 11, 3) := by decide +kernel
theorem dX4_byteAt_17 : decode cX4_byteAt 17 = .ok (.arraylength, 1) := by decide +kernel
theorem dX4_byteAt_18 : decode cX4_byteAt 18 = .ok (.if_icmp .ge 16, 3) := by decide +kernel
theorem dX4_byteAt_21 : decode cX4_byteAt 21 = .ok (.aload_n 0, 1) := by decide +kernel
theorem dX4_byteAt_22 : decode cX4_byteAt 22 = .ok (.getfield 11, 3) := by decide +kernel
theorem dX4_byteAt_25 : decode cX4_byteAt 25 = .ok (.iload_n 1, 1) := by decide +kernel
theorem dX4_byteAt_26 : decode cX4_byteAt 26 = .ok (.baload, 1) := by decide +kernel
theorem dX4_byteAt_27 : decode cX4_byteAt 27 = .ok (.sipush 255, 3) := by decide +kernel
theorem dX4_byteAt_30 : decode cX4_byteAt 30 = .ok (.iand, 1) := by decide +kernel
theorem dX4_byteAt_31 : decode cX4_byteAt 31 = .ok (.goto 4, 3) := by decide +kernel
theorem dX4_byteAt_34 : decode cX4_byteAt 34 = .ok (.iconst (-1), 1) := by decide +kernel
theorem dX4_byteAt_35 : decode cX4_byteAt 35 = .ok (.ireturn, 1) := by decide +kernel
theorem dX5_init_0 : decode cX5_init 0 = .ok (.aload_n 0, 1) := by decide +kernel
theorem dX5_init_1 : decode cX5_init 1 = .ok (.invokespecial 1, 3) := by decide +kernel
theorem dX5_init_4 : decode cX5_init 4 = .ok (.aload_n 0, 1) := by decide +kernel
theorem dX5_init_5 : decode cX5_init 5 = .ok (.iconst 1, 1) := by decide +kernel
theorem dX5_init_6 : decode cX5_init 6 = .ok (.iload_n 1, 1) := by decide +kernel
theorem dX5_init_7 : decode cX5_init 7 = .ok (.invokestatic 7, 3) := by decide +kernel
theorem dX5_init_10 : decode cX5_init 10 = .ok (.putfield 13, 3) := by decide +kernel
theorem dX5_init_13 : decode cX5_init 13 = .ok (.aload_n 0, 1) := by decide +kernel
theorem dX5_init_14 : decode cX5_init 14 = .ok (.aload_n 0, 1) := by decide +kernel
theorem dX5_init_15 : decode cX5_init 15 = .ok (.getfield 13, 3) := by decide +kernel
theorem dX5_init_18 : decode cX5_init 18 = .ok (.newarray .long, 2) := by decide +kernel
theorem dX5_init_20 : decode cX5_init 20 = .ok (.putfield 19, 3) := by decide +kernel
theorem dX5_init_23 : decode cX5_init 23 = .ok (.aload_n 0, 1) := by decide +kernel
theorem dX5_init_24 : decode cX5_init 24 = .ok (.aload_n 0, 1) := by decide +kernel
theorem dX5_init_25 : decode cX5_init 25 = .ok (.getfield 13, 3) := by decide +kernel
theorem dX5_init_28 : decode cX5_init 28 = .ok (.newarray .int, 2) := by decide +kernel
theorem dX5_init_30 : decode cX5_init 30 = .ok (.putfield 23, 3) := by decide +kernel
theorem dX5_init_33 : decode cX5_init 33 = .ok (.aload_n 0, 1) := by decide +kernel
theorem dX5_init_34 : decode cX5_init 34 = .ok (.aload_n 0, 1) := by decide +kernel
theorem dX5_init_35 : decode cX5_init 35 = .ok (.getfield 13, 3) := by decide +kernel
theorem dX5_init_38 : decode cX5_init 38 = .ok (.newarray .int, 2) := by decide +kernel
theorem dX5_init_40 : decode cX5_init 40 = .ok (.putfield 27, 3) := by decide +kernel
theorem dX5_init_43 : decode cX5_init 43 = .ok (.aload_n 0, 1) := by decide +kernel
theorem dX5_init_44 : decode cX5_init 44 = .ok (.aload_n 0, 1) := by decide +kernel
theorem dX5_init_45 : decode cX5_init 45 = .ok (.getfield 13, 3) := by decide +kernel
theorem dX5_init_48 : decode cX5_init 48 = .ok (.newarray .int, 2) := by decide +kernel
theorem dX5_init_50 : decode cX5_init 50 = .ok (.putfield 30, 3) := by decide +kernel
theorem dX5_init_53 : decode cX5_init 53 = .ok (.aload_n 0, 1) := by decide +kernel
theorem dX5_init_54 : decode cX5_init 54 = .ok (.aload_n 0, 1) := by decide +kernel
theorem dX5_init_55 : decode cX5_init 55 = .ok (.getfield 13, 3) := by decide +kernel
theorem dX5_init_58 : decode cX5_init 58 = .ok (.newarray .int, 2) := by decide +kernel
theorem dX5_init_60 : decode cX5_init 60 = .ok (.putfield 33, 3) := by decide +kernel
theorem dX5_init_63 : decode cX5_init 63 = .ok (.return_, 1) := by decide +kernel
theorem dX5_put_0 : decode cX5_put 0 = .ok (.aload_n 0, 1) := by decide +kernel
theorem dX5_put_1 : decode cX5_put 1 = .ok (.getfield 36, 3) := by decide +kernel
theorem dX5_put_4 : decode cX5_put 4 = .ok (.aload_n 0, 1) := by decide +kernel
theorem dX5_put_5 : decode cX5_put 5 = .ok (.getfield 13, 3) := by decide +kernel
theorem dX5_put_8 : decode cX5_put 8 = .ok (.if_icmp .lt 8, 3) := by decide +kernel
theorem dX5_put_11 : decode cX5_put 11 = .ok (.aload_n 0, 1) := by decide +kernel
theorem dX5_put_12 : decode cX5_put 12 = .ok (.iconst 0, 1) := by decide +kernel
theorem dX5_put_13 : decode cX5_put 13 = .ok (.putfield 36, 3) := by decide +kernel
theorem dX5_put_16 : decode cX5_put 16 = .ok (.aload_n 0, 1) := by decide +kernel
theorem dX5_put_17 : decode cX5_put 17 = .ok (.getfield 19, 3) := by decide +kernel
theorem dX5_put_20 : decode cX5_put 20 = .ok (.aload_n 0, 1) := by decide +kernel
theorem dX5_put_21 : decode cX5_put 21 = .ok (.getfield 36, 3) := by decide +kernel
theorem dX5_put_24 : decode cX5_put 24 = .ok (.aload_n 1, 1) := by decide +kernel
theorem dX5_put_25 : decode cX5_put 25 = .ok (.getfield 39, 3) := by decide +kernel
theorem dX5_put_28 : decode cX5_put 28 = .ok (.lastore, 1) := by decide +kernel
theorem dX5_put_29 : decode cX5_put 29 = .ok (.aload_n 0, 1) := by decide +kernel
theorem dX5_put_30 : decode cX5_put 30 = .ok (.getfield 23, 3) := by decide +kernel
theorem dX5_put_33 : decode cX5_put 33 = .ok (.aload_n 0, 1) := by decide +kernel
theorem dX5_put_34 : decode cX5_put 34 = .ok (.getfield 36, 3) := by decide +kernel
theorem dX5_put_37 : decode cX5_put 37 = .ok (.aload_n 1, 1) := by decide +kernel
theorem dX5_put_38 : decode cX5_put 38 = .ok (.getfield 45, 3) := by decide +kernel
theorem dX5_put_41 : decode cX5_put 41 = .ok (.iastore, 1) := by decide +kernel
theorem dX5_put_42 : decode cX5_put 42 = .ok (.aload_n 0, 1) := by decide +kernel
theorem dX5_put_43 : decode cX5_put 43 = .ok (.getfield 27, 3) := by decide +kernel
theorem dX5_put_46 : decode cX5_put 46 = .ok (.aload_n 0, 1) := by decide +kernel
theorem dX5_put_47 : decode cX5_put 47 = .ok (.getfield 36, 3) := by decide +kernel
theorem dX5_put_50 : decode cX5_put 50 = .ok (.aload_n 1, 1) := by decide +kernel
theorem dX5_put_51 : decode cX5_put 51 = .ok (.getfield 48, 3) := by decide +kernel
theorem dX5_put_54 : decode cX5_put 54 = .ok (.iastore, 1) := by decide +kernel
theorem dX5_put_55 : decode cX5_put 55 = .ok (.aload_n 0, 1) := by decide +kernel
theorem dX5_put_56 : decode cX5_put 56 = .ok (.getfield 30, 3) := by decide +kernel
theorem dX5_put_59 : decode cX5_put 59 = .ok (.aload_n 0, 1) := by decide +kernel
theorem dX5_put_60 : decode cX5_put 60 = .ok (.getfield 36, 3) := by decide +kernel
theorem dX5_put_63 : decode cX5_put 63 = .ok (.aload_n 1, 1) := by decide +kernel
theorem dX5_put_64 : decode cX5_put 64 = .ok (.getfield 51, 3) := by decide +kernel
theorem dX5_put_67 : decode cX5_put 67 = .ok (.iastore, 1) := by decide +kernel
theorem dX5_put_68 : decode cX5_put 68 = .ok (.aload_n 0, 1) := by decide +kernel
theorem dX5_put_69 : decode cX5_put 69 = .ok (.getfield 33, 3) := by decide +kernel
theorem dX5_put_72 : decode cX5_put 72 = .ok (.aload_n 0, 1) := by decide +kernel
theorem dX5_put_73 : decode cX5_put 73 = .ok (.getfield 36, 3) := by decide +kernel
theorem dX5_put_76 : decode cX5_put 76 = .ok (.aload_n 1, 1) := by decide +kernel
theorem dX5_put_77 : decode cX5_put 77 = .ok (.getfield 54, 3) := by decide +kernel
theorem dX5_put_80 : decode cX5_put 80 = .ok (.iastore, 1) := by decide +kernel
theorem dX5_put_81 : decode cX5_put 81 = .ok (.aload_n 0, 1) := by decide +kernel
theorem dX5_put_82 : decode cX5_put 82 = .ok (.dup, 1) := by decide +kernel
theorem dX5_put_83 : decode cX5_put 83 = .ok (.getfield 36, 3) := by decide +kernel
theorem dX5_put_86 : decode cX5_put 86 = .ok (.iconst 1, 1) := by decide +kernel
theorem dX5_put_87 : decode cX5_put 87 = .ok (.iadd, 1) := by decide +kernel
theorem dX5_put_88 : decode cX5_put 88 = .ok (.putfield 36, 3) := by decide +kernel
theorem dX5_put_91 : decode cX5_put 91 = .ok (.aload_n 0, 1) := by decide +kernel
theorem dX5_put_92 : decode cX5_put 92 = .ok (.aload_n 0, 1) := by decide +kernel
theorem dX5_put_93 : decode cX5_put 93 = .ok (.getfield 56, 3) := by decide +kernel
theorem dX5_put_96 : decode cX5_put 96 = .ok (.iconst 1, 1) := by decide +kernel
theorem dX5_put_97 : decode cX5_put 97 = .ok (.iadd, 1) := by decide +kernel
theorem dX5_put_98 : decode cX5_put 98 = .ok (.aload_n 0, 1) := by decide +kernel
theorem dX5_put_99 : decode cX5_put 99 = .ok (.getfield 13, 3) := by decide +kernel
theorem dX5_put_102 : decode cX5_put 102 = .ok (.invokestatic 59, 3) := by decide +kernel
theorem dX5_put_105 : decode cX5_put 105 = .ok (.putfield 56, 3) := by decide +kernel
theorem dX5_put_108 : decode cX5_put 108 = .ok (.return_, 1) := by decide +kernel
theorem dX5_takeInto_0 : decode cX5_takeInto 0 = .ok (.aload_n 0, 1) := by decide +kernel
theorem dX5_takeInto_1 : decode cX5_takeInto 1 = .ok (.getfield 56, 3) := by decide +kernel
theorem dX5_takeInto_4 : decode cX5_takeInto 4 = .ok (.ifCond .gt 4, 3) := by decide +kernel
theorem dX5_takeInto_7 : decode cX5_takeInto 7 = .ok (.return_, 1) := by decide +kernel
theorem dX5_takeInto_8 : decode cX5_takeInto 8 = .ok (.aload_n 0, 1) := by decide +kernel
theorem dX5_takeInto_9 : decode cX5_takeInto 9 = .ok (.dup, 1) := by decide +kernel
theorem dX5_takeInto_10 : decode cX5_takeInto 10 = .ok (.getfield 56, 3) := by decide +kernel
theorem dX5_takeInto_13 : decode cX5_takeInto 13 = .ok (.iconst 1, 1) := by decide +kernel
theorem dX5_takeInto_14 : decode cX5_takeInto 14 = .ok (.isub, 1) := by decide +kernel
theorem dX5_takeInto_15 : decode cX5_takeInto 15 = .ok (.putfield 56, 3) := by decide +kernel
theorem dX5_takeInto_18 : decode cX5_takeInto 18 = .ok (.aload_n 0, 1) := by decide +kernel
theorem dX5_takeInto_19 : decode cX5_takeInto 19 = .ok (.aload_n 0, 1) := by decide +kernel
theorem dX5_takeInto_20 : decode cX5_takeInto 20 = .ok (.getfield 36, 3) := by decide +kernel
theorem dX5_takeInto_23 : decode cX5_takeInto 23 = .ok (.ifCond .le 12, 3) := by decide +kernel
theorem dX5_takeInto_26 : decode cX5_takeInto 26 = .ok (.aload_n 0, 1) := by decide +kernel
theorem dX5_takeInto_27 : decode cX5_takeInto 27 = .ok (.getfield 36, 3) := by decide +kernel
theorem dX5_takeInto_30 : decode cX5_takeInto 30 = .ok (.iconst 1, 1) := by decide +kernel
theorem dX5_takeInto_31 : decode cX5_takeInto 31 = .ok (.isub, 1) := by decide +kernel
theorem dX5_takeInto_32 : decode cX5_takeInto 32 = .ok (.goto 9, 3) := by decide +kernel
theorem dX5_takeInto_35 : decode cX5_takeInto 35 = .ok (.aload_n 0, 1) := by decide +kernel
theorem dX5_takeInto_36 : decode cX5_takeInto 36 = .ok (.getfield 13, 3) := by decide +kernel
theorem dX5_takeInto_39 : decode cX5_takeInto 39 = .ok (.iconst 1, 1) := by decide +kernel
theorem dX5_takeInto_40 : decode cX5_takeInto 40 = .ok (.isub, 1) := by decide +kernel
theorem dX5_takeInto_41 : decode cX5_takeInto 41 = .ok (.putfield 36, 3) := by decide +kernel
theorem dX5_takeInto_44 : decode cX5_takeInto 44 = .ok (.aload_n 1, 1) := by decide +kernel
theorem dX5_takeInto_45 : decode cX5_takeInto 45 = .ok (.aload_n 0, 1) := by decide +kernel
theorem dX5_takeInto_46 : decode cX5_takeInto 46 = .ok (.getfield 19, 3) := by decide +kernel
theorem dX5_takeInto_49 : decode cX5_takeInto 49 = .ok (.aload_n 0, 1) := by decide +kernel
theorem dX5_takeInto_50 : decode cX5_takeInto 50 = .ok (.getfield 36, 3) := by decide +kernel
theorem dX5_takeInto_53 : decode cX5_takeInto 53 = .ok (.laload, 1) := by decide +kernel
theorem dX5_takeInto_54 : decode cX5_takeInto 54 = .ok (.putfield 39, 3) := by decide +kernel
theorem dX5_takeInto_57 : decode cX5_takeInto 57 = .ok (.aload_n 1, 1) := by decide +kernel
theorem dX5_takeInto_58 : decode cX5_takeInto 58 = .ok (.aload_n 0, 1) := by decide +kernel
theorem dX5_takeInto_59 : decode cX5_takeInto 59 = .ok (.getfield 23, 3) := by decide +kernel
theorem dX5_takeInto_62 : decode cX5_takeInto 62 = .ok (.aload_n 0, 1) := by decide +kernel
theorem dX5_takeInto_63 : decode cX5_takeInto 63 = .ok (.getfield 36, 3) := by decide +kernel
theorem dX5_takeInto_66 : decode cX5_takeInto 66 = .ok (.iaload, 1) := by decide +kernel
theorem dX5_takeInto_67 : decode cX5_takeInto 67 = .ok (.putfield 45, 3) := by decide +kernel
theorem dX5_takeInto_70 : decode cX5_takeInto 70 = .ok (.aload_n 1, 1) := by decide +kernel
theorem dX5_takeInto_71 : decode cX5_takeInto 71 = .ok (.aload_n 0, 1) := by decide +kernel
theorem dX5_takeInto_72 : decode cX5_takeInto 72 = .ok (.getfield 27, 3) := by decide +kernel
theorem dX5_takeInto_75 : decode cX5_takeInto 75 = .ok (.aload_n 0, 1) := by decide +kernel
theorem dX5_takeInto_76 : decode cX5_takeInto 76 = .ok (.getfield 36, 3) := by decide +kernel
theorem dX5_takeInto_79 : decode cX5_takeInto 79 = .ok (.iaload, 1) := by decide +kernel
theorem dX5_takeInto_80 : decode cX5_takeInto 80 = .ok (.putfield 48, 3) := by decide +kernel
theorem dX5_takeInto_83 : decode cX5_takeInto 83 = .ok (.aload_n 1, 1) := by decide +kernel
theorem dX5_takeInto_84 : decode cX5_takeInto 84 = .ok (.aload_n 0, 1) := by decide +kernel
theorem dX5_takeInto_85 : decode cX5_takeInto 85 = .ok (.getfield 30, 3) := by decide +kernel
theorem dX5_takeInto_88 : decode cX5_takeInto 88 = .ok (.aload_n 0, 1) := by decide +kernel
theorem dX5_takeInto_89 : decode cX5_takeInto 89 = .ok (.getfield 36, 3) := by decide +kernel
theorem dX5_takeInto_92 : decode cX5_takeInto 92 = .ok (.iaload, 1) := by decide +kernel
theorem dX5_takeInto_93 : decode cX5_takeInto 93 = .ok (.putfield 51, 3) := by decide +kernel
theorem dX5_takeInto_96 : decode cX5_takeInto 96 = .ok (.aload_n 1, 1) := by decide +kernel
theorem dX5_takeInto_97 : decode cX5_takeInto 97 = .ok (.aload_n 0, 1) := by decide +kernel
theorem dX5_takeInto_98 : decode cX5_takeInto 98 = .ok (.getfield 33, 3) := by decide +kernel
theorem dX5_takeInto_101 : decode cX5_takeInto 101 = .ok (.aload_n 0, 1) := by decide +kernel
theorem dX5_takeInto_102 : decode cX5_takeInto 102 = .ok (.getfield 36, 3) := by decide +kernel
theorem dX5_takeInto_105 : decode cX5_takeInto 105 = .ok (.iaload, 1) := by decide +kernel
theorem dX5_takeInto_106 : decode cX5_takeInto 106 = .ok (.putfield 54, 3) := by decide +kernel
theorem dX5_takeInto_109 : decode cX5_takeInto 109 = .ok (.return_, 1) := by decide +kernel
theorem dX5_clear_0 : decode cX5_clear 0 = .ok (.aload_n 0, 1) := by decide +kernel
theorem dX5_clear_1 : decode cX5_clear 1 = .ok (.iconst 0, 1) := by decide +kernel
theorem dX5_clear_2 : decode cX5_clear 2 = .ok (.putfield 56, 3) := by decide +kernel
theorem dX5_clear_5 : decode cX5_clear 5 = .ok (.return_, 1) := by decide +kernel
theorem dX6_init_0 : decode cX6_init 0 = .ok (.aload_n 0, 1) := by decide +kernel
theorem dX6_init_1 : decode cX6_init 1 = .ok (.invokespecial 1, 3) := by decide +kernel
theorem dX6_init_4 : decode cX6_init 4 = .ok (.aload_n 0, 1) := by decide +kernel
theorem dX6_init_5 : decode cX6_init 5 = .ok (.bipush 10, 2) := by decide +kernel
theorem dX6_init_7 : decode cX6_init 7 = .ok (.newarray .int, 2) := by decide +kernel
theorem dX6_init_9 : decode cX6_init 9 = .ok (.putfield 9, 3) := by decide +kernel
theorem dX6_init_12 : decode cX6_init 12 = .ok (.aload_n 0, 1) := by decide +kernel
theorem dX6_init_13 : decode cX6_init 13 = .ok (.bipush 10, 2) := by decide +kernel
theorem dX6_init_15 : decode cX6_init 15 = .ok (.newarray .int, 2) := by decide +kernel
theorem dX6_init_17 : decode cX6_init 17 = .ok (.putfield 13, 3) := by decide +kernel
theorem dX6_init_20 : decode cX6_init 20 = .ok (.aload_n 0, 1) := by decide +kernel
theorem dX6_init_21 : decode cX6_init 21 = .ok (.aload_n 1, 1) := by decide +kernel
theorem dX6_init_22 : decode cX6_init 22 = .ok (.putfield 16, 3) := by decide +kernel
theorem dX6_init_25 : decode cX6_init 25 = .ok (.return_, 1) := by decide +kernel
theorem dX6_addLine_0 : decode cX6_addLine 0 = .ok (.aload_n 0, 1) := by decide +kernel
theorem dX6_addLine_1 : decode cX6_addLine 1 = .ok (.getfield 20, 3) := by decide +kernel
theorem dX6_addLine_4 : decode cX6_addLine 4 = .ok (.ifCond .lt 12, 3) := by decide +kernel
theorem dX6_addLine_7 : decode cX6_addLine 7 = .ok (.aload_n 0, 1) := by decide +kernel
theorem dX6_addLine_8 : decode cX6_addLine 8 = .ok (.getfield 20, 3) := by decide +kernel
theorem dX6_addLine_11 : decode cX6_addLine 11 = .ok (.bipush 10, 2) := by decide +kernel
theorem dX6_addLine_13 : decode cX6_addLine 13 = .ok (.if_icmp .lt 5, 3) := by decide +kernel
theorem dX6_addLine_16 : decode cX6_addLine 16 = .ok (.iconst 0, 1) := by decide +kernel
theorem dX6_addLine_17 : decode cX6_addLine 17 = .ok (.ireturn, 1) := by decide +kernel
theorem dX6_addLine_18 : decode cX6_addLine 18 = .ok (.aload_n 0, 1) := by decide +kernel
theorem dX6_addLine_19 : decode cX6_addLine 19 = .ok (.getfield 9, 3) := by decide +kernel
theorem dX6_addLine_22 : decode cX6_addLine 22 = .ok (.aload_n 0, 1) := by decide +kernel
theorem dX6_addLine_23 : decode cX6_addLine 23 = .ok (.getfield 20, 3) := by decide +kernel
theorem dX6_addLine_26 : decode cX6_addLine 26 = .ok (.iload_n 1, 1) := by decide +kernel
theorem dX6_addLine_27 : decode cX6_addLine 27 = .ok (.iastore, 1) := by decide +kernel
theorem dX6_addLine_28 : decode cX6_addLine 28 = .ok (.aload_n 0, 1) := by decide +kernel
theorem dX6_addLine_29 : decode cX6_addLine 29 = .ok (.getfield 13, 3) := by decide +kernel
theorem dX6_addLine_32 : decode cX6_addLine 32 = .ok (.aload_n 0, 1) := by decide +kernel
theorem dX6_addLine_33 : decode cX6_addLine 33 = .ok (.getfield 20, 3) := by decide +kernel
theorem dX6_addLine_36 : decode cX6_addLine 36 = .ok (.iload_n 2, 1) := by decide +kernel
theorem dX6_addLine_37 : decode cX6_addLine 37 = .ok (.iastore, 1) := by decide +kernel
theorem dX6_addLine_38 : decode cX6_addLine 38 = .ok (.aload_n 0, 1) := by decide +kernel
theorem dX6_addLine_39 : decode cX6_addLine 39 = .ok (.dup, 1) := by decide +kernel
theorem dX6_addLine_40 : decode cX6_addLine 40 = .ok (.getfield 20, 3) := by decide +kernel
theorem dX6_addLine_43 : decode cX6_addLine 43 = .ok (.iconst 1, 1) := by decide +kernel
theorem dX6_addLine_44 : decode cX6_addLine 44 = .ok (.iadd, 1) := by decide +kernel
theorem dX6_addLine_45 : decode cX6_addLine 45 = .ok (.putfield 20, 3) := by decide +kernel
theorem dX6_addLine_48 : decode cX6_addLine 48 = .ok (.iconst 1, 1) := by decide +kernel
theorem dX6_addLine_49 : decode cX6_addLine 49 = .ok (.ireturn, 1) := by decide +kernel
theorem dX6_isSo_0 : decode cX6_isSo 0 = .ok (.aload_n 0, 1) := by decide +kernel
theorem dX6_isSo_1 : decode cX6_isSo 1 = .ok (.getfield 16, 3) := by decide +kernel
theorem dX6_isSo_4 : decode cX6_isSo 4 = .ok (.iconst 0, 1) := by decide +kernel
theorem dX6_isSo_5 : decode cX6_isSo 5 = .ok (.aload_n 0, 1) := by decide +kernel
theorem dX6_isSo_6 : decode cX6_isSo 6 = .ok (.getfield 9, 3) := by decide +kernel
theorem dX6_isSo_9 : decode cX6_isSo 9 = .ok (.iload_n 1, 1) := by decide +kernel
theorem dX6_isSo_10 : decode cX6_isSo 10 = .ok (.iaload, 1) := by decide +kernel
theorem dX6_isSo_11 : decode cX6_isSo 11 = .ok (.iload_n 2, 1) := by decide +kernel
theorem dX6_isSo_12 : decode cX6_isSo 12 = .ok (.iadd, 1) := by decide +kernel
theorem dX6_isSo_13 : decode cX6_isSo 13 = .ok (.invokestatic 24, 3) := by decide +kernel
theorem dX6_isSo_16 : decode cX6_isSo 16 = .ok (.i2l, 1) := by decide +kernel
theorem dX6_isSo_17 : decode cX6_isSo 17 = .ok (.invokevirtual 30, 3) := by decide +kernel
theorem dX6_isSo_20 : decode cX6_isSo 20 = .ok (.aload_n 0, 1) := by decide +kernel
theorem dX6_isSo_21 : decode cX6_isSo 21 = .ok (.getfield 13, 3) := by decide +kernel
theorem dX6_isSo_24 : decode cX6_isSo 24 = .ok (.iload_n 1, 1) := by decide +kernel
theorem dX6_isSo_25 : decode cX6_isSo 25 = .ok (.iaload, 1) := by decide +kernel
theorem dX6_isSo_26 : decode cX6_isSo 26 = .ok (.if_icmp .ne 7, 3) := by decide +kernel
theorem dX6_isSo_29 : decode cX6_isSo 29 = .ok (.iconst 1, 1) := by decide +kernel
theorem dX6_isSo_30 : decode cX6_isSo 30 = .ok (.goto 4, 3) := by decide +kernel
theorem dX6_isSo_33 : decode cX6_isSo 33 = .ok (.iconst 0, 1) := by decide +kernel
theorem dX6_isSo_34 : decode cX6_isSo 34 = .ok (.ireturn, 1) := by decide +kernel
theorem dX6_forgedBits_0 : decode cX6_forgedBits 0 = .ok (.iconst 0, 1) := by decide +kernel
theorem dX6_forgedBits_1 : decode cX6_forgedBits 1 = .ok (.istore_n 1, 1) := by decide +kernel
theorem dX6_forgedBits_2 : decode cX6_forgedBits 2 = .ok (.iconst 0, 1) := by decide +kernel
theorem dX6_forgedBits_3 : decode cX6_forgedBits 3 = .ok (.istore_n 2, 1) := by decide +kernel
theorem dX6_forgedBits_4 : decode cX6_forgedBits 4 = .ok (.iload_n 2, 1) := by decide +kernel
theorem dX6_forgedBits_5 : decode cX6_forgedBits 5 = .ok (.aload_n 0, 1) := by decide +kernel
theorem dX6_forgedBits_6 : decode cX6_forgedBits 6 = .ok (.getfield 20, 3) := by decide +kernel
theorem dX6_forgedBits_9 : decode cX6_forgedBits 9 = .ok (.if_icmp .ge 30, 3) := by decide +kernel
theorem dX6_forgedBits_12 : decode cX6_forgedBits 12 = .ok (.iload_n 2, 1) := by decide +kernel
theorem dX6_forgedBits_13 : decode cX6_forgedBits 13 = .ok (.bipush 10, 2) := by decide +kernel
theorem dX6_forgedBits_15 : decode cX6_forgedBits 15 = .ok (.if_icmp .ge 24, 3) := by decide +kernel
theorem dX6_forgedBits_18 : decode cX6_forgedBits 18 = .ok (.aload_n 0, 1) := by decide +kernel
theorem dX6_forgedBits_19 : decode cX6_forgedBits 19 = .ok (.iload_n 2, 1) := by decide +kernel
theorem dX6_forgedBits_20 : decode cX6_forgedBits 20 = .ok (.iconst 0, 1) := by decide +kernel
theorem dX6_forgedBits_21 : decode cX6_forgedBits 21 = .ok (.invokevirtual 36, 3) := by decide +kernel
theorem dX6_forgedBits_24 : decode cX6_forgedBits 24 = .ok (.ifCond .ne 9, 3) := by decide +kernel
theorem dX6_forgedBits_27 : decode cX6_forgedBits 27 = .ok (.iload_n 1, 1) := by decide +kernel
theorem dX6_forgedBits_28 : decode cX6_forgedBits 28 = .ok (.iconst 1, 1) := by decide +kernel
theorem dX6_forgedBits_29 : decode cX6_forgedBits 29 = .ok (.iload_n 2, 1) := by decide +kernel
theorem dX6_forgedBits_30 : decode cX6_forgedBits 30 = .ok (.ishl, 1) := by decide +kernel
theorem dX6_forgedBits_31 : decode cX6_forgedBits 31 = .ok (.ior, 1) := by decide +kernel
theorem dX6_forgedBits_32 : decode cX6_forgedBits 32 = .ok (.istore_n 1, 1) := by decide +kernel
theorem dX6_forgedBits_33 : decode cX6_forgedBits 33 = .ok (.iinc 2 1, 3) := by decide +kernel
theorem dX6_forgedBits_36 : decode cX6_forgedBits 36 = .ok (.goto (-32), 3) := by decide +kernel
theorem dX6_forgedBits_39 : decode cX6_forgedBits 39 = .ok (.iload_n 1, 1) := by decide +kernel
theorem dX6_forgedBits_40 : decode cX6_forgedBits 40 = .ok (.ireturn, 1) := by decide +kernel
theorem dX6_linesSo_0 : decode cX6_linesSo 0 = .ok (.iconst 0, 1) := by decide +kernel
theorem dX6_linesSo_1 : decode cX6_linesSo 1 = .ok (.istore_n 2, 1) := by decide +kernel
theorem dX6_linesSo_2 : decode cX6_linesSo 2 = .ok (.iconst 0, 1) := by decide +kernel
theorem dX6_linesSo_3 : decode cX6_linesSo 3 = .ok (.istore_n 3, 1) := by decide +kernel
theorem dX6_linesSo_4 : decode cX6_linesSo 4 = .ok (.iload_n 3, 1) := by decide +kernel
theorem dX6_linesSo_5 : decode cX6_linesSo 5 = .ok (.aload_n 0, 1) := by decide +kernel
theorem dX6_linesSo_6 : decode cX6_linesSo 6 = .ok (.getfield 20, 3) := by decide +kernel
theorem dX6_linesSo_9 : decode cX6_linesSo 9 = .ok (.if_icmp .ge 27, 3) := by decide +kernel
theorem dX6_linesSo_12 : decode cX6_linesSo 12 = .ok (.iload_n 3, 1) := by decide +kernel
theorem dX6_linesSo_13 : decode cX6_linesSo 13 = .ok (.bipush 10, 2) := by decide +kernel
theorem dX6_linesSo_15 : decode cX6_linesSo 15 = .ok (.if_icmp .ge 21, 3) := by decide +kernel
theorem dX6_linesSo_18 : decode cX6_linesSo 18 = .ok (.aload_n 0, 1) := by decide +kernel
theorem dX6_linesSo_19 : decode cX6_linesSo 19 = .ok (.iload_n 3, 1) := by decide +kernel
theorem dX6_linesSo_20 : decode cX6_linesSo 20 = .ok (.iload_n 1, 1) := by decide +kernel
theorem dX6_linesSo_21 : decode cX6_linesSo 21 = .ok (.invokevirtual 36, 3) := by decide +kernel
theorem dX6_linesSo_24 : decode cX6_linesSo 24 = .ok (.ifCond .eq 6, 3) := by decide +kernel
theorem dX6_linesSo_27 : decode cX6_linesSo 27 = .ok (.iinc 2 1, 3) := by decide +kernel
theorem dX6_linesSo_30 : decode cX6_linesSo 30 = .ok (.iinc 3 1, 3) := by decide +kernel
theorem dX6_linesSo_33 : decode cX6_linesSo 33 = .ok (.goto (-29), 3) := by decide +kernel
theorem dX6_linesSo_36 : decode cX6_linesSo 36 = .ok (.iload_n 2, 1) := by decide +kernel
theorem dX6_linesSo_37 : decode cX6_linesSo 37 = .ok (.ireturn, 1) := by decide +kernel
theorem dX6_bestShift_0 : decode cX6_bestShift 0 = .ok (.iconst 0, 1) := by decide +kernel
theorem dX6_bestShift_1 : decode cX6_bestShift 1 = .ok (.istore_n 1, 1) := by decide +kernel
theorem dX6_bestShift_2 : decode cX6_bestShift 2 = .ok (.aload_n 0, 1) := by decide +kernel
theorem dX6_bestShift_3 : decode cX6_bestShift 3 = .ok (.iconst 0, 1) := by decide +kernel
theorem dX6_bestShift_4 : decode cX6_bestShift 4 = .ok (.invokevirtual 40, 3) := by decide +kernel
theorem dX6_bestShift_7 : decode cX6_bestShift 7 = .ok (.istore_n 2, 1) := by decide +kernel
theorem dX6_bestShift_8 : decode cX6_bestShift 8 = .ok (.iconst 1, 1) := by decide +kernel
theorem dX6_bestShift_9 : decode cX6_bestShift 9 = .ok (.istore_n 3, 1) := by decide +kernel
theorem dX6_bestShift_10 : decode cX6_bestShift 10 = .ok (.iload_n 3, 1) := by decide +kernel
theorem dX6_bestShift_11 : decode cX6_bestShift 11 = .ok (.bipush 30, 2) := by decide +kernel
theorem dX6_bestShift_13 : decode cX6_bestShift 13 = .ok (.if_icmp .gt 50, 3) := by decide +kernel
theorem dX6_bestShift_16 : decode cX6_bestShift 16 = .ok (.iload_n 3, 1) := by decide +kernel
theorem dX6_bestShift_17 : decode cX6_bestShift 17 = .ok (.ineg, 1) := by decide +kernel
theorem dX6_bestShift_18 : decode cX6_bestShift 18 = .ok (.istore 4, 2) := by decide +kernel
theorem dX6_bestShift_20 : decode cX6_bestShift 20 = .ok (.iload 4, 2) := by decide +kernel
theorem dX6_bestShift_22 : decode cX6_bestShift 22 = .ok (.iload_n 3, 1) := by decide +kernel
theorem dX6_bestShift_23 : decode cX6_bestShift 23 = .ok (.if_icmp .gt 34, 3) := by decide +kernel
theorem dX6_bestShift_26 : decode cX6_bestShift 26 = .ok (.aload_n 0, 1) := by decide +kernel
theorem dX6_bestShift_27 : decode cX6_bestShift 27 = .ok (.iload 4, 2) := by decide +kernel
theorem dX6_bestShift_29 : decode cX6_bestShift 29 = .ok (.invokevirtual 40, 3) := by decide +kernel
theorem dX6_bestShift_32 : decode cX6_bestShift 32 = .ok (.istore 5, 2) := by decide +kernel
theorem dX6_bestShift_34 : decode cX6_bestShift 34 = .ok (.iload 5, 2) := by decide +kernel
theorem dX6_bestShift_36 : decode cX6_bestShift 36 = .ok (.iload_n 2, 1) := by decide +kernel
theorem dX6_bestShift_37 : decode cX6_bestShift 37 = .ok (.if_icmp .le 9, 3) := by decide +kernel
theorem dX6_bestShift_40 : decode cX6_bestShift 40 = .ok (.iload 5, 2) := by decide +kernel
theorem dX6_bestShift_42 : decode cX6_bestShift 42 = .ok (.istore_n 2, 1) := by decide +kernel
theorem dX6_bestShift_43 : decode cX6_bestShift 43 = .ok (.iload 4, 2) := by decide +kernel
theorem dX6_bestShift_45 : decode cX6_bestShift 45 = .ok (.istore_n 1, 1) := by decide +kernel
theorem dX6_bestShift_46 : decode cX6_bestShift 46 = .ok (.iload 4, 2) := by decide +kernel
theorem dX6_bestShift_48 : decode cX6_bestShift 48 = .ok (.iconst 2, 1) := by decide +kernel
theorem dX6_bestShift_49 : decode cX6_bestShift 49 = .ok (.iload_n 3, 1) := by decide +kernel
theorem dX6_bestShift_50 : decode cX6_bestShift 50 = .ok (.imul, 1) := by decide +kernel
theorem dX6_bestShift_51 : decode cX6_bestShift 51 = .ok (.iadd, 1) := by decide +kernel
theorem dX6_bestShift_52 : decode cX6_bestShift 52 = .ok (.istore 4, 2) := by decide +kernel
theorem dX6_bestShift_54 : decode cX6_bestShift 54 = .ok (.goto (-34), 3) := by decide +kernel
theorem dX6_bestShift_57 : decode cX6_bestShift 57 = .ok (.iinc 3 1, 3) := by decide +kernel
theorem dX6_bestShift_60 : decode cX6_bestShift 60 = .ok (.goto (-50), 3) := by decide +kernel
theorem dX6_bestShift_63 : decode cX6_bestShift 63 = .ok (.iload_n 1, 1) := by decide +kernel
theorem dX6_bestShift_64 : decode cX6_bestShift 64 = .ok (.ireturn, 1) := by decide +kernel
theorem dX7_init_0 : decode cX7_init 0 = .ok (.aload_n 0, 1) := by decide +kernel
theorem dX7_init_1 : decode cX7_init 1 = .ok (.invokespecial 1, 3) := by decide +kernel
theorem dX7_init_4 : decode cX7_init 4 = .ok (.aload_n 0, 1) := by decide +kernel
theorem dX7_init_5 : decode cX7_init 5 = .ok (.new 7, 3) := by decide +kernel
theorem dX7_init_8 : decode cX7_init 8 = .ok (.dup, 1) := by decide +kernel
theorem dX7_init_9 : decode cX7_init 9 = .ok (.invokespecial 9, 3) := by decide +kernel
theorem dX7_init_12 : decode cX7_init 12 = .ok (.putfield 10, 3) := by decide +kernel
theorem dX7_init_15 : decode cX7_init 15 = .ok (.aload_n 0, 1) := by decide +kernel
theorem dX7_init_16 : decode cX7_init 16 = .ok (.new 16, 3) := by decide +kernel
theorem dX7_init_19 : decode cX7_init 19 = .ok (.dup, 1) := by decide +kernel
theorem dX7_init_20 : decode cX7_init 20 = .ok (.invokespecial 18, 3) := by decide +kernel
theorem dX7_init_23 : decode cX7_init 23 = .ok (.putfield 19, 3) := by decide +kernel
theorem dX7_init_26 : decode cX7_init 26 = .ok (.aload_n 0, 1) := by decide +kernel
theorem dX7_init_27 : decode cX7_init 27 = .ok (.new 16, 3) := by decide +kernel
theorem dX7_init_30 : decode cX7_init 30 = .ok (.dup, 1) := by decide +kernel
theorem dX7_init_31 : decode cX7_init 31 = .ok (.invokespecial 18, 3) := by decide +kernel
theorem dX7_init_34 : decode cX7_init 34 = .ok (.putfield 23, 3) := by decide +kernel
theorem dX7_init_37 : decode cX7_init 37 = .ok (.aload_n 0, 1) := by decide +kernel
theorem dX7_init_38 : decode cX7_init 38 = .ok (.new 26, 3) := by decide +kernel
theorem dX7_init_41 : decode cX7_init 41 = .ok (.dup, 1) := by decide +kernel
theorem dX7_init_42 : decode cX7_init 42 = .ok (.invokespecial 28, 3) := by decide +kernel
theorem dX7_init_45 : decode cX7_init 45 = .ok (.putfield 29, 3) := by decide +kernel
theorem dX7_init_48 : decode cX7_init 48 = .ok (.aload_n 0, 1) := by decide +kernel
theorem dX7_init_49 : decode cX7_init 49 = .ok (.new 33, 3) := by decide +kernel
theorem dX7_init_52 : decode cX7_init 52 = .ok (.dup, 1) := by decide +kernel
theorem dX7_init_53 : decode cX7_init 53 = .ok (.aload_n 0, 1) := by decide +kernel
theorem dX7_init_54 : decode cX7_init 54 = .ok (.getfield 23, 3) := by decide +kernel
theorem dX7_init_57 : decode cX7_init 57 = .ok (.aload_n 0, 1) := by decide +kernel
theorem dX7_init_58 : decode cX7_init 58 = .ok (.getfield 29, 3) := by decide +kernel
theorem dX7_init_61 : decode cX7_init 61 = .ok (.invokespecial 35, 3) := by decide +kernel
theorem dX7_init_64 : decode cX7_init 64 = .ok (.putfield 38, 3) := by decide +kernel
theorem dX7_init_67 : decode cX7_init 67 = .ok (.aload_n 0, 1) := by decide +kernel
theorem dX7_init_68 : decode cX7_init 68 = .ok (.new 42, 3) := by decide +kernel
theorem dX7_init_71 : decode cX7_init 71 = .ok (.dup, 1) := by decide +kernel
theorem dX7_init_72 : decode cX7_init 72 = .ok (.aload_n 0, 1) := by decide +kernel
theorem dX7_init_73 : decode cX7_init 73 = .ok (.getfield 23, 3) := by decide +kernel
theorem dX7_init_76 : decode cX7_init 76 = .ok (.aload_n 0, 1) := by decide +kernel
theorem dX7_init_77 : decode cX7_init 77 = .ok (.getfield 29, 3) := by decide +kernel
theorem dX7_init_80 : decode cX7_init 80 = .ok (.invokespecial 44, 3) := by decide +kernel
theorem dX7_init_83 : decode cX7_init 83 = .ok (.putfield 45, 3) := by decide +kernel
theorem dX7_init_86 : decode cX7_init 86 = .ok (.aload_n 0, 1) := by decide +kernel
theorem dX7_init_87 : decode cX7_init 87 = .ok (.new 49, 3) := by decide +kernel
theorem dX7_init_90 : decode cX7_init 90 = .ok (.dup, 1) := by decide +kernel
theorem dX7_init_91 : decode cX7_init 91 = .ok (.aload_n 0, 1) := by decide +kernel
theorem dX7_init_92 : decode cX7_init 92 = .ok (.getfield 38, 3) := by decide +kernel
theorem dX7_init_95 : decode cX7_init 95 = .ok (.invokespecial 51, 3) := by decide +kernel
theorem dX7_init_98 : decode cX7_init 98 = .ok (.putfield 54, 3) := by decide +kernel
theorem dX7_init_101 : decode cX7_init 101 = .ok (.aload_n 0, 1) := by decide +kernel
theorem dX7_init_102 : decode cX7_init 102 = .ok (.new 58, 3) := by decide +kernel
theorem dX7_init_105 : decode cX7_init 105 = .ok (.dup, 1) := by decide +kernel
theorem dX7_init_106 : decode cX7_init 106 = .ok (.bipush 8, 2) := by decide +kernel
theorem dX7_init_108 : decode cX7_init 108 = .ok (.invokespecial 60, 3) := by decide +kernel
theorem dX7_init_111 : decode cX7_init 111 = .ok (.putfield 63, 3) := by decide +kernel
theorem dX7_init_114 : decode cX7_init 114 = .ok (.aload_n 0, 1) := by decide +kernel
theorem dX7_init_115 : decode cX7_init 115 = .ok (.new 58, 3) := by decide +kernel
theorem dX7_init_118 : decode cX7_init 118 = .ok (.dup, 1) := by decide +kernel
theorem dX7_init_119 : decode cX7_init 119 = .ok (.iconst 2, 1) := by decide +kernel
theorem dX7_init_120 : decode cX7_init 120 = .ok (.invokespecial 60, 3) := by decide +kernel
theorem dX7_init_123 : decode cX7_init 123 = .ok (.putfield 67, 3) := by decide +kernel
theorem dX7_init_126 : decode cX7_init 126 = .ok (.aload_n 0, 1) := by decide +kernel
theorem dX7_init_127 : decode cX7_init 127 = .ok (.bipush 8, 2) := by decide +kernel
theorem dX7_init_129 : decode cX7_init 129 = .ok (.newarray .int, 2) := by decide +kernel
theorem dX7_init_131 : decode cX7_init 131 = .ok (.putfield 70, 3) := by decide +kernel
theorem dX7_init_134 : decode cX7_init 134 = .ok (.aload_n 0, 1) := by decide +kernel
theorem dX7_init_135 : decode cX7_init 135 = .ok (.getfield 23, 3) := by decide +kernel
theorem dX7_init_138 : decode cX7_init 138 = .ok (.invokevirtual 74, 3) := by decide +kernel
theorem dX7_init_141 : decode cX7_init 141 = .ok (.aload_n 0, 1) := by decide +kernel
theorem dX7_init_142 : decode cX7_init 142 = .ok (.getfield 29, 3) := by decide +kernel
theorem dX7_init_145 : decode cX7_init 145 = .ok (.aload_n 0, 1) := by decide +kernel
theorem dX7_init_146 : decode cX7_init 146 = .ok (.getfield 23, 3) := by decide +kernel
theorem dX7_init_149 : decode cX7_init 149 = .ok (.invokevirtual 77, 3) := by decide +kernel
theorem dX7_init_152 : decode cX7_init 152 = .ok (.invokevirtual 81, 3) := by decide +kernel
theorem dX7_init_155 : decode cX7_init 155 = .ok (.return_, 1) := by decide +kernel
theorem dX7_write_0 : decode cX7_write 0 = .ok (.iload_n 1, 1) := by decide +kernel
theorem dX7_write_1 : decode cX7_write 1 = .ok (.iconst 1, 1) := by decide +kernel
theorem dX7_write_2 : decode cX7_write 2 = .ok (.if_icmp .lt 9, 3) := by decide +kernel
theorem dX7_write_5 : decode cX7_write 5 = .ok (.iload_n 1, 1) := by decide +kernel
theorem dX7_write_6 : decode cX7_write 6 = .ok (.bipush 8, 2) := by decide +kernel
theorem dX7_write_8 : decode cX7_write 8 = .ok (.if_icmp .le 5, 3) := by decide +kernel
theorem dX7_write_11 : decode cX7_write 11 = .ok (.iconst (-1), 1) := by decide +kernel
theorem dX7_write_12 : decode cX7_write 12 = .ok (.ireturn, 1) := by decide +kernel
theorem dX7_write_13 : decode cX7_write 13 = .ok (.aload_n 0, 1) := by decide +kernel
theorem dX7_write_14 : decode cX7_write 14 = .ok (.getfield 10, 3) := by decide +kernel
theorem dX7_write_17 : decode cX7_write 17 = .ok (.iload_n 1, 1) := by decide +kernel
theorem dX7_write_18 : decode cX7_write 18 = .ok (.lload_n 2, 1) := by decide +kernel
theorem dX7_write_19 : decode cX7_write 19 = .ok (.invokevirtual 84, 3) := by decide +kernel
theorem dX7_write_22 : decode cX7_write 22 = .ok (.ifCond .eq 13, 3) := by decide +kernel
theorem dX7_write_25 : decode cX7_write 25 = .ok (.aload_n 0, 1) := by decide +kernel
theorem dX7_write_26 : decode cX7_write 26 = .ok (.getfield 10, 3) := by decide +kernel
theorem dX7_write_29 : decode cX7_write 29 = .ok (.getfield 88, 3) := by decide +kernel
theorem dX7_write_32 : decode cX7_write 32 = .ok (.goto 5, 3) := by decide +kernel
theorem dX7_write_35 : decode cX7_write 35 = .ok (.bipush (-3), 2) := by decide +kernel
theorem dX7_write_37 : decode cX7_write 37 = .ok (.ireturn, 1) := by decide +kernel
theorem dX7_wipe_0 : decode cX7_wipe 0 = .ok (.aload_n 0, 1) := by decide +kernel
theorem dX7_wipe_1 : decode cX7_wipe 1 = .ok (.getfield 10, 3) := by decide +kernel
theorem dX7_wipe_4 : decode cX7_wipe 4 = .ok (.getfield 88, 3) := by decide +kernel
theorem dX7_wipe_7 : decode cX7_wipe 7 = .ok (.istore_n 1, 1) := by decide +kernel
theorem dX7_wipe_8 : decode cX7_wipe 8 = .ok (.aload_n 0, 1) := by decide +kernel
theorem dX7_wipe_9 : decode cX7_wipe 9 = .ok (.getfield 10, 3) := by decide +kernel
theorem dX7_wipe_12 : decode cX7_wipe 12 = .ok (.iconst 0, 1) := by decide +kernel
theorem dX7_wipe_13 : decode cX7_wipe 13 = .ok (.putfield 88, 3) := by decide +kernel
theorem dX7_wipe_16 : decode cX7_wipe 16 = .ok (.iload_n 1, 1) := by decide +kernel
theorem dX7_wipe_17 : decode cX7_wipe 17 = .ok (.ireturn, 1) := by decide +kernel
theorem dX7_fault_0 : decode cX7_fault 0 = .ok (.aload_n 0, 1) := by decide +kernel
theorem dX7_fault_1 : decode cX7_fault 1 = .ok (.getfield 10, 3) := by decide +kernel
theorem dX7_fault_4 : decode cX7_fault 4 = .ok (.aload_n 0, 1) := by decide +kernel
theorem dX7_fault_5 : decode cX7_fault 5 = .ok (.getfield 19, 3) := by decide +kernel
theorem dX7_fault_8 : decode cX7_fault 8 = .ok (.invokevirtual 92, 3) := by decide +kernel
theorem dX7_fault_11 : decode cX7_fault 11 = .ok (.ireturn, 1) := by decide +kernel
theorem dX7_lay_0 : decode cX7_lay 0 = .ok (.aload_n 0, 1) := by decide +kernel
theorem dX7_lay_1 : decode cX7_lay 1 = .ok (.getfield 10, 3) := by decide +kernel
theorem dX7_lay_4 : decode cX7_lay 4 = .ok (.aload_n 0, 1) := by decide +kernel
theorem dX7_lay_5 : decode cX7_lay 5 = .ok (.getfield 19, 3) := by decide +kernel
theorem dX7_lay_8 : decode cX7_lay 8 = .ok (.invokevirtual 92, 3) := by decide +kernel
theorem dX7_lay_11 : decode cX7_lay 11 = .ok (.bipush (-4), 2) := by decide +kernel
theorem dX7_lay_13 : decode cX7_lay 13 = .ok (.if_icmp .ne 13, 3) := by decide +kernel
theorem dX7_lay_16 : decode cX7_lay 16 = .ok (.aload_n 0, 1) := by decide +kernel
theorem dX7_lay_17 : decode cX7_lay 17 = .ok (.getfield 19, 3) := by decide +kernel
theorem dX7_lay_20 : decode cX7_lay 20 = .ok (.getfield 96, 3) := by decide +kernel
theorem dX7_lay_23 : decode cX7_lay 23 = .ok (.ifCond .ne 6, 3) := by decide +kernel
theorem dX7_lay_26 : decode cX7_lay 26 = .ok (.bipush (-2), 2) := by decide +kernel
theorem dX7_lay_28 : decode cX7_lay 28 = .ok (.ireturn, 1) := by decide +kernel
theorem dX7_lay_29 : decode cX7_lay 29 = .ok (.aload_n 0, 1) := by decide +kernel
theorem dX7_lay_30 : decode cX7_lay 30 = .ok (.getfield 23, 3) := by decide +kernel
theorem dX7_lay_33 : decode cX7_lay 33 = .ok (.aload_n 0, 1) := by decide +kernel
theorem dX7_lay_34 : decode cX7_lay 34 = .ok (.getfield 19, 3) := by decide +kernel
theorem dX7_lay_37 : decode cX7_lay 37 = .ok (.invokevirtual 99, 3) := by decide +kernel
theorem dX7_lay_40 : decode cX7_lay 40 = .ok (.aload_n 0, 1) := by decide +kernel
theorem dX7_lay_41 : decode cX7_lay 41 = .ok (.getfield 29, 3) := by decide +kernel
theorem dX7_lay_44 : decode cX7_lay 44 = .ok (.aload_n 0, 1) := by decide +kernel
theorem dX7_lay_45 : decode cX7_lay 45 = .ok (.getfield 23, 3) := by decide +kernel
theorem dX7_lay_48 : decode cX7_lay 48 = .ok (.invokevirtual 77, 3) := by decide +kernel
theorem dX7_lay_51 : decode cX7_lay 51 = .ok (.invokevirtual 81, 3) := by decide +kernel
theorem dX7_lay_54 : decode cX7_lay 54 = .ok (.aload_n 0, 1) := by decide +kernel
theorem dX7_lay_55 : decode cX7_lay 55 = .ok (.iconst 0, 1) := by decide +kernel
theorem dX7_lay_56 : decode cX7_lay 56 = .ok (.putfield 103, 3) := by decide +kernel
theorem dX7_lay_59 : decode cX7_lay 59 = .ok (.aload_n 0, 1) := by decide +kernel
theorem dX7_lay_60 : decode cX7_lay 60 = .ok (.getfield 54, 3) := by decide +kernel
theorem dX7_lay_63 : decode cX7_lay 63 = .ok (.iconst 0, 1) := by decide +kernel
theorem dX7_lay_64 : decode cX7_lay 64 = .ok (.putfield 106, 3) := by decide +kernel
theorem dX7_lay_67 : decode cX7_lay 67 = .ok (.aload_n 0, 1) := by decide +kernel
theorem dX7_lay_68 : decode cX7_lay 68 = .ok (.getfield 63, 3) := by decide +kernel
theorem dX7_lay_71 : decode cX7_lay 71 = .ok (.invokevirtual 109, 3) := by decide +kernel
theorem dX7_lay_74 : decode cX7_lay 74 = .ok (.aload_n 0, 1) := by decide +kernel
theorem dX7_lay_75 : decode cX7_lay 75 = .ok (.getfield 67, 3) := by decide +kernel
theorem dX7_lay_78 : decode cX7_lay 78 = .ok (.invokevirtual 109, 3) := by decide +kernel
theorem dX7_lay_81 : decode cX7_lay 81 = .ok (.aload_n 0, 1) := by decide +kernel
theorem dX7_lay_82 : decode cX7_lay 82 = .ok (.getfield 23, 3) := by decide +kernel
theorem dX7_lay_85 : decode cX7_lay 85 = .ok (.getfield 96, 3) := by decide +kernel
theorem dX7_lay_88 : decode cX7_lay 88 = .ok (.ireturn, 1) := by decide +kernel
theorem dX7_act_0 : decode cX7_act 0 = .ok (.aload_n 0, 1) := by decide +kernel
theorem dX7_act_1 : decode cX7_act 1 = .ok (.iload_n 1, 1) := by decide +kernel
theorem dX7_act_2 : decode cX7_act 2 = .ok (.invokevirtual 112, 3) := by decide +kernel
theorem dX7_act_5 : decode cX7_act 5 = .ok (.ifCond .eq 12, 3) := by decide +kernel
theorem dX7_act_8 : decode cX7_act 8 = .ok (.iload_n 2, 1) := by decide +kernel
theorem dX7_act_9 : decode cX7_act 9 = .ok (.ifCond .lt 8, 3) := by decide +kernel
theorem dX7_act_12 : decode cX7_act 12 = .ok (.iload_n 2, 1) := by decide +kernel
theorem dX7_act_13 : decode cX7_act 13 = .ok (.iconst 5, 1) := by decide +kernel
theorem dX7_act_14 : decode cX7_act 14 = .ok (.if_icmp .lt 5, 3) := by decide +kernel
theorem dX7_act_17 : decode cX7_act 17 = .ok (.iconst (-1), 1) := by decide +kernel
theorem dX7_act_18 : decode cX7_act 18 = .ok (.ireturn, 1) := by decide +kernel
theorem dX7_act_19 : decode cX7_act 19 = .ok (.iload_n 2, 1) := by decide +kernel
theorem dX7_act_20 : decode cX7_act 20 = .ok (.iconst 1, 1) := by decide +kernel
theorem dX7_act_21 : decode cX7_act 21 = .ok (.if_icmp .ne 17, 3) := by decide +kernel
theorem dX7_act_24 : decode cX7_act 24 = .ok (.aload_n 0, 1) := by decide +kernel
theorem dX7_act_25 : decode cX7_act 25 = .ok (.getfield 29, 3) := by decide +kernel
theorem dX7_act_28 : decode cX7_act 28 = .ok (.getfield 116, 3) := by decide +kernel
theorem dX7_act_31 : decode cX7_act 31 = .ok (.iload_n 1, 1) := by decide +kernel
theorem dX7_act_32 : decode cX7_act 32 = .ok (.invokestatic 119, 3) := by decide +kernel
theorem dX7_act_35 : decode cX7_act 35 = .ok (.goto 12, 3) := by decide +kernel
theorem dX7_act_38 : decode cX7_act 38 = .ok (.aload_n 0, 1) := by decide +kernel
theorem dX7_act_39 : decode cX7_act 39 = .ok (.getfield 23, 3) := by decide +kernel
theorem dX7_act_42 : decode cX7_act 42 = .ok (.iload_n 1, 1) := by decide +kernel
theorem dX7_act_43 : decode cX7_act 43 = .ok (.iload_n 2, 1) := by decide +kernel
theorem dX7_act_44 : decode cX7_act 44 = .ok (.invokevirtual 123, 3) := by decide +kernel
theorem dX7_act_47 : decode cX7_act 47 = .ok (.ireturn, 1) := by decide +kernel
theorem dX7_year_0 : decode cX7_year 0 = .ok (.iload_n 1, 1) := by decide +kernel
theorem dX7_year_1 : decode cX7_year 1 = .ok (.ifCond .lt 9, 3) := by decide +kernel
theorem dX7_year_4 : decode cX7_year 4 = .ok (.iload_n 1, 1) := by decide +kernel
theorem dX7_year_5 : decode cX7_year 5 = .ok (.bipush 99, 2) := by decide +kernel
theorem dX7_year_7 : decode cX7_year 7 = .ok (.if_icmp .le 5, 3) := by decide +kernel
theorem dX7_year_10 : decode cX7_year 10 = .ok (.iconst (-1), 1) := by decide +kernel
theorem dX7_year_11 : decode cX7_year 11 = .ok (.ireturn, 1) := by decide +kernel
theorem dX7_year_12 : decode cX7_year 12 = .ok (.aload_n 0, 1) := by decide +kernel
theorem dX7_year_13 : decode cX7_year 13 = .ok (.getfield 29, 3) := by decide +kernel
theorem dX7_year_16 : decode cX7_year 16 = .ok (.getfield 126, 3) := by decide +kernel
theorem dX7_year_19 : decode cX7_year 19 = .ok (.istore_n 2, 1) := by decide +kernel
theorem dX7_year_20 : decode cX7_year 20 = .ok (.aload_n 0, 1) := by decide +kernel
theorem dX7_year_21 : decode cX7_year 21 = .ok (.getfield 29, 3) := by decide +kernel
theorem dX7_year_24 : decode cX7_year 24 = .ok (.iload_n 1, 1) := by decide +kernel
theorem dX7_year_25 : decode cX7_year 25 = .ok (.putfield 126, 3) := by decide +kernel
theorem dX7_year_28 : decode cX7_year 28 = .ok (.iload_n 2, 1) := by decide +kernel
theorem dX7_year_29 : decode cX7_year 29 = .ok (.ireturn, 1) := by decide +kernel
theorem dX7_rules_0 : decode cX7_rules 0 = .ok (.lload_n 1, 1) := by decide +kernel
theorem dX7_rules_1 : decode cX7_rules 1 = .ok (.invokestatic 129, 3) := by decide +kernel
theorem dX7_rules_4 : decode cX7_rules 4 = .ok (.ifCond .eq 14, 3) := by decide +kernel
theorem dX7_rules_7 : decode cX7_rules 7 = .ok (.aload_n 0, 1) := by decide +kernel
theorem dX7_rules_8 : decode cX7_rules 8 = .ok (.getfield 38, 3) := by decide +kernel
theorem dX7_rules_11 : decode cX7_rules 11 = .ok (.lload_n 1, 1) := by decide +kernel
theorem dX7_rules_12 : decode cX7_rules 12 = .ok (.invokevirtual 133, 3) := by decide +kernel
theorem dX7_rules_15 : decode cX7_rules 15 = .ok (.goto 4, 3) := by decide +kernel
theorem dX7_rules_18 : decode cX7_rules 18 = .ok (.iconst (-1), 1) := by decide +kernel
theorem dX7_rules_19 : decode cX7_rules 19 = .ok (.ireturn, 1) := by decide +kernel
theorem dX7_minutes_0 : decode cX7_minutes 0 = .ok (.lload_n 1, 1) := by decide +kernel
theorem dX7_minutes_1 : decode cX7_minutes 1 = .ok (.invokestatic 129, 3) := by decide +kernel
theorem dX7_minutes_4 : decode cX7_minutes 4 = .ok (.ifCond .eq 21, 3) := by decide +kernel
theorem dX7_minutes_7 : decode cX7_minutes 7 = .ok (.iload_n 3, 1) := by decide +kernel
theorem dX7_minutes_8 : decode cX7_minutes 8 = .ok (.ifCond .lt 17, 3) := by decide +kernel
theorem dX7_minutes_11 : decode cX7_minutes 11 = .ok (.iload_n 3, 1) := by decide +kernel
theorem dX7_minutes_12 : decode cX7_minutes 12 = .ok (.ldc 137, 2) := by decide +kernel
theorem dX7_minutes_14 : decode cX7_minutes 14 = .ok (.if_icmp .gt 11, 3) := by decide +kernel
theorem dX7_minutes_17 : decode cX7_minutes 17 = .ok (.iload 4, 2) := by decide +kernel
theorem dX7_minutes_19 : decode cX7_minutes 19 = .ok (.invokestatic 138, 3) := by decide +kernel
theorem dX7_minutes_22 : decode cX7_minutes 22 = .ok (.ifCond .ne 5, 3) := by decide +kernel
theorem dX7_minutes_25 : decode cX7_minutes 25 = .ok (.iconst (-1), 1) := by decide +kernel
theorem dX7_minutes_26 : decode cX7_minutes 26 = .ok (.ireturn, 1) := by decide +kernel
theorem dX7_minutes_27 : decode cX7_minutes 27 = .ok (.aload_n 0, 1) := by decide +kernel
theorem dX7_minutes_28 : decode cX7_minutes 28 = .ok (.getfield 38, 3) := by decide +kernel
theorem dX7_minutes_31 : decode cX7_minutes 31 = .ok (.iload 4, 2) := by decide +kernel
theorem dX7_minutes_33 : decode cX7_minutes 33 = .ok (.lload_n 1, 1) := by decide +kernel
theorem dX7_minutes_34 : decode cX7_minutes 34 = .ok (.iload_n 3, 1) := by decide +kernel
theorem dX7_minutes_35 : decode cX7_minutes 35 = .ok (.invokevirtual 141, 3) := by decide +kernel
theorem dX7_minutes_38 : decode cX7_minutes 38 = .ok (.ireturn, 1) := by decide +kernel
theorem dX7_next_0 : decode cX7_next 0 = .ok (.lload_n 1, 1) := by decide +kernel
theorem dX7_next_1 : decode cX7_next 1 = .ok (.invokestatic 129, 3) := by decide +kernel
theorem dX7_next_4 : decode cX7_next 4 = .ok (.ifCond .eq 10, 3) := by decide +kernel
theorem dX7_next_7 : decode cX7_next 7 = .ok (.iload_n 3, 1) := by decide +kernel
theorem dX7_next_8 : decode cX7_next 8 = .ok (.invokestatic 138, 3) := by decide +kernel
theorem dX7_next_11 : decode cX7_next 11 = .ok (.ifCond .ne 7, 3) := by decide +kernel
theorem dX7_next_14 : decode cX7_next 14 = .ok (.ldc2_w 145, 3) := by decide +kernel
theorem dX7_next_17 : decode cX7_next 17 = .ok (.lreturn, 1) := by decide +kernel
theorem dX7_next_18 : decode cX7_next 18 = .ok (.aload_n 0, 1) := by decide +kernel
theorem dX7_next_19 : decode cX7_next 19 = .ok (.getfield 38, 3) := by decide +kernel
theorem dX7_next_22 : decode cX7_next 22 = .ok (.iload_n 3, 1) := by decide +kernel
theorem dX7_next_23 : decode cX7_next 23 = .ok (.lload_n 1, 1) := by decide +kernel
theorem dX7_next_24 : decode cX7_next 24 = .ok (.invokevirtual 147, 3) := by decide +kernel
theorem dX7_next_27 : decode cX7_next 27 = .ok (.lreturn, 1) := by decide +kernel
theorem dX7_lawful_0 : decode cX7_lawful 0 = .ok (.aload_n 0, 1) := by decide +kernel
theorem dX7_lawful_1 : decode cX7_lawful 1 = .ok (.iload_n 1, 1) := by decide +kernel
theorem dX7_lawful_2 : decode cX7_lawful 2 = .ok (.invokevirtual 112, 3) := by decide +kernel
theorem dX7_lawful_5 : decode cX7_lawful 5 = .ok (.ifCond .eq 10, 3) := by decide +kernel
theorem dX7_lawful_8 : decode cX7_lawful 8 = .ok (.lload_n 2, 1) := by decide +kernel
theorem dX7_lawful_9 : decode cX7_lawful 9 = .ok (.invokestatic 129, 3) := by decide +kernel
theorem dX7_lawful_12 : decode cX7_lawful 12 = .ok (.ifCond .ne 5, 3) := by decide +kernel
theorem dX7_lawful_15 : decode cX7_lawful 15 = .ok (.iconst (-1), 1) := by decide +kernel
theorem dX7_lawful_16 : decode cX7_lawful 16 = .ok (.ireturn, 1) := by decide +kernel
theorem dX7_lawful_17 : decode cX7_lawful 17 = .ok (.aload_n 0, 1) := by decide +kernel
theorem dX7_lawful_18 : decode cX7_lawful 18 = .ok (.getfield 38, 3) := by decide +kernel
theorem dX7_lawful_21 : decode cX7_lawful 21 = .ok (.iload_n 1, 1) := by decide +kernel
theorem dX7_lawful_22 : decode cX7_lawful 22 = .ok (.lload_n 2, 1) := by decide +kernel
theorem dX7_lawful_23 : decode cX7_lawful 23 = .ok (.invokevirtual 151, 3) := by decide +kernel
theorem dX7_lawful_26 : decode cX7_lawful 26 = .ok (.ifCond .eq 7, 3) := by decide +kernel
theorem dX7_lawful_29 : decode cX7_lawful 29 = .ok (.iconst 1, 1) := by decide +kernel
theorem dX7_lawful_30 : decode cX7_lawful 30 = .ok (.goto 4, 3) := by decide +kernel
theorem dX7_lawful_33 : decode cX7_lawful 33 = .ok (.iconst 0, 1) := by decide +kernel
theorem dX7_lawful_34 : decode cX7_lawful 34 = .ok (.ireturn, 1) := by decide +kernel
theorem dX7_tell_0 : decode cX7_tell 0 = .ok (.aload_n 0, 1) := by decide +kernel
theorem dX7_tell_1 : decode cX7_tell 1 = .ok (.iload_n 1, 1) := by decide +kernel
theorem dX7_tell_2 : decode cX7_tell 2 = .ok (.invokevirtual 112, 3) := by decide +kernel
theorem dX7_tell_5 : decode cX7_tell 5 = .ok (.ifCond .ne 5, 3) := by decide +kernel
theorem dX7_tell_8 : decode cX7_tell 8 = .ok (.iconst (-1), 1) := by decide +kernel
theorem dX7_tell_9 : decode cX7_tell 9 = .ok (.ireturn, 1) := by decide +kernel
theorem dX7_tell_10 : decode cX7_tell 10 = .ok (.aload_n 0, 1) := by decide +kernel
theorem dX7_tell_11 : decode cX7_tell 11 = .ok (.getfield 103, 3) := by decide +kernel
theorem dX7_tell_14 : decode cX7_tell 14 = .ok (.ifCond .lt 15, 3) := by decide +kernel
theorem dX7_tell_17 : decode cX7_tell 17 = .ok (.aload_n 0, 1) := by decide +kernel
theorem dX7_tell_18 : decode cX7_tell 18 = .ok (.getfield 103, 3) := by decide +kernel
theorem dX7_tell_21 : decode cX7_tell 21 = .ok (.aload_n 0, 1) := by decide +kernel
theorem dX7_tell_22 : decode cX7_tell 22 = .ok (.getfield 70, 3) := by decide +kernel
theorem dX7_tell_25 : decode cX7_tell 25 = .ok (.arraylength, 1) := by decide +kernel
theorem dX7_tell_26 : decode cX7_tell 26 = .ok (.if_icmp .lt 6, 3) := by decide +kernel
theorem dX7_tell_29 : decode cX7_tell 29 = .ok (.bipush (-3), 2) := by decide +kernel
theorem dX7_tell_31 : decode cX7_tell 31 = .ok (.ireturn, 1) := by decide +kernel
theorem dX7_tell_32 : decode cX7_tell 32 = .ok (.aload_n 0, 1) := by decide +kernel
theorem dX7_tell_33 : decode cX7_tell 33 = .ok (.getfield 70, 3) := by decide +kernel
theorem dX7_tell_36 : decode cX7_tell 36 = .ok (.aload_n 0, 1) := by decide +kernel
theorem dX7_tell_37 : decode cX7_tell 37 = .ok (.getfield 103, 3) := by decide +kernel
theorem dX7_tell_40 : decode cX7_tell 40 = .ok (.iload_n 1, 1) := by decide +kernel
theorem dX7_tell_41 : decode cX7_tell 41 = .ok (.iastore, 1) := by decide +kernel
theorem dX7_tell_42 : decode cX7_tell 42 = .ok (.aload_n 0, 1) := by decide +kernel
theorem dX7_tell_43 : decode cX7_tell 43 = .ok (.dup, 1) := by decide +kernel
theorem dX7_tell_44 : decode cX7_tell 44 = .ok (.getfield 103, 3) := by decide +kernel
theorem dX7_tell_47 : decode cX7_tell 47 = .ok (.iconst 1, 1) := by decide +kernel
theorem dX7_tell_48 : decode cX7_tell 48 = .ok (.iadd, 1) := by decide +kernel
theorem dX7_tell_49 : decode cX7_tell 49 = .ok (.putfield 103, 3) := by decide +kernel
theorem dX7_tell_52 : decode cX7_tell 52 = .ok (.aload_n 0, 1) := by decide +kernel
theorem dX7_tell_53 : decode cX7_tell 53 = .ok (.getfield 103, 3) := by decide +kernel
theorem dX7_tell_56 : decode cX7_tell 56 = .ok (.ireturn, 1) := by decide +kernel
theorem dX7_noRow_0 : decode cX7_noRow 0 = .ok (.aload_n 0, 1) := by decide +kernel
theorem dX7_noRow_1 : decode cX7_noRow 1 = .ok (.getfield 103, 3) := by decide +kernel
theorem dX7_noRow_4 : decode cX7_noRow 4 = .ok (.istore_n 1, 1) := by decide +kernel
theorem dX7_noRow_5 : decode cX7_noRow 5 = .ok (.aload_n 0, 1) := by decide +kernel
theorem dX7_noRow_6 : decode cX7_noRow 6 = .ok (.iconst 0, 1) := by decide +kernel
theorem dX7_noRow_7 : decode cX7_noRow 7 = .ok (.putfield 103, 3) := by decide +kernel
theorem dX7_noRow_10 : decode cX7_noRow 10 = .ok (.iload_n 1, 1) := by decide +kernel
theorem dX7_noRow_11 : decode cX7_noRow 11 = .ok (.ireturn, 1) := by decide +kernel
theorem dX7_soon_0 : decode cX7_soon 0 = .ok (.lload_n 1, 1) := by decide +kernel
theorem dX7_soon_1 : decode cX7_soon 1 = .ok (.invokestatic 129, 3) := by decide +kernel
theorem dX7_soon_4 : decode cX7_soon 4 = .ok (.ifCond .eq 16, 3) := by decide +kernel
theorem dX7_soon_7 : decode cX7_soon 7 = .ok (.iload_n 3, 1) := by decide +kernel
theorem dX7_soon_8 : decode cX7_soon 8 = .ok (.iconst (-1), 1) := by decide +kernel
theorem dX7_soon_9 : decode cX7_soon 9 = .ok (.if_icmp .lt 11, 3) := by decide +kernel
theorem dX7_soon_12 : decode cX7_soon 12 = .ok (.iload_n 3, 1) := by decide +kernel
theorem dX7_soon_13 : decode cX7_soon 13 = .ok (.aload_n 0, 1) := by decide +kernel
theorem dX7_soon_14 : decode cX7_soon 14 = .ok (.getfield 103, 3) := by decide +kernel
theorem dX7_soon_17 : decode cX7_soon 17 = .ok (.if_icmp .lt 7, 3) := by decide +kernel
theorem dX7_soon_20 : decode cX7_soon 20 = .ok (.ldc2_w 145, 3) := by decide +kernel
theorem dX7_soon_23 : decode cX7_soon 23 = .ok (.lreturn, 1) := by decide +kernel
theorem dX7_soon_24 : decode cX7_soon 24 = .ok (.lload_n 1, 1) := by decide +kernel
theorem dX7_soon_25 : decode cX7_soon 25 = .ok (.lstore 4, 2) := by decide +kernel
theorem dX7_soon_27 : decode cX7_soon 27 = .ok (.iconst 0, 1) := by decide +kernel
theorem dX7_soon_28 : decode cX7_soon 28 = .ok (.istore 6, 2) := by decide +kernel
theorem dX7_soon_30 : decode cX7_soon 30 = .ok (.iload 6, 2) := by decide +kernel
theorem dX7_soon_32 : decode cX7_soon 32 = .ok (.aload_n 0, 1) := by decide +kernel
theorem dX7_soon_33 : decode cX7_soon 33 = .ok (.getfield 103, 3) := by decide +kernel
theorem dX7_soon_36 : decode cX7_soon 36 = .ok (.if_icmp .ge 82, 3) := by decide +kernel
theorem dX7_soon_39 : decode cX7_soon 39 = .ok (.iload 6, 2) := by decide +kernel
theorem dX7_soon_41 : decode cX7_soon 41 = .ok (.aload_n 0, 1) := by decide +kernel
theorem dX7_soon_42 : decode cX7_soon 42 = .ok (.getfield 70, 3) := by decide +kernel
theorem dX7_soon_45 : decode cX7_soon 45 = .ok (.arraylength, 1) := by decide +kernel
theorem dX7_soon_46 : decode cX7_soon 46 = .ok (.if_icmp .ge 72, 3) := by decide +kernel
theorem dX7_soon_49 : decode cX7_soon 49 = .ok (.aload_n 0, 1) := by decide +kernel
theorem dX7_soon_50 : decode cX7_soon 50 = .ok (.getfield 38, 3) := by decide +kernel
theorem dX7_soon_53 : decode cX7_soon 53 = .ok (.aload_n 0, 1) := by decide +kernel
theorem dX7_soon_54 : decode cX7_soon 54 = .ok (.getfield 70, 3) := by decide +kernel
theorem dX7_soon_57 : decode cX7_soon 57 = .ok (.iload 6, 2) := by decide +kernel
theorem dX7_soon_59 : decode cX7_soon 59 = .ok (.iaload, 1) := by decide +kernel
theorem dX7_soon_60 : decode cX7_soon 60 = .ok (.aload_n 0, 1) := by decide +kernel
theorem dX7_soon_61 : decode cX7_soon 61 = .ok (.getfield 70, 3) := by decide +kernel
theorem dX7_soon_64 : decode cX7_soon 64 = .ok (.iload 6, 2) := by decide +kernel
theorem dX7_soon_66 : decode cX7_soon 66 = .ok (.iaload, 1) := by decide +kernel
theorem dX7_soon_67 : decode cX7_soon 67 = .ok (.lload 4, 2) := by decide +kernel
theorem dX7_soon_69 : decode cX7_soon 69 = .ok (.invokevirtual 154, 3) := by decide +kernel
theorem dX7_soon_72 : decode cX7_soon 72 = .ok (.lstore 7, 2) := by decide +kernel
theorem dX7_soon_74 : decode cX7_soon 74 = .ok (.lload 7, 2) := by decide +kernel
theorem dX7_soon_76 : decode cX7_soon 76 = .ok (.ldc2_w 158, 3) := by decide +kernel
theorem dX7_soon_79 : decode cX7_soon 79 = .ok (.lcmp, 1) := by decide +kernel
theorem dX7_soon_80 : decode cX7_soon 80 = .ok (.ifCond .eq 9, 3) := by decide +kernel
theorem dX7_soon_83 : decode cX7_soon 83 = .ok (.iload 6, 2) := by decide +kernel
theorem dX7_soon_85 : decode cX7_soon 85 = .ok (.iload_n 3, 1) := by decide +kernel
theorem dX7_soon_86 : decode cX7_soon 86 = .ok (.if_icmp .ne 6, 3) := by decide +kernel
theorem dX7_soon_89 : decode cX7_soon 89 = .ok (.lload 7, 2) := by decide +kernel
theorem dX7_soon_91 : decode cX7_soon 91 = .ok (.lreturn, 1) := by decide +kernel
theorem dX7_soon_92 : decode cX7_soon 92 = .ok (.lload 7, 2) := by decide +kernel
theorem dX7_soon_94 : decode cX7_soon 94 = .ok (.aload_n 0, 1) := by decide +kernel
theorem dX7_soon_95 : decode cX7_soon 95 = .ok (.getfield 23, 3) := by decide +kernel
theorem dX7_soon_98 : decode cX7_soon 98 = .ok (.aload_n 0, 1) := by decide +kernel
theorem dX7_soon_99 : decode cX7_soon 99 = .ok (.getfield 70, 3) := by decide +kernel
theorem dX7_soon_102 : decode cX7_soon 102 = .ok (.iload 6, 2) := by decide +kernel
theorem dX7_soon_104 : decode cX7_soon 104 = .ok (.iaload, 1) := by decide +kernel
theorem dX7_soon_105 : decode cX7_soon 105 = .ok (.invokevirtual 160, 3) := by decide +kernel
theorem dX7_soon_108 : decode cX7_soon 108 = .ok (.i2l, 1) := by decide +kernel
theorem dX7_soon_109 : decode cX7_soon 109 = .ok (.ladd, 1) := by decide +kernel
theorem dX7_soon_110 : decode cX7_soon 110 = .ok (.lstore 4, 2) := by decide +kernel
theorem dX7_soon_112 : decode cX7_soon 112 = .ok (.iinc 6 1, 3) := by decide +kernel
theorem dX7_soon_115 : decode cX7_soon 115 = .ok (.goto (-85), 3) := by decide +kernel
theorem dX7_soon_118 : decode cX7_soon 118 = .ok (.lload 4, 2) := by decide +kernel
theorem dX7_soon_120 : decode cX7_soon 120 = .ok (.lreturn, 1) := by decide +kernel
theorem dX7_pass_0 : decode cX7_pass 0 = .ok (.iload_n 1, 1) := by decide +kernel
theorem dX7_pass_1 : decode cX7_pass 1 = .ok (.iconst 1, 1) := by decide +kernel
theorem dX7_pass_2 : decode cX7_pass 2 = .ok (.if_icmp .lt 10, 3) := by decide +kernel
theorem dX7_pass_5 : decode cX7_pass 5 = .ok (.iload_n 1, 1) := by decide +kernel
theorem dX7_pass_6 : decode cX7_pass 6 = .ok (.sipush 9999, 3) := by decide +kernel
theorem dX7_pass_9 : decode cX7_pass 9 = .ok (.if_icmp .le 7, 3) := by decide +kernel
theorem dX7_pass_12 : decode cX7_pass 12 = .ok (.ldc2_w 145, 3) := by decide +kernel
theorem dX7_pass_15 : decode cX7_pass 15 = .ok (.lreturn, 1) := by decide +kernel
theorem dX7_pass_16 : decode cX7_pass 16 = .ok (.aload_n 0, 1) := by decide +kernel
theorem dX7_pass_17 : decode cX7_pass 17 = .ok (.getfield 63, 3) := by decide +kernel
theorem dX7_pass_20 : decode cX7_pass 20 = .ok (.aload_n 0, 1) := by decide +kernel
theorem dX7_pass_21 : decode cX7_pass 21 = .ok (.getfield 29, 3) := by decide +kernel
theorem dX7_pass_24 : decode cX7_pass 24 = .ok (.invokevirtual 164, 3) := by decide +kernel
theorem dX7_pass_27 : decode cX7_pass 27 = .ok (.aload_n 0, 1) := by decide +kernel
theorem dX7_pass_28 : decode cX7_pass 28 = .ok (.getfield 29, 3) := by decide +kernel
theorem dX7_pass_31 : decode cX7_pass 31 = .ok (.dup, 1) := by decide +kernel
theorem dX7_pass_32 : decode cX7_pass 32 = .ok (.getfield 168, 3) := by decide +kernel
theorem dX7_pass_35 : decode cX7_pass 35 = .ok (.iload_n 1, 1) := by decide +kernel
theorem dX7_pass_36 : decode cX7_pass 36 = .ok (.i2l, 1) := by decide +kernel
theorem dX7_pass_37 : decode cX7_pass 37 = .ok (.ladd, 1) := by decide +kernel
end
section
theorem dX7_pass_38 : decode cX7_pass 38 = .ok (.putfield 168, 3) := by decide +kernel
theorem dX7_pass_41 : decode cX7_pass 41 = .ok (.aload_n 0, 1) := by decide +kernel
theorem dX7_pass_42 : decode cX7_pass 42 = .ok (.getfield 29, 3) := by decide +kernel
theorem dX7_pass_45 : decode cX7_pass 45 = .ok (.getfield 168, 3) := by decide +kernel
theorem dX7_pass_48 : decode cX7_pass 48 = .ok (.lreturn, 1) := by decide +kernel
theorem dX7_doAct_0 : decode cX7_doAct 0 = .ok (.aload_n 0, 1) := by decide +kernel
theorem dX7_doAct_1 : decode cX7_doAct 1 = .ok (.iload_n 1, 1) := by decide +kernel
theorem dX7_doAct_2 : decode cX7_doAct 2 = .ok (.invokevirtual 112, 3) := by decide +kernel
theorem dX7_doAct_5 : decode cX7_doAct 5 = .ok (.ifCond .ne 7, 3) := by decide +kernel
theorem dX7_doAct_8 : decode cX7_doAct 8 = .ok (.ldc2_w 145, 3) := by decide +kernel
theorem dX7_doAct_11 : decode cX7_doAct 11 = .ok (.lreturn, 1) := by decide +kernel
theorem dX7_doAct_12 : decode cX7_doAct 12 = .ok (.aload_n 0, 1) := by decide +kernel
theorem dX7_doAct_13 : decode cX7_doAct 13 = .ok (.getfield 38, 3) := by decide +kernel
theorem dX7_doAct_16 : decode cX7_doAct 16 = .ok (.iload_n 1, 1) := by decide +kernel
theorem dX7_doAct_17 : decode cX7_doAct 17 = .ok (.aload_n 0, 1) := by decide +kernel
theorem dX7_doAct_18 : decode cX7_doAct 18 = .ok (.getfield 29, 3) := by decide +kernel
theorem dX7_doAct_21 : decode cX7_doAct 21 = .ok (.getfield 168, 3) := by decide +kernel
theorem dX7_doAct_24 : decode cX7_doAct 24 = .ok (.invokevirtual 151, 3) := by decide +kernel
theorem dX7_doAct_27 : decode cX7_doAct 27 = .ok (.ifCond .ne 7, 3) := by decide +kernel
theorem dX7_doAct_30 : decode cX7_doAct 30 = .ok (.ldc2_w 172, 3) := by decide +kernel
theorem dX7_doAct_33 : decode cX7_doAct 33 = .ok (.lreturn, 1) := by decide +kernel
theorem dX7_doAct_34 : decode cX7_doAct 34 = .ok (.aload_n 0, 1) := by decide +kernel
theorem dX7_doAct_35 : decode cX7_doAct 35 = .ok (.getfield 63, 3) := by decide +kernel
theorem dX7_doAct_38 : decode cX7_doAct 38 = .ok (.aload_n 0, 1) := by decide +kernel
theorem dX7_doAct_39 : decode cX7_doAct 39 = .ok (.getfield 29, 3) := by decide +kernel
theorem dX7_doAct_42 : decode cX7_doAct 42 = .ok (.invokevirtual 164, 3) := by decide +kernel
theorem dX7_doAct_45 : decode cX7_doAct 45 = .ok (.aload_n 0, 1) := by decide +kernel
theorem dX7_doAct_46 : decode cX7_doAct 46 = .ok (.getfield 29, 3) := by decide +kernel
theorem dX7_doAct_49 : decode cX7_doAct 49 = .ok (.dup, 1) := by decide +kernel
theorem dX7_doAct_50 : decode cX7_doAct 50 = .ok (.getfield 168, 3) := by decide +kernel
theorem dX7_doAct_53 : decode cX7_doAct 53 = .ok (.aload_n 0, 1) := by decide +kernel
theorem dX7_doAct_54 : decode cX7_doAct 54 = .ok (.getfield 23, 3) := by decide +kernel
theorem dX7_doAct_57 : decode cX7_doAct 57 = .ok (.iload_n 1, 1) := by decide +kernel
theorem dX7_doAct_58 : decode cX7_doAct 58 = .ok (.invokevirtual 160, 3) := by decide +kernel
theorem dX7_doAct_61 : decode cX7_doAct 61 = .ok (.i2l, 1) := by decide +kernel
theorem dX7_doAct_62 : decode cX7_doAct 62 = .ok (.ladd, 1) := by decide +kernel
theorem dX7_doAct_63 : decode cX7_doAct 63 = .ok (.putfield 168, 3) := by decide +kernel
theorem dX7_doAct_66 : decode cX7_doAct 66 = .ok (.aload_n 0, 1) := by decide +kernel
theorem dX7_doAct_67 : decode cX7_doAct 67 = .ok (.getfield 29, 3) := by decide +kernel
theorem dX7_doAct_70 : decode cX7_doAct 70 = .ok (.dup, 1) := by decide +kernel
theorem dX7_doAct_71 : decode cX7_doAct 71 = .ok (.getfield 174, 3) := by decide +kernel
theorem dX7_doAct_74 : decode cX7_doAct 74 = .ok (.aload_n 0, 1) := by decide +kernel
theorem dX7_doAct_75 : decode cX7_doAct 75 = .ok (.getfield 23, 3) := by decide +kernel
theorem dX7_doAct_78 : decode cX7_doAct 78 = .ok (.iload_n 1, 1) := by decide +kernel
theorem dX7_doAct_79 : decode cX7_doAct 79 = .ok (.iconst 0, 1) := by decide +kernel
theorem dX7_doAct_80 : decode cX7_doAct 80 = .ok (.invokevirtual 177, 3) := by decide +kernel
theorem dX7_doAct_83 : decode cX7_doAct 83 = .ok (.iadd, 1) := by decide +kernel
theorem dX7_doAct_84 : decode cX7_doAct 84 = .ok (.putfield 174, 3) := by decide +kernel
theorem dX7_doAct_87 : decode cX7_doAct 87 = .ok (.aload_n 0, 1) := by decide +kernel
theorem dX7_doAct_88 : decode cX7_doAct 88 = .ok (.getfield 29, 3) := by decide +kernel
theorem dX7_doAct_91 : decode cX7_doAct 91 = .ok (.dup, 1) := by decide +kernel
theorem dX7_doAct_92 : decode cX7_doAct 92 = .ok (.getfield 180, 3) := by decide +kernel
theorem dX7_doAct_95 : decode cX7_doAct 95 = .ok (.aload_n 0, 1) := by decide +kernel
theorem dX7_doAct_96 : decode cX7_doAct 96 = .ok (.getfield 23, 3) := by decide +kernel
theorem dX7_doAct_99 : decode cX7_doAct 99 = .ok (.iload_n 1, 1) := by decide +kernel
theorem dX7_doAct_100 : decode cX7_doAct 100 = .ok (.iconst 1, 1) := by decide +kernel
theorem dX7_doAct_101 : decode cX7_doAct 101 = .ok (.invokevirtual 177, 3) := by decide +kernel
theorem dX7_doAct_104 : decode cX7_doAct 104 = .ok (.iadd, 1) := by decide +kernel
theorem dX7_doAct_105 : decode cX7_doAct 105 = .ok (.putfield 180, 3) := by decide +kernel
theorem dX7_doAct_108 : decode cX7_doAct 108 = .ok (.aload_n 0, 1) := by decide +kernel
theorem dX7_doAct_109 : decode cX7_doAct 109 = .ok (.getfield 29, 3) := by decide +kernel
theorem dX7_doAct_112 : decode cX7_doAct 112 = .ok (.getfield 168, 3) := by decide +kernel
theorem dX7_doAct_115 : decode cX7_doAct 115 = .ok (.lreturn, 1) := by decide +kernel
theorem dX7_allow_0 : decode cX7_allow 0 = .ok (.aload_n 0, 1) := by decide +kernel
theorem dX7_allow_1 : decode cX7_allow 1 = .ok (.iload_n 1, 1) := by decide +kernel
theorem dX7_allow_2 : decode cX7_allow 2 = .ok (.invokevirtual 112, 3) := by decide +kernel
theorem dX7_allow_5 : decode cX7_allow 5 = .ok (.ifCond .eq 10, 3) := by decide +kernel
theorem dX7_allow_8 : decode cX7_allow 8 = .ok (.iload_n 2, 1) := by decide +kernel
theorem dX7_allow_9 : decode cX7_allow 9 = .ok (.invokestatic 183, 3) := by decide +kernel
theorem dX7_allow_12 : decode cX7_allow 12 = .ok (.ifCond .ne 5, 3) := by decide +kernel
theorem dX7_allow_15 : decode cX7_allow 15 = .ok (.iconst (-1), 1) := by decide +kernel
theorem dX7_allow_16 : decode cX7_allow 16 = .ok (.ireturn, 1) := by decide +kernel
theorem dX7_allow_17 : decode cX7_allow 17 = .ok (.aload_n 0, 1) := by decide +kernel
theorem dX7_allow_18 : decode cX7_allow 18 = .ok (.getfield 29, 3) := by decide +kernel
theorem dX7_allow_21 : decode cX7_allow 21 = .ok (.getfield 116, 3) := by decide +kernel
theorem dX7_allow_24 : decode cX7_allow 24 = .ok (.iload_n 1, 1) := by decide +kernel
theorem dX7_allow_25 : decode cX7_allow 25 = .ok (.invokestatic 119, 3) := by decide +kernel
theorem dX7_allow_28 : decode cX7_allow 28 = .ok (.iload_n 2, 1) := by decide +kernel
theorem dX7_allow_29 : decode cX7_allow 29 = .ok (.ishr, 1) := by decide +kernel
theorem dX7_allow_30 : decode cX7_allow 30 = .ok (.iconst 1, 1) := by decide +kernel
theorem dX7_allow_31 : decode cX7_allow 31 = .ok (.iand, 1) := by decide +kernel
theorem dX7_allow_32 : decode cX7_allow 32 = .ok (.istore 4, 2) := by decide +kernel
theorem dX7_allow_34 : decode cX7_allow 34 = .ok (.aload_n 0, 1) := by decide +kernel
theorem dX7_allow_35 : decode cX7_allow 35 = .ok (.getfield 63, 3) := by decide +kernel
theorem dX7_allow_38 : decode cX7_allow 38 = .ok (.aload_n 0, 1) := by decide +kernel
theorem dX7_allow_39 : decode cX7_allow 39 = .ok (.getfield 29, 3) := by decide +kernel
theorem dX7_allow_42 : decode cX7_allow 42 = .ok (.invokevirtual 164, 3) := by decide +kernel
theorem dX7_allow_45 : decode cX7_allow 45 = .ok (.aload_n 0, 1) := by decide +kernel
theorem dX7_allow_46 : decode cX7_allow 46 = .ok (.getfield 29, 3) := by decide +kernel
theorem dX7_allow_49 : decode cX7_allow 49 = .ok (.iload_n 3, 1) := by decide +kernel
theorem dX7_allow_50 : decode cX7_allow 50 = .ok (.ifCond .eq 21, 3) := by decide +kernel
theorem dX7_allow_53 : decode cX7_allow 53 = .ok (.aload_n 0, 1) := by decide +kernel
theorem dX7_allow_54 : decode cX7_allow 54 = .ok (.getfield 29, 3) := by decide +kernel
theorem dX7_allow_57 : decode cX7_allow 57 = .ok (.getfield 116, 3) := by decide +kernel
theorem dX7_allow_60 : decode cX7_allow 60 = .ok (.iload_n 1, 1) := by decide +kernel
theorem dX7_allow_61 : decode cX7_allow 61 = .ok (.iconst 1, 1) := by decide +kernel
theorem dX7_allow_62 : decode cX7_allow 62 = .ok (.iload_n 2, 1) := by decide +kernel
theorem dX7_allow_63 : decode cX7_allow 63 = .ok (.ishl, 1) := by decide +kernel
theorem dX7_allow_64 : decode cX7_allow 64 = .ok (.invokestatic 186, 3) := by decide +kernel
theorem dX7_allow_67 : decode cX7_allow 67 = .ok (.ior, 1) := by decide +kernel
theorem dX7_allow_68 : decode cX7_allow 68 = .ok (.goto 20, 3) := by decide +kernel
theorem dX7_allow_71 : decode cX7_allow 71 = .ok (.aload_n 0, 1) := by decide +kernel
theorem dX7_allow_72 : decode cX7_allow 72 = .ok (.getfield 29, 3) := by decide +kernel
theorem dX7_allow_75 : decode cX7_allow 75 = .ok (.getfield 116, 3) := by decide +kernel
theorem dX7_allow_78 : decode cX7_allow 78 = .ok (.iload_n 1, 1) := by decide +kernel
theorem dX7_allow_79 : decode cX7_allow 79 = .ok (.iconst 1, 1) := by decide +kernel
theorem dX7_allow_80 : decode cX7_allow 80 = .ok (.iload_n 2, 1) := by decide +kernel
theorem dX7_allow_81 : decode cX7_allow 81 = .ok (.ishl, 1) := by decide +kernel
theorem dX7_allow_82 : decode cX7_allow 82 = .ok (.invokestatic 186, 3) := by decide +kernel
theorem dX7_allow_85 : decode cX7_allow 85 = .ok (.iconst (-1), 1) := by decide +kernel
theorem dX7_allow_86 : decode cX7_allow 86 = .ok (.ixor, 1) := by decide +kernel
theorem dX7_allow_87 : decode cX7_allow 87 = .ok (.iand, 1) := by decide +kernel
theorem dX7_allow_88 : decode cX7_allow 88 = .ok (.putfield 116, 3) := by decide +kernel
theorem dX7_allow_91 : decode cX7_allow 91 = .ok (.iload 4, 2) := by decide +kernel
theorem dX7_allow_93 : decode cX7_allow 93 = .ok (.ireturn, 1) := by decide +kernel
theorem dX7_undo_0 : decode cX7_undo 0 = .ok (.aload_n 0, 1) := by decide +kernel
theorem dX7_undo_1 : decode cX7_undo 1 = .ok (.getfield 63, 3) := by decide +kernel
theorem dX7_undo_4 : decode cX7_undo 4 = .ok (.getfield 189, 3) := by decide +kernel
theorem dX7_undo_7 : decode cX7_undo 7 = .ok (.ifCond .ne 6, 3) := by decide +kernel
theorem dX7_undo_10 : decode cX7_undo 10 = .ok (.bipush (-2), 2) := by decide +kernel
theorem dX7_undo_12 : decode cX7_undo 12 = .ok (.ireturn, 1) := by decide +kernel
theorem dX7_undo_13 : decode cX7_undo 13 = .ok (.aload_n 0, 1) := by decide +kernel
theorem dX7_undo_14 : decode cX7_undo 14 = .ok (.getfield 29, 3) := by decide +kernel
theorem dX7_undo_17 : decode cX7_undo 17 = .ok (.getfield 126, 3) := by decide +kernel
theorem dX7_undo_20 : decode cX7_undo 20 = .ok (.istore_n 1, 1) := by decide +kernel
theorem dX7_undo_21 : decode cX7_undo 21 = .ok (.aload_n 0, 1) := by decide +kernel
theorem dX7_undo_22 : decode cX7_undo 22 = .ok (.getfield 63, 3) := by decide +kernel
theorem dX7_undo_25 : decode cX7_undo 25 = .ok (.aload_n 0, 1) := by decide +kernel
theorem dX7_undo_26 : decode cX7_undo 26 = .ok (.getfield 29, 3) := by decide +kernel
theorem dX7_undo_29 : decode cX7_undo 29 = .ok (.invokevirtual 192, 3) := by decide +kernel
theorem dX7_undo_32 : decode cX7_undo 32 = .ok (.aload_n 0, 1) := by decide +kernel
theorem dX7_undo_33 : decode cX7_undo 33 = .ok (.getfield 29, 3) := by decide +kernel
theorem dX7_undo_36 : decode cX7_undo 36 = .ok (.iload_n 1, 1) := by decide +kernel
theorem dX7_undo_37 : decode cX7_undo 37 = .ok (.putfield 126, 3) := by decide +kernel
theorem dX7_undo_40 : decode cX7_undo 40 = .ok (.aload_n 0, 1) := by decide +kernel
theorem dX7_undo_41 : decode cX7_undo 41 = .ok (.getfield 63, 3) := by decide +kernel
theorem dX7_undo_44 : decode cX7_undo 44 = .ok (.getfield 189, 3) := by decide +kernel
theorem dX7_undo_47 : decode cX7_undo 47 = .ok (.ireturn, 1) := by decide +kernel
theorem dX7_gain_0 : decode cX7_gain 0 = .ok (.iload_n 1, 1) := by decide +kernel
theorem dX7_gain_1 : decode cX7_gain 1 = .ok (.invokestatic 183, 3) := by decide +kernel
theorem dX7_gain_4 : decode cX7_gain 4 = .ok (.ifCond .eq 25, 3) := by decide +kernel
theorem dX7_gain_7 : decode cX7_gain 7 = .ok (.aload_n 0, 1) := by decide +kernel
theorem dX7_gain_8 : decode cX7_gain 8 = .ok (.getfield 45, 3) := by decide +kernel
theorem dX7_gain_11 : decode cX7_gain 11 = .ok (.aload_n 0, 1) := by decide +kernel
theorem dX7_gain_12 : decode cX7_gain 12 = .ok (.getfield 29, 3) := by decide +kernel
theorem dX7_gain_15 : decode cX7_gain 15 = .ok (.getfield 116, 3) := by decide +kernel
theorem dX7_gain_18 : decode cX7_gain 18 = .ok (.iload_n 1, 1) := by decide +kernel
theorem dX7_gain_19 : decode cX7_gain 19 = .ok (.invokevirtual 195, 3) := by decide +kernel
theorem dX7_gain_22 : decode cX7_gain 22 = .ok (.sipush 1000, 3) := by decide +kernel
theorem dX7_gain_25 : decode cX7_gain 25 = .ok (.iadd, 1) := by decide +kernel
theorem dX7_gain_26 : decode cX7_gain 26 = .ok (.goto 4, 3) := by decide +kernel
theorem dX7_gain_29 : decode cX7_gain 29 = .ok (.iconst (-1), 1) := by decide +kernel
theorem dX7_gain_30 : decode cX7_gain 30 = .ok (.ireturn, 1) := by decide +kernel
theorem dX7_forbid_0 : decode cX7_forbid 0 = .ok (.aload_n 0, 1) := by decide +kernel
theorem dX7_forbid_1 : decode cX7_forbid 1 = .ok (.iload_n 1, 1) := by decide +kernel
theorem dX7_forbid_2 : decode cX7_forbid 2 = .ok (.invokevirtual 198, 3) := by decide +kernel
theorem dX7_forbid_5 : decode cX7_forbid 5 = .ok (.ifCond .eq 18, 3) := by decide +kernel
theorem dX7_forbid_8 : decode cX7_forbid 8 = .ok (.aload_n 0, 1) := by decide +kernel
theorem dX7_forbid_9 : decode cX7_forbid 9 = .ok (.iload_n 2, 1) := by decide +kernel
theorem dX7_forbid_10 : decode cX7_forbid 10 = .ok (.invokevirtual 198, 3) := by decide +kernel
theorem dX7_forbid_13 : decode cX7_forbid 13 = .ok (.ifCond .eq 10, 3) := by decide +kernel
theorem dX7_forbid_16 : decode cX7_forbid 16 = .ok (.iload_n 3, 1) := by decide +kernel
theorem dX7_forbid_17 : decode cX7_forbid 17 = .ok (.invokestatic 183, 3) := by decide +kernel
theorem dX7_forbid_20 : decode cX7_forbid 20 = .ok (.ifCond .ne 5, 3) := by decide +kernel
theorem dX7_forbid_23 : decode cX7_forbid 23 = .ok (.iconst (-1), 1) := by decide +kernel
theorem dX7_forbid_24 : decode cX7_forbid 24 = .ok (.ireturn, 1) := by decide +kernel
theorem dX7_forbid_25 : decode cX7_forbid 25 = .ok (.aload_n 0, 1) := by decide +kernel
theorem dX7_forbid_26 : decode cX7_forbid 26 = .ok (.getfield 45, 3) := by decide +kernel
theorem dX7_forbid_29 : decode cX7_forbid 29 = .ok (.iload_n 1, 1) := by decide +kernel
theorem dX7_forbid_30 : decode cX7_forbid 30 = .ok (.iload_n 2, 1) := by decide +kernel
theorem dX7_forbid_31 : decode cX7_forbid 31 = .ok (.iload_n 3, 1) := by decide +kernel
theorem dX7_forbid_32 : decode cX7_forbid 32 = .ok (.invokevirtual 201, 3) := by decide +kernel
theorem dX7_forbid_35 : decode cX7_forbid 35 = .ok (.sipush 1000, 3) := by decide +kernel
theorem dX7_forbid_38 : decode cX7_forbid 38 = .ok (.iadd, 1) := by decide +kernel
theorem dX7_forbid_39 : decode cX7_forbid 39 = .ok (.ireturn, 1) := by decide +kernel
theorem dX7_rests_0 : decode cX7_rests 0 = .ok (.iload_n 1, 1) := by decide +kernel
theorem dX7_rests_1 : decode cX7_rests 1 = .ok (.ifCond .lt 8, 3) := by decide +kernel
theorem dX7_rests_4 : decode cX7_rests 4 = .ok (.iload_n 1, 1) := by decide +kernel
theorem dX7_rests_5 : decode cX7_rests 5 = .ok (.iconst 2, 1) := by decide +kernel
theorem dX7_rests_6 : decode cX7_rests 6 = .ok (.if_icmp .le 5, 3) := by decide +kernel
theorem dX7_rests_9 : decode cX7_rests 9 = .ok (.iconst (-1), 1) := by decide +kernel
theorem dX7_rests_10 : decode cX7_rests 10 = .ok (.ireturn, 1) := by decide +kernel
theorem dX7_rests_11 : decode cX7_rests 11 = .ok (.iload_n 1, 1) := by decide +kernel
theorem dX7_rests_12 : decode cX7_rests 12 = .ok (.ifCond .ne 11, 3) := by decide +kernel
theorem dX7_rests_15 : decode cX7_rests 15 = .ok (.aload_n 0, 1) := by decide +kernel
theorem dX7_rests_16 : decode cX7_rests 16 = .ok (.getfield 45, 3) := by decide +kernel
theorem dX7_rests_19 : decode cX7_rests 19 = .ok (.invokevirtual 205, 3) := by decide +kernel
theorem dX7_rests_22 : decode cX7_rests 22 = .ok (.ireturn, 1) := by decide +kernel
theorem dX7_rests_23 : decode cX7_rests 23 = .ok (.aload_n 0, 1) := by decide +kernel
theorem dX7_rests_24 : decode cX7_rests 24 = .ok (.getfield 45, 3) := by decide +kernel
theorem dX7_rests_27 : decode cX7_rests 27 = .ok (.iload_n 1, 1) := by decide +kernel
theorem dX7_rests_28 : decode cX7_rests 28 = .ok (.iconst 1, 1) := by decide +kernel
theorem dX7_rests_29 : decode cX7_rests 29 = .ok (.if_icmp .ne 7, 3) := by decide +kernel
theorem dX7_rests_32 : decode cX7_rests 32 = .ok (.iconst 0, 1) := by decide +kernel
theorem dX7_rests_33 : decode cX7_rests 33 = .ok (.goto 4, 3) := by decide +kernel
theorem dX7_rests_36 : decode cX7_rests 36 = .ok (.iconst 1, 1) := by decide +kernel
theorem dX7_rests_37 : decode cX7_rests 37 = .ok (.invokevirtual 208, 3) := by decide +kernel
theorem dX7_rests_40 : decode cX7_rests 40 = .ok (.istore_n 2, 1) := by decide +kernel
theorem dX7_rests_41 : decode cX7_rests 41 = .ok (.iload_n 2, 1) := by decide +kernel
theorem dX7_rests_42 : decode cX7_rests 42 = .ok (.ifCond .ge 8, 3) := by decide +kernel
theorem dX7_rests_45 : decode cX7_rests 45 = .ok (.bipush (-4), 2) := by decide +kernel
theorem dX7_rests_47 : decode cX7_rests 47 = .ok (.goto 4, 3) := by decide +kernel
theorem dX7_rests_50 : decode cX7_rests 50 = .ok (.iload_n 2, 1) := by decide +kernel
theorem dX7_rests_51 : decode cX7_rests 51 = .ok (.ireturn, 1) := by decide +kernel
theorem dX7_firm_0 : decode cX7_firm 0 = .ok (.iload_n 1, 1) := by decide +kernel
theorem dX7_firm_1 : decode cX7_firm 1 = .ok (.ifCond .lt 16, 3) := by decide +kernel
theorem dX7_firm_4 : decode cX7_firm 4 = .ok (.iload_n 1, 1) := by decide +kernel
theorem dX7_firm_5 : decode cX7_firm 5 = .ok (.iconst 1, 1) := by decide +kernel
theorem dX7_firm_6 : decode cX7_firm 6 = .ok (.aload_n 0, 1) := by decide +kernel
theorem dX7_firm_7 : decode cX7_firm 7 = .ok (.getfield 23, 3) := by decide +kernel
theorem dX7_firm_10 : decode cX7_firm 10 = .ok (.getfield 96, 3) := by decide +kernel
theorem dX7_firm_13 : decode cX7_firm 13 = .ok (.ishl, 1) := by decide +kernel
theorem dX7_firm_14 : decode cX7_firm 14 = .ok (.if_icmp .lt 5, 3) := by decide +kernel
theorem dX7_firm_17 : decode cX7_firm 17 = .ok (.iconst (-1), 1) := by decide +kernel
theorem dX7_firm_18 : decode cX7_firm 18 = .ok (.ireturn, 1) := by decide +kernel
theorem dX7_firm_19 : decode cX7_firm 19 = .ok (.aload_n 0, 1) := by decide +kernel
theorem dX7_firm_20 : decode cX7_firm 20 = .ok (.getfield 45, 3) := by decide +kernel
theorem dX7_firm_23 : decode cX7_firm 23 = .ok (.iload_n 1, 1) := by decide +kernel
theorem dX7_firm_24 : decode cX7_firm 24 = .ok (.invokevirtual 211, 3) := by decide +kernel
theorem dX7_firm_27 : decode cX7_firm 27 = .ok (.ifCond .eq 7, 3) := by decide +kernel
theorem dX7_firm_30 : decode cX7_firm 30 = .ok (.iconst 1, 1) := by decide +kernel
theorem dX7_firm_31 : decode cX7_firm 31 = .ok (.goto 4, 3) := by decide +kernel
theorem dX7_firm_34 : decode cX7_firm 34 = .ok (.iconst 0, 1) := by decide +kernel
theorem dX7_firm_35 : decode cX7_firm 35 = .ok (.ireturn, 1) := by decide +kernel
theorem dX7_treaty_0 : decode cX7_treaty 0 = .ok (.iload_n 1, 1) := by decide +kernel
theorem dX7_treaty_1 : decode cX7_treaty 1 = .ok (.ifCond .lt 8, 3) := by decide +kernel
theorem dX7_treaty_4 : decode cX7_treaty 4 = .ok (.iload_n 1, 1) := by decide +kernel
theorem dX7_treaty_5 : decode cX7_treaty 5 = .ok (.iconst 1, 1) := by decide +kernel
theorem dX7_treaty_6 : decode cX7_treaty 6 = .ok (.if_icmp .le 5, 3) := by decide +kernel
theorem dX7_treaty_9 : decode cX7_treaty 9 = .ok (.iconst (-1), 1) := by decide +kernel
theorem dX7_treaty_10 : decode cX7_treaty 10 = .ok (.ireturn, 1) := by decide +kernel
theorem dX7_treaty_11 : decode cX7_treaty 11 = .ok (.aload_n 0, 1) := by decide +kernel
theorem dX7_treaty_12 : decode cX7_treaty 12 = .ok (.getfield 45, 3) := by decide +kernel
theorem dX7_treaty_15 : decode cX7_treaty 15 = .ok (.invokevirtual 214, 3) := by decide +kernel
theorem dX7_treaty_18 : decode cX7_treaty 18 = .ok (.istore_n 2, 1) := by decide +kernel
theorem dX7_treaty_19 : decode cX7_treaty 19 = .ok (.iload_n 1, 1) := by decide +kernel
theorem dX7_treaty_20 : decode cX7_treaty 20 = .ok (.ifCond .ne 7, 3) := by decide +kernel
theorem dX7_treaty_23 : decode cX7_treaty 23 = .ok (.iload_n 2, 1) := by decide +kernel
theorem dX7_treaty_24 : decode cX7_treaty 24 = .ok (.goto 15, 3) := by decide +kernel
theorem dX7_treaty_27 : decode cX7_treaty 27 = .ok (.aload_n 0, 1) := by decide +kernel
theorem dX7_treaty_28 : decode cX7_treaty 28 = .ok (.getfield 45, 3) := by decide +kernel
theorem dX7_treaty_31 : decode cX7_treaty 31 = .ok (.iload_n 2, 1) := by decide +kernel
theorem dX7_treaty_32 : decode cX7_treaty 32 = .ok (.invokevirtual 217, 3) := by decide +kernel
theorem dX7_treaty_35 : decode cX7_treaty 35 = .ok (.sipush 2000, 3) := by decide +kernel
theorem dX7_treaty_38 : decode cX7_treaty 38 = .ok (.iadd, 1) := by decide +kernel
theorem dX7_treaty_39 : decode cX7_treaty 39 = .ok (.ireturn, 1) := by decide +kernel
theorem dX7_bargain_0 : decode cX7_bargain 0 = .ok (.aload_n 0, 1) := by decide +kernel
theorem dX7_bargain_1 : decode cX7_bargain 1 = .ok (.iload_n 1, 1) := by decide +kernel
theorem dX7_bargain_2 : decode cX7_bargain 2 = .ok (.invokevirtual 112, 3) := by decide +kernel
theorem dX7_bargain_5 : decode cX7_bargain 5 = .ok (.ifCond .eq 23, 3) := by decide +kernel
theorem dX7_bargain_8 : decode cX7_bargain 8 = .ok (.aload_n 0, 1) := by decide +kernel
theorem dX7_bargain_9 : decode cX7_bargain 9 = .ok (.iload_n 2, 1) := by decide +kernel
theorem dX7_bargain_10 : decode cX7_bargain 10 = .ok (.invokevirtual 112, 3) := by decide +kernel
theorem dX7_bargain_13 : decode cX7_bargain 13 = .ok (.ifCond .eq 15, 3) := by decide +kernel
theorem dX7_bargain_16 : decode cX7_bargain 16 = .ok (.iload_n 1, 1) := by decide +kernel
theorem dX7_bargain_17 : decode cX7_bargain 17 = .ok (.iload_n 2, 1) := by decide +kernel
theorem dX7_bargain_18 : decode cX7_bargain 18 = .ok (.if_icmp .eq 10, 3) := by decide +kernel
theorem dX7_bargain_21 : decode cX7_bargain 21 = .ok (.lload_n 3, 1) := by decide +kernel
theorem dX7_bargain_22 : decode cX7_bargain 22 = .ok (.invokestatic 129, 3) := by decide +kernel
theorem dX7_bargain_25 : decode cX7_bargain 25 = .ok (.ifCond .ne 7, 3) := by decide +kernel
theorem dX7_bargain_28 : decode cX7_bargain 28 = .ok (.ldc2_w 145, 3) := by decide +kernel
theorem dX7_bargain_31 : decode cX7_bargain 31 = .ok (.lreturn, 1) := by decide +kernel
theorem dX7_bargain_32 : decode cX7_bargain 32 = .ok (.aload_n 0, 1) := by decide +kernel
theorem dX7_bargain_33 : decode cX7_bargain 33 = .ok (.getfield 38, 3) := by decide +kernel
theorem dX7_bargain_36 : decode cX7_bargain 36 = .ok (.iload_n 1, 1) := by decide +kernel
theorem dX7_bargain_37 : decode cX7_bargain 37 = .ok (.iload_n 2, 1) := by decide +kernel
theorem dX7_bargain_38 : decode cX7_bargain 38 = .ok (.lload_n 3, 1) := by decide +kernel
theorem dX7_bargain_39 : decode cX7_bargain 39 = .ok (.invokevirtual 154, 3) := by decide +kernel
theorem dX7_bargain_42 : decode cX7_bargain 42 = .ok (.lreturn, 1) := by decide +kernel
theorem dX7_line_0 : decode cX7_line 0 = .ok (.iload_n 1, 1) := by decide +kernel
theorem dX7_line_1 : decode cX7_line 1 = .ok (.ifCond .lt 16, 3) := by decide +kernel
theorem dX7_line_4 : decode cX7_line 4 = .ok (.iload_n 1, 1) := by decide +kernel
theorem dX7_line_5 : decode cX7_line 5 = .ok (.ldc 220, 2) := by decide +kernel
theorem dX7_line_7 : decode cX7_line 7 = .ok (.if_icmp .gt 10, 3) := by decide +kernel
theorem dX7_line_10 : decode cX7_line 10 = .ok (.iload_n 2, 1) := by decide +kernel
theorem dX7_line_11 : decode cX7_line 11 = .ok (.invokestatic 138, 3) := by decide +kernel
theorem dX7_line_14 : decode cX7_line 14 = .ok (.ifCond .ne 5, 3) := by decide +kernel
theorem dX7_line_17 : decode cX7_line 17 = .ok (.iconst (-1), 1) := by decide +kernel
theorem dX7_line_18 : decode cX7_line 18 = .ok (.ireturn, 1) := by decide +kernel
theorem dX7_line_19 : decode cX7_line 19 = .ok (.aload_n 0, 1) := by decide +kernel
theorem dX7_line_20 : decode cX7_line 20 = .ok (.getfield 54, 3) := by decide +kernel
theorem dX7_line_23 : decode cX7_line 23 = .ok (.iload_n 1, 1) := by decide +kernel
theorem dX7_line_24 : decode cX7_line 24 = .ok (.iload_n 2, 1) := by decide +kernel
theorem dX7_line_25 : decode cX7_line 25 = .ok (.invokevirtual 221, 3) := by decide +kernel
theorem dX7_line_28 : decode cX7_line 28 = .ok (.ifCond .eq 13, 3) := by decide +kernel
theorem dX7_line_31 : decode cX7_line 31 = .ok (.aload_n 0, 1) := by decide +kernel
theorem dX7_line_32 : decode cX7_line 32 = .ok (.getfield 54, 3) := by decide +kernel
theorem dX7_line_35 : decode cX7_line 35 = .ok (.getfield 106, 3) := by decide +kernel
theorem dX7_line_38 : decode cX7_line 38 = .ok (.goto 5, 3) := by decide +kernel
theorem dX7_line_41 : decode cX7_line 41 = .ok (.bipush (-3), 2) := by decide +kernel
theorem dX7_line_43 : decode cX7_line 43 = .ok (.ireturn, 1) := by decide +kernel
theorem dX7_noTable_0 : decode cX7_noTable 0 = .ok (.aload_n 0, 1) := by decide +kernel
theorem dX7_noTable_1 : decode cX7_noTable 1 = .ok (.getfield 54, 3) := by decide +kernel
theorem dX7_noTable_4 : decode cX7_noTable 4 = .ok (.getfield 106, 3) := by decide +kernel
theorem dX7_noTable_7 : decode cX7_noTable 7 = .ok (.istore_n 1, 1) := by decide +kernel
theorem dX7_noTable_8 : decode cX7_noTable 8 = .ok (.aload_n 0, 1) := by decide +kernel
theorem dX7_noTable_9 : decode cX7_noTable 9 = .ok (.getfield 54, 3) := by decide +kernel
theorem dX7_noTable_12 : decode cX7_noTable 12 = .ok (.iconst 0, 1) := by decide +kernel
theorem dX7_noTable_13 : decode cX7_noTable 13 = .ok (.putfield 106, 3) := by decide +kernel
theorem dX7_noTable_16 : decode cX7_noTable 16 = .ok (.iload_n 1, 1) := by decide +kernel
theorem dX7_noTable_17 : decode cX7_noTable 17 = .ok (.ireturn, 1) := by decide +kernel
theorem dX7_forged_0 : decode cX7_forged 0 = .ok (.aload_n 0, 1) := by decide +kernel
theorem dX7_forged_1 : decode cX7_forged 1 = .ok (.getfield 54, 3) := by decide +kernel
theorem dX7_forged_4 : decode cX7_forged 4 = .ok (.invokevirtual 225, 3) := by decide +kernel
theorem dX7_forged_7 : decode cX7_forged 7 = .ok (.ireturn, 1) := by decide +kernel
theorem dX7_shift_0 : decode cX7_shift 0 = .ok (.iload_n 1, 1) := by decide +kernel
theorem dX7_shift_1 : decode cX7_shift 1 = .ok (.ifCond .lt 8, 3) := by decide +kernel
theorem dX7_shift_4 : decode cX7_shift 4 = .ok (.iload_n 1, 1) := by decide +kernel
theorem dX7_shift_5 : decode cX7_shift 5 = .ok (.iconst 1, 1) := by decide +kernel
theorem dX7_shift_6 : decode cX7_shift 6 = .ok (.if_icmp .le 5, 3) := by decide +kernel
theorem dX7_shift_9 : decode cX7_shift 9 = .ok (.iconst (-1), 1) := by decide +kernel
theorem dX7_shift_10 : decode cX7_shift 10 = .ok (.ireturn, 1) := by decide +kernel
theorem dX7_shift_11 : decode cX7_shift 11 = .ok (.aload_n 0, 1) := by decide +kernel
theorem dX7_shift_12 : decode cX7_shift 12 = .ok (.getfield 54, 3) := by decide +kernel
theorem dX7_shift_15 : decode cX7_shift 15 = .ok (.invokevirtual 228, 3) := by decide +kernel
theorem dX7_shift_18 : decode cX7_shift 18 = .ok (.istore_n 2, 1) := by decide +kernel
theorem dX7_shift_19 : decode cX7_shift 19 = .ok (.iload_n 1, 1) := by decide +kernel
theorem dX7_shift_20 : decode cX7_shift 20 = .ok (.ifCond .ne 14, 3) := by decide +kernel
theorem dX7_shift_23 : decode cX7_shift 23 = .ok (.aload_n 0, 1) := by decide +kernel
theorem dX7_shift_24 : decode cX7_shift 24 = .ok (.getfield 54, 3) := by decide +kernel
theorem dX7_shift_27 : decode cX7_shift 27 = .ok (.iload_n 2, 1) := by decide +kernel
theorem dX7_shift_28 : decode cX7_shift 28 = .ok (.invokevirtual 231, 3) := by decide +kernel
theorem dX7_shift_31 : decode cX7_shift 31 = .ok (.goto 7, 3) := by decide +kernel
theorem dX7_shift_34 : decode cX7_shift 34 = .ok (.iload_n 2, 1) := by decide +kernel
theorem dX7_shift_35 : decode cX7_shift 35 = .ok (.bipush 30, 2) := by decide +kernel
theorem dX7_shift_37 : decode cX7_shift 37 = .ok (.iadd, 1) := by decide +kernel
theorem dX7_shift_38 : decode cX7_shift 38 = .ok (.ireturn, 1) := by decide +kernel
theorem dX7_wreck_0 : decode cX7_wreck 0 = .ok (.lload_n 1, 1) := by decide +kernel
theorem dX7_wreck_1 : decode cX7_wreck 1 = .ok (.invokestatic 129, 3) := by decide +kernel
theorem dX7_wreck_4 : decode cX7_wreck 4 = .ok (.ifCond .eq 15, 3) := by decide +kernel
theorem dX7_wreck_7 : decode cX7_wreck 7 = .ok (.iload_n 3, 1) := by decide +kernel
theorem dX7_wreck_8 : decode cX7_wreck 8 = .ok (.iconst 1, 1) := by decide +kernel
theorem dX7_wreck_9 : decode cX7_wreck 9 = .ok (.if_icmp .lt 10, 3) := by decide +kernel
theorem dX7_wreck_12 : decode cX7_wreck 12 = .ok (.iload_n 3, 1) := by decide +kernel
theorem dX7_wreck_13 : decode cX7_wreck 13 = .ok (.sipush 10000, 3) := by decide +kernel
theorem dX7_wreck_16 : decode cX7_wreck 16 = .ok (.if_icmp .le 5, 3) := by decide +kernel
theorem dX7_wreck_19 : decode cX7_wreck 19 = .ok (.iconst (-1), 1) := by decide +kernel
theorem dX7_wreck_20 : decode cX7_wreck 20 = .ok (.ireturn, 1) := by decide +kernel
theorem dX7_wreck_21 : decode cX7_wreck 21 = .ok (.iload 4, 2) := by decide +kernel
theorem dX7_wreck_23 : decode cX7_wreck 23 = .ok (.invokestatic 183, 3) := by decide +kernel
theorem dX7_wreck_26 : decode cX7_wreck 26 = .ok (.ifCond .eq 14, 3) := by decide +kernel
theorem dX7_wreck_29 : decode cX7_wreck 29 = .ok (.iload 5, 2) := by decide +kernel
theorem dX7_wreck_31 : decode cX7_wreck 31 = .ok (.ifCond .lt 9, 3) := by decide +kernel
theorem dX7_wreck_34 : decode cX7_wreck 34 = .ok (.iload 5, 2) := by decide +kernel
theorem dX7_wreck_36 : decode cX7_wreck 36 = .ok (.iconst 1, 1) := by decide +kernel
theorem dX7_wreck_37 : decode cX7_wreck 37 = .ok (.if_icmp .le 5, 3) := by decide +kernel
theorem dX7_wreck_40 : decode cX7_wreck 40 = .ok (.iconst (-1), 1) := by decide +kernel
theorem dX7_wreck_41 : decode cX7_wreck 41 = .ok (.ireturn, 1) := by decide +kernel
theorem dX7_wreck_42 : decode cX7_wreck 42 = .ok (.aload_n 0, 1) := by decide +kernel
theorem dX7_wreck_43 : decode cX7_wreck 43 = .ok (.getfield 38, 3) := by decide +kernel
theorem dX7_wreck_46 : decode cX7_wreck 46 = .ok (.iload 4, 2) := by decide +kernel
theorem dX7_wreck_48 : decode cX7_wreck 48 = .ok (.lload_n 1, 1) := by decide +kernel
theorem dX7_wreck_49 : decode cX7_wreck 49 = .ok (.iload_n 3, 1) := by decide +kernel
theorem dX7_wreck_50 : decode cX7_wreck 50 = .ok (.invokevirtual 141, 3) := by decide +kernel
theorem dX7_wreck_53 : decode cX7_wreck 53 = .ok (.istore 6, 2) := by decide +kernel
theorem dX7_wreck_55 : decode cX7_wreck 55 = .ok (.iload_n 3, 1) := by decide +kernel
theorem dX7_wreck_56 : decode cX7_wreck 56 = .ok (.aload_n 0, 1) := by decide +kernel
theorem dX7_wreck_57 : decode cX7_wreck 57 = .ok (.getfield 38, 3) := by decide +kernel
theorem dX7_wreck_60 : decode cX7_wreck 60 = .ok (.iconst 2, 1) := by decide +kernel
theorem dX7_wreck_61 : decode cX7_wreck 61 = .ok (.lload_n 1, 1) := by decide +kernel
theorem dX7_wreck_62 : decode cX7_wreck 62 = .ok (.iload_n 3, 1) := by decide +kernel
theorem dX7_wreck_63 : decode cX7_wreck 63 = .ok (.invokevirtual 141, 3) := by decide +kernel
theorem dX7_wreck_66 : decode cX7_wreck 66 = .ok (.isub, 1) := by decide +kernel
theorem dX7_wreck_67 : decode cX7_wreck 67 = .ok (.istore 7, 2) := by decide +kernel
theorem dX7_wreck_69 : decode cX7_wreck 69 = .ok (.iload 7, 2) := by decide +kernel
theorem dX7_wreck_71 : decode cX7_wreck 71 = .ok (.ifCond .gt 6, 3) := by decide +kernel
theorem dX7_wreck_74 : decode cX7_wreck 74 = .ok (.bipush (-4), 2) := by decide +kernel
theorem dX7_wreck_76 : decode cX7_wreck 76 = .ok (.ireturn, 1) := by decide +kernel
theorem dX7_wreck_77 : decode cX7_wreck 77 = .ok (.iconst 1, 1) := by decide +kernel
theorem dX7_wreck_78 : decode cX7_wreck 78 = .ok (.iload 7, 2) := by decide +kernel
theorem dX7_wreck_80 : decode cX7_wreck 80 = .ok (.iload 6, 2) := by decide +kernel
theorem dX7_wreck_82 : decode cX7_wreck 82 = .ok (.invokestatic 234, 3) := by decide +kernel
theorem dX7_wreck_85 : decode cX7_wreck 85 = .ok (.invokestatic 237, 3) := by decide +kernel
theorem dX7_wreck_88 : decode cX7_wreck 88 = .ok (.istore 8, 2) := by decide +kernel
theorem dX7_wreck_90 : decode cX7_wreck 90 = .ok (.iload 5, 2) := by decide +kernel
theorem dX7_wreck_92 : decode cX7_wreck 92 = .ok (.ifCond .ne 8, 3) := by decide +kernel
theorem dX7_wreck_95 : decode cX7_wreck 95 = .ok (.iload 6, 2) := by decide +kernel
theorem dX7_wreck_97 : decode cX7_wreck 97 = .ok (.goto 5, 3) := by decide +kernel
theorem dX7_wreck_100 : decode cX7_wreck 100 = .ok (.iload 7, 2) := by decide +kernel
theorem dX7_wreck_102 : decode cX7_wreck 102 = .ok (.iload 8, 2) := by decide +kernel
theorem dX7_wreck_104 : decode cX7_wreck 104 = .ok (.idiv, 1) := by decide +kernel
theorem dX7_wreck_105 : decode cX7_wreck 105 = .ok (.ireturn, 1) := by decide +kernel
theorem dX7_drawn_0 : decode cX7_drawn 0 = .ok (.iload_n 1, 1) := by decide +kernel
theorem dX7_drawn_1 : decode cX7_drawn 1 = .ok (.ifCond .lt 22, 3) := by decide +kernel
theorem dX7_drawn_4 : decode cX7_drawn 4 = .ok (.iload_n 1, 1) := by decide +kernel
theorem dX7_drawn_5 : decode cX7_drawn 5 = .ok (.sipush 9999, 3) := by decide +kernel
theorem dX7_drawn_8 : decode cX7_drawn 8 = .ok (.if_icmp .gt 15, 3) := by decide +kernel
theorem dX7_drawn_11 : decode cX7_drawn 11 = .ok (.iload_n 2, 1) := by decide +kernel
theorem dX7_drawn_12 : decode cX7_drawn 12 = .ok (.iconst 1, 1) := by decide +kernel
theorem dX7_drawn_13 : decode cX7_drawn 13 = .ok (.if_icmp .lt 10, 3) := by decide +kernel
theorem dX7_drawn_16 : decode cX7_drawn 16 = .ok (.iload_n 2, 1) := by decide +kernel
theorem dX7_drawn_17 : decode cX7_drawn 17 = .ok (.sipush 200, 3) := by decide +kernel
theorem dX7_drawn_20 : decode cX7_drawn 20 = .ok (.if_icmp .le 5, 3) := by decide +kernel
theorem dX7_drawn_23 : decode cX7_drawn 23 = .ok (.iconst (-1), 1) := by decide +kernel
theorem dX7_drawn_24 : decode cX7_drawn 24 = .ok (.ireturn, 1) := by decide +kernel
theorem dX7_drawn_25 : decode cX7_drawn 25 = .ok (.iconst 1, 1) := by decide +kernel
theorem dX7_drawn_26 : decode cX7_drawn 26 = .ok (.aload_n 0, 1) := by decide +kernel
theorem dX7_drawn_27 : decode cX7_drawn 27 = .ok (.getfield 23, 3) := by decide +kernel
theorem dX7_drawn_30 : decode cX7_drawn 30 = .ok (.getfield 96, 3) := by decide +kernel
theorem dX7_drawn_33 : decode cX7_drawn 33 = .ok (.invokestatic 237, 3) := by decide +kernel
theorem dX7_drawn_36 : decode cX7_drawn 36 = .ok (.istore_n 3, 1) := by decide +kernel
theorem dX7_drawn_37 : decode cX7_drawn 37 = .ok (.iconst 0, 1) := by decide +kernel
theorem dX7_drawn_38 : decode cX7_drawn 38 = .ok (.istore 4, 2) := by decide +kernel
theorem dX7_drawn_40 : decode cX7_drawn 40 = .ok (.iconst 0, 1) := by decide +kernel
theorem dX7_drawn_41 : decode cX7_drawn 41 = .ok (.istore 5, 2) := by decide +kernel
theorem dX7_drawn_43 : decode cX7_drawn 43 = .ok (.iload 5, 2) := by decide +kernel
theorem dX7_drawn_45 : decode cX7_drawn 45 = .ok (.iload_n 2, 1) := by decide +kernel
theorem dX7_drawn_46 : decode cX7_drawn 46 = .ok (.if_icmp .ge 53, 3) := by decide +kernel
theorem dX7_drawn_49 : decode cX7_drawn 49 = .ok (.ldc2_w 242, 3) := by decide +kernel
theorem dX7_drawn_52 : decode cX7_drawn 52 = .ok (.iload_n 1, 1) := by decide +kernel
theorem dX7_drawn_53 : decode cX7_drawn 53 = .ok (.i2l, 1) := by decide +kernel
theorem dX7_drawn_54 : decode cX7_drawn 54 = .ok (.lmul, 1) := by decide +kernel
theorem dX7_drawn_55 : decode cX7_drawn 55 = .ok (.ldc2_w 244, 3) := by decide +kernel
theorem dX7_drawn_58 : decode cX7_drawn 58 = .ok (.iload 5, 2) := by decide +kernel
theorem dX7_drawn_60 : decode cX7_drawn 60 = .ok (.i2l, 1) := by decide +kernel
theorem dX7_drawn_61 : decode cX7_drawn 61 = .ok (.lmul, 1) := by decide +kernel
theorem dX7_drawn_62 : decode cX7_drawn 62 = .ok (.ladd, 1) := by decide +kernel
theorem dX7_drawn_63 : decode cX7_drawn 63 = .ok (.lconst 1, 1) := by decide +kernel
theorem dX7_drawn_64 : decode cX7_drawn 64 = .ok (.ladd, 1) := by decide +kernel
theorem dX7_drawn_65 : decode cX7_drawn 65 = .ok (.lstore 6, 2) := by decide +kernel
theorem dX7_drawn_67 : decode cX7_drawn 67 = .ok (.aload_n 0, 1) := by decide +kernel
theorem dX7_drawn_68 : decode cX7_drawn 68 = .ok (.getfield 38, 3) := by decide +kernel
theorem dX7_drawn_71 : decode cX7_drawn 71 = .ok (.iload 5, 2) := by decide +kernel
theorem dX7_drawn_73 : decode cX7_drawn 73 = .ok (.iload_n 3, 1) := by decide +kernel
theorem dX7_drawn_74 : decode cX7_drawn 74 = .ok (.irem, 1) := by decide +kernel
theorem dX7_drawn_75 : decode cX7_drawn 75 = .ok (.lload 6, 2) := by decide +kernel
theorem dX7_drawn_77 : decode cX7_drawn 77 = .ok (.lload 6, 2) := by decide +kernel
theorem dX7_drawn_79 : decode cX7_drawn 79 = .ok (.lmul, 1) := by decide +kernel
theorem dX7_drawn_80 : decode cX7_drawn 80 = .ok (.ldc2_w 246, 3) := by decide +kernel
theorem dX7_drawn_83 : decode cX7_drawn 83 = .ok (.lrem, 1) := by decide +kernel
theorem dX7_drawn_84 : decode cX7_drawn 84 = .ok (.invokevirtual 151, 3) := by decide +kernel
theorem dX7_drawn_87 : decode cX7_drawn 87 = .ok (.ifCond .eq 6, 3) := by decide +kernel
theorem dX7_drawn_90 : decode cX7_drawn 90 = .ok (.iinc 4 1, 3) := by decide +kernel
theorem dX7_drawn_93 : decode cX7_drawn 93 = .ok (.iinc 5 1, 3) := by decide +kernel
theorem dX7_drawn_96 : decode cX7_drawn 96 = .ok (.goto (-53), 3) := by decide +kernel
theorem dX7_drawn_99 : decode cX7_drawn 99 = .ok (.iload 4, 2) := by decide +kernel
theorem dX7_drawn_101 : decode cX7_drawn 101 = .ok (.ireturn, 1) := by decide +kernel
theorem dX7_keep_0 : decode cX7_keep 0 = .ok (.aload_n 0, 1) := by decide +kernel
theorem dX7_keep_1 : decode cX7_keep 1 = .ok (.getfield 67, 3) := by decide +kernel
theorem dX7_keep_4 : decode cX7_keep 4 = .ok (.getfield 189, 3) := by decide +kernel
theorem dX7_keep_7 : decode cX7_keep 7 = .ok (.iconst 2, 1) := by decide +kernel
theorem dX7_keep_8 : decode cX7_keep 8 = .ok (.if_icmp .lt 6, 3) := by decide +kernel
theorem dX7_keep_11 : decode cX7_keep 11 = .ok (.bipush (-3), 2) := by decide +kernel
theorem dX7_keep_13 : decode cX7_keep 13 = .ok (.ireturn, 1) := by decide +kernel
theorem dX7_keep_14 : decode cX7_keep 14 = .ok (.aload_n 0, 1) := by decide +kernel
theorem dX7_keep_15 : decode cX7_keep 15 = .ok (.getfield 67, 3) := by decide +kernel
theorem dX7_keep_18 : decode cX7_keep 18 = .ok (.aload_n 0, 1) := by decide +kernel
theorem dX7_keep_19 : decode cX7_keep 19 = .ok (.getfield 29, 3) := by decide +kernel
theorem dX7_keep_22 : decode cX7_keep 22 = .ok (.invokevirtual 164, 3) := by decide +kernel
theorem dX7_keep_25 : decode cX7_keep 25 = .ok (.aload_n 0, 1) := by decide +kernel
theorem dX7_keep_26 : decode cX7_keep 26 = .ok (.getfield 67, 3) := by decide +kernel
theorem dX7_keep_29 : decode cX7_keep 29 = .ok (.getfield 189, 3) := by decide +kernel
theorem dX7_keep_32 : decode cX7_keep 32 = .ok (.ireturn, 1) := by decide +kernel
theorem dX7_back_0 : decode cX7_back 0 = .ok (.aload_n 0, 1) := by decide +kernel
theorem dX7_back_1 : decode cX7_back 1 = .ok (.getfield 67, 3) := by decide +kernel
theorem dX7_back_4 : decode cX7_back 4 = .ok (.getfield 189, 3) := by decide +kernel
theorem dX7_back_7 : decode cX7_back 7 = .ok (.ifCond .ne 6, 3) := by decide +kernel
theorem dX7_back_10 : decode cX7_back 10 = .ok (.bipush (-2), 2) := by decide +kernel
theorem dX7_back_12 : decode cX7_back 12 = .ok (.ireturn, 1) := by decide +kernel
theorem dX7_back_13 : decode cX7_back 13 = .ok (.aload_n 0, 1) := by decide +kernel
theorem dX7_back_14 : decode cX7_back 14 = .ok (.getfield 67, 3) := by decide +kernel
theorem dX7_back_17 : decode cX7_back 17 = .ok (.aload_n 0, 1) := by decide +kernel
theorem dX7_back_18 : decode cX7_back 18 = .ok (.getfield 29, 3) := by decide +kernel
theorem dX7_back_21 : decode cX7_back 21 = .ok (.invokevirtual 192, 3) := by decide +kernel
theorem dX7_back_24 : decode cX7_back 24 = .ok (.aload_n 0, 1) := by decide +kernel
theorem dX7_back_25 : decode cX7_back 25 = .ok (.getfield 63, 3) := by decide +kernel
theorem dX7_back_28 : decode cX7_back 28 = .ok (.invokevirtual 109, 3) := by decide +kernel
theorem dX7_back_31 : decode cX7_back 31 = .ok (.aload_n 0, 1) := by decide +kernel
theorem dX7_back_32 : decode cX7_back 32 = .ok (.getfield 67, 3) := by decide +kernel
theorem dX7_back_35 : decode cX7_back 35 = .ok (.getfield 189, 3) := by decide +kernel
theorem dX7_back_38 : decode cX7_back 38 = .ok (.ireturn, 1) := by decide +kernel
theorem dX7_count_0 : decode cX7_count 0 = .ok (.iload_n 1, 1) := by decide +kernel
theorem dX7_count_1 : decode cX7_count 1 = .ok (.tableswitch 126 0 8 #[51, 59, 67, 75, 80, 88, 96, 107, 118], 51) := by decide +kernel
theorem dX7_count_52 : decode cX7_count 52 = .ok (.aload_n 0, 1) := by decide +kernel
theorem dX7_count_53 : decode cX7_count 53 = .ok (.getfield 23, 3) := by decide +kernel
theorem dX7_count_56 : decode cX7_count 56 = .ok (.getfield 96, 3) := by decide +kernel
theorem dX7_count_59 : decode cX7_count 59 = .ok (.ireturn, 1) := by decide +kernel
theorem dX7_count_60 : decode cX7_count 60 = .ok (.aload_n 0, 1) := by decide +kernel
theorem dX7_count_61 : decode cX7_count 61 = .ok (.getfield 10, 3) := by decide +kernel
theorem dX7_count_64 : decode cX7_count 64 = .ok (.getfield 88, 3) := by decide +kernel
theorem dX7_count_67 : decode cX7_count 67 = .ok (.ireturn, 1) := by decide +kernel
theorem dX7_count_68 : decode cX7_count 68 = .ok (.aload_n 0, 1) := by decide +kernel
theorem dX7_count_69 : decode cX7_count 69 = .ok (.getfield 29, 3) := by decide +kernel
theorem dX7_count_72 : decode cX7_count 72 = .ok (.getfield 126, 3) := by decide +kernel
theorem dX7_count_75 : decode cX7_count 75 = .ok (.ireturn, 1) := by decide +kernel
theorem dX7_count_76 : decode cX7_count 76 = .ok (.aload_n 0, 1) := by decide +kernel
theorem dX7_count_77 : decode cX7_count 77 = .ok (.getfield 103, 3) := by decide +kernel
theorem dX7_count_80 : decode cX7_count 80 = .ok (.ireturn, 1) := by decide +kernel
theorem dX7_count_81 : decode cX7_count 81 = .ok (.aload_n 0, 1) := by decide +kernel
theorem dX7_count_82 : decode cX7_count 82 = .ok (.getfield 54, 3) := by decide +kernel
theorem dX7_count_85 : decode cX7_count 85 = .ok (.getfield 106, 3) := by decide +kernel
theorem dX7_count_88 : decode cX7_count 88 = .ok (.ireturn, 1) := by decide +kernel
theorem dX7_count_89 : decode cX7_count 89 = .ok (.aload_n 0, 1) := by decide +kernel
theorem dX7_count_90 : decode cX7_count 90 = .ok (.getfield 63, 3) := by decide +kernel
theorem dX7_count_93 : decode cX7_count 93 = .ok (.getfield 189, 3) := by decide +kernel
theorem dX7_count_96 : decode cX7_count 96 = .ok (.ireturn, 1) := by decide +kernel
theorem dX7_count_97 : decode cX7_count 97 = .ok (.aload_n 0, 1) := by decide +kernel
theorem dX7_count_98 : decode cX7_count 98 = .ok (.getfield 29, 3) := by decide +kernel
theorem dX7_count_101 : decode cX7_count 101 = .ok (.getfield 174, 3) := by decide +kernel
theorem dX7_count_104 : decode cX7_count 104 = .ok (.ldc 220, 2) := by decide +kernel
theorem dX7_count_106 : decode cX7_count 106 = .ok (.iadd, 1) := by decide +kernel
theorem dX7_count_107 : decode cX7_count 107 = .ok (.ireturn, 1) := by decide +kernel
theorem dX7_count_108 : decode cX7_count 108 = .ok (.aload_n 0, 1) := by decide +kernel
theorem dX7_count_109 : decode cX7_count 109 = .ok (.getfield 29, 3) := by decide +kernel
theorem dX7_count_112 : decode cX7_count 112 = .ok (.getfield 180, 3) := by decide +kernel
theorem dX7_count_115 : decode cX7_count 115 = .ok (.ldc 220, 2) := by decide +kernel
theorem dX7_count_117 : decode cX7_count 117 = .ok (.iadd, 1) := by decide +kernel
theorem dX7_count_118 : decode cX7_count 118 = .ok (.ireturn, 1) := by decide +kernel
theorem dX7_count_119 : decode cX7_count 119 = .ok (.aload_n 0, 1) := by decide +kernel
theorem dX7_count_120 : decode cX7_count 120 = .ok (.getfield 67, 3) := by decide +kernel
theorem dX7_count_123 : decode cX7_count 123 = .ok (.getfield 189, 3) := by decide +kernel
theorem dX7_count_126 : decode cX7_count 126 = .ok (.ireturn, 1) := by decide +kernel
theorem dX7_count_127 : decode cX7_count 127 = .ok (.iconst (-1), 1) := by decide +kernel
theorem dX7_count_128 : decode cX7_count 128 = .ok (.ireturn, 1) := by decide +kernel
theorem dX7_isAct_0 : decode cX7_isAct 0 = .ok (.iload_n 1, 1) := by decide +kernel
theorem dX7_isAct_1 : decode cX7_isAct 1 = .ok (.ifCond .lt 18, 3) := by decide +kernel
theorem dX7_isAct_4 : decode cX7_isAct 4 = .ok (.iload_n 1, 1) := by decide +kernel
theorem dX7_isAct_5 : decode cX7_isAct 5 = .ok (.aload_n 0, 1) := by decide +kernel
theorem dX7_isAct_6 : decode cX7_isAct 6 = .ok (.getfield 23, 3) := by decide +kernel
theorem dX7_isAct_9 : decode cX7_isAct 9 = .ok (.getfield 96, 3) := by decide +kernel
theorem dX7_isAct_12 : decode cX7_isAct 12 = .ok (.if_icmp .ge 7, 3) := by decide +kernel
theorem dX7_isAct_15 : decode cX7_isAct 15 = .ok (.iconst 1, 1) := by decide +kernel
theorem dX7_isAct_16 : decode cX7_isAct 16 = .ok (.goto 4, 3) := by decide +kernel
theorem dX7_isAct_19 : decode cX7_isAct 19 = .ok (.iconst 0, 1) := by decide +kernel
theorem dX7_isAct_20 : decode cX7_isAct 20 = .ok (.ireturn, 1) := by decide +kernel
theorem dX7_isActOrNone_0 : decode cX7_isActOrNone 0 = .ok (.iload_n 1, 1) := by decide +kernel
theorem dX7_isActOrNone_1 : decode cX7_isActOrNone 1 = .ok (.iconst (-1), 1) := by decide +kernel
theorem dX7_isActOrNone_2 : decode cX7_isActOrNone 2 = .ok (.if_icmp .eq 11, 3) := by decide +kernel
theorem dX7_isActOrNone_5 : decode cX7_isActOrNone 5 = .ok (.aload_n 0, 1) := by decide +kernel
theorem dX7_isActOrNone_6 : decode cX7_isActOrNone 6 = .ok (.iload_n 1, 1) := by decide +kernel
theorem dX7_isActOrNone_7 : decode cX7_isActOrNone 7 = .ok (.invokevirtual 112, 3) := by decide +kernel
theorem dX7_isActOrNone_10 : decode cX7_isActOrNone 10 = .ok (.ifCond .eq 7, 3) := by decide +kernel
theorem dX7_isActOrNone_13 : decode cX7_isActOrNone 13 = .ok (.iconst 1, 1) := by decide +kernel
theorem dX7_isActOrNone_14 : decode cX7_isActOrNone 14 = .ok (.goto 4, 3) := by decide +kernel
theorem dX7_isActOrNone_17 : decode cX7_isActOrNone 17 = .ok (.iconst 0, 1) := by decide +kernel
theorem dX7_isActOrNone_18 : decode cX7_isActOrNone 18 = .ok (.ireturn, 1) := by decide +kernel
theorem dX7_isKing_0 : decode cX7_isKing 0 = .ok (.iload_n 0, 1) := by decide +kernel
theorem dX7_isKing_1 : decode cX7_isKing 1 = .ok (.ifCond .eq 8, 3) := by decide +kernel
theorem dX7_isKing_4 : decode cX7_isKing 4 = .ok (.iload_n 0, 1) := by decide +kernel
theorem dX7_isKing_5 : decode cX7_isKing 5 = .ok (.iconst 1, 1) := by decide +kernel
theorem dX7_isKing_6 : decode cX7_isKing 6 = .ok (.if_icmp .ne 7, 3) := by decide +kernel
theorem dX7_isKing_9 : decode cX7_isKing 9 = .ok (.iconst 1, 1) := by decide +kernel
theorem dX7_isKing_10 : decode cX7_isKing 10 = .ok (.goto 4, 3) := by decide +kernel
theorem dX7_isKing_13 : decode cX7_isKing 13 = .ok (.iconst 0, 1) := by decide +kernel
theorem dX7_isKing_14 : decode cX7_isKing 14 = .ok (.ireturn, 1) := by decide +kernel
theorem dX7_isRuler_0 : decode cX7_isRuler 0 = .ok (.iload_n 0, 1) := by decide +kernel
theorem dX7_isRuler_1 : decode cX7_isRuler 1 = .ok (.ifCond .lt 12, 3) := by decide +kernel
theorem dX7_isRuler_4 : decode cX7_isRuler 4 = .ok (.iload_n 0, 1) := by decide +kernel
theorem dX7_isRuler_5 : decode cX7_isRuler 5 = .ok (.iconst 2, 1) := by decide +kernel
theorem dX7_isRuler_6 : decode cX7_isRuler 6 = .ok (.if_icmp .gt 7, 3) := by decide +kernel
theorem dX7_isRuler_9 : decode cX7_isRuler 9 = .ok (.iconst 1, 1) := by decide +kernel
theorem dX7_isRuler_10 : decode cX7_isRuler 10 = .ok (.goto 4, 3) := by decide +kernel
theorem dX7_isRuler_13 : decode cX7_isRuler 13 = .ok (.iconst 0, 1) := by decide +kernel
theorem dX7_isRuler_14 : decode cX7_isRuler 14 = .ok (.ireturn, 1) := by decide +kernel
theorem dX7_isMinute_0 : decode cX7_isMinute 0 = .ok (.lload_n 0, 1) := by decide +kernel
theorem dX7_isMinute_1 : decode cX7_isMinute 1 = .ok (.lconst 0, 1) := by decide +kernel
theorem dX7_isMinute_2 : decode cX7_isMinute 2 = .ok (.lcmp, 1) := by decide +kernel
theorem dX7_isMinute_3 : decode cX7_isMinute 3 = .ok (.ifCond .lt 15, 3) := by decide +kernel
theorem dX7_isMinute_6 : decode cX7_isMinute 6 = .ok (.lload_n 0, 1) := by decide +kernel
theorem dX7_isMinute_7 : decode cX7_isMinute 7 = .ok (.ldc2_w 248, 3) := by decide +kernel
theorem dX7_isMinute_10 : decode cX7_isMinute 10 = .ok (.lcmp, 1) := by decide +kernel
theorem dX7_isMinute_11 : decode cX7_isMinute 11 = .ok (.ifCond .gt 7, 3) := by decide +kernel
theorem dX7_isMinute_14 : decode cX7_isMinute 14 = .ok (.iconst 1, 1) := by decide +kernel
theorem dX7_isMinute_15 : decode cX7_isMinute 15 = .ok (.goto 4, 3) := by decide +kernel
theorem dX7_isMinute_18 : decode cX7_isMinute 18 = .ok (.iconst 0, 1) := by decide +kernel
theorem dX7_isMinute_19 : decode cX7_isMinute 19 = .ok (.ireturn, 1) := by decide +kernel
theorem dX7_lawOf_0 : decode cX7_lawOf 0 = .ok (.iload_n 0, 1) := by decide +kernel
theorem dX7_lawOf_1 : decode cX7_lawOf 1 = .ok (.iconst 2, 1) := by decide +kernel
theorem dX7_lawOf_2 : decode cX7_lawOf 2 = .ok (.iload_n 1, 1) := by decide +kernel
theorem dX7_lawOf_3 : decode cX7_lawOf 3 = .ok (.imul, 1) := by decide +kernel
theorem dX7_lawOf_4 : decode cX7_lawOf 4 = .ok (.ishr, 1) := by decide +kernel
theorem dX7_lawOf_5 : decode cX7_lawOf 5 = .ok (.iconst 3, 1) := by decide +kernel
theorem dX7_lawOf_6 : decode cX7_lawOf 6 = .ok (.iand, 1) := by decide +kernel
theorem dX7_lawOf_7 : decode cX7_lawOf 7 = .ok (.ireturn, 1) := by decide +kernel
theorem dX7_lawBits_0 : decode cX7_lawBits 0 = .ok (.iload_n 1, 1) := by decide +kernel
theorem dX7_lawBits_1 : decode cX7_lawBits 1 = .ok (.iconst 2, 1) := by decide +kernel
theorem dX7_lawBits_2 : decode cX7_lawBits 2 = .ok (.iload_n 0, 1) := by decide +kernel
theorem dX7_lawBits_3 : decode cX7_lawBits 3 = .ok (.imul, 1) := by decide +kernel
theorem dX7_lawBits_4 : decode cX7_lawBits 4 = .ok (.ishl, 1) := by decide +kernel
theorem dX7_lawBits_5 : decode cX7_lawBits 5 = .ok (.ireturn, 1) := by decide +kernel
theorem dX7_greatestDivisor_0 : decode cX7_greatestDivisor 0 = .ok (.iload_n 0, 1) := by decide +kernel
theorem dX7_greatestDivisor_1 : decode cX7_greatestDivisor 1 = .ok (.istore_n 2, 1) := by decide +kernel
theorem dX7_greatestDivisor_2 : decode cX7_greatestDivisor 2 = .ok (.iload_n 1, 1) := by decide +kernel
theorem dX7_greatestDivisor_3 : decode cX7_greatestDivisor 3 = .ok (.istore_n 3, 1) := by decide +kernel
theorem dX7_greatestDivisor_4 : decode cX7_greatestDivisor 4 = .ok (.iconst 0, 1) := by decide +kernel
theorem dX7_greatestDivisor_5 : decode cX7_greatestDivisor 5 = .ok (.istore 4, 2) := by decide +kernel
theorem dX7_greatestDivisor_7 : decode cX7_greatestDivisor 7 = .ok (.iload 4, 2) := by decide +kernel
theorem dX7_greatestDivisor_9 : decode cX7_greatestDivisor 9 = .ok (.bipush 50, 2) := by decide +kernel
theorem dX7_greatestDivisor_11 : decode cX7_greatestDivisor 11 = .ok (.if_icmp .ge 23, 3) := by decide +kernel
theorem dX7_greatestDivisor_14 : decode cX7_greatestDivisor 14 = .ok (.iload_n 3, 1) := by decide +kernel
theorem dX7_greatestDivisor_15 : decode cX7_greatestDivisor 15 = .ok (.ifCond .le 19, 3) := by decide +kernel
theorem dX7_greatestDivisor_18 : decode cX7_greatestDivisor 18 = .ok (.iload_n 2, 1) := by decide +kernel
theorem dX7_greatestDivisor_19 : decode cX7_greatestDivisor 19 = .ok (.iload_n 3, 1) := by decide +kernel
theorem dX7_greatestDivisor_20 : decode cX7_greatestDivisor 20 = .ok (.irem, 1) := by decide +kernel
theorem dX7_greatestDivisor_21 : decode cX7_greatestDivisor 21 = .ok (.istore 5, 2) := by decide +kernel
theorem dX7_greatestDivisor_23 : decode cX7_greatestDivisor 23 = .ok (.iload_n 3, 1) := by decide +kernel
theorem dX7_greatestDivisor_24 : decode cX7_greatestDivisor 24 = .ok (.istore_n 2, 1) := by decide +kernel
theorem dX7_greatestDivisor_25 : decode cX7_greatestDivisor 25 = .ok (.iload 5, 2) := by decide +kernel
theorem dX7_greatestDivisor_27 : decode cX7_greatestDivisor 27 = .ok (.istore_n 3, 1) := by decide +kernel
theorem dX7_greatestDivisor_28 : decode cX7_greatestDivisor 28 = .ok (.iinc 4 1, 3) := by decide +kernel
theorem dX7_greatestDivisor_31 : decode cX7_greatestDivisor 31 = .ok (.goto (-24), 3) := by decide +kernel
theorem dX7_greatestDivisor_34 : decode cX7_greatestDivisor 34 = .ok (.iload_n 2, 1) := by decide +kernel
theorem dX7_greatestDivisor_35 : decode cX7_greatestDivisor 35 = .ok (.ireturn, 1) := by decide +kernel
theorem dX8_init_0 : decode cX8_init 0 = .ok (.aload_n 0, 1) := by decide +kernel
theorem dX8_init_1 : decode cX8_init 1 = .ok (.invokespecial 1, 3) := by decide +kernel
theorem dX8_init_4 : decode cX8_init 4 = .ok (.aload_n 0, 1) := by decide +kernel
theorem dX8_init_5 : decode cX8_init 5 = .ok (.sipush 400, 3) := by decide +kernel
theorem dX8_init_8 : decode cX8_init 8 = .ok (.newarray .byte, 2) := by decide +kernel
theorem dX8_init_10 : decode cX8_init 10 = .ok (.putfield 7, 3) := by decide +kernel
theorem dX8_init_13 : decode cX8_init 13 = .ok (.aload_n 0, 1) := by decide +kernel
theorem dX8_init_14 : decode cX8_init 14 = .ok (.bipush 12, 2) := by decide +kernel
theorem dX8_init_16 : decode cX8_init 16 = .ok (.newarray .int, 2) := by decide +kernel
theorem dX8_init_18 : decode cX8_init 18 = .ok (.putfield 13, 3) := by decide +kernel
theorem dX8_init_21 : decode cX8_init 21 = .ok (.aload_n 0, 1) := by decide +kernel
theorem dX8_init_22 : decode cX8_init 22 = .ok (.iconst 2, 1) := by decide +kernel
theorem dX8_init_23 : decode cX8_init 23 = .ok (.newarray .int, 2) := by decide +kernel
theorem dX8_init_25 : decode cX8_init 25 = .ok (.putfield 17, 3) := by decide +kernel
theorem dX8_init_28 : decode cX8_init 28 = .ok (.aload_n 0, 1) := by decide +kernel
theorem dX8_init_29 : decode cX8_init 29 = .ok (.bipush 60, 2) := by decide +kernel
theorem dX8_init_31 : decode cX8_init 31 = .ok (.newarray .int, 2) := by decide +kernel
theorem dX8_init_33 : decode cX8_init 33 = .ok (.putfield 20, 3) := by decide +kernel
theorem dX8_init_36 : decode cX8_init 36 = .ok (.aload_n 0, 1) := by decide +kernel
theorem dX8_init_37 : decode cX8_init 37 = .ok (.bipush 18, 2) := by decide +kernel
theorem dX8_init_39 : decode cX8_init 39 = .ok (.newarray .int, 2) := by decide +kernel
theorem dX8_init_41 : decode cX8_init 41 = .ok (.putfield 23, 3) := by decide +kernel
theorem dX8_init_44 : decode cX8_init 44 = .ok (.aload_n 0, 1) := by decide +kernel
theorem dX8_init_45 : decode cX8_init 45 = .ok (.bipush 12, 2) := by decide +kernel
theorem dX8_init_47 : decode cX8_init 47 = .ok (.newarray .long, 2) := by decide +kernel
theorem dX8_init_49 : decode cX8_init 49 = .ok (.putfield 26, 3) := by decide +kernel
theorem dX8_init_52 : decode cX8_init 52 = .ok (.aload_n 0, 1) := by decide +kernel
theorem dX8_init_53 : decode cX8_init 53 = .ok (.bipush 24, 2) := by decide +kernel
theorem dX8_init_55 : decode cX8_init 55 = .ok (.newarray .int, 2) := by decide +kernel
theorem dX8_init_57 : decode cX8_init 57 = .ok (.putfield 30, 3) := by decide +kernel
theorem dX8_init_60 : decode cX8_init 60 = .ok (.aload_n 0, 1) := by decide +kernel
theorem dX8_init_61 : decode cX8_init 61 = .ok (.bipush 8, 2) := by decide +kernel
theorem dX8_init_63 : decode cX8_init 63 = .ok (.newarray .int, 2) := by decide +kernel
theorem dX8_init_65 : decode cX8_init 65 = .ok (.putfield 33, 3) := by decide +kernel
theorem dX8_init_68 : decode cX8_init 68 = .ok (.aload_n 0, 1) := by decide +kernel
theorem dX8_init_69 : decode cX8_init 69 = .ok (.bipush 9, 2) := by decide +kernel
theorem dX8_init_71 : decode cX8_init 71 = .ok (.newarray .long, 2) := by decide +kernel
theorem dX8_init_73 : decode cX8_init 73 = .ok (.putfield 36, 3) := by decide +kernel
theorem dX8_init_76 : decode cX8_init 76 = .ok (.aload_n 0, 1) := by decide +kernel
theorem dX8_init_77 : decode cX8_init 77 = .ok (.bipush 20, 2) := by decide +kernel
theorem dX8_init_79 : decode cX8_init 79 = .ok (.newarray .int, 2) := by decide +kernel
theorem dX8_init_81 : decode cX8_init 81 = .ok (.putfield 39, 3) := by decide +kernel
theorem dX8_init_84 : decode cX8_init 84 = .ok (.aload_n 0, 1) := by decide +kernel
theorem dX8_init_85 : decode cX8_init 85 = .ok (.iconst 5, 1) := by decide +kernel
theorem dX8_init_86 : decode cX8_init 86 = .ok (.newarray .int, 2) := by decide +kernel
theorem dX8_init_88 : decode cX8_init 88 = .ok (.putfield 42, 3) := by decide +kernel
theorem dX8_init_91 : decode cX8_init 91 = .ok (.aload_n 0, 1) := by decide +kernel
theorem dX8_init_92 : decode cX8_init 92 = .ok (.invokevirtual 45, 3) := by decide +kernel
theorem dX8_init_95 : decode cX8_init 95 = .ok (.aload_n 0, 1) := by decide +kernel
theorem dX8_init_96 : decode cX8_init 96 = .ok (.getfield 17, 3) := by decide +kernel
theorem dX8_init_99 : decode cX8_init 99 = .ok (.iconst 1, 1) := by decide +kernel
theorem dX8_init_100 : decode cX8_init 100 = .ok (.iconst 1, 1) := by decide +kernel
theorem dX8_init_101 : decode cX8_init 101 = .ok (.iastore, 1) := by decide +kernel
theorem dX8_init_102 : decode cX8_init 102 = .ok (.aload_n 0, 1) := by decide +kernel
theorem dX8_init_103 : decode cX8_init 103 = .ok (.getfield 20, 3) := by decide +kernel
theorem dX8_init_106 : decode cX8_init 106 = .ok (.bipush 31, 2) := by decide +kernel
theorem dX8_init_108 : decode cX8_init 108 = .ok (.iconst 1, 1) := by decide +kernel
theorem dX8_init_109 : decode cX8_init 109 = .ok (.iastore, 1) := by decide +kernel
theorem dX8_init_110 : decode cX8_init 110 = .ok (.aload_n 0, 1) := by decide +kernel
theorem dX8_init_111 : decode cX8_init 111 = .ok (.getfield 20, 3) := by decide +kernel
theorem dX8_init_114 : decode cX8_init 114 = .ok (.bipush 32, 2) := by decide +kernel
theorem dX8_init_116 : decode cX8_init 116 = .ok (.iconst 1, 1) := by decide +kernel
theorem dX8_init_117 : decode cX8_init 117 = .ok (.iastore, 1) := by decide +kernel
theorem dX8_init_118 : decode cX8_init 118 = .ok (.aload_n 0, 1) := by decide +kernel
theorem dX8_init_119 : decode cX8_init 119 = .ok (.getfield 20, 3) := by decide +kernel
theorem dX8_init_122 : decode cX8_init 122 = .ok (.bipush 33, 2) := by decide +kernel
theorem dX8_init_124 : decode cX8_init 124 = .ok (.bipush 55, 2) := by decide +kernel
theorem dX8_init_126 : decode cX8_init 126 = .ok (.iastore, 1) := by decide +kernel
theorem dX8_init_127 : decode cX8_init 127 = .ok (.aload_n 0, 1) := by decide +kernel
theorem dX8_init_128 : decode cX8_init 128 = .ok (.getfield 20, 3) := by decide +kernel
theorem dX8_init_131 : decode cX8_init 131 = .ok (.bipush 34, 2) := by decide +kernel
theorem dX8_init_133 : decode cX8_init 133 = .ok (.bipush 55, 2) := by decide +kernel
theorem dX8_init_135 : decode cX8_init 135 = .ok (.iastore, 1) := by decide +kernel
theorem dX8_init_136 : decode cX8_init 136 = .ok (.aload_n 0, 1) := by decide +kernel
theorem dX8_init_137 : decode cX8_init 137 = .ok (.invokevirtual 48, 3) := by decide +kernel
theorem dX8_init_140 : decode cX8_init 140 = .ok (.return_, 1) := by decide +kernel
theorem dX8_in_0 : decode cX8_in 0 = .ok (.lload_n 0, 1) := by decide +kernel
theorem dX8_in_1 : decode cX8_in 1 = .ok (.lload_n 2, 1) := by decide +kernel
theorem dX8_in_2 : decode cX8_in 2 = .ok (.lcmp, 1) := by decide +kernel
theorem dX8_in_3 : decode cX8_in 3 = .ok (.ifCond .lt 14, 3) := by decide +kernel
theorem dX8_in_6 : decode cX8_in 6 = .ok (.lload_n 0, 1) := by decide +kernel
theorem dX8_in_7 : decode cX8_in 7 = .ok (.lload 4, 2) := by decide +kernel
theorem dX8_in_9 : decode cX8_in 9 = .ok (.lcmp, 1) := by decide +kernel
theorem dX8_in_10 : decode cX8_in 10 = .ok (.ifCond .gt 7, 3) := by decide +kernel
theorem dX8_in_13 : decode cX8_in 13 = .ok (.iconst 1, 1) := by decide +kernel
theorem dX8_in_14 : decode cX8_in 14 = .ok (.goto 4, 3) := by decide +kernel
theorem dX8_in_17 : decode cX8_in 17 = .ok (.iconst 0, 1) := by decide +kernel
theorem dX8_in_18 : decode cX8_in 18 = .ok (.ireturn, 1) := by decide +kernel
theorem dX8_write_0 : decode cX8_write 0 = .ok (.iload_n 1, 1) := by decide +kernel
theorem dX8_write_1 : decode cX8_write 1 = .ok (.i2l, 1) := by decide +kernel
theorem dX8_write_2 : decode cX8_write 2 = .ok (.lconst 1, 1) := by decide +kernel
theorem dX8_write_3 : decode cX8_write 3 = .ok (.ldc2_w 51, 3) := by decide +kernel
theorem dX8_write_6 : decode cX8_write 6 = .ok (.invokestatic 53, 3) := by decide +kernel
theorem dX8_write_9 : decode cX8_write 9 = .ok (.ifCond .ne 5, 3) := by decide +kernel
theorem dX8_write_12 : decode cX8_write 12 = .ok (.iconst (-1), 1) := by decide +kernel
theorem dX8_write_13 : decode cX8_write 13 = .ok (.ireturn, 1) := by decide +kernel
theorem dX8_write_14 : decode cX8_write 14 = .ok (.aload_n 0, 1) := by decide +kernel
theorem dX8_write_15 : decode cX8_write 15 = .ok (.getfield 57, 3) := by decide +kernel
theorem dX8_write_18 : decode cX8_write 18 = .ok (.iload_n 1, 1) := by decide +kernel
theorem dX8_write_19 : decode cX8_write 19 = .ok (.iadd, 1) := by decide +kernel
theorem dX8_write_20 : decode cX8_write 20 = .ok (.sipush 400, 3) := by decide +kernel
theorem dX8_write_23 : decode cX8_write 23 = .ok (.if_icmp .le 6, 3) := by decide +kernel
theorem dX8_write_26 : decode cX8_write 26 = .ok (.bipush (-3), 2) := by decide +kernel
theorem dX8_write_28 : decode cX8_write 28 = .ok (.ireturn, 1) := by decide +kernel
theorem dX8_write_29 : decode cX8_write 29 = .ok (.iload_n 1, 1) := by decide +kernel
theorem dX8_write_30 : decode cX8_write 30 = .ok (.iconst 1, 1) := by decide +kernel
theorem dX8_write_31 : decode cX8_write 31 = .ok (.isub, 1) := by decide +kernel
theorem dX8_write_32 : decode cX8_write 32 = .ok (.istore 4, 2) := by decide +kernel
theorem dX8_write_34 : decode cX8_write 34 = .ok (.iload 4, 2) := by decide +kernel
theorem dX8_write_36 : decode cX8_write 36 = .ok (.ifCond .lt 37, 3) := by decide +kernel
theorem dX8_write_39 : decode cX8_write 39 = .ok (.aload_n 0, 1) := by decide +kernel
theorem dX8_write_40 : decode cX8_write 40 = .ok (.getfield 7, 3) := by decide +kernel
theorem dX8_write_43 : decode cX8_write 43 = .ok (.aload_n 0, 1) := by decide +kernel
theorem dX8_write_44 : decode cX8_write 44 = .ok (.getfield 57, 3) := by decide +kernel
theorem dX8_write_47 : decode cX8_write 47 = .ok (.lload_n 2, 1) := by decide +kernel
theorem dX8_write_48 : decode cX8_write 48 = .ok (.bipush 8, 2) := by decide +kernel
theorem dX8_write_50 : decode cX8_write 50 = .ok (.iload 4, 2) := by decide +kernel
theorem dX8_write_52 : decode cX8_write 52 = .ok (.imul, 1) := by decide +kernel
theorem dX8_write_53 : decode cX8_write 53 = .ok (.lshr, 1) := by decide +kernel
theorem dX8_write_54 : decode cX8_write 54 = .ok (.l2i, 1) := by decide +kernel
theorem dX8_write_55 : decode cX8_write 55 = .ok (.i2b, 1) := by decide +kernel
theorem dX8_write_56 : decode cX8_write 56 = .ok (.bastore, 1) := by decide +kernel
theorem dX8_write_57 : decode cX8_write 57 = .ok (.aload_n 0, 1) := by decide +kernel
theorem dX8_write_58 : decode cX8_write 58 = .ok (.dup, 1) := by decide +kernel
theorem dX8_write_59 : decode cX8_write 59 = .ok (.getfield 57, 3) := by decide +kernel
theorem dX8_write_62 : decode cX8_write 62 = .ok (.iconst 1, 1) := by decide +kernel
theorem dX8_write_63 : decode cX8_write 63 = .ok (.iadd, 1) := by decide +kernel
theorem dX8_write_64 : decode cX8_write 64 = .ok (.putfield 57, 3) := by decide +kernel
theorem dX8_write_67 : decode cX8_write 67 = .ok (.iinc 4 (-1), 3) := by decide +kernel
theorem dX8_write_70 : decode cX8_write 70 = .ok (.goto (-36), 3) := by decide +kernel
theorem dX8_write_73 : decode cX8_write 73 = .ok (.aload_n 0, 1) := by decide +kernel
theorem dX8_write_74 : decode cX8_write 74 = .ok (.getfield 57, 3) := by decide +kernel
theorem dX8_write_77 : decode cX8_write 77 = .ok (.ireturn, 1) := by decide +kernel
theorem dX8_wipe_0 : decode cX8_wipe 0 = .ok (.aload_n 0, 1) := by decide +kernel
theorem dX8_wipe_1 : decode cX8_wipe 1 = .ok (.getfield 57, 3) := by decide +kernel
theorem dX8_wipe_4 : decode cX8_wipe 4 = .ok (.istore_n 1, 1) := by decide +kernel
theorem dX8_wipe_5 : decode cX8_wipe 5 = .ok (.aload_n 0, 1) := by decide +kernel
theorem dX8_wipe_6 : decode cX8_wipe 6 = .ok (.iconst 0, 1) := by decide +kernel
theorem dX8_wipe_7 : decode cX8_wipe 7 = .ok (.putfield 57, 3) := by decide +kernel
theorem dX8_wipe_10 : decode cX8_wipe 10 = .ok (.iload_n 1, 1) := by decide +kernel
theorem dX8_wipe_11 : decode cX8_wipe 11 = .ok (.ireturn, 1) := by decide +kernel
theorem dX8_number_0 : decode cX8_number 0 = .ok (.iconst 0, 1) := by decide +kernel
theorem dX8_number_1 : decode cX8_number 1 = .ok (.istore_n 1, 1) := by decide +kernel
theorem dX8_number_2 : decode cX8_number 2 = .ok (.iconst 0, 1) := by decide +kernel
theorem dX8_number_3 : decode cX8_number 3 = .ok (.istore_n 2, 1) := by decide +kernel
theorem dX8_number_4 : decode cX8_number 4 = .ok (.aload_n 0, 1) := by decide +kernel
theorem dX8_number_5 : decode cX8_number 5 = .ok (.getfield 61, 3) := by decide +kernel
theorem dX8_number_8 : decode cX8_number 8 = .ok (.aload_n 0, 1) := by decide +kernel
theorem dX8_number_9 : decode cX8_number 9 = .ok (.getfield 57, 3) := by decide +kernel
theorem dX8_number_12 : decode cX8_number 12 = .ok (.if_icmp .ge 68, 3) := by decide +kernel
theorem dX8_number_15 : decode cX8_number 15 = .ok (.aload_n 0, 1) := by decide +kernel
theorem dX8_number_16 : decode cX8_number 16 = .ok (.getfield 7, 3) := by decide +kernel
theorem dX8_number_19 : decode cX8_number 19 = .ok (.aload_n 0, 1) := by decide +kernel
theorem dX8_number_20 : decode cX8_number 20 = .ok (.getfield 61, 3) := by decide +kernel
theorem dX8_number_23 : decode cX8_number 23 = .ok (.baload, 1) := by decide +kernel
theorem dX8_number_24 : decode cX8_number 24 = .ok (.i2l, 1) := by decide +kernel
theorem dX8_number_25 : decode cX8_number 25 = .ok (.ldc2_w 64, 3) := by decide +kernel
theorem dX8_number_28 : decode cX8_number 28 = .ok (.ldc2_w 66, 3) := by decide +kernel
theorem dX8_number_31 : decode cX8_number 31 = .ok (.invokestatic 53, 3) := by decide +kernel
theorem dX8_number_34 : decode cX8_number 34 = .ok (.ifCond .eq 46, 3) := by decide +kernel
theorem dX8_number_37 : decode cX8_number 37 = .ok (.iload_n 2, 1) := by decide +kernel
theorem dX8_number_38 : decode cX8_number 38 = .ok (.iconst 3, 1) := by decide +kernel
theorem dX8_number_39 : decode cX8_number 39 = .ok (.if_icmp .ge 23, 3) := by decide +kernel
theorem dX8_number_42 : decode cX8_number 42 = .ok (.bipush 10, 2) := by decide +kernel
theorem dX8_number_44 : decode cX8_number 44 = .ok (.iload_n 1, 1) := by decide +kernel
theorem dX8_number_45 : decode cX8_number 45 = .ok (.imul, 1) := by decide +kernel
theorem dX8_number_46 : decode cX8_number 46 = .ok (.aload_n 0, 1) := by decide +kernel
theorem dX8_number_47 : decode cX8_number 47 = .ok (.getfield 7, 3) := by decide +kernel
theorem dX8_number_50 : decode cX8_number 50 = .ok (.aload_n 0, 1) := by decide +kernel
theorem dX8_number_51 : decode cX8_number 51 = .ok (.getfield 61, 3) := by decide +kernel
theorem dX8_number_54 : decode cX8_number 54 = .ok (.baload, 1) := by decide +kernel
theorem dX8_number_55 : decode cX8_number 55 = .ok (.iadd, 1) := by decide +kernel
theorem dX8_number_56 : decode cX8_number 56 = .ok (.bipush 48, 2) := by decide +kernel
theorem dX8_number_58 : decode cX8_number 58 = .ok (.isub, 1) := by decide +kernel
theorem dX8_number_59 : decode cX8_number 59 = .ok (.goto 4, 3) := by decide +kernel
theorem dX8_number_62 : decode cX8_number 62 = .ok (.iload_n 1, 1) := by decide +kernel
theorem dX8_number_63 : decode cX8_number 63 = .ok (.istore_n 1, 1) := by decide +kernel
theorem dX8_number_64 : decode cX8_number 64 = .ok (.iinc 2 1, 3) := by decide +kernel
theorem dX8_number_67 : decode cX8_number 67 = .ok (.aload_n 0, 1) := by decide +kernel
theorem dX8_number_68 : decode cX8_number 68 = .ok (.dup, 1) := by decide +kernel
theorem dX8_number_69 : decode cX8_number 69 = .ok (.getfield 61, 3) := by decide +kernel
theorem dX8_number_72 : decode cX8_number 72 = .ok (.iconst 1, 1) := by decide +kernel
theorem dX8_number_73 : decode cX8_number 73 = .ok (.iadd, 1) := by decide +kernel
theorem dX8_number_74 : decode cX8_number 74 = .ok (.putfield 61, 3) := by decide +kernel
theorem dX8_number_77 : decode cX8_number 77 = .ok (.goto (-73), 3) := by decide +kernel
theorem dX8_number_80 : decode cX8_number 80 = .ok (.iload_n 2, 1) := by decide +kernel
theorem dX8_number_81 : decode cX8_number 81 = .ok (.i2l, 1) := by decide +kernel
theorem dX8_number_82 : decode cX8_number 82 = .ok (.lconst 1, 1) := by decide +kernel
theorem dX8_number_83 : decode cX8_number 83 = .ok (.ldc2_w 68, 3) := by decide +kernel
theorem dX8_number_86 : decode cX8_number 86 = .ok (.invokestatic 53, 3) := by decide +kernel
theorem dX8_number_89 : decode cX8_number 89 = .ok (.ifCond .eq 7, 3) := by decide +kernel
theorem dX8_number_92 : decode cX8_number 92 = .ok (.iload_n 1, 1) := by decide +kernel
theorem dX8_number_93 : decode cX8_number 93 = .ok (.goto 4, 3) := by decide +kernel
theorem dX8_number_96 : decode cX8_number 96 = .ok (.iconst (-1), 1) := by decide +kernel
theorem dX8_number_97 : decode cX8_number 97 = .ok (.ireturn, 1) := by decide +kernel
theorem dX8_parts_0 : decode cX8_parts 0 = .ok (.iload_n 0, 1) := by decide +kernel
theorem dX8_parts_1 : decode cX8_parts 1 = .ok (.bipush 97, 2) := by decide +kernel
theorem dX8_parts_3 : decode cX8_parts 3 = .ok (.if_icmp .ne 7, 3) := by decide +kernel
theorem dX8_parts_6 : decode cX8_parts 6 = .ok (.iconst 5, 1) := by decide +kernel
theorem dX8_parts_7 : decode cX8_parts 7 = .ok (.goto 30, 3) := by decide +kernel
theorem dX8_parts_10 : decode cX8_parts 10 = .ok (.iload_n 0, 1) := by decide +kernel
theorem dX8_parts_11 : decode cX8_parts 11 = .ok (.bipush 116, 2) := by decide +kernel
theorem dX8_parts_13 : decode cX8_parts 13 = .ok (.if_icmp .ne 7, 3) := by decide +kernel
theorem dX8_parts_16 : decode cX8_parts 16 = .ok (.iconst 4, 1) := by decide +kernel
theorem dX8_parts_17 : decode cX8_parts 17 = .ok (.goto 20, 3) := by decide +kernel
theorem dX8_parts_20 : decode cX8_parts 20 = .ok (.iload_n 0, 1) := by decide +kernel
theorem dX8_parts_21 : decode cX8_parts 21 = .ok (.bipush 111, 2) := by decide +kernel
theorem dX8_parts_23 : decode cX8_parts 23 = .ok (.if_icmp .eq 9, 3) := by decide +kernel
theorem dX8_parts_26 : decode cX8_parts 26 = .ok (.iload_n 0, 1) := by decide +kernel
theorem dX8_parts_27 : decode cX8_parts 27 = .ok (.bipush 115, 2) := by decide +kernel
theorem dX8_parts_29 : decode cX8_parts 29 = .ok (.if_icmp .ne 7, 3) := by decide +kernel
theorem dX8_parts_32 : decode cX8_parts 32 = .ok (.iconst 1, 1) := by decide +kernel
theorem dX8_parts_33 : decode cX8_parts 33 = .ok (.goto 4, 3) := by decide +kernel
theorem dX8_parts_36 : decode cX8_parts 36 = .ok (.iconst 0, 1) := by decide +kernel
theorem dX8_parts_37 : decode cX8_parts 37 = .ok (.ireturn, 1) := by decide +kernel
theorem dX8_isIn_0 : decode cX8_isIn 0 = .ok (.aload_n 0, 1) := by decide +kernel
theorem dX8_isIn_1 : decode cX8_isIn 1 = .ok (.getfield 42, 3) := by decide +kernel
theorem dX8_isIn_4 : decode cX8_isIn 4 = .ok (.iload_n 1, 1) := by decide +kernel
theorem dX8_isIn_5 : decode cX8_isIn 5 = .ok (.iaload, 1) := by decide +kernel
theorem dX8_isIn_6 : decode cX8_isIn 6 = .ok (.i2l, 1) := by decide +kernel
theorem dX8_isIn_7 : decode cX8_isIn 7 = .ok (.iload_n 2, 1) := by decide +kernel
theorem dX8_isIn_8 : decode cX8_isIn 8 = .ok (.i2l, 1) := by decide +kernel
theorem dX8_isIn_9 : decode cX8_isIn 9 = .ok (.iload_n 3, 1) := by decide +kernel
theorem dX8_isIn_10 : decode cX8_isIn 10 = .ok (.i2l, 1) := by decide +kernel
theorem dX8_isIn_11 : decode cX8_isIn 11 = .ok (.invokestatic 53, 3) := by decide +kernel
theorem dX8_isIn_14 : decode cX8_isIn 14 = .ok (.ireturn, 1) := by decide +kernel
theorem dX8_isItem_0 : decode cX8_isItem 0 = .ok (.aload_n 0, 1) := by decide +kernel
theorem dX8_isItem_1 : decode cX8_isItem 1 = .ok (.getfield 7, 3) := by decide +kernel
theorem dX8_isItem_4 : decode cX8_isItem 4 = .ok (.aload_n 0, 1) := by decide +kernel
theorem dX8_isItem_5 : decode cX8_isItem 5 = .ok (.getfield 61, 3) := by decide +kernel
theorem dX8_isItem_8 : decode cX8_isItem 8 = .ok (.baload, 1) := by decide +kernel
theorem dX8_isItem_9 : decode cX8_isItem 9 = .ok (.istore_n 1, 1) := by decide +kernel
theorem dX8_isItem_10 : decode cX8_isItem 10 = .ok (.aload_n 0, 1) := by decide +kernel
theorem dX8_isItem_11 : decode cX8_isItem 11 = .ok (.dup, 1) := by decide +kernel
theorem dX8_isItem_12 : decode cX8_isItem 12 = .ok (.getfield 61, 3) := by decide +kernel
theorem dX8_isItem_15 : decode cX8_isItem 15 = .ok (.iconst 1, 1) := by decide +kernel
theorem dX8_isItem_16 : decode cX8_isItem 16 = .ok (.iadd, 1) := by decide +kernel
theorem dX8_isItem_17 : decode cX8_isItem 17 = .ok (.putfield 61, 3) := by decide +kernel
theorem dX8_isItem_20 : decode cX8_isItem 20 = .ok (.iload_n 1, 1) := by decide +kernel
theorem dX8_isItem_21 : decode cX8_isItem 21 = .ok (.invokestatic 70, 3) := by decide +kernel
theorem dX8_isItem_24 : decode cX8_isItem 24 = .ok (.istore_n 2, 1) := by decide +kernel
theorem dX8_isItem_25 : decode cX8_isItem 25 = .ok (.iload_n 2, 1) := by decide +kernel
theorem dX8_isItem_26 : decode cX8_isItem 26 = .ok (.ifCond .le 7, 3) := by decide +kernel
theorem dX8_isItem_29 : decode cX8_isItem 29 = .ok (.iconst 1, 1) := by decide +kernel
theorem dX8_isItem_30 : decode cX8_isItem 30 = .ok (.goto 4, 3) := by decide +kernel
theorem dX8_isItem_33 : decode cX8_isItem 33 = .ok (.iconst 0, 1) := by decide +kernel
theorem dX8_isItem_34 : decode cX8_isItem 34 = .ok (.istore_n 3, 1) := by decide +kernel
theorem dX8_isItem_35 : decode cX8_isItem 35 = .ok (.iconst 0, 1) := by decide +kernel
theorem dX8_isItem_36 : decode cX8_isItem 36 = .ok (.istore 4, 2) := by decide +kernel
theorem dX8_isItem_38 : decode cX8_isItem 38 = .ok (.iload 4, 2) := by decide +kernel
theorem dX8_isItem_40 : decode cX8_isItem 40 = .ok (.iload_n 2, 1) := by decide +kernel
theorem dX8_isItem_41 : decode cX8_isItem 41 = .ok (.if_icmp .ge 103, 3) := by decide +kernel
theorem dX8_isItem_44 : decode cX8_isItem 44 = .ok (.iload_n 3, 1) := by decide +kernel
theorem dX8_isItem_45 : decode cX8_isItem 45 = .ok (.ifCond .eq 99, 3) := by decide +kernel
theorem dX8_isItem_48 : decode cX8_isItem 48 = .ok (.iload 4, 2) := by decide +kernel
theorem dX8_isItem_50 : decode cX8_isItem 50 = .ok (.ifCond .eq 28, 3) := by decide +kernel
theorem dX8_isItem_53 : decode cX8_isItem 53 = .ok (.aload_n 0, 1) := by decide +kernel
theorem dX8_isItem_54 : decode cX8_isItem 54 = .ok (.getfield 61, 3) := by decide +kernel
theorem dX8_isItem_57 : decode cX8_isItem 57 = .ok (.aload_n 0, 1) := by decide +kernel
theorem dX8_isItem_58 : decode cX8_isItem 58 = .ok (.getfield 57, 3) := by decide +kernel
theorem dX8_isItem_61 : decode cX8_isItem 61 = .ok (.if_icmp .ge 21, 3) := by decide +kernel
theorem dX8_isItem_64 : decode cX8_isItem 64 = .ok (.aload_n 0, 1) := by decide +kernel
theorem dX8_isItem_65 : decode cX8_isItem 65 = .ok (.getfield 7, 3) := by decide +kernel
theorem dX8_isItem_68 : decode cX8_isItem 68 = .ok (.aload_n 0, 1) := by decide +kernel
theorem dX8_isItem_69 : decode cX8_isItem 69 = .ok (.getfield 61, 3) := by decide +kernel
theorem dX8_isItem_72 : decode cX8_isItem 72 = .ok (.baload, 1) := by decide +kernel
theorem dX8_isItem_73 : decode cX8_isItem 73 = .ok (.bipush 44, 2) := by decide +kernel
theorem dX8_isItem_75 : decode cX8_isItem 75 = .ok (.if_icmp .ne 7, 3) := by decide +kernel
theorem dX8_isItem_78 : decode cX8_isItem 78 = .ok (.iconst 1, 1) := by decide +kernel
theorem dX8_isItem_79 : decode cX8_isItem 79 = .ok (.goto 4, 3) := by decide +kernel
theorem dX8_isItem_82 : decode cX8_isItem 82 = .ok (.iconst 0, 1) := by decide +kernel
theorem dX8_isItem_83 : decode cX8_isItem 83 = .ok (.istore_n 3, 1) := by decide +kernel
theorem dX8_isItem_84 : decode cX8_isItem 84 = .ok (.aload_n 0, 1) := by decide +kernel
theorem dX8_isItem_85 : decode cX8_isItem 85 = .ok (.dup, 1) := by decide +kernel
theorem dX8_isItem_86 : decode cX8_isItem 86 = .ok (.getfield 61, 3) := by decide +kernel
theorem dX8_isItem_89 : decode cX8_isItem 89 = .ok (.iload 4, 2) := by decide +kernel
theorem dX8_isItem_91 : decode cX8_isItem 91 = .ok (.ifCond .ne 7, 3) := by decide +kernel
theorem dX8_isItem_94 : decode cX8_isItem 94 = .ok (.iconst 0, 1) := by decide +kernel
theorem dX8_isItem_95 : decode cX8_isItem 95 = .ok (.goto 4, 3) := by decide +kernel
theorem dX8_isItem_98 : decode cX8_isItem 98 = .ok (.iconst 1, 1) := by decide +kernel
theorem dX8_isItem_99 : decode cX8_isItem 99 = .ok (.iadd, 1) := by decide +kernel
theorem dX8_isItem_100 : decode cX8_isItem 100 = .ok (.putfield 61, 3) := by decide +kernel
theorem dX8_isItem_103 : decode cX8_isItem 103 = .ok (.aload_n 0, 1) := by decide +kernel
theorem dX8_isItem_104 : decode cX8_isItem 104 = .ok (.getfield 42, 3) := by decide +kernel
theorem dX8_isItem_107 : decode cX8_isItem 107 = .ok (.iload 4, 2) := by decide +kernel
theorem dX8_isItem_109 : decode cX8_isItem 109 = .ok (.iload_n 3, 1) := by decide +kernel
theorem dX8_isItem_110 : decode cX8_isItem 110 = .ok (.ifCond .eq 10, 3) := by decide +kernel
theorem dX8_isItem_113 : decode cX8_isItem 113 = .ok (.aload_n 0, 1) := by decide +kernel
theorem dX8_isItem_114 : decode cX8_isItem 114 = .ok (.invokevirtual 74, 3) := by decide +kernel
theorem dX8_isItem_117 : decode cX8_isItem 117 = .ok (.goto 4, 3) := by decide +kernel
theorem dX8_isItem_120 : decode cX8_isItem 120 = .ok (.iconst (-1), 1) := by decide +kernel
theorem dX8_isItem_121 : decode cX8_isItem 121 = .ok (.iastore, 1) := by decide +kernel
theorem dX8_isItem_122 : decode cX8_isItem 122 = .ok (.aload_n 0, 1) := by decide +kernel
theorem dX8_isItem_123 : decode cX8_isItem 123 = .ok (.getfield 42, 3) := by decide +kernel
theorem dX8_isItem_126 : decode cX8_isItem 126 = .ok (.iload 4, 2) := by decide +kernel
theorem dX8_isItem_128 : decode cX8_isItem 128 = .ok (.iaload, 1) := by decide +kernel
theorem dX8_isItem_129 : decode cX8_isItem 129 = .ok (.ifCond .lt 7, 3) := by decide +kernel
theorem dX8_isItem_132 : decode cX8_isItem 132 = .ok (.iconst 1, 1) := by decide +kernel
theorem dX8_isItem_133 : decode cX8_isItem 133 = .ok (.goto 4, 3) := by decide +kernel
theorem dX8_isItem_136 : decode cX8_isItem 136 = .ok (.iconst 0, 1) := by decide +kernel
theorem dX8_isItem_137 : decode cX8_isItem 137 = .ok (.istore_n 3, 1) := by decide +kernel
theorem dX8_isItem_138 : decode cX8_isItem 138 = .ok (.iinc 4 1, 3) := by decide +kernel
theorem dX8_isItem_141 : decode cX8_isItem 141 = .ok (.goto (-103), 3) := by decide +kernel
theorem dX8_isItem_144 : decode cX8_isItem 144 = .ok (.iload_n 3, 1) := by decide +kernel
theorem dX8_isItem_145 : decode cX8_isItem 145 = .ok (.ifCond .eq 32, 3) := by decide +kernel
theorem dX8_isItem_148 : decode cX8_isItem 148 = .ok (.aload_n 0, 1) := by decide +kernel
theorem dX8_isItem_149 : decode cX8_isItem 149 = .ok (.getfield 61, 3) := by decide +kernel
theorem dX8_isItem_152 : decode cX8_isItem 152 = .ok (.aload_n 0, 1) := by decide +kernel
theorem dX8_isItem_153 : decode cX8_isItem 153 = .ok (.getfield 57, 3) := by decide +kernel
theorem dX8_isItem_156 : decode cX8_isItem 156 = .ok (.if_icmp .ge 21, 3) := by decide +kernel
theorem dX8_isItem_159 : decode cX8_isItem 159 = .ok (.aload_n 0, 1) := by decide +kernel
theorem dX8_isItem_160 : decode cX8_isItem 160 = .ok (.getfield 7, 3) := by decide +kernel
theorem dX8_isItem_163 : decode cX8_isItem 163 = .ok (.aload_n 0, 1) := by decide +kernel
theorem dX8_isItem_164 : decode cX8_isItem 164 = .ok (.getfield 61, 3) := by decide +kernel
theorem dX8_isItem_167 : decode cX8_isItem 167 = .ok (.baload, 1) := by decide +kernel
theorem dX8_isItem_168 : decode cX8_isItem 168 = .ok (.bipush 59, 2) := by decide +kernel
theorem dX8_isItem_170 : decode cX8_isItem 170 = .ok (.if_icmp .ne 7, 3) := by decide +kernel
theorem dX8_isItem_173 : decode cX8_isItem 173 = .ok (.iconst 1, 1) := by decide +kernel
theorem dX8_isItem_174 : decode cX8_isItem 174 = .ok (.goto 4, 3) := by decide +kernel
theorem dX8_isItem_177 : decode cX8_isItem 177 = .ok (.iconst 0, 1) := by decide +kernel
theorem dX8_isItem_178 : decode cX8_isItem 178 = .ok (.istore_n 3, 1) := by decide +kernel
theorem dX8_isItem_179 : decode cX8_isItem 179 = .ok (.aload_n 0, 1) := by decide +kernel
theorem dX8_isItem_180 : decode cX8_isItem 180 = .ok (.dup, 1) := by decide +kernel
theorem dX8_isItem_181 : decode cX8_isItem 181 = .ok (.getfield 61, 3) := by decide +kernel
theorem dX8_isItem_184 : decode cX8_isItem 184 = .ok (.iconst 1, 1) := by decide +kernel
theorem dX8_isItem_185 : decode cX8_isItem 185 = .ok (.iadd, 1) := by decide +kernel
theorem dX8_isItem_186 : decode cX8_isItem 186 = .ok (.putfield 61, 3) := by decide +kernel
theorem dX8_isItem_189 : decode cX8_isItem 189 = .ok (.iload_n 3, 1) := by decide +kernel
theorem dX8_isItem_190 : decode cX8_isItem 190 = .ok (.ifCond .eq 15, 3) := by decide +kernel
theorem dX8_isItem_193 : decode cX8_isItem 193 = .ok (.aload_n 0, 1) := by decide +kernel
theorem dX8_isItem_194 : decode cX8_isItem 194 = .ok (.iload_n 1, 1) := by decide +kernel
theorem dX8_isItem_195 : decode cX8_isItem 195 = .ok (.invokevirtual 78, 3) := by decide +kernel
theorem dX8_isItem_198 : decode cX8_isItem 198 = .ok (.ifCond .eq 7, 3) := by decide +kernel
theorem dX8_isItem_201 : decode cX8_isItem 201 = .ok (.iconst 1, 1) := by decide +kernel
theorem dX8_isItem_202 : decode cX8_isItem 202 = .ok (.goto 4, 3) := by decide +kernel
theorem dX8_isItem_205 : decode cX8_isItem 205 = .ok (.iconst 0, 1) := by decide +kernel
theorem dX8_isItem_206 : decode cX8_isItem 206 = .ok (.ireturn, 1) := by decide +kernel
theorem dX8_isGood_0 : decode cX8_isGood 0 = .ok (.iload_n 1, 1) := by decide +kernel
theorem dX8_isGood_1 : decode cX8_isGood 1 = .ok (.bipush 116, 2) := by decide +kernel
theorem dX8_isGood_3 : decode cX8_isGood 3 = .ok (.if_icmp .ne 107, 3) := by decide +kernel
theorem dX8_isGood_6 : decode cX8_isGood 6 = .ok (.iconst 0, 1) := by decide +kernel
theorem dX8_isGood_7 : decode cX8_isGood 7 = .ok (.istore_n 2, 1) := by decide +kernel
theorem dX8_isGood_8 : decode cX8_isGood 8 = .ok (.iload_n 2, 1) := by decide +kernel
theorem dX8_isGood_9 : decode cX8_isGood 9 = .ok (.iconst 4, 1) := by decide +kernel
theorem dX8_isGood_10 : decode cX8_isGood 10 = .ok (.if_icmp .ge 24, 3) := by decide +kernel
theorem dX8_isGood_13 : decode cX8_isGood 13 = .ok (.aload_n 0, 1) := by decide +kernel
theorem dX8_isGood_14 : decode cX8_isGood 14 = .ok (.getfield 13, 3) := by decide +kernel
theorem dX8_isGood_17 : decode cX8_isGood 17 = .ok (.bipush 6, 2) := by decide +kernel
theorem dX8_isGood_19 : decode cX8_isGood 19 = .ok (.iload_n 2, 1) := by decide +kernel
theorem dX8_isGood_20 : decode cX8_isGood 20 = .ok (.iadd, 1) := by decide +kernel
theorem dX8_isGood_21 : decode cX8_isGood 21 = .ok (.aload_n 0, 1) := by decide +kernel
theorem dX8_isGood_22 : decode cX8_isGood 22 = .ok (.getfield 42, 3) := by decide +kernel
theorem dX8_isGood_25 : decode cX8_isGood 25 = .ok (.iload_n 2, 1) := by decide +kernel
theorem dX8_isGood_26 : decode cX8_isGood 26 = .ok (.iaload, 1) := by decide +kernel
theorem dX8_isGood_27 : decode cX8_isGood 27 = .ok (.iastore, 1) := by decide +kernel
theorem dX8_isGood_28 : decode cX8_isGood 28 = .ok (.iinc 2 1, 3) := by decide +kernel
theorem dX8_isGood_31 : decode cX8_isGood 31 = .ok (.goto (-23), 3) := by decide +kernel
theorem dX8_isGood_34 : decode cX8_isGood 34 = .ok (.aload_n 0, 1) := by decide +kernel
theorem dX8_isGood_35 : decode cX8_isGood 35 = .ok (.iconst 0, 1) := by decide +kernel
theorem dX8_isGood_36 : decode cX8_isGood 36 = .ok (.bipush 20, 2) := by decide +kernel
theorem dX8_isGood_38 : decode cX8_isGood 38 = .ok (.sipush 999, 3) := by decide +kernel
theorem dX8_isGood_41 : decode cX8_isGood 41 = .ok (.invokevirtual 82, 3) := by decide +kernel
theorem dX8_isGood_44 : decode cX8_isGood 44 = .ok (.ifCond .eq 64, 3) := by decide +kernel
theorem dX8_isGood_47 : decode cX8_isGood 47 = .ok (.aload_n 0, 1) := by decide +kernel
theorem dX8_isGood_48 : decode cX8_isGood 48 = .ok (.iconst 1, 1) := by decide +kernel
theorem dX8_isGood_49 : decode cX8_isGood 49 = .ok (.iconst 1, 1) := by decide +kernel
theorem dX8_isGood_50 : decode cX8_isGood 50 = .ok (.bipush 20, 2) := by decide +kernel
theorem dX8_isGood_52 : decode cX8_isGood 52 = .ok (.invokevirtual 82, 3) := by decide +kernel
theorem dX8_isGood_55 : decode cX8_isGood 55 = .ok (.ifCond .eq 53, 3) := by decide +kernel
theorem dX8_isGood_58 : decode cX8_isGood 58 = .ok (.aload_n 0, 1) := by decide +kernel
theorem dX8_isGood_59 : decode cX8_isGood 59 = .ok (.getfield 42, 3) := by decide +kernel
theorem dX8_isGood_62 : decode cX8_isGood 62 = .ok (.iconst 0, 1) := by decide +kernel
theorem dX8_isGood_63 : decode cX8_isGood 63 = .ok (.iaload, 1) := by decide +kernel
theorem dX8_isGood_64 : decode cX8_isGood 64 = .ok (.bipush 20, 2) := by decide +kernel
theorem dX8_isGood_66 : decode cX8_isGood 66 = .ok (.aload_n 0, 1) := by decide +kernel
theorem dX8_isGood_67 : decode cX8_isGood 67 = .ok (.getfield 42, 3) := by decide +kernel
theorem dX8_isGood_70 : decode cX8_isGood 70 = .ok (.iconst 1, 1) := by decide +kernel
theorem dX8_isGood_71 : decode cX8_isGood 71 = .ok (.iaload, 1) := by decide +kernel
theorem dX8_isGood_72 : decode cX8_isGood 72 = .ok (.imul, 1) := by decide +kernel
theorem dX8_isGood_73 : decode cX8_isGood 73 = .ok (.if_icmp .lt 35, 3) := by decide +kernel
theorem dX8_isGood_76 : decode cX8_isGood 76 = .ok (.aload_n 0, 1) := by decide +kernel
theorem dX8_isGood_77 : decode cX8_isGood 77 = .ok (.iconst 3, 1) := by decide +kernel
theorem dX8_isGood_78 : decode cX8_isGood 78 = .ok (.iconst 2, 1) := by decide +kernel
theorem dX8_isGood_79 : decode cX8_isGood 79 = .ok (.bipush 20, 2) := by decide +kernel
theorem dX8_isGood_81 : decode cX8_isGood 81 = .ok (.invokevirtual 82, 3) := by decide +kernel
theorem dX8_isGood_84 : decode cX8_isGood 84 = .ok (.ifCond .eq 24, 3) := by decide +kernel
theorem dX8_isGood_87 : decode cX8_isGood 87 = .ok (.aload_n 0, 1) := by decide +kernel
theorem dX8_isGood_88 : decode cX8_isGood 88 = .ok (.iconst 2, 1) := by decide +kernel
theorem dX8_isGood_89 : decode cX8_isGood 89 = .ok (.iconst 1, 1) := by decide +kernel
theorem dX8_isGood_90 : decode cX8_isGood 90 = .ok (.aload_n 0, 1) := by decide +kernel
theorem dX8_isGood_91 : decode cX8_isGood 91 = .ok (.getfield 42, 3) := by decide +kernel
theorem dX8_isGood_94 : decode cX8_isGood 94 = .ok (.iconst 3, 1) := by decide +kernel
theorem dX8_isGood_95 : decode cX8_isGood 95 = .ok (.iaload, 1) := by decide +kernel
theorem dX8_isGood_96 : decode cX8_isGood 96 = .ok (.iconst 1, 1) := by decide +kernel
theorem dX8_isGood_97 : decode cX8_isGood 97 = .ok (.isub, 1) := by decide +kernel
theorem dX8_isGood_98 : decode cX8_isGood 98 = .ok (.invokevirtual 82, 3) := by decide +kernel
theorem dX8_isGood_101 : decode cX8_isGood 101 = .ok (.ifCond .eq 7, 3) := by decide +kernel
theorem dX8_isGood_104 : decode cX8_isGood 104 = .ok (.iconst 1, 1) := by decide +kernel
theorem dX8_isGood_105 : decode cX8_isGood 105 = .ok (.goto 4, 3) := by decide +kernel
theorem dX8_isGood_108 : decode cX8_isGood 108 = .ok (.iconst 0, 1) := by decide +kernel
theorem dX8_isGood_109 : decode cX8_isGood 109 = .ok (.ireturn, 1) := by decide +kernel
theorem dX8_isGood_110 : decode cX8_isGood 110 = .ok (.iload_n 1, 1) := by decide +kernel
theorem dX8_isGood_111 : decode cX8_isGood 111 = .ok (.bipush 111, 2) := by decide +kernel
theorem dX8_isGood_113 : decode cX8_isGood 113 = .ok (.if_icmp .ne 26, 3) := by decide +kernel
theorem dX8_isGood_116 : decode cX8_isGood 116 = .ok (.aload_n 0, 1) := by decide +kernel
theorem dX8_isGood_117 : decode cX8_isGood 117 = .ok (.getfield 13, 3) := by decide +kernel
theorem dX8_isGood_120 : decode cX8_isGood 120 = .ok (.bipush 10, 2) := by decide +kernel
theorem dX8_isGood_122 : decode cX8_isGood 122 = .ok (.aload_n 0, 1) := by decide +kernel
theorem dX8_isGood_123 : decode cX8_isGood 123 = .ok (.getfield 42, 3) := by decide +kernel
theorem dX8_isGood_126 : decode cX8_isGood 126 = .ok (.iconst 0, 1) := by decide +kernel
theorem dX8_isGood_127 : decode cX8_isGood 127 = .ok (.iaload, 1) := by decide +kernel
theorem dX8_isGood_128 : decode cX8_isGood 128 = .ok (.iastore, 1) := by decide +kernel
theorem dX8_isGood_129 : decode cX8_isGood 129 = .ok (.aload_n 0, 1) := by decide +kernel
theorem dX8_isGood_130 : decode cX8_isGood 130 = .ok (.iconst 0, 1) := by decide +kernel
theorem dX8_isGood_131 : decode cX8_isGood 131 = .ok (.iconst 0, 1) := by decide +kernel
theorem dX8_isGood_132 : decode cX8_isGood 132 = .ok (.sipush 999, 3) := by decide +kernel
theorem dX8_isGood_135 : decode cX8_isGood 135 = .ok (.invokevirtual 82, 3) := by decide +kernel
theorem dX8_isGood_138 : decode cX8_isGood 138 = .ok (.ireturn, 1) := by decide +kernel
theorem dX8_isGood_139 : decode cX8_isGood 139 = .ok (.iload_n 1, 1) := by decide +kernel
theorem dX8_isGood_140 : decode cX8_isGood 140 = .ok (.bipush 115, 2) := by decide +kernel
theorem dX8_isGood_142 : decode cX8_isGood 142 = .ok (.if_icmp .ne 25, 3) := by decide +kernel
theorem dX8_isGood_145 : decode cX8_isGood 145 = .ok (.aload_n 0, 1) := by decide +kernel
theorem dX8_isGood_146 : decode cX8_isGood 146 = .ok (.getfield 13, 3) := by decide +kernel
theorem dX8_isGood_149 : decode cX8_isGood 149 = .ok (.bipush 11, 2) := by decide +kernel
theorem dX8_isGood_151 : decode cX8_isGood 151 = .ok (.aload_n 0, 1) := by decide +kernel
theorem dX8_isGood_152 : decode cX8_isGood 152 = .ok (.getfield 42, 3) := by decide +kernel
theorem dX8_isGood_155 : decode cX8_isGood 155 = .ok (.iconst 0, 1) := by decide +kernel
theorem dX8_isGood_156 : decode cX8_isGood 156 = .ok (.iaload, 1) := by decide +kernel
theorem dX8_isGood_157 : decode cX8_isGood 157 = .ok (.iastore, 1) := by decide +kernel
theorem dX8_isGood_158 : decode cX8_isGood 158 = .ok (.aload_n 0, 1) := by decide +kernel
theorem dX8_isGood_159 : decode cX8_isGood 159 = .ok (.iconst 0, 1) := by decide +kernel
theorem dX8_isGood_160 : decode cX8_isGood 160 = .ok (.iconst 0, 1) := by decide +kernel
theorem dX8_isGood_161 : decode cX8_isGood 161 = .ok (.bipush 99, 2) := by decide +kernel
theorem dX8_isGood_163 : decode cX8_isGood 163 = .ok (.invokevirtual 82, 3) := by decide +kernel
theorem dX8_isGood_166 : decode cX8_isGood 166 = .ok (.ireturn, 1) := by decide +kernel
theorem dX8_isGood_167 : decode cX8_isGood 167 = .ok (.aload_n 0, 1) := by decide +kernel
theorem dX8_isGood_168 : decode cX8_isGood 168 = .ok (.iconst 0, 1) := by decide +kernel
theorem dX8_isGood_169 : decode cX8_isGood 169 = .ok (.iconst 0, 1) := by decide +kernel
theorem dX8_isGood_170 : decode cX8_isGood 170 = .ok (.iconst 4, 1) := by decide +kernel
theorem dX8_isGood_171 : decode cX8_isGood 171 = .ok (.invokevirtual 82, 3) := by decide +kernel
theorem dX8_isGood_174 : decode cX8_isGood 174 = .ok (.ifCond .eq 57, 3) := by decide +kernel
theorem dX8_isGood_177 : decode cX8_isGood 177 = .ok (.aload_n 0, 1) := by decide +kernel
theorem dX8_isGood_178 : decode cX8_isGood 178 = .ok (.iconst 1, 1) := by decide +kernel
theorem dX8_isGood_179 : decode cX8_isGood 179 = .ok (.iconst 0, 1) := by decide +kernel
theorem dX8_isGood_180 : decode cX8_isGood 180 = .ok (.iconst 3, 1) := by decide +kernel
theorem dX8_isGood_181 : decode cX8_isGood 181 = .ok (.invokevirtual 82, 3) := by decide +kernel
theorem dX8_isGood_184 : decode cX8_isGood 184 = .ok (.ifCond .eq 47, 3) := by decide +kernel
theorem dX8_isGood_187 : decode cX8_isGood 187 = .ok (.aload_n 0, 1) := by decide +kernel
theorem dX8_isGood_188 : decode cX8_isGood 188 = .ok (.iconst 2, 1) := by decide +kernel
theorem dX8_isGood_189 : decode cX8_isGood 189 = .ok (.iconst 1, 1) := by decide +kernel
theorem dX8_isGood_190 : decode cX8_isGood 190 = .ok (.bipush 99, 2) := by decide +kernel
theorem dX8_isGood_192 : decode cX8_isGood 192 = .ok (.invokevirtual 82, 3) := by decide +kernel
theorem dX8_isGood_195 : decode cX8_isGood 195 = .ok (.ifCond .eq 36, 3) := by decide +kernel
theorem dX8_isGood_198 : decode cX8_isGood 198 = .ok (.aload_n 0, 1) := by decide +kernel
theorem dX8_isGood_199 : decode cX8_isGood 199 = .ok (.iconst 3, 1) := by decide +kernel
theorem dX8_isGood_200 : decode cX8_isGood 200 = .ok (.iconst 0, 1) := by decide +kernel
theorem dX8_isGood_201 : decode cX8_isGood 201 = .ok (.bipush 99, 2) := by decide +kernel
theorem dX8_isGood_203 : decode cX8_isGood 203 = .ok (.invokevirtual 82, 3) := by decide +kernel
theorem dX8_isGood_206 : decode cX8_isGood 206 = .ok (.ifCond .eq 25, 3) := by decide +kernel
theorem dX8_isGood_209 : decode cX8_isGood 209 = .ok (.aload_n 0, 1) := by decide +kernel
theorem dX8_isGood_210 : decode cX8_isGood 210 = .ok (.iconst 4, 1) := by decide +kernel
theorem dX8_isGood_211 : decode cX8_isGood 211 = .ok (.iconst 0, 1) := by decide +kernel
theorem dX8_isGood_212 : decode cX8_isGood 212 = .ok (.bipush 99, 2) := by decide +kernel
theorem dX8_isGood_214 : decode cX8_isGood 214 = .ok (.invokevirtual 82, 3) := by decide +kernel
theorem dX8_isGood_217 : decode cX8_isGood 217 = .ok (.ifCond .eq 14, 3) := by decide +kernel
theorem dX8_isGood_220 : decode cX8_isGood 220 = .ok (.aload_n 0, 1) := by decide +kernel
theorem dX8_isGood_221 : decode cX8_isGood 221 = .ok (.getfield 17, 3) := by decide +kernel
theorem dX8_isGood_224 : decode cX8_isGood 224 = .ok (.iconst 1, 1) := by decide +kernel
theorem dX8_isGood_225 : decode cX8_isGood 225 = .ok (.iaload, 1) := by decide +kernel
theorem dX8_isGood_226 : decode cX8_isGood 226 = .ok (.bipush 6, 2) := by decide +kernel
theorem dX8_isGood_228 : decode cX8_isGood 228 = .ok (.if_icmp .ne 5, 3) := by decide +kernel
theorem dX8_isGood_231 : decode cX8_isGood 231 = .ok (.iconst 0, 1) := by decide +kernel
theorem dX8_isGood_232 : decode cX8_isGood 232 = .ok (.ireturn, 1) := by decide +kernel
theorem dX8_isGood_233 : decode cX8_isGood 233 = .ok (.iconst 0, 1) := by decide +kernel
theorem dX8_isGood_234 : decode cX8_isGood 234 = .ok (.istore_n 2, 1) := by decide +kernel
theorem dX8_isGood_235 : decode cX8_isGood 235 = .ok (.iload_n 2, 1) := by decide +kernel
theorem dX8_isGood_236 : decode cX8_isGood 236 = .ok (.iconst 5, 1) := by decide +kernel
theorem dX8_isGood_237 : decode cX8_isGood 237 = .ok (.if_icmp .ge 33, 3) := by decide +kernel
theorem dX8_isGood_240 : decode cX8_isGood 240 = .ok (.aload_n 0, 1) := by decide +kernel
theorem dX8_isGood_241 : decode cX8_isGood 241 = .ok (.getfield 20, 3) := by decide +kernel
theorem dX8_isGood_244 : decode cX8_isGood 244 = .ok (.bipush 30, 2) := by decide +kernel
theorem dX8_isGood_246 : decode cX8_isGood 246 = .ok (.iconst 5, 1) := by decide +kernel
theorem dX8_isGood_247 : decode cX8_isGood 247 = .ok (.aload_n 0, 1) := by decide +kernel
theorem dX8_isGood_248 : decode cX8_isGood 248 = .ok (.getfield 17, 3) := by decide +kernel
theorem dX8_isGood_251 : decode cX8_isGood 251 = .ok (.iconst 1, 1) := by decide +kernel
theorem dX8_isGood_252 : decode cX8_isGood 252 = .ok (.iaload, 1) := by decide +kernel
theorem dX8_isGood_253 : decode cX8_isGood 253 = .ok (.imul, 1) := by decide +kernel
theorem dX8_isGood_254 : decode cX8_isGood 254 = .ok (.iadd, 1) := by decide +kernel
theorem dX8_isGood_255 : decode cX8_isGood 255 = .ok (.iload_n 2, 1) := by decide +kernel
theorem dX8_isGood_256 : decode cX8_isGood 256 = .ok (.iadd, 1) := by decide +kernel
theorem dX8_isGood_257 : decode cX8_isGood 257 = .ok (.aload_n 0, 1) := by decide +kernel
theorem dX8_isGood_258 : decode cX8_isGood 258 = .ok (.getfield 42, 3) := by decide +kernel
theorem dX8_isGood_261 : decode cX8_isGood 261 = .ok (.iload_n 2, 1) := by decide +kernel
theorem dX8_isGood_262 : decode cX8_isGood 262 = .ok (.iaload, 1) := by decide +kernel
theorem dX8_isGood_263 : decode cX8_isGood 263 = .ok (.iastore, 1) := by decide +kernel
theorem dX8_isGood_264 : decode cX8_isGood 264 = .ok (.iinc 2 1, 3) := by decide +kernel
theorem dX8_isGood_267 : decode cX8_isGood 267 = .ok (.goto (-32), 3) := by decide +kernel
theorem dX8_isGood_270 : decode cX8_isGood 270 = .ok (.aload_n 0, 1) := by decide +kernel
theorem dX8_isGood_271 : decode cX8_isGood 271 = .ok (.getfield 17, 3) := by decide +kernel
theorem dX8_isGood_274 : decode cX8_isGood 274 = .ok (.iconst 1, 1) := by decide +kernel
theorem dX8_isGood_275 : decode cX8_isGood 275 = .ok (.dup2, 1) := by decide +kernel
theorem dX8_isGood_276 : decode cX8_isGood 276 = .ok (.iaload, 1) := by decide +kernel
theorem dX8_isGood_277 : decode cX8_isGood 277 = .ok (.iconst 1, 1) := by decide +kernel
theorem dX8_isGood_278 : decode cX8_isGood 278 = .ok (.iadd, 1) := by decide +kernel
theorem dX8_isGood_279 : decode cX8_isGood 279 = .ok (.iastore, 1) := by decide +kernel
theorem dX8_isGood_280 : decode cX8_isGood 280 = .ok (.iconst 1, 1) := by decide +kernel
theorem dX8_isGood_281 : decode cX8_isGood 281 = .ok (.ireturn, 1) := by decide +kernel
theorem dX8_begins_0 : decode cX8_begins 0 = .ok (.aload_n 0, 1) := by decide +kernel
theorem dX8_begins_1 : decode cX8_begins 1 = .ok (.getfield 17, 3) := by decide +kernel
theorem dX8_begins_4 : decode cX8_begins 4 = .ok (.iconst 1, 1) := by decide +kernel
theorem dX8_begins_5 : decode cX8_begins 5 = .ok (.iconst 0, 1) := by decide +kernel
theorem dX8_begins_6 : decode cX8_begins 6 = .ok (.iastore, 1) := by decide +kernel
theorem dX8_begins_7 : decode cX8_begins 7 = .ok (.aload_n 0, 1) := by decide +kernel
theorem dX8_begins_8 : decode cX8_begins 8 = .ok (.getfield 13, 3) := by decide +kernel
theorem dX8_begins_11 : decode cX8_begins 11 = .ok (.bipush 6, 2) := by decide +kernel
theorem dX8_begins_13 : decode cX8_begins 13 = .ok (.sipush 745, 3) := by decide +kernel
theorem dX8_begins_16 : decode cX8_begins 16 = .ok (.iastore, 1) := by decide +kernel
theorem dX8_begins_17 : decode cX8_begins 17 = .ok (.aload_n 0, 1) := by decide +kernel
theorem dX8_begins_18 : decode cX8_begins 18 = .ok (.getfield 13, 3) := by decide +kernel
theorem dX8_begins_21 : decode cX8_begins 21 = .ok (.bipush 7, 2) := by decide +kernel
theorem dX8_begins_23 : decode cX8_begins 23 = .ok (.iconst 1, 1) := by decide +kernel
theorem dX8_begins_24 : decode cX8_begins 24 = .ok (.iastore, 1) := by decide +kernel
theorem dX8_begins_25 : decode cX8_begins 25 = .ok (.aload_n 0, 1) := by decide +kernel
theorem dX8_begins_26 : decode cX8_begins 26 = .ok (.getfield 13, 3) := by decide +kernel
theorem dX8_begins_29 : decode cX8_begins 29 = .ok (.bipush 8, 2) := by decide +kernel
theorem dX8_begins_31 : decode cX8_begins 31 = .ok (.iconst 1, 1) := by decide +kernel
theorem dX8_begins_32 : decode cX8_begins 32 = .ok (.iastore, 1) := by decide +kernel
theorem dX8_begins_33 : decode cX8_begins 33 = .ok (.aload_n 0, 1) := by decide +kernel
theorem dX8_begins_34 : decode cX8_begins 34 = .ok (.getfield 13, 3) := by decide +kernel
theorem dX8_begins_37 : decode cX8_begins 37 = .ok (.bipush 9, 2) := by decide +kernel
theorem dX8_begins_39 : decode cX8_begins 39 = .ok (.iconst 2, 1) := by decide +kernel
theorem dX8_begins_40 : decode cX8_begins 40 = .ok (.iastore, 1) := by decide +kernel
theorem dX8_begins_41 : decode cX8_begins 41 = .ok (.aload_n 0, 1) := by decide +kernel
theorem dX8_begins_42 : decode cX8_begins 42 = .ok (.getfield 13, 3) := by decide +kernel
theorem dX8_begins_45 : decode cX8_begins 45 = .ok (.bipush 10, 2) := by decide +kernel
theorem dX8_begins_47 : decode cX8_begins 47 = .ok (.iconst 0, 1) := by decide +kernel
theorem dX8_begins_48 : decode cX8_begins 48 = .ok (.iastore, 1) := by decide +kernel
theorem dX8_begins_49 : decode cX8_begins 49 = .ok (.aload_n 0, 1) := by decide +kernel
theorem dX8_begins_50 : decode cX8_begins 50 = .ok (.getfield 13, 3) := by decide +kernel
theorem dX8_begins_53 : decode cX8_begins 53 = .ok (.bipush 11, 2) := by decide +kernel
theorem dX8_begins_55 : decode cX8_begins 55 = .ok (.iconst 0, 1) := by decide +kernel
theorem dX8_begins_56 : decode cX8_begins 56 = .ok (.iastore, 1) := by decide +kernel
theorem dX8_begins_57 : decode cX8_begins 57 = .ok (.return_, 1) := by decide +kernel
theorem dX8_takes_0 : decode cX8_takes 0 = .ok (.iconst 0, 1) := by decide +kernel
theorem dX8_takes_1 : decode cX8_takes 1 = .ok (.istore_n 1, 1) := by decide +kernel
theorem dX8_takes_2 : decode cX8_takes 2 = .ok (.iload_n 1, 1) := by decide +kernel
theorem dX8_takes_3 : decode cX8_takes 3 = .ok (.bipush 6, 2) := by decide +kernel
theorem dX8_takes_5 : decode cX8_takes 5 = .ok (.if_icmp .ge 24, 3) := by decide +kernel
theorem dX8_takes_8 : decode cX8_takes 8 = .ok (.aload_n 0, 1) := by decide +kernel
theorem dX8_takes_9 : decode cX8_takes 9 = .ok (.getfield 13, 3) := by decide +kernel
theorem dX8_takes_12 : decode cX8_takes 12 = .ok (.iload_n 1, 1) := by decide +kernel
theorem dX8_takes_13 : decode cX8_takes 13 = .ok (.aload_n 0, 1) := by decide +kernel
theorem dX8_takes_14 : decode cX8_takes 14 = .ok (.getfield 13, 3) := by decide +kernel
theorem dX8_takes_17 : decode cX8_takes 17 = .ok (.bipush 6, 2) := by decide +kernel
theorem dX8_takes_19 : decode cX8_takes 19 = .ok (.iload_n 1, 1) := by decide +kernel
theorem dX8_takes_20 : decode cX8_takes 20 = .ok (.iadd, 1) := by decide +kernel
theorem dX8_takes_21 : decode cX8_takes 21 = .ok (.iaload, 1) := by decide +kernel
theorem dX8_takes_22 : decode cX8_takes 22 = .ok (.iastore, 1) := by decide +kernel
theorem dX8_takes_23 : decode cX8_takes 23 = .ok (.iinc 1 1, 3) := by decide +kernel
theorem dX8_takes_26 : decode cX8_takes 26 = .ok (.goto (-24), 3) := by decide +kernel
theorem dX8_takes_29 : decode cX8_takes 29 = .ok (.aload_n 0, 1) := by decide +kernel
theorem dX8_takes_30 : decode cX8_takes 30 = .ok (.getfield 17, 3) := by decide +kernel
theorem dX8_takes_33 : decode cX8_takes 33 = .ok (.iconst 0, 1) := by decide +kernel
theorem dX8_takes_34 : decode cX8_takes 34 = .ok (.aload_n 0, 1) := by decide +kernel
theorem dX8_takes_35 : decode cX8_takes 35 = .ok (.getfield 17, 3) := by decide +kernel
theorem dX8_takes_38 : decode cX8_takes 38 = .ok (.iconst 1, 1) := by decide +kernel
theorem dX8_takes_39 : decode cX8_takes 39 = .ok (.iaload, 1) := by decide +kernel
theorem dX8_takes_40 : decode cX8_takes 40 = .ok (.iastore, 1) := by decide +kernel
theorem dX8_takes_41 : decode cX8_takes 41 = .ok (.iconst 0, 1) := by decide +kernel
theorem dX8_takes_42 : decode cX8_takes 42 = .ok (.istore_n 1, 1) := by decide +kernel
theorem dX8_takes_43 : decode cX8_takes 43 = .ok (.iload_n 1, 1) := by decide +kernel
theorem dX8_takes_44 : decode cX8_takes 44 = .ok (.bipush 30, 2) := by decide +kernel
theorem dX8_takes_46 : decode cX8_takes 46 = .ok (.if_icmp .ge 24, 3) := by decide +kernel
theorem dX8_takes_49 : decode cX8_takes 49 = .ok (.aload_n 0, 1) := by decide +kernel
theorem dX8_takes_50 : decode cX8_takes 50 = .ok (.getfield 20, 3) := by decide +kernel
theorem dX8_takes_53 : decode cX8_takes 53 = .ok (.iload_n 1, 1) := by decide +kernel
theorem dX8_takes_54 : decode cX8_takes 54 = .ok (.aload_n 0, 1) := by decide +kernel
theorem dX8_takes_55 : decode cX8_takes 55 = .ok (.getfield 20, 3) := by decide +kernel
theorem dX8_takes_58 : decode cX8_takes 58 = .ok (.bipush 30, 2) := by decide +kernel
theorem dX8_takes_60 : decode cX8_takes 60 = .ok (.iload_n 1, 1) := by decide +kernel
theorem dX8_takes_61 : decode cX8_takes 61 = .ok (.iadd, 1) := by decide +kernel
theorem dX8_takes_62 : decode cX8_takes 62 = .ok (.iaload, 1) := by decide +kernel
theorem dX8_takes_63 : decode cX8_takes 63 = .ok (.iastore, 1) := by decide +kernel
theorem dX8_takes_64 : decode cX8_takes 64 = .ok (.iinc 1 1, 3) := by decide +kernel
theorem dX8_takes_67 : decode cX8_takes 67 = .ok (.goto (-24), 3) := by decide +kernel
theorem dX8_takes_70 : decode cX8_takes 70 = .ok (.iconst 0, 1) := by decide +kernel
theorem dX8_takes_71 : decode cX8_takes 71 = .ok (.istore_n 1, 1) := by decide +kernel
theorem dX8_takes_72 : decode cX8_takes 72 = .ok (.iload_n 1, 1) := by decide +kernel
theorem dX8_takes_73 : decode cX8_takes 73 = .ok (.bipush 6, 2) := by decide +kernel
theorem dX8_takes_75 : decode cX8_takes 75 = .ok (.if_icmp .ge 25, 3) := by decide +kernel
theorem dX8_takes_78 : decode cX8_takes 78 = .ok (.aload_n 0, 1) := by decide +kernel
theorem dX8_takes_79 : decode cX8_takes 79 = .ok (.getfield 23, 3) := by decide +kernel
theorem dX8_takes_82 : decode cX8_takes 82 = .ok (.iload_n 1, 1) := by decide +kernel
theorem dX8_takes_83 : decode cX8_takes 83 = .ok (.aload_n 0, 1) := by decide +kernel
theorem dX8_takes_84 : decode cX8_takes 84 = .ok (.getfield 20, 3) := by decide +kernel
theorem dX8_takes_87 : decode cX8_takes 87 = .ok (.iconst 5, 1) := by decide +kernel
theorem dX8_takes_88 : decode cX8_takes 88 = .ok (.iload_n 1, 1) := by decide +kernel
theorem dX8_takes_89 : decode cX8_takes 89 = .ok (.imul, 1) := by decide +kernel
theorem dX8_takes_90 : decode cX8_takes 90 = .ok (.iconst 1, 1) := by decide +kernel
theorem dX8_takes_91 : decode cX8_takes 91 = .ok (.iadd, 1) := by decide +kernel
theorem dX8_takes_92 : decode cX8_takes 92 = .ok (.iaload, 1) := by decide +kernel
theorem dX8_takes_93 : decode cX8_takes 93 = .ok (.iastore, 1) := by decide +kernel
theorem dX8_takes_94 : decode cX8_takes 94 = .ok (.iinc 1 1, 3) := by decide +kernel
theorem dX8_takes_97 : decode cX8_takes 97 = .ok (.goto (-25), 3) := by decide +kernel
theorem dX8_takes_100 : decode cX8_takes 100 = .ok (.iconst 0, 1) := by decide +kernel
theorem dX8_takes_101 : decode cX8_takes 101 = .ok (.istore_n 1, 1) := by decide +kernel
theorem dX8_takes_102 : decode cX8_takes 102 = .ok (.iload_n 1, 1) := by decide +kernel
theorem dX8_takes_103 : decode cX8_takes 103 = .ok (.iconst 4, 1) := by decide +kernel
theorem dX8_takes_104 : decode cX8_takes 104 = .ok (.if_icmp .ge 16, 3) := by decide +kernel
theorem dX8_takes_107 : decode cX8_takes 107 = .ok (.aload_n 0, 1) := by decide +kernel
theorem dX8_takes_108 : decode cX8_takes 108 = .ok (.getfield 26, 3) := by decide +kernel
theorem dX8_takes_111 : decode cX8_takes 111 = .ok (.iload_n 1, 1) := by decide +kernel
theorem dX8_takes_112 : decode cX8_takes 112 = .ok (.lconst 0, 1) := by decide +kernel
theorem dX8_takes_113 : decode cX8_takes 113 = .ok (.lastore, 1) := by decide +kernel
theorem dX8_takes_114 : decode cX8_takes 114 = .ok (.iinc 1 1, 3) := by decide +kernel
theorem dX8_takes_117 : decode cX8_takes 117 = .ok (.goto (-15), 3) := by decide +kernel
theorem dX8_takes_120 : decode cX8_takes 120 = .ok (.aload_n 0, 1) := by decide +kernel
theorem dX8_takes_121 : decode cX8_takes 121 = .ok (.iconst 0, 1) := by decide +kernel
theorem dX8_takes_122 : decode cX8_takes 122 = .ok (.putfield 86, 3) := by decide +kernel
theorem dX8_takes_125 : decode cX8_takes 125 = .ok (.aload_n 0, 1) := by decide +kernel
theorem dX8_takes_126 : decode cX8_takes 126 = .ok (.iconst 0, 1) := by decide +kernel
theorem dX8_takes_127 : decode cX8_takes 127 = .ok (.putfield 89, 3) := by decide +kernel
theorem dX8_takes_130 : decode cX8_takes 130 = .ok (.aload_n 0, 1) := by decide +kernel
theorem dX8_takes_131 : decode cX8_takes 131 = .ok (.iconst 0, 1) := by decide +kernel
theorem dX8_takes_132 : decode cX8_takes 132 = .ok (.putfield 92, 3) := by decide +kernel
theorem dX8_takes_135 : decode cX8_takes 135 = .ok (.aload_n 0, 1) := by decide +kernel
theorem dX8_takes_136 : decode cX8_takes 136 = .ok (.iconst 0, 1) := by decide +kernel
theorem dX8_takes_137 : decode cX8_takes 137 = .ok (.putfield 95, 3) := by decide +kernel
theorem dX8_takes_140 : decode cX8_takes 140 = .ok (.return_, 1) := by decide +kernel
theorem dX8_fault_0 : decode cX8_fault 0 = .ok (.aload_n 0, 1) := by decide +kernel
theorem dX8_fault_1 : decode cX8_fault 1 = .ok (.iconst 0, 1) := by decide +kernel
theorem dX8_fault_2 : decode cX8_fault 2 = .ok (.putfield 61, 3) := by decide +kernel
theorem dX8_fault_5 : decode cX8_fault 5 = .ok (.aload_n 0, 1) := by decide +kernel
theorem dX8_fault_6 : decode cX8_fault 6 = .ok (.invokevirtual 45, 3) := by decide +kernel
theorem dX8_fault_9 : decode cX8_fault 9 = .ok (.aload_n 0, 1) := by decide +kernel
theorem dX8_fault_10 : decode cX8_fault 10 = .ok (.getfield 61, 3) := by decide +kernel
theorem dX8_fault_13 : decode cX8_fault 13 = .ok (.aload_n 0, 1) := by decide +kernel
theorem dX8_fault_14 : decode cX8_fault 14 = .ok (.getfield 57, 3) := by decide +kernel
theorem dX8_fault_17 : decode cX8_fault 17 = .ok (.if_icmp .ge 20, 3) := by decide +kernel
theorem dX8_fault_20 : decode cX8_fault 20 = .ok (.aload_n 0, 1) := by decide +kernel
theorem dX8_fault_21 : decode cX8_fault 21 = .ok (.getfield 61, 3) := by decide +kernel
theorem dX8_fault_24 : decode cX8_fault 24 = .ok (.istore_n 1, 1) := by decide +kernel
theorem dX8_fault_25 : decode cX8_fault 25 = .ok (.aload_n 0, 1) := by decide +kernel
theorem dX8_fault_26 : decode cX8_fault 26 = .ok (.invokevirtual 98, 3) := by decide +kernel
theorem dX8_fault_29 : decode cX8_fault 29 = .ok (.ifCond .ne 5, 3) := by decide +kernel
theorem dX8_fault_32 : decode cX8_fault 32 = .ok (.iload_n 1, 1) := by decide +kernel
theorem dX8_fault_33 : decode cX8_fault 33 = .ok (.ireturn, 1) := by decide +kernel
theorem dX8_fault_34 : decode cX8_fault 34 = .ok (.goto (-25), 3) := by decide +kernel
theorem dX8_fault_37 : decode cX8_fault 37 = .ok (.bipush (-4), 2) := by decide +kernel
theorem dX8_fault_39 : decode cX8_fault 39 = .ok (.ireturn, 1) := by decide +kernel
theorem dX8_lay_0 : decode cX8_lay 0 = .ok (.aload_n 0, 1) := by decide +kernel
theorem dX8_lay_1 : decode cX8_lay 1 = .ok (.invokevirtual 102, 3) := by decide +kernel
theorem dX8_lay_4 : decode cX8_lay 4 = .ok (.bipush (-4), 2) := by decide +kernel
theorem dX8_lay_6 : decode cX8_lay 6 = .ok (.if_icmp .ne 12, 3) := by decide +kernel
theorem dX8_lay_9 : decode cX8_lay 9 = .ok (.aload_n 0, 1) := by decide +kernel
theorem dX8_lay_10 : decode cX8_lay 10 = .ok (.getfield 17, 3) := by decide +kernel
theorem dX8_lay_13 : decode cX8_lay 13 = .ok (.iconst 1, 1) := by decide +kernel
theorem dX8_lay_14 : decode cX8_lay 14 = .ok (.iaload, 1) := by decide +kernel
theorem dX8_lay_15 : decode cX8_lay 15 = .ok (.ifCond .ne 6, 3) := by decide +kernel
theorem dX8_lay_18 : decode cX8_lay 18 = .ok (.bipush (-2), 2) := by decide +kernel
theorem dX8_lay_20 : decode cX8_lay 20 = .ok (.ireturn, 1) := by decide +kernel
theorem dX8_lay_21 : decode cX8_lay 21 = .ok (.aload_n 0, 1) := by decide +kernel
theorem dX8_lay_22 : decode cX8_lay 22 = .ok (.invokevirtual 48, 3) := by decide +kernel
theorem dX8_lay_25 : decode cX8_lay 25 = .ok (.aload_n 0, 1) := by decide +kernel
theorem dX8_lay_26 : decode cX8_lay 26 = .ok (.getfield 17, 3) := by decide +kernel
theorem dX8_lay_29 : decode cX8_lay 29 = .ok (.iconst 0, 1) := by decide +kernel
theorem dX8_lay_30 : decode cX8_lay 30 = .ok (.iaload, 1) := by decide +kernel
theorem dX8_lay_31 : decode cX8_lay 31 = .ok (.ireturn, 1) := by decide +kernel
theorem dX8_isAct_0 : decode cX8_isAct 0 = .ok (.iload_n 1, 1) := by decide +kernel
theorem dX8_isAct_1 : decode cX8_isAct 1 = .ok (.i2l, 1) := by decide +kernel
theorem dX8_isAct_2 : decode cX8_isAct 2 = .ok (.lconst 0, 1) := by decide +kernel
theorem dX8_isAct_3 : decode cX8_isAct 3 = .ok (.aload_n 0, 1) := by decide +kernel
theorem dX8_isAct_4 : decode cX8_isAct 4 = .ok (.getfield 17, 3) := by decide +kernel
theorem dX8_isAct_7 : decode cX8_isAct 7 = .ok (.iconst 0, 1) := by decide +kernel
theorem dX8_isAct_8 : decode cX8_isAct 8 = .ok (.iaload, 1) := by decide +kernel
theorem dX8_isAct_9 : decode cX8_isAct 9 = .ok (.iconst 1, 1) := by decide +kernel
theorem dX8_isAct_10 : decode cX8_isAct 10 = .ok (.isub, 1) := by decide +kernel
theorem dX8_isAct_11 : decode cX8_isAct 11 = .ok (.i2l, 1) := by decide +kernel
theorem dX8_isAct_12 : decode cX8_isAct 12 = .ok (.invokestatic 53, 3) := by decide +kernel
theorem dX8_isAct_15 : decode cX8_isAct 15 = .ok (.ireturn, 1) := by decide +kernel
theorem dX8_isMinute_0 : decode cX8_isMinute 0 = .ok (.lload_n 0, 1) := by decide +kernel
theorem dX8_isMinute_1 : decode cX8_isMinute 1 = .ok (.lconst 0, 1) := by decide +kernel
theorem dX8_isMinute_2 : decode cX8_isMinute 2 = .ok (.ldc2_w 105, 3) := by decide +kernel
theorem dX8_isMinute_5 : decode cX8_isMinute 5 = .ok (.invokestatic 53, 3) := by decide +kernel
theorem dX8_isMinute_8 : decode cX8_isMinute 8 = .ok (.ireturn, 1) := by decide +kernel
theorem dX8_act_0 : decode cX8_act 0 = .ok (.aload_n 0, 1) := by decide +kernel
theorem dX8_act_1 : decode cX8_act 1 = .ok (.iload_n 1, 1) := by decide +kernel
theorem dX8_act_2 : decode cX8_act 2 = .ok (.invokevirtual 107, 3) := by decide +kernel
theorem dX8_act_5 : decode cX8_act 5 = .ok (.ifCond .eq 15, 3) := by decide +kernel
theorem dX8_act_8 : decode cX8_act 8 = .ok (.iload_n 2, 1) := by decide +kernel
theorem dX8_act_9 : decode cX8_act 9 = .ok (.i2l, 1) := by decide +kernel
theorem dX8_act_10 : decode cX8_act 10 = .ok (.lconst 0, 1) := by decide +kernel
theorem dX8_act_11 : decode cX8_act 11 = .ok (.ldc2_w 110, 3) := by decide +kernel
theorem dX8_act_14 : decode cX8_act 14 = .ok (.invokestatic 53, 3) := by decide +kernel
theorem dX8_act_17 : decode cX8_act 17 = .ok (.ifCond .ne 7, 3) := by decide +kernel
theorem dX8_act_20 : decode cX8_act 20 = .ok (.iconst (-1), 1) := by decide +kernel
theorem dX8_act_21 : decode cX8_act 21 = .ok (.goto 27, 3) := by decide +kernel
theorem dX8_act_24 : decode cX8_act 24 = .ok (.iload_n 2, 1) := by decide +kernel
theorem dX8_act_25 : decode cX8_act 25 = .ok (.iconst 1, 1) := by decide +kernel
theorem dX8_act_26 : decode cX8_act 26 = .ok (.if_icmp .ne 12, 3) := by decide +kernel
theorem dX8_act_29 : decode cX8_act 29 = .ok (.aload_n 0, 1) := by decide +kernel
theorem dX8_act_30 : decode cX8_act 30 = .ok (.getfield 23, 3) := by decide +kernel
theorem dX8_act_33 : decode cX8_act 33 = .ok (.iload_n 1, 1) := by decide +kernel
theorem dX8_act_34 : decode cX8_act 34 = .ok (.iaload, 1) := by decide +kernel
theorem dX8_act_35 : decode cX8_act 35 = .ok (.goto 13, 3) := by decide +kernel
theorem dX8_act_38 : decode cX8_act 38 = .ok (.aload_n 0, 1) := by decide +kernel
theorem dX8_act_39 : decode cX8_act 39 = .ok (.getfield 20, 3) := by decide +kernel
theorem dX8_act_42 : decode cX8_act 42 = .ok (.iconst 5, 1) := by decide +kernel
theorem dX8_act_43 : decode cX8_act 43 = .ok (.iload_n 1, 1) := by decide +kernel
theorem dX8_act_44 : decode cX8_act 44 = .ok (.imul, 1) := by decide +kernel
theorem dX8_act_45 : decode cX8_act 45 = .ok (.iload_n 2, 1) := by decide +kernel
theorem dX8_act_46 : decode cX8_act 46 = .ok (.iadd, 1) := by decide +kernel
theorem dX8_act_47 : decode cX8_act 47 = .ok (.iaload, 1) := by decide +kernel
theorem dX8_act_48 : decode cX8_act 48 = .ok (.ireturn, 1) := by decide +kernel
theorem dX8_year_0 : decode cX8_year 0 = .ok (.iload_n 1, 1) := by decide +kernel
theorem dX8_year_1 : decode cX8_year 1 = .ok (.i2l, 1) := by decide +kernel
theorem dX8_year_2 : decode cX8_year 2 = .ok (.lconst 0, 1) := by decide +kernel
theorem dX8_year_3 : decode cX8_year 3 = .ok (.ldc2_w 112, 3) := by decide +kernel
theorem dX8_year_6 : decode cX8_year 6 = .ok (.invokestatic 53, 3) := by decide +kernel
theorem dX8_year_9 : decode cX8_year 9 = .ok (.ifCond .ne 5, 3) := by decide +kernel
theorem dX8_year_12 : decode cX8_year 12 = .ok (.iconst (-1), 1) := by decide +kernel
theorem dX8_year_13 : decode cX8_year 13 = .ok (.ireturn, 1) := by decide +kernel
theorem dX8_year_14 : decode cX8_year 14 = .ok (.aload_n 0, 1) := by decide +kernel
theorem dX8_year_15 : decode cX8_year 15 = .ok (.getfield 26, 3) := by decide +kernel
theorem dX8_year_18 : decode cX8_year 18 = .ok (.iconst 1, 1) := by decide +kernel
theorem dX8_year_19 : decode cX8_year 19 = .ok (.laload, 1) := by decide +kernel
theorem dX8_year_20 : decode cX8_year 20 = .ok (.l2i, 1) := by decide +kernel
theorem dX8_year_21 : decode cX8_year 21 = .ok (.istore_n 2, 1) := by decide +kernel
theorem dX8_year_22 : decode cX8_year 22 = .ok (.aload_n 0, 1) := by decide +kernel
theorem dX8_year_23 : decode cX8_year 23 = .ok (.getfield 26, 3) := by decide +kernel
theorem dX8_year_26 : decode cX8_year 26 = .ok (.iconst 1, 1) := by decide +kernel
theorem dX8_year_27 : decode cX8_year 27 = .ok (.iload_n 1, 1) := by decide +kernel
theorem dX8_year_28 : decode cX8_year 28 = .ok (.i2l, 1) := by decide +kernel
theorem dX8_year_29 : decode cX8_year 29 = .ok (.lastore, 1) := by decide +kernel
theorem dX8_year_30 : decode cX8_year 30 = .ok (.iload_n 2, 1) := by decide +kernel
theorem dX8_year_31 : decode cX8_year 31 = .ok (.ireturn, 1) := by decide +kernel
theorem dX8_ruler_0 : decode cX8_ruler 0 = .ok (.aload_n 0, 1) := by decide +kernel
theorem dX8_ruler_1 : decode cX8_ruler 1 = .ok (.getfield 13, 3) := by decide +kernel
theorem dX8_ruler_4 : decode cX8_ruler 4 = .ok (.iconst 1, 1) := by decide +kernel
theorem dX8_ruler_5 : decode cX8_ruler 5 = .ok (.iaload, 1) := by decide +kernel
theorem dX8_ruler_6 : decode cX8_ruler 6 = .ok (.aload_n 0, 1) := by decide +kernel
theorem dX8_ruler_7 : decode cX8_ruler 7 = .ok (.getfield 13, 3) := by decide +kernel
theorem dX8_ruler_10 : decode cX8_ruler 10 = .ok (.iconst 3, 1) := by decide +kernel
theorem dX8_ruler_11 : decode cX8_ruler 11 = .ok (.iaload, 1) := by decide +kernel
theorem dX8_ruler_12 : decode cX8_ruler 12 = .ok (.imul, 1) := by decide +kernel
theorem dX8_ruler_13 : decode cX8_ruler 13 = .ok (.i2l, 1) := by decide +kernel
theorem dX8_ruler_14 : decode cX8_ruler 14 = .ok (.lstore_n 3, 1) := by decide +kernel
theorem dX8_ruler_15 : decode cX8_ruler 15 = .ok (.aload_n 0, 1) := by decide +kernel
theorem dX8_ruler_16 : decode cX8_ruler 16 = .ok (.getfield 13, 3) := by decide +kernel
theorem dX8_ruler_19 : decode cX8_ruler 19 = .ok (.iconst 0, 1) := by decide +kernel
theorem dX8_ruler_20 : decode cX8_ruler 20 = .ok (.iaload, 1) := by decide +kernel
theorem dX8_ruler_21 : decode cX8_ruler 21 = .ok (.aload_n 0, 1) := by decide +kernel
theorem dX8_ruler_22 : decode cX8_ruler 22 = .ok (.getfield 13, 3) := by decide +kernel
theorem dX8_ruler_25 : decode cX8_ruler 25 = .ok (.iconst 3, 1) := by decide +kernel
theorem dX8_ruler_26 : decode cX8_ruler 26 = .ok (.iaload, 1) := by decide +kernel
theorem dX8_ruler_27 : decode cX8_ruler 27 = .ok (.imul, 1) := by decide +kernel
theorem dX8_ruler_28 : decode cX8_ruler 28 = .ok (.i2l, 1) := by decide +kernel
theorem dX8_ruler_29 : decode cX8_ruler 29 = .ok (.lstore 5, 2) := by decide +kernel
theorem dX8_ruler_31 : decode cX8_ruler 31 = .ok (.aload_n 0, 1) := by decide +kernel
theorem dX8_ruler_32 : decode cX8_ruler 32 = .ok (.getfield 13, 3) := by decide +kernel
theorem dX8_ruler_35 : decode cX8_ruler 35 = .ok (.iconst 0, 1) := by decide +kernel
theorem dX8_ruler_36 : decode cX8_ruler 36 = .ok (.iaload, 1) := by decide +kernel
theorem dX8_ruler_37 : decode cX8_ruler 37 = .ok (.aload_n 0, 1) := by decide +kernel
theorem dX8_ruler_38 : decode cX8_ruler 38 = .ok (.getfield 13, 3) := by decide +kernel
theorem dX8_ruler_41 : decode cX8_ruler 41 = .ok (.iconst 2, 1) := by decide +kernel
theorem dX8_ruler_42 : decode cX8_ruler 42 = .ok (.iaload, 1) := by decide +kernel
theorem dX8_ruler_43 : decode cX8_ruler 43 = .ok (.imul, 1) := by decide +kernel
theorem dX8_ruler_44 : decode cX8_ruler 44 = .ok (.i2l, 1) := by decide +kernel
theorem dX8_ruler_45 : decode cX8_ruler 45 = .ok (.lstore 7, 2) := by decide +kernel
theorem dX8_ruler_47 : decode cX8_ruler 47 = .ok (.lload_n 1, 1) := by decide +kernel
theorem dX8_ruler_48 : decode cX8_ruler 48 = .ok (.aload_n 0, 1) := by decide +kernel
theorem dX8_ruler_49 : decode cX8_ruler 49 = .ok (.getfield 13, 3) := by decide +kernel
theorem dX8_ruler_52 : decode cX8_ruler 52 = .ok (.iconst 4, 1) := by decide +kernel
theorem dX8_ruler_53 : decode cX8_ruler 53 = .ok (.iaload, 1) := by decide +kernel
theorem dX8_ruler_54 : decode cX8_ruler 54 = .ok (.i2l, 1) := by decide +kernel
theorem dX8_ruler_55 : decode cX8_ruler 55 = .ok (.lsub, 1) := by decide +kernel
theorem dX8_ruler_56 : decode cX8_ruler 56 = .ok (.aload_n 0, 1) := by decide +kernel
theorem dX8_ruler_57 : decode cX8_ruler 57 = .ok (.getfield 13, 3) := by decide +kernel
theorem dX8_ruler_60 : decode cX8_ruler 60 = .ok (.iconst 5, 1) := by decide +kernel
theorem dX8_ruler_61 : decode cX8_ruler 61 = .ok (.iaload, 1) := by decide +kernel
theorem dX8_ruler_62 : decode cX8_ruler 62 = .ok (.i2l, 1) := by decide +kernel
theorem dX8_ruler_63 : decode cX8_ruler 63 = .ok (.aload_n 0, 1) := by decide +kernel
theorem dX8_ruler_64 : decode cX8_ruler 64 = .ok (.getfield 26, 3) := by decide +kernel
theorem dX8_ruler_67 : decode cX8_ruler 67 = .ok (.iconst 1, 1) := by decide +kernel
theorem dX8_ruler_68 : decode cX8_ruler 68 = .ok (.laload, 1) := by decide +kernel
theorem dX8_ruler_69 : decode cX8_ruler 69 = .ok (.lmul, 1) := by decide +kernel
theorem dX8_ruler_70 : decode cX8_ruler 70 = .ok (.lsub, 1) := by decide +kernel
theorem dX8_ruler_71 : decode cX8_ruler 71 = .ok (.lload_n 3, 1) := by decide +kernel
theorem dX8_ruler_72 : decode cX8_ruler 72 = .ok (.lmul, 1) := by decide +kernel
theorem dX8_ruler_73 : decode cX8_ruler 73 = .ok (.lload 5, 2) := by decide +kernel
theorem dX8_ruler_75 : decode cX8_ruler 75 = .ok (.lrem, 1) := by decide +kernel
theorem dX8_ruler_76 : decode cX8_ruler 76 = .ok (.lstore 9, 2) := by decide +kernel
theorem dX8_ruler_78 : decode cX8_ruler 78 = .ok (.lload 9, 2) := by decide +kernel
theorem dX8_ruler_80 : decode cX8_ruler 80 = .ok (.lconst 0, 1) := by decide +kernel
theorem dX8_ruler_81 : decode cX8_ruler 81 = .ok (.lcmp, 1) := by decide +kernel
theorem dX8_ruler_82 : decode cX8_ruler 82 = .ok (.ifCond .ge 11, 3) := by decide +kernel
theorem dX8_ruler_85 : decode cX8_ruler 85 = .ok (.lload 9, 2) := by decide +kernel
theorem dX8_ruler_87 : decode cX8_ruler 87 = .ok (.lload 5, 2) := by decide +kernel
theorem dX8_ruler_89 : decode cX8_ruler 89 = .ok (.ladd, 1) := by decide +kernel
theorem dX8_ruler_90 : decode cX8_ruler 90 = .ok (.goto 5, 3) := by decide +kernel
theorem dX8_ruler_93 : decode cX8_ruler 93 = .ok (.lload 9, 2) := by decide +kernel
theorem dX8_ruler_95 : decode cX8_ruler 95 = .ok (.lstore 9, 2) := by decide +kernel
theorem dX8_ruler_97 : decode cX8_ruler 97 = .ok (.lload 9, 2) := by decide +kernel
theorem dX8_ruler_99 : decode cX8_ruler 99 = .ok (.lconst 0, 1) := by decide +kernel
theorem dX8_ruler_100 : decode cX8_ruler 100 = .ok (.lcmp, 1) := by decide +kernel
theorem dX8_ruler_101 : decode cX8_ruler 101 = .ok (.ifCond .eq 31, 3) := by decide +kernel
theorem dX8_ruler_104 : decode cX8_ruler 104 = .ok (.lload 5, 2) := by decide +kernel
theorem dX8_ruler_106 : decode cX8_ruler 106 = .ok (.lload 9, 2) := by decide +kernel
theorem dX8_ruler_108 : decode cX8_ruler 108 = .ok (.lsub, 1) := by decide +kernel
theorem dX8_ruler_109 : decode cX8_ruler 109 = .ok (.lload_n 3, 1) := by decide +kernel
theorem dX8_ruler_110 : decode cX8_ruler 110 = .ok (.lcmp, 1) := by decide +kernel
theorem dX8_ruler_111 : decode cX8_ruler 111 = .ok (.ifCond .lt 21, 3) := by decide +kernel
theorem dX8_ruler_114 : decode cX8_ruler 114 = .ok (.lload 9, 2) := by decide +kernel
theorem dX8_ruler_116 : decode cX8_ruler 116 = .ok (.lload 7, 2) := by decide +kernel
theorem dX8_ruler_118 : decode cX8_ruler 118 = .ok (.lcmp, 1) := by decide +kernel
theorem dX8_ruler_119 : decode cX8_ruler 119 = .ok (.ifCond .gt 15, 3) := by decide +kernel
theorem dX8_ruler_122 : decode cX8_ruler 122 = .ok (.lload 7, 2) := by decide +kernel
theorem dX8_ruler_124 : decode cX8_ruler 124 = .ok (.lload 9, 2) := by decide +kernel
theorem dX8_ruler_126 : decode cX8_ruler 126 = .ok (.lsub, 1) := by decide +kernel
theorem dX8_ruler_127 : decode cX8_ruler 127 = .ok (.lload_n 3, 1) := by decide +kernel
theorem dX8_ruler_128 : decode cX8_ruler 128 = .ok (.lcmp, 1) := by decide +kernel
theorem dX8_ruler_129 : decode cX8_ruler 129 = .ok (.ifCond .ge 5, 3) := by decide +kernel
theorem dX8_ruler_132 : decode cX8_ruler 132 = .ok (.iconst 2, 1) := by decide +kernel
theorem dX8_ruler_133 : decode cX8_ruler 133 = .ok (.ireturn, 1) := by decide +kernel
theorem dX8_ruler_134 : decode cX8_ruler 134 = .ok (.lload 9, 2) := by decide +kernel
theorem dX8_ruler_136 : decode cX8_ruler 136 = .ok (.lload 7, 2) := by decide +kernel
theorem dX8_ruler_138 : decode cX8_ruler 138 = .ok (.lcmp, 1) := by decide +kernel
theorem dX8_ruler_139 : decode cX8_ruler 139 = .ok (.ifCond .ge 7, 3) := by decide +kernel
theorem dX8_ruler_142 : decode cX8_ruler 142 = .ok (.iconst 0, 1) := by decide +kernel
theorem dX8_ruler_143 : decode cX8_ruler 143 = .ok (.goto 4, 3) := by decide +kernel
theorem dX8_ruler_146 : decode cX8_ruler 146 = .ok (.iconst 1, 1) := by decide +kernel
theorem dX8_ruler_147 : decode cX8_ruler 147 = .ok (.ireturn, 1) := by decide +kernel
theorem dX8_rules_0 : decode cX8_rules 0 = .ok (.lload_n 1, 1) := by decide +kernel
theorem dX8_rules_1 : decode cX8_rules 1 = .ok (.invokestatic 114, 3) := by decide +kernel
theorem dX8_rules_4 : decode cX8_rules 4 = .ok (.ifCond .eq 11, 3) := by decide +kernel
theorem dX8_rules_7 : decode cX8_rules 7 = .ok (.aload_n 0, 1) := by decide +kernel
theorem dX8_rules_8 : decode cX8_rules 8 = .ok (.lload_n 1, 1) := by decide +kernel
theorem dX8_rules_9 : decode cX8_rules 9 = .ok (.invokevirtual 118, 3) := by decide +kernel
theorem dX8_rules_12 : decode cX8_rules 12 = .ok (.goto 4, 3) := by decide +kernel
theorem dX8_rules_15 : decode cX8_rules 15 = .ok (.iconst (-1), 1) := by decide +kernel
theorem dX8_rules_16 : decode cX8_rules 16 = .ok (.ireturn, 1) := by decide +kernel
theorem dX8_counted_0 : decode cX8_counted 0 = .ok (.iconst 0, 1) := by decide +kernel
theorem dX8_counted_1 : decode cX8_counted 1 = .ok (.istore 5, 2) := by decide +kernel
theorem dX8_counted_3 : decode cX8_counted 3 = .ok (.iconst 0, 1) := by decide +kernel
theorem dX8_counted_4 : decode cX8_counted 4 = .ok (.istore 6, 2) := by decide +kernel
theorem dX8_counted_6 : decode cX8_counted 6 = .ok (.iload 6, 2) := by decide +kernel
theorem dX8_counted_8 : decode cX8_counted 8 = .ok (.iload_n 3, 1) := by decide +kernel
theorem dX8_counted_9 : decode cX8_counted 9 = .ok (.if_icmp .ge 33, 3) := by decide +kernel
theorem dX8_counted_12 : decode cX8_counted 12 = .ok (.iload 5, 2) := by decide +kernel
theorem dX8_counted_14 : decode cX8_counted 14 = .ok (.aload_n 0, 1) := by decide +kernel
theorem dX8_counted_15 : decode cX8_counted 15 = .ok (.lload_n 1, 1) := by decide +kernel
theorem dX8_counted_16 : decode cX8_counted 16 = .ok (.iload 6, 2) := by decide +kernel
theorem dX8_counted_18 : decode cX8_counted 18 = .ok (.i2l, 1) := by decide +kernel
theorem dX8_counted_19 : decode cX8_counted 19 = .ok (.ladd, 1) := by decide +kernel
theorem dX8_counted_20 : decode cX8_counted 20 = .ok (.invokevirtual 118, 3) := by decide +kernel
theorem dX8_counted_23 : decode cX8_counted 23 = .ok (.iload 4, 2) := by decide +kernel
theorem dX8_counted_25 : decode cX8_counted 25 = .ok (.if_icmp .ne 7, 3) := by decide +kernel
theorem dX8_counted_28 : decode cX8_counted 28 = .ok (.iconst 1, 1) := by decide +kernel
theorem dX8_counted_29 : decode cX8_counted 29 = .ok (.goto 4, 3) := by decide +kernel
theorem dX8_counted_32 : decode cX8_counted 32 = .ok (.iconst 0, 1) := by decide +kernel
theorem dX8_counted_33 : decode cX8_counted 33 = .ok (.iadd, 1) := by decide +kernel
theorem dX8_counted_34 : decode cX8_counted 34 = .ok (.istore 5, 2) := by decide +kernel
theorem dX8_counted_36 : decode cX8_counted 36 = .ok (.iinc 6 1, 3) := by decide +kernel
theorem dX8_counted_39 : decode cX8_counted 39 = .ok (.goto (-33), 3) := by decide +kernel
theorem dX8_counted_42 : decode cX8_counted 42 = .ok (.iload 5, 2) := by decide +kernel
theorem dX8_counted_44 : decode cX8_counted 44 = .ok (.ireturn, 1) := by decide +kernel
theorem dX8_minutes_0 : decode cX8_minutes 0 = .ok (.lload_n 1, 1) := by decide +kernel
theorem dX8_minutes_1 : decode cX8_minutes 1 = .ok (.invokestatic 114, 3) := by decide +kernel
theorem dX8_minutes_4 : decode cX8_minutes 4 = .ok (.ifCond .eq 39, 3) := by decide +kernel
theorem dX8_minutes_7 : decode cX8_minutes 7 = .ok (.iload_n 3, 1) := by decide +kernel
theorem dX8_minutes_8 : decode cX8_minutes 8 = .ok (.i2l, 1) := by decide +kernel
theorem dX8_minutes_9 : decode cX8_minutes 9 = .ok (.lconst 0, 1) := by decide +kernel
theorem dX8_minutes_10 : decode cX8_minutes 10 = .ok (.ldc2_w 122, 3) := by decide +kernel
theorem dX8_minutes_13 : decode cX8_minutes 13 = .ok (.invokestatic 53, 3) := by decide +kernel
theorem dX8_minutes_16 : decode cX8_minutes 16 = .ok (.ifCond .eq 27, 3) := by decide +kernel
theorem dX8_minutes_19 : decode cX8_minutes 19 = .ok (.iload 4, 2) := by decide +kernel
theorem dX8_minutes_21 : decode cX8_minutes 21 = .ok (.i2l, 1) := by decide +kernel
theorem dX8_minutes_22 : decode cX8_minutes 22 = .ok (.lconst 0, 1) := by decide +kernel
theorem dX8_minutes_23 : decode cX8_minutes 23 = .ok (.ldc2_w 124, 3) := by decide +kernel
theorem dX8_minutes_26 : decode cX8_minutes 26 = .ok (.invokestatic 53, 3) := by decide +kernel
theorem dX8_minutes_29 : decode cX8_minutes 29 = .ok (.ifCond .eq 14, 3) := by decide +kernel
theorem dX8_minutes_32 : decode cX8_minutes 32 = .ok (.aload_n 0, 1) := by decide +kernel
theorem dX8_minutes_33 : decode cX8_minutes 33 = .ok (.lload_n 1, 1) := by decide +kernel
theorem dX8_minutes_34 : decode cX8_minutes 34 = .ok (.iload_n 3, 1) := by decide +kernel
theorem dX8_minutes_35 : decode cX8_minutes 35 = .ok (.iload 4, 2) := by decide +kernel
theorem dX8_minutes_37 : decode cX8_minutes 37 = .ok (.invokevirtual 126, 3) := by decide +kernel
theorem dX8_minutes_40 : decode cX8_minutes 40 = .ok (.goto 4, 3) := by decide +kernel
theorem dX8_minutes_43 : decode cX8_minutes 43 = .ok (.iconst (-1), 1) := by decide +kernel
theorem dX8_minutes_44 : decode cX8_minutes 44 = .ok (.ireturn, 1) := by decide +kernel
theorem dX8_next_0 : decode cX8_next 0 = .ok (.lload_n 1, 1) := by decide +kernel
theorem dX8_next_1 : decode cX8_next 1 = .ok (.invokestatic 114, 3) := by decide +kernel
theorem dX8_next_4 : decode cX8_next 4 = .ok (.ifCond .eq 15, 3) := by decide +kernel
theorem dX8_next_7 : decode cX8_next 7 = .ok (.iload_n 3, 1) := by decide +kernel
theorem dX8_next_8 : decode cX8_next 8 = .ok (.i2l, 1) := by decide +kernel
theorem dX8_next_9 : decode cX8_next 9 = .ok (.lconst 0, 1) := by decide +kernel
theorem dX8_next_10 : decode cX8_next 10 = .ok (.ldc2_w 124, 3) := by decide +kernel
theorem dX8_next_13 : decode cX8_next 13 = .ok (.invokestatic 53, 3) := by decide +kernel
theorem dX8_next_16 : decode cX8_next 16 = .ok (.ifCond .ne 7, 3) := by decide +kernel
theorem dX8_next_19 : decode cX8_next 19 = .ok (.ldc2_w 130, 3) := by decide +kernel
theorem dX8_next_22 : decode cX8_next 22 = .ok (.lreturn, 1) := by decide +kernel
theorem dX8_next_23 : decode cX8_next 23 = .ok (.lload_n 1, 1) := by decide +kernel
theorem dX8_next_24 : decode cX8_next 24 = .ok (.lstore 4, 2) := by decide +kernel
theorem dX8_next_26 : decode cX8_next 26 = .ok (.lload 4, 2) := by decide +kernel
theorem dX8_next_28 : decode cX8_next 28 = .ok (.lload_n 1, 1) := by decide +kernel
theorem dX8_next_29 : decode cX8_next 29 = .ok (.ldc2_w 132, 3) := by decide +kernel
theorem dX8_next_32 : decode cX8_next 32 = .ok (.ladd, 1) := by decide +kernel
theorem dX8_next_33 : decode cX8_next 33 = .ok (.lcmp, 1) := by decide +kernel
theorem dX8_next_34 : decode cX8_next 34 = .ok (.ifCond .gt 25, 3) := by decide +kernel
theorem dX8_next_37 : decode cX8_next 37 = .ok (.aload_n 0, 1) := by decide +kernel
theorem dX8_next_38 : decode cX8_next 38 = .ok (.lload 4, 2) := by decide +kernel
theorem dX8_next_40 : decode cX8_next 40 = .ok (.invokevirtual 118, 3) := by decide +kernel
theorem dX8_next_43 : decode cX8_next 43 = .ok (.iload_n 3, 1) := by decide +kernel
theorem dX8_next_44 : decode cX8_next 44 = .ok (.if_icmp .ne 6, 3) := by decide +kernel
theorem dX8_next_47 : decode cX8_next 47 = .ok (.lload 4, 2) := by decide +kernel
theorem dX8_next_49 : decode cX8_next 49 = .ok (.lreturn, 1) := by decide +kernel
theorem dX8_next_50 : decode cX8_next 50 = .ok (.lload 4, 2) := by decide +kernel
theorem dX8_next_52 : decode cX8_next 52 = .ok (.lconst 1, 1) := by decide +kernel
theorem dX8_next_53 : decode cX8_next 53 = .ok (.ladd, 1) := by decide +kernel
theorem dX8_next_54 : decode cX8_next 54 = .ok (.lstore 4, 2) := by decide +kernel
theorem dX8_next_56 : decode cX8_next 56 = .ok (.goto (-30), 3) := by decide +kernel
theorem dX8_next_59 : decode cX8_next 59 = .ok (.ldc2_w 134, 3) := by decide +kernel
theorem dX8_next_62 : decode cX8_next 62 = .ok (.lreturn, 1) := by decide +kernel
theorem dX8_isKings_0 : decode cX8_isKings 0 = .ok (.aload_n 0, 1) := by decide +kernel
theorem dX8_isKings_1 : decode cX8_isKings 1 = .ok (.lload_n 2, 1) := by decide +kernel
theorem dX8_isKings_2 : decode cX8_isKings 2 = .ok (.invokevirtual 118, 3) := by decide +kernel
theorem dX8_isKings_5 : decode cX8_isKings 5 = .ok (.istore 4, 2) := by decide +kernel
theorem dX8_isKings_7 : decode cX8_isKings 7 = .ok (.iload 4, 2) := by decide +kernel
theorem dX8_isKings_9 : decode cX8_isKings 9 = .ok (.iconst 2, 1) := by decide +kernel
theorem dX8_isKings_10 : decode cX8_isKings 10 = .ok (.if_icmp .ge 22, 3) := by decide +kernel
theorem dX8_isKings_13 : decode cX8_isKings 13 = .ok (.aload_n 0, 1) := by decide +kernel
theorem dX8_isKings_14 : decode cX8_isKings 14 = .ok (.getfield 23, 3) := by decide +kernel
theorem dX8_isKings_17 : decode cX8_isKings 17 = .ok (.iload_n 1, 1) := by decide +kernel
theorem dX8_isKings_18 : decode cX8_isKings 18 = .ok (.iaload, 1) := by decide +kernel
theorem dX8_isKings_19 : decode cX8_isKings 19 = .ok (.iload 4, 2) := by decide +kernel
theorem dX8_isKings_21 : decode cX8_isKings 21 = .ok (.ishr, 1) := by decide +kernel
theorem dX8_isKings_22 : decode cX8_isKings 22 = .ok (.iconst 1, 1) := by decide +kernel
theorem dX8_isKings_23 : decode cX8_isKings 23 = .ok (.iand, 1) := by decide +kernel
theorem dX8_isKings_24 : decode cX8_isKings 24 = .ok (.iconst 1, 1) := by decide +kernel
theorem dX8_isKings_25 : decode cX8_isKings 25 = .ok (.if_icmp .ne 7, 3) := by decide +kernel
theorem dX8_isKings_28 : decode cX8_isKings 28 = .ok (.iconst 1, 1) := by decide +kernel
theorem dX8_isKings_29 : decode cX8_isKings 29 = .ok (.goto 4, 3) := by decide +kernel
theorem dX8_isKings_32 : decode cX8_isKings 32 = .ok (.iconst 0, 1) := by decide +kernel
theorem dX8_isKings_33 : decode cX8_isKings 33 = .ok (.ireturn, 1) := by decide +kernel
theorem dX8_isLawful_0 : decode cX8_isLawful 0 = .ok (.aload_n 0, 1) := by decide +kernel
theorem dX8_isLawful_1 : decode cX8_isLawful 1 = .ok (.getfield 20, 3) := by decide +kernel
theorem dX8_isLawful_4 : decode cX8_isLawful 4 = .ok (.iconst 5, 1) := by decide +kernel
theorem dX8_isLawful_5 : decode cX8_isLawful 5 = .ok (.iload_n 1, 1) := by decide +kernel
theorem dX8_isLawful_6 : decode cX8_isLawful 6 = .ok (.imul, 1) := by decide +kernel
theorem dX8_isLawful_7 : decode cX8_isLawful 7 = .ok (.iconst 0, 1) := by decide +kernel
theorem dX8_isLawful_8 : decode cX8_isLawful 8 = .ok (.iadd, 1) := by decide +kernel
theorem dX8_isLawful_9 : decode cX8_isLawful 9 = .ok (.iaload, 1) := by decide +kernel
theorem dX8_isLawful_10 : decode cX8_isLawful 10 = .ok (.istore 4, 2) := by decide +kernel
theorem dX8_isLawful_12 : decode cX8_isLawful 12 = .ok (.iload 4, 2) := by decide +kernel
theorem dX8_isLawful_14 : decode cX8_isLawful 14 = .ok (.iconst 3, 1) := by decide +kernel
theorem dX8_isLawful_15 : decode cX8_isLawful 15 = .ok (.if_icmp .ne 28, 3) := by decide +kernel
theorem dX8_isLawful_18 : decode cX8_isLawful 18 = .ok (.aload_n 0, 1) := by decide +kernel
theorem dX8_isLawful_19 : decode cX8_isLawful 19 = .ok (.getfield 23, 3) := by decide +kernel
theorem dX8_isLawful_22 : decode cX8_isLawful 22 = .ok (.iload_n 1, 1) := by decide +kernel
theorem dX8_isLawful_23 : decode cX8_isLawful 23 = .ok (.iaload, 1) := by decide +kernel
theorem dX8_isLawful_24 : decode cX8_isLawful 24 = .ok (.iconst 3, 1) := by decide +kernel
theorem dX8_isLawful_25 : decode cX8_isLawful 25 = .ok (.if_icmp .ne 16, 3) := by decide +kernel
theorem dX8_isLawful_28 : decode cX8_isLawful 28 = .ok (.aload_n 0, 1) := by decide +kernel
theorem dX8_isLawful_29 : decode cX8_isLawful 29 = .ok (.lload_n 2, 1) := by decide +kernel
theorem dX8_isLawful_30 : decode cX8_isLawful 30 = .ok (.invokevirtual 118, 3) := by decide +kernel
theorem dX8_isLawful_33 : decode cX8_isLawful 33 = .ok (.iconst 2, 1) := by decide +kernel
theorem dX8_isLawful_34 : decode cX8_isLawful 34 = .ok (.if_icmp .ge 7, 3) := by decide +kernel
theorem dX8_isLawful_37 : decode cX8_isLawful 37 = .ok (.iconst 1, 1) := by decide +kernel
theorem dX8_isLawful_38 : decode cX8_isLawful 38 = .ok (.goto 4, 3) := by decide +kernel
theorem dX8_isLawful_41 : decode cX8_isLawful 41 = .ok (.iconst 0, 1) := by decide +kernel
theorem dX8_isLawful_42 : decode cX8_isLawful 42 = .ok (.ireturn, 1) := by decide +kernel
theorem dX8_isLawful_43 : decode cX8_isLawful 43 = .ok (.iload 4, 2) := by decide +kernel
theorem dX8_isLawful_45 : decode cX8_isLawful 45 = .ok (.iconst 4, 1) := by decide +kernel
theorem dX8_isLawful_46 : decode cX8_isLawful 46 = .ok (.if_icmp .ne 27, 3) := by decide +kernel
theorem dX8_isLawful_49 : decode cX8_isLawful 49 = .ok (.aload_n 0, 1) := by decide +kernel
theorem dX8_isLawful_50 : decode cX8_isLawful 50 = .ok (.getfield 23, 3) := by decide +kernel
theorem dX8_isLawful_53 : decode cX8_isLawful 53 = .ok (.iload_n 1, 1) := by decide +kernel
theorem dX8_isLawful_54 : decode cX8_isLawful 54 = .ok (.iaload, 1) := by decide +kernel
theorem dX8_isLawful_55 : decode cX8_isLawful 55 = .ok (.ifCond .le 16, 3) := by decide +kernel
theorem dX8_isLawful_58 : decode cX8_isLawful 58 = .ok (.aload_n 0, 1) := by decide +kernel
theorem dX8_isLawful_59 : decode cX8_isLawful 59 = .ok (.lload_n 2, 1) := by decide +kernel
theorem dX8_isLawful_60 : decode cX8_isLawful 60 = .ok (.invokevirtual 118, 3) := by decide +kernel
theorem dX8_isLawful_63 : decode cX8_isLawful 63 = .ok (.iconst 2, 1) := by decide +kernel
theorem dX8_isLawful_64 : decode cX8_isLawful 64 = .ok (.if_icmp .ne 7, 3) := by decide +kernel
theorem dX8_isLawful_67 : decode cX8_isLawful 67 = .ok (.iconst 1, 1) := by decide +kernel
theorem dX8_isLawful_68 : decode cX8_isLawful 68 = .ok (.goto 4, 3) := by decide +kernel
theorem dX8_isLawful_71 : decode cX8_isLawful 71 = .ok (.iconst 0, 1) := by decide +kernel
theorem dX8_isLawful_72 : decode cX8_isLawful 72 = .ok (.ireturn, 1) := by decide +kernel
theorem dX8_isLawful_73 : decode cX8_isLawful 73 = .ok (.iconst 1, 1) := by decide +kernel
theorem dX8_isLawful_74 : decode cX8_isLawful 74 = .ok (.istore 5, 2) := by decide +kernel
theorem dX8_isLawful_76 : decode cX8_isLawful 76 = .ok (.iconst 0, 1) := by decide +kernel
theorem dX8_isLawful_77 : decode cX8_isLawful 77 = .ok (.istore 6, 2) := by decide +kernel
theorem dX8_isLawful_79 : decode cX8_isLawful 79 = .ok (.iload 6, 2) := by decide +kernel
theorem dX8_isLawful_81 : decode cX8_isLawful 81 = .ok (.iload 4, 2) := by decide +kernel
theorem dX8_isLawful_83 : decode cX8_isLawful 83 = .ok (.iconst 1, 1) := by decide +kernel
theorem dX8_isLawful_84 : decode cX8_isLawful 84 = .ok (.if_icmp .ne 16, 3) := by decide +kernel
theorem dX8_isLawful_87 : decode cX8_isLawful 87 = .ok (.aload_n 0, 1) := by decide +kernel
theorem dX8_isLawful_88 : decode cX8_isLawful 88 = .ok (.getfield 20, 3) := by decide +kernel
theorem dX8_isLawful_91 : decode cX8_isLawful 91 = .ok (.iconst 5, 1) := by decide +kernel
theorem dX8_isLawful_92 : decode cX8_isLawful 92 = .ok (.iload_n 1, 1) := by decide +kernel
theorem dX8_isLawful_93 : decode cX8_isLawful 93 = .ok (.imul, 1) := by decide +kernel
theorem dX8_isLawful_94 : decode cX8_isLawful 94 = .ok (.iconst 2, 1) := by decide +kernel
theorem dX8_isLawful_95 : decode cX8_isLawful 95 = .ok (.iadd, 1) := by decide +kernel
theorem dX8_isLawful_96 : decode cX8_isLawful 96 = .ok (.iaload, 1) := by decide +kernel
theorem dX8_isLawful_97 : decode cX8_isLawful 97 = .ok (.goto 4, 3) := by decide +kernel
theorem dX8_isLawful_100 : decode cX8_isLawful 100 = .ok (.iconst 1, 1) := by decide +kernel
theorem dX8_isLawful_101 : decode cX8_isLawful 101 = .ok (.if_icmp .ge 26, 3) := by decide +kernel
theorem dX8_isLawful_104 : decode cX8_isLawful 104 = .ok (.iload 5, 2) := by decide +kernel
theorem dX8_isLawful_106 : decode cX8_isLawful 106 = .ok (.ifCond .eq 21, 3) := by decide +kernel
theorem dX8_isLawful_109 : decode cX8_isLawful 109 = .ok (.aload_n 0, 1) := by decide +kernel
theorem dX8_isLawful_110 : decode cX8_isLawful 110 = .ok (.iload_n 1, 1) := by decide +kernel
theorem dX8_isLawful_111 : decode cX8_isLawful 111 = .ok (.lload_n 2, 1) := by decide +kernel
theorem dX8_isLawful_112 : decode cX8_isLawful 112 = .ok (.iload 6, 2) := by decide +kernel
theorem dX8_isLawful_114 : decode cX8_isLawful 114 = .ok (.i2l, 1) := by decide +kernel
theorem dX8_isLawful_115 : decode cX8_isLawful 115 = .ok (.ladd, 1) := by decide +kernel
theorem dX8_isLawful_116 : decode cX8_isLawful 116 = .ok (.invokevirtual 136, 3) := by decide +kernel
theorem dX8_isLawful_119 : decode cX8_isLawful 119 = .ok (.istore 5, 2) := by decide +kernel
theorem dX8_isLawful_121 : decode cX8_isLawful 121 = .ok (.iinc 6 1, 3) := by decide +kernel
theorem dX8_isLawful_124 : decode cX8_isLawful 124 = .ok (.goto (-45), 3) := by decide +kernel
theorem dX8_isLawful_127 : decode cX8_isLawful 127 = .ok (.iload 5, 2) := by decide +kernel
theorem dX8_isLawful_129 : decode cX8_isLawful 129 = .ok (.ireturn, 1) := by decide +kernel
theorem dX8_lawful_0 : decode cX8_lawful 0 = .ok (.aload_n 0, 1) := by decide +kernel
theorem dX8_lawful_1 : decode cX8_lawful 1 = .ok (.iload_n 1, 1) := by decide +kernel
theorem dX8_lawful_2 : decode cX8_lawful 2 = .ok (.invokevirtual 107, 3) := by decide +kernel
theorem dX8_lawful_5 : decode cX8_lawful 5 = .ok (.ifCond .eq 10, 3) := by decide +kernel
theorem dX8_lawful_8 : decode cX8_lawful 8 = .ok (.lload_n 2, 1) := by decide +kernel
theorem dX8_lawful_9 : decode cX8_lawful 9 = .ok (.invokestatic 114, 3) := by decide +kernel
theorem dX8_lawful_12 : decode cX8_lawful 12 = .ok (.ifCond .ne 7, 3) := by decide +kernel
theorem dX8_lawful_15 : decode cX8_lawful 15 = .ok (.iconst (-1), 1) := by decide +kernel
theorem dX8_lawful_16 : decode cX8_lawful 16 = .ok (.goto 17, 3) := by decide +kernel
theorem dX8_lawful_19 : decode cX8_lawful 19 = .ok (.aload_n 0, 1) := by decide +kernel
theorem dX8_lawful_20 : decode cX8_lawful 20 = .ok (.iload_n 1, 1) := by decide +kernel
theorem dX8_lawful_21 : decode cX8_lawful 21 = .ok (.lload_n 2, 1) := by decide +kernel
theorem dX8_lawful_22 : decode cX8_lawful 22 = .ok (.invokevirtual 140, 3) := by decide +kernel
theorem dX8_lawful_25 : decode cX8_lawful 25 = .ok (.ifCond .eq 7, 3) := by decide +kernel
theorem dX8_lawful_28 : decode cX8_lawful 28 = .ok (.iconst 1, 1) := by decide +kernel
theorem dX8_lawful_29 : decode cX8_lawful 29 = .ok (.goto 4, 3) := by decide +kernel
theorem dX8_lawful_32 : decode cX8_lawful 32 = .ok (.iconst 0, 1) := by decide +kernel
theorem dX8_lawful_33 : decode cX8_lawful 33 = .ok (.ireturn, 1) := by decide +kernel
theorem dX8_lasts_0 : decode cX8_lasts 0 = .ok (.aload_n 0, 1) := by decide +kernel
theorem dX8_lasts_1 : decode cX8_lasts 1 = .ok (.getfield 20, 3) := by decide +kernel
theorem dX8_lasts_4 : decode cX8_lasts 4 = .ok (.iconst 5, 1) := by decide +kernel
theorem dX8_lasts_5 : decode cX8_lasts 5 = .ok (.iload_n 1, 1) := by decide +kernel
theorem dX8_lasts_6 : decode cX8_lasts 6 = .ok (.imul, 1) := by decide +kernel
theorem dX8_lasts_7 : decode cX8_lasts 7 = .ok (.iconst 0, 1) := by decide +kernel
theorem dX8_lasts_8 : decode cX8_lasts 8 = .ok (.iadd, 1) := by decide +kernel
theorem dX8_lasts_9 : decode cX8_lasts 9 = .ok (.iaload, 1) := by decide +kernel
theorem dX8_lasts_10 : decode cX8_lasts 10 = .ok (.istore_n 2, 1) := by decide +kernel
theorem dX8_lasts_11 : decode cX8_lasts 11 = .ok (.iload_n 2, 1) := by decide +kernel
theorem dX8_lasts_12 : decode cX8_lasts 12 = .ok (.iconst 1, 1) := by decide +kernel
theorem dX8_lasts_13 : decode cX8_lasts 13 = .ok (.if_icmp .eq 8, 3) := by decide +kernel
theorem dX8_lasts_16 : decode cX8_lasts 16 = .ok (.iload_n 2, 1) := by decide +kernel
theorem dX8_lasts_17 : decode cX8_lasts 17 = .ok (.iconst 2, 1) := by decide +kernel
theorem dX8_lasts_18 : decode cX8_lasts 18 = .ok (.if_icmp .ne 16, 3) := by decide +kernel
theorem dX8_lasts_21 : decode cX8_lasts 21 = .ok (.aload_n 0, 1) := by decide +kernel
theorem dX8_lasts_22 : decode cX8_lasts 22 = .ok (.getfield 20, 3) := by decide +kernel
theorem dX8_lasts_25 : decode cX8_lasts 25 = .ok (.iconst 5, 1) := by decide +kernel
theorem dX8_lasts_26 : decode cX8_lasts 26 = .ok (.iload_n 1, 1) := by decide +kernel
theorem dX8_lasts_27 : decode cX8_lasts 27 = .ok (.imul, 1) := by decide +kernel
theorem dX8_lasts_28 : decode cX8_lasts 28 = .ok (.iconst 2, 1) := by decide +kernel
theorem dX8_lasts_29 : decode cX8_lasts 29 = .ok (.iadd, 1) := by decide +kernel
theorem dX8_lasts_30 : decode cX8_lasts 30 = .ok (.iaload, 1) := by decide +kernel
theorem dX8_lasts_31 : decode cX8_lasts 31 = .ok (.goto 4, 3) := by decide +kernel
theorem dX8_lasts_34 : decode cX8_lasts 34 = .ok (.iconst 1, 1) := by decide +kernel
theorem dX8_lasts_35 : decode cX8_lasts 35 = .ok (.ireturn, 1) := by decide +kernel
theorem dX8_tell_0 : decode cX8_tell 0 = .ok (.aload_n 0, 1) := by decide +kernel
theorem dX8_tell_1 : decode cX8_tell 1 = .ok (.iload_n 1, 1) := by decide +kernel
theorem dX8_tell_2 : decode cX8_tell 2 = .ok (.invokevirtual 107, 3) := by decide +kernel
theorem dX8_tell_5 : decode cX8_tell 5 = .ok (.ifCond .ne 5, 3) := by decide +kernel
theorem dX8_tell_8 : decode cX8_tell 8 = .ok (.iconst (-1), 1) := by decide +kernel
theorem dX8_tell_9 : decode cX8_tell 9 = .ok (.ireturn, 1) := by decide +kernel
theorem dX8_tell_10 : decode cX8_tell 10 = .ok (.aload_n 0, 1) := by decide +kernel
theorem dX8_tell_11 : decode cX8_tell 11 = .ok (.getfield 89, 3) := by decide +kernel
theorem dX8_tell_14 : decode cX8_tell 14 = .ok (.bipush 8, 2) := by decide +kernel
theorem dX8_tell_16 : decode cX8_tell 16 = .ok (.if_icmp .ne 6, 3) := by decide +kernel
theorem dX8_tell_19 : decode cX8_tell 19 = .ok (.bipush (-3), 2) := by decide +kernel
theorem dX8_tell_21 : decode cX8_tell 21 = .ok (.ireturn, 1) := by decide +kernel
theorem dX8_tell_22 : decode cX8_tell 22 = .ok (.aload_n 0, 1) := by decide +kernel
theorem dX8_tell_23 : decode cX8_tell 23 = .ok (.getfield 33, 3) := by decide +kernel
theorem dX8_tell_26 : decode cX8_tell 26 = .ok (.aload_n 0, 1) := by decide +kernel
theorem dX8_tell_27 : decode cX8_tell 27 = .ok (.getfield 89, 3) := by decide +kernel
theorem dX8_tell_30 : decode cX8_tell 30 = .ok (.iload_n 1, 1) := by decide +kernel
theorem dX8_tell_31 : decode cX8_tell 31 = .ok (.iastore, 1) := by decide +kernel
theorem dX8_tell_32 : decode cX8_tell 32 = .ok (.aload_n 0, 1) := by decide +kernel
theorem dX8_tell_33 : decode cX8_tell 33 = .ok (.dup, 1) := by decide +kernel
theorem dX8_tell_34 : decode cX8_tell 34 = .ok (.getfield 89, 3) := by decide +kernel
theorem dX8_tell_37 : decode cX8_tell 37 = .ok (.iconst 1, 1) := by decide +kernel
theorem dX8_tell_38 : decode cX8_tell 38 = .ok (.iadd, 1) := by decide +kernel
theorem dX8_tell_39 : decode cX8_tell 39 = .ok (.putfield 89, 3) := by decide +kernel
theorem dX8_tell_42 : decode cX8_tell 42 = .ok (.aload_n 0, 1) := by decide +kernel
theorem dX8_tell_43 : decode cX8_tell 43 = .ok (.getfield 89, 3) := by decide +kernel
theorem dX8_tell_46 : decode cX8_tell 46 = .ok (.ireturn, 1) := by decide +kernel
theorem dX8_noRow_0 : decode cX8_noRow 0 = .ok (.aload_n 0, 1) := by decide +kernel
theorem dX8_noRow_1 : decode cX8_noRow 1 = .ok (.getfield 89, 3) := by decide +kernel
theorem dX8_noRow_4 : decode cX8_noRow 4 = .ok (.istore_n 1, 1) := by decide +kernel
theorem dX8_noRow_5 : decode cX8_noRow 5 = .ok (.aload_n 0, 1) := by decide +kernel
theorem dX8_noRow_6 : decode cX8_noRow 6 = .ok (.iconst 0, 1) := by decide +kernel
theorem dX8_noRow_7 : decode cX8_noRow 7 = .ok (.putfield 89, 3) := by decide +kernel
theorem dX8_noRow_10 : decode cX8_noRow 10 = .ok (.iload_n 1, 1) := by decide +kernel
theorem dX8_noRow_11 : decode cX8_noRow 11 = .ok (.ireturn, 1) := by decide +kernel
theorem dX8_soon_0 : decode cX8_soon 0 = .ok (.lload_n 1, 1) := by decide +kernel
theorem dX8_soon_1 : decode cX8_soon 1 = .ok (.invokestatic 114, 3) := by decide +kernel
theorem dX8_soon_4 : decode cX8_soon 4 = .ok (.ifCond .eq 21, 3) := by decide +kernel
theorem dX8_soon_7 : decode cX8_soon 7 = .ok (.iload_n 3, 1) := by decide +kernel
theorem dX8_soon_8 : decode cX8_soon 8 = .ok (.i2l, 1) := by decide +kernel
theorem dX8_soon_9 : decode cX8_soon 9 = .ok (.ldc2_w 130, 3) := by decide +kernel
theorem dX8_soon_12 : decode cX8_soon 12 = .ok (.aload_n 0, 1) := by decide +kernel
theorem dX8_soon_13 : decode cX8_soon 13 = .ok (.getfield 89, 3) := by decide +kernel
theorem dX8_soon_16 : decode cX8_soon 16 = .ok (.iconst 1, 1) := by decide +kernel
theorem dX8_soon_17 : decode cX8_soon 17 = .ok (.isub, 1) := by decide +kernel
theorem dX8_soon_18 : decode cX8_soon 18 = .ok (.i2l, 1) := by decide +kernel
theorem dX8_soon_19 : decode cX8_soon 19 = .ok (.invokestatic 53, 3) := by decide +kernel
theorem dX8_soon_22 : decode cX8_soon 22 = .ok (.ifCond .ne 7, 3) := by decide +kernel
theorem dX8_soon_25 : decode cX8_soon 25 = .ok (.ldc2_w 130, 3) := by decide +kernel
theorem dX8_soon_28 : decode cX8_soon 28 = .ok (.lreturn, 1) := by decide +kernel
theorem dX8_soon_29 : decode cX8_soon 29 = .ok (.lload_n 1, 1) := by decide +kernel
theorem dX8_soon_30 : decode cX8_soon 30 = .ok (.lstore 4, 2) := by decide +kernel
theorem dX8_soon_32 : decode cX8_soon 32 = .ok (.iconst 0, 1) := by decide +kernel
theorem dX8_soon_33 : decode cX8_soon 33 = .ok (.istore 6, 2) := by decide +kernel
theorem dX8_soon_35 : decode cX8_soon 35 = .ok (.iload 6, 2) := by decide +kernel
theorem dX8_soon_37 : decode cX8_soon 37 = .ok (.aload_n 0, 1) := by decide +kernel
theorem dX8_soon_38 : decode cX8_soon 38 = .ok (.getfield 89, 3) := by decide +kernel
theorem dX8_soon_41 : decode cX8_soon 41 = .ok (.if_icmp .ge 88, 3) := by decide +kernel
theorem dX8_soon_44 : decode cX8_soon 44 = .ok (.lload 4, 2) := by decide +kernel
theorem dX8_soon_46 : decode cX8_soon 46 = .ok (.ldc2_w 143, 3) := by decide +kernel
theorem dX8_soon_49 : decode cX8_soon 49 = .ok (.ladd, 1) := by decide +kernel
theorem dX8_soon_50 : decode cX8_soon 50 = .ok (.lstore 7, 2) := by decide +kernel
theorem dX8_soon_52 : decode cX8_soon 52 = .ok (.lload 4, 2) := by decide +kernel
theorem dX8_soon_54 : decode cX8_soon 54 = .ok (.lload 7, 2) := by decide +kernel
theorem dX8_soon_56 : decode cX8_soon 56 = .ok (.lcmp, 1) := by decide +kernel
theorem dX8_soon_57 : decode cX8_soon 57 = .ok (.ifCond .gt 28, 3) := by decide +kernel
theorem dX8_soon_60 : decode cX8_soon 60 = .ok (.aload_n 0, 1) := by decide +kernel
theorem dX8_soon_61 : decode cX8_soon 61 = .ok (.aload_n 0, 1) := by decide +kernel
theorem dX8_soon_62 : decode cX8_soon 62 = .ok (.getfield 33, 3) := by decide +kernel
theorem dX8_soon_65 : decode cX8_soon 65 = .ok (.iload 6, 2) := by decide +kernel
theorem dX8_soon_67 : decode cX8_soon 67 = .ok (.iaload, 1) := by decide +kernel
theorem dX8_soon_68 : decode cX8_soon 68 = .ok (.lload 4, 2) := by decide +kernel
theorem dX8_soon_70 : decode cX8_soon 70 = .ok (.invokevirtual 140, 3) := by decide +kernel
theorem dX8_soon_73 : decode cX8_soon 73 = .ok (.ifCond .ne 12, 3) := by decide +kernel
theorem dX8_soon_76 : decode cX8_soon 76 = .ok (.lload 4, 2) := by decide +kernel
theorem dX8_soon_78 : decode cX8_soon 78 = .ok (.lconst 1, 1) := by decide +kernel
theorem dX8_soon_79 : decode cX8_soon 79 = .ok (.ladd, 1) := by decide +kernel
theorem dX8_soon_80 : decode cX8_soon 80 = .ok (.lstore 4, 2) := by decide +kernel
theorem dX8_soon_82 : decode cX8_soon 82 = .ok (.goto (-30), 3) := by decide +kernel
theorem dX8_soon_85 : decode cX8_soon 85 = .ok (.lload 4, 2) := by decide +kernel
theorem dX8_soon_87 : decode cX8_soon 87 = .ok (.lload 7, 2) := by decide +kernel
theorem dX8_soon_89 : decode cX8_soon 89 = .ok (.lcmp, 1) := by decide +kernel
theorem dX8_soon_90 : decode cX8_soon 90 = .ok (.ifCond .le 7, 3) := by decide +kernel
theorem dX8_soon_93 : decode cX8_soon 93 = .ok (.ldc2_w 134, 3) := by decide +kernel
theorem dX8_soon_96 : decode cX8_soon 96 = .ok (.lreturn, 1) := by decide +kernel
theorem dX8_soon_97 : decode cX8_soon 97 = .ok (.aload_n 0, 1) := by decide +kernel
theorem dX8_soon_98 : decode cX8_soon 98 = .ok (.getfield 36, 3) := by decide +kernel
theorem dX8_soon_101 : decode cX8_soon 101 = .ok (.iload 6, 2) := by decide +kernel
theorem dX8_soon_103 : decode cX8_soon 103 = .ok (.lload 4, 2) := by decide +kernel
theorem dX8_soon_105 : decode cX8_soon 105 = .ok (.lastore, 1) := by decide +kernel
theorem dX8_soon_106 : decode cX8_soon 106 = .ok (.lload 4, 2) := by decide +kernel
theorem dX8_soon_108 : decode cX8_soon 108 = .ok (.aload_n 0, 1) := by decide +kernel
theorem dX8_soon_109 : decode cX8_soon 109 = .ok (.aload_n 0, 1) := by decide +kernel
theorem dX8_soon_110 : decode cX8_soon 110 = .ok (.getfield 33, 3) := by decide +kernel
theorem dX8_soon_113 : decode cX8_soon 113 = .ok (.iload 6, 2) := by decide +kernel
theorem dX8_soon_115 : decode cX8_soon 115 = .ok (.iaload, 1) := by decide +kernel
theorem dX8_soon_116 : decode cX8_soon 116 = .ok (.invokevirtual 145, 3) := by decide +kernel
theorem dX8_soon_119 : decode cX8_soon 119 = .ok (.i2l, 1) := by decide +kernel
theorem dX8_soon_120 : decode cX8_soon 120 = .ok (.ladd, 1) := by decide +kernel
theorem dX8_soon_121 : decode cX8_soon 121 = .ok (.lstore 4, 2) := by decide +kernel
theorem dX8_soon_123 : decode cX8_soon 123 = .ok (.iinc 6 1, 3) := by decide +kernel
theorem dX8_soon_126 : decode cX8_soon 126 = .ok (.goto (-91), 3) := by decide +kernel
theorem dX8_soon_129 : decode cX8_soon 129 = .ok (.iload_n 3, 1) := by decide +kernel
theorem dX8_soon_130 : decode cX8_soon 130 = .ok (.ifCond .ge 8, 3) := by decide +kernel
theorem dX8_soon_133 : decode cX8_soon 133 = .ok (.lload 4, 2) := by decide +kernel
theorem dX8_soon_135 : decode cX8_soon 135 = .ok (.goto 9, 3) := by decide +kernel
theorem dX8_soon_138 : decode cX8_soon 138 = .ok (.aload_n 0, 1) := by decide +kernel
theorem dX8_soon_139 : decode cX8_soon 139 = .ok (.getfield 36, 3) := by decide +kernel
theorem dX8_soon_142 : decode cX8_soon 142 = .ok (.iload_n 3, 1) := by decide +kernel
theorem dX8_soon_143 : decode cX8_soon 143 = .ok (.laload, 1) := by decide +kernel
theorem dX8_soon_144 : decode cX8_soon 144 = .ok (.lreturn, 1) := by decide +kernel
theorem dX8_known_0 : decode cX8_known 0 = .ok (.aload_n 0, 1) := by decide +kernel
theorem dX8_known_1 : decode cX8_known 1 = .ok (.getfield 86, 3) := by decide +kernel
theorem dX8_known_4 : decode cX8_known 4 = .ok (.bipush 8, 2) := by decide +kernel
theorem dX8_known_6 : decode cX8_known 6 = .ok (.if_icmp .ne 45, 3) := by decide +kernel
theorem dX8_known_9 : decode cX8_known 9 = .ok (.iconst 0, 1) := by decide +kernel
theorem dX8_known_10 : decode cX8_known 10 = .ok (.istore 4, 2) := by decide +kernel
theorem dX8_known_12 : decode cX8_known 12 = .ok (.iload 4, 2) := by decide +kernel
theorem dX8_known_14 : decode cX8_known 14 = .ok (.bipush 21, 2) := by decide +kernel
theorem dX8_known_16 : decode cX8_known 16 = .ok (.if_icmp .ge 25, 3) := by decide +kernel
theorem dX8_known_19 : decode cX8_known 19 = .ok (.aload_n 0, 1) := by decide +kernel
theorem dX8_known_20 : decode cX8_known 20 = .ok (.getfield 30, 3) := by decide +kernel
theorem dX8_known_23 : decode cX8_known 23 = .ok (.iload 4, 2) := by decide +kernel
theorem dX8_known_25 : decode cX8_known 25 = .ok (.aload_n 0, 1) := by decide +kernel
theorem dX8_known_26 : decode cX8_known 26 = .ok (.getfield 30, 3) := by decide +kernel
theorem dX8_known_29 : decode cX8_known 29 = .ok (.iload 4, 2) := by decide +kernel
theorem dX8_known_31 : decode cX8_known 31 = .ok (.iconst 3, 1) := by decide +kernel
theorem dX8_known_32 : decode cX8_known 32 = .ok (.iadd, 1) := by decide +kernel
theorem dX8_known_33 : decode cX8_known 33 = .ok (.iaload, 1) := by decide +kernel
theorem dX8_known_34 : decode cX8_known 34 = .ok (.iastore, 1) := by decide +kernel
theorem dX8_known_35 : decode cX8_known 35 = .ok (.iinc 4 1, 3) := by decide +kernel
theorem dX8_known_38 : decode cX8_known 38 = .ok (.goto (-26), 3) := by decide +kernel
theorem dX8_known_41 : decode cX8_known 41 = .ok (.aload_n 0, 1) := by decide +kernel
theorem dX8_known_42 : decode cX8_known 42 = .ok (.dup, 1) := by decide +kernel
theorem dX8_known_43 : decode cX8_known 43 = .ok (.getfield 86, 3) := by decide +kernel
theorem dX8_known_46 : decode cX8_known 46 = .ok (.iconst 1, 1) := by decide +kernel
theorem dX8_known_47 : decode cX8_known 47 = .ok (.isub, 1) := by decide +kernel
theorem dX8_known_48 : decode cX8_known 48 = .ok (.putfield 86, 3) := by decide +kernel
theorem dX8_known_51 : decode cX8_known 51 = .ok (.aload_n 0, 1) := by decide +kernel
theorem dX8_known_52 : decode cX8_known 52 = .ok (.getfield 30, 3) := by decide +kernel
theorem dX8_known_55 : decode cX8_known 55 = .ok (.iconst 3, 1) := by decide +kernel
theorem dX8_known_56 : decode cX8_known 56 = .ok (.aload_n 0, 1) := by decide +kernel
theorem dX8_known_57 : decode cX8_known 57 = .ok (.getfield 86, 3) := by decide +kernel
theorem dX8_known_60 : decode cX8_known 60 = .ok (.imul, 1) := by decide +kernel
theorem dX8_known_61 : decode cX8_known 61 = .ok (.iload_n 1, 1) := by decide +kernel
theorem dX8_known_62 : decode cX8_known 62 = .ok (.iastore, 1) := by decide +kernel
theorem dX8_known_63 : decode cX8_known 63 = .ok (.aload_n 0, 1) := by decide +kernel
theorem dX8_known_64 : decode cX8_known 64 = .ok (.getfield 30, 3) := by decide +kernel
theorem dX8_known_67 : decode cX8_known 67 = .ok (.iconst 3, 1) := by decide +kernel
theorem dX8_known_68 : decode cX8_known 68 = .ok (.aload_n 0, 1) := by decide +kernel
theorem dX8_known_69 : decode cX8_known 69 = .ok (.getfield 86, 3) := by decide +kernel
theorem dX8_known_72 : decode cX8_known 72 = .ok (.imul, 1) := by decide +kernel
theorem dX8_known_73 : decode cX8_known 73 = .ok (.iconst 1, 1) := by decide +kernel
theorem dX8_known_74 : decode cX8_known 74 = .ok (.iadd, 1) := by decide +kernel
theorem dX8_known_75 : decode cX8_known 75 = .ok (.iload_n 2, 1) := by decide +kernel
theorem dX8_known_76 : decode cX8_known 76 = .ok (.iastore, 1) := by decide +kernel
theorem dX8_known_77 : decode cX8_known 77 = .ok (.aload_n 0, 1) := by decide +kernel
theorem dX8_known_78 : decode cX8_known 78 = .ok (.getfield 30, 3) := by decide +kernel
theorem dX8_known_81 : decode cX8_known 81 = .ok (.iconst 3, 1) := by decide +kernel
theorem dX8_known_82 : decode cX8_known 82 = .ok (.aload_n 0, 1) := by decide +kernel
theorem dX8_known_83 : decode cX8_known 83 = .ok (.getfield 86, 3) := by decide +kernel
theorem dX8_known_86 : decode cX8_known 86 = .ok (.imul, 1) := by decide +kernel
theorem dX8_known_87 : decode cX8_known 87 = .ok (.iconst 2, 1) := by decide +kernel
theorem dX8_known_88 : decode cX8_known 88 = .ok (.iadd, 1) := by decide +kernel
theorem dX8_known_89 : decode cX8_known 89 = .ok (.iload_n 3, 1) := by decide +kernel
theorem dX8_known_90 : decode cX8_known 90 = .ok (.iastore, 1) := by decide +kernel
theorem dX8_known_91 : decode cX8_known 91 = .ok (.aload_n 0, 1) := by decide +kernel
theorem dX8_known_92 : decode cX8_known 92 = .ok (.dup, 1) := by decide +kernel
theorem dX8_known_93 : decode cX8_known 93 = .ok (.getfield 86, 3) := by decide +kernel
theorem dX8_known_96 : decode cX8_known 96 = .ok (.iconst 1, 1) := by decide +kernel
theorem dX8_known_97 : decode cX8_known 97 = .ok (.iadd, 1) := by decide +kernel
theorem dX8_known_98 : decode cX8_known 98 = .ok (.putfield 86, 3) := by decide +kernel
theorem dX8_known_101 : decode cX8_known 101 = .ok (.return_, 1) := by decide +kernel
theorem dX8_pass_0 : decode cX8_pass 0 = .ok (.iload_n 1, 1) := by decide +kernel
theorem dX8_pass_1 : decode cX8_pass 1 = .ok (.i2l, 1) := by decide +kernel
theorem dX8_pass_2 : decode cX8_pass 2 = .ok (.lconst 1, 1) := by decide +kernel
theorem dX8_pass_3 : decode cX8_pass 3 = .ok (.ldc2_w 148, 3) := by decide +kernel
theorem dX8_pass_6 : decode cX8_pass 6 = .ok (.invokestatic 53, 3) := by decide +kernel
theorem dX8_pass_9 : decode cX8_pass 9 = .ok (.ifCond .ne 7, 3) := by decide +kernel
theorem dX8_pass_12 : decode cX8_pass 12 = .ok (.ldc2_w 130, 3) := by decide +kernel
theorem dX8_pass_15 : decode cX8_pass 15 = .ok (.lreturn, 1) := by decide +kernel
theorem dX8_pass_16 : decode cX8_pass 16 = .ok (.aload_n 0, 1) := by decide +kernel
theorem dX8_pass_17 : decode cX8_pass 17 = .ok (.getfield 26, 3) := by decide +kernel
theorem dX8_pass_20 : decode cX8_pass 20 = .ok (.iconst 0, 1) := by decide +kernel
theorem dX8_pass_21 : decode cX8_pass 21 = .ok (.dup2, 1) := by decide +kernel
theorem dX8_pass_22 : decode cX8_pass 22 = .ok (.laload, 1) := by decide +kernel
theorem dX8_pass_23 : decode cX8_pass 23 = .ok (.iload_n 1, 1) := by decide +kernel
theorem dX8_pass_24 : decode cX8_pass 24 = .ok (.i2l, 1) := by decide +kernel
theorem dX8_pass_25 : decode cX8_pass 25 = .ok (.ladd, 1) := by decide +kernel
theorem dX8_pass_26 : decode cX8_pass 26 = .ok (.lastore, 1) := by decide +kernel
theorem dX8_pass_27 : decode cX8_pass 27 = .ok (.aload_n 0, 1) := by decide +kernel
theorem dX8_pass_28 : decode cX8_pass 28 = .ok (.iconst 0, 1) := by decide +kernel
theorem dX8_pass_29 : decode cX8_pass 29 = .ok (.iload_n 1, 1) := by decide +kernel
theorem dX8_pass_30 : decode cX8_pass 30 = .ok (.iconst 0, 1) := by decide +kernel
theorem dX8_pass_31 : decode cX8_pass 31 = .ok (.invokevirtual 150, 3) := by decide +kernel
theorem dX8_pass_34 : decode cX8_pass 34 = .ok (.aload_n 0, 1) := by decide +kernel
theorem dX8_pass_35 : decode cX8_pass 35 = .ok (.getfield 26, 3) := by decide +kernel
theorem dX8_pass_38 : decode cX8_pass 38 = .ok (.iconst 0, 1) := by decide +kernel
theorem dX8_pass_39 : decode cX8_pass 39 = .ok (.laload, 1) := by decide +kernel
theorem dX8_pass_40 : decode cX8_pass 40 = .ok (.lreturn, 1) := by decide +kernel
theorem dX8_doAct_0 : decode cX8_doAct 0 = .ok (.aload_n 0, 1) := by decide +kernel
theorem dX8_doAct_1 : decode cX8_doAct 1 = .ok (.iload_n 1, 1) := by decide +kernel
theorem dX8_doAct_2 : decode cX8_doAct 2 = .ok (.invokevirtual 107, 3) := by decide +kernel
theorem dX8_doAct_5 : decode cX8_doAct 5 = .ok (.ifCond .ne 7, 3) := by decide +kernel
theorem dX8_doAct_8 : decode cX8_doAct 8 = .ok (.ldc2_w 130, 3) := by decide +kernel
theorem dX8_doAct_11 : decode cX8_doAct 11 = .ok (.lreturn, 1) := by decide +kernel
theorem dX8_doAct_12 : decode cX8_doAct 12 = .ok (.aload_n 0, 1) := by decide +kernel
theorem dX8_doAct_13 : decode cX8_doAct 13 = .ok (.iload_n 1, 1) := by decide +kernel
theorem dX8_doAct_14 : decode cX8_doAct 14 = .ok (.aload_n 0, 1) := by decide +kernel
theorem dX8_doAct_15 : decode cX8_doAct 15 = .ok (.getfield 26, 3) := by decide +kernel
theorem dX8_doAct_18 : decode cX8_doAct 18 = .ok (.iconst 0, 1) := by decide +kernel
theorem dX8_doAct_19 : decode cX8_doAct 19 = .ok (.laload, 1) := by decide +kernel
theorem dX8_doAct_20 : decode cX8_doAct 20 = .ok (.invokevirtual 140, 3) := by decide +kernel
theorem dX8_doAct_23 : decode cX8_doAct 23 = .ok (.ifCond .ne 7, 3) := by decide +kernel
theorem dX8_doAct_26 : decode cX8_doAct 26 = .ok (.ldc2_w 154, 3) := by decide +kernel
theorem dX8_doAct_29 : decode cX8_doAct 29 = .ok (.lreturn, 1) := by decide +kernel
theorem dX8_doAct_30 : decode cX8_doAct 30 = .ok (.aload_n 0, 1) := by decide +kernel
theorem dX8_doAct_31 : decode cX8_doAct 31 = .ok (.getfield 26, 3) := by decide +kernel
theorem dX8_doAct_34 : decode cX8_doAct 34 = .ok (.iconst 0, 1) := by decide +kernel
theorem dX8_doAct_35 : decode cX8_doAct 35 = .ok (.dup2, 1) := by decide +kernel
theorem dX8_doAct_36 : decode cX8_doAct 36 = .ok (.laload, 1) := by decide +kernel
theorem dX8_doAct_37 : decode cX8_doAct 37 = .ok (.aload_n 0, 1) := by decide +kernel
theorem dX8_doAct_38 : decode cX8_doAct 38 = .ok (.iload_n 1, 1) := by decide +kernel
theorem dX8_doAct_39 : decode cX8_doAct 39 = .ok (.invokevirtual 145, 3) := by decide +kernel
theorem dX8_doAct_42 : decode cX8_doAct 42 = .ok (.i2l, 1) := by decide +kernel
theorem dX8_doAct_43 : decode cX8_doAct 43 = .ok (.ladd, 1) := by decide +kernel
theorem dX8_doAct_44 : decode cX8_doAct 44 = .ok (.lastore, 1) := by decide +kernel
theorem dX8_doAct_45 : decode cX8_doAct 45 = .ok (.aload_n 0, 1) := by decide +kernel
theorem dX8_doAct_46 : decode cX8_doAct 46 = .ok (.getfield 26, 3) := by decide +kernel
theorem dX8_doAct_49 : decode cX8_doAct 49 = .ok (.iconst 2, 1) := by decide +kernel
theorem dX8_doAct_50 : decode cX8_doAct 50 = .ok (.dup2, 1) := by decide +kernel
theorem dX8_doAct_51 : decode cX8_doAct 51 = .ok (.laload, 1) := by decide +kernel
theorem dX8_doAct_52 : decode cX8_doAct 52 = .ok (.aload_n 0, 1) := by decide +kernel
theorem dX8_doAct_53 : decode cX8_doAct 53 = .ok (.getfield 20, 3) := by decide +kernel
theorem dX8_doAct_56 : decode cX8_doAct 56 = .ok (.iconst 5, 1) := by decide +kernel
theorem dX8_doAct_57 : decode cX8_doAct 57 = .ok (.iload_n 1, 1) := by decide +kernel
theorem dX8_doAct_58 : decode cX8_doAct 58 = .ok (.imul, 1) := by decide +kernel
theorem dX8_doAct_59 : decode cX8_doAct 59 = .ok (.iconst 3, 1) := by decide +kernel
theorem dX8_doAct_60 : decode cX8_doAct 60 = .ok (.iadd, 1) := by decide +kernel
theorem dX8_doAct_61 : decode cX8_doAct 61 = .ok (.iaload, 1) := by decide +kernel
theorem dX8_doAct_62 : decode cX8_doAct 62 = .ok (.bipush 50, 2) := by decide +kernel
theorem dX8_doAct_64 : decode cX8_doAct 64 = .ok (.isub, 1) := by decide +kernel
theorem dX8_doAct_65 : decode cX8_doAct 65 = .ok (.i2l, 1) := by decide +kernel
theorem dX8_doAct_66 : decode cX8_doAct 66 = .ok (.ladd, 1) := by decide +kernel
theorem dX8_doAct_67 : decode cX8_doAct 67 = .ok (.lastore, 1) := by decide +kernel
theorem dX8_doAct_68 : decode cX8_doAct 68 = .ok (.aload_n 0, 1) := by decide +kernel
theorem dX8_doAct_69 : decode cX8_doAct 69 = .ok (.getfield 26, 3) := by decide +kernel
theorem dX8_doAct_72 : decode cX8_doAct 72 = .ok (.iconst 3, 1) := by decide +kernel
theorem dX8_doAct_73 : decode cX8_doAct 73 = .ok (.dup2, 1) := by decide +kernel
theorem dX8_doAct_74 : decode cX8_doAct 74 = .ok (.laload, 1) := by decide +kernel
theorem dX8_doAct_75 : decode cX8_doAct 75 = .ok (.aload_n 0, 1) := by decide +kernel
theorem dX8_doAct_76 : decode cX8_doAct 76 = .ok (.getfield 20, 3) := by decide +kernel
theorem dX8_doAct_79 : decode cX8_doAct 79 = .ok (.iconst 5, 1) := by decide +kernel
theorem dX8_doAct_80 : decode cX8_doAct 80 = .ok (.iload_n 1, 1) := by decide +kernel
theorem dX8_doAct_81 : decode cX8_doAct 81 = .ok (.imul, 1) := by decide +kernel
theorem dX8_doAct_82 : decode cX8_doAct 82 = .ok (.iconst 4, 1) := by decide +kernel
theorem dX8_doAct_83 : decode cX8_doAct 83 = .ok (.iadd, 1) := by decide +kernel
theorem dX8_doAct_84 : decode cX8_doAct 84 = .ok (.iaload, 1) := by decide +kernel
theorem dX8_doAct_85 : decode cX8_doAct 85 = .ok (.bipush 50, 2) := by decide +kernel
theorem dX8_doAct_87 : decode cX8_doAct 87 = .ok (.isub, 1) := by decide +kernel
theorem dX8_doAct_88 : decode cX8_doAct 88 = .ok (.i2l, 1) := by decide +kernel
theorem dX8_doAct_89 : decode cX8_doAct 89 = .ok (.ladd, 1) := by decide +kernel
theorem dX8_doAct_90 : decode cX8_doAct 90 = .ok (.lastore, 1) := by decide +kernel
theorem dX8_doAct_91 : decode cX8_doAct 91 = .ok (.aload_n 0, 1) := by decide +kernel
theorem dX8_doAct_92 : decode cX8_doAct 92 = .ok (.iconst 1, 1) := by decide +kernel
theorem dX8_doAct_93 : decode cX8_doAct 93 = .ok (.iload_n 1, 1) := by decide +kernel
theorem dX8_doAct_94 : decode cX8_doAct 94 = .ok (.iconst 0, 1) := by decide +kernel
theorem dX8_doAct_95 : decode cX8_doAct 95 = .ok (.invokevirtual 150, 3) := by decide +kernel
theorem dX8_doAct_98 : decode cX8_doAct 98 = .ok (.aload_n 0, 1) := by decide +kernel
theorem dX8_doAct_99 : decode cX8_doAct 99 = .ok (.getfield 26, 3) := by decide +kernel
theorem dX8_doAct_102 : decode cX8_doAct 102 = .ok (.iconst 0, 1) := by decide +kernel
theorem dX8_doAct_103 : decode cX8_doAct 103 = .ok (.laload, 1) := by decide +kernel
theorem dX8_doAct_104 : decode cX8_doAct 104 = .ok (.lreturn, 1) := by decide +kernel
theorem dX8_allow_0 : decode cX8_allow 0 = .ok (.aload_n 0, 1) := by decide +kernel
theorem dX8_allow_1 : decode cX8_allow 1 = .ok (.iload_n 1, 1) := by decide +kernel
theorem dX8_allow_2 : decode cX8_allow 2 = .ok (.invokevirtual 107, 3) := by decide +kernel
theorem dX8_allow_5 : decode cX8_allow 5 = .ok (.ifCond .eq 13, 3) := by decide +kernel
theorem dX8_allow_8 : decode cX8_allow 8 = .ok (.iload_n 2, 1) := by decide +kernel
end
section
theorem dX8_allow_9 : decode cX8_allow 9 = .ok (.i2l, 1) := by decide +kernel
theorem dX8_allow_10 : decode cX8_allow 10 = .ok (.lconst 0, 1) := by decide +kernel
theorem dX8_allow_11 : decode cX8_allow 11 = .ok (.lconst 1, 1) := by decide +kernel
theorem dX8_allow_12 : decode cX8_allow 12 = .ok (.invokestatic 53, 3) := by decide +kernel
theorem dX8_allow_15 : decode cX8_allow 15 = .ok (.ifCond .ne 5, 3) := by decide +kernel
theorem dX8_allow_18 : decode cX8_allow 18 = .ok (.iconst (-1), 1) := by decide +kernel
theorem dX8_allow_19 : decode cX8_allow 19 = .ok (.ireturn, 1) := by decide +kernel
theorem dX8_allow_20 : decode cX8_allow 20 = .ok (.aload_n 0, 1) := by decide +kernel
theorem dX8_allow_21 : decode cX8_allow 21 = .ok (.getfield 23, 3) := by decide +kernel
theorem dX8_allow_24 : decode cX8_allow 24 = .ok (.iload_n 1, 1) := by decide +kernel
theorem dX8_allow_25 : decode cX8_allow 25 = .ok (.iaload, 1) := by decide +kernel
theorem dX8_allow_26 : decode cX8_allow 26 = .ok (.iload_n 2, 1) := by decide +kernel
theorem dX8_allow_27 : decode cX8_allow 27 = .ok (.ishr, 1) := by decide +kernel
theorem dX8_allow_28 : decode cX8_allow 28 = .ok (.iconst 1, 1) := by decide +kernel
theorem dX8_allow_29 : decode cX8_allow 29 = .ok (.iand, 1) := by decide +kernel
theorem dX8_allow_30 : decode cX8_allow 30 = .ok (.istore 4, 2) := by decide +kernel
theorem dX8_allow_32 : decode cX8_allow 32 = .ok (.aload_n 0, 1) := by decide +kernel
theorem dX8_allow_33 : decode cX8_allow 33 = .ok (.iconst 2, 1) := by decide +kernel
theorem dX8_allow_34 : decode cX8_allow 34 = .ok (.iload_n 1, 1) := by decide +kernel
theorem dX8_allow_35 : decode cX8_allow 35 = .ok (.aload_n 0, 1) := by decide +kernel
theorem dX8_allow_36 : decode cX8_allow 36 = .ok (.getfield 23, 3) := by decide +kernel
theorem dX8_allow_39 : decode cX8_allow 39 = .ok (.iload_n 1, 1) := by decide +kernel
theorem dX8_allow_40 : decode cX8_allow 40 = .ok (.iaload, 1) := by decide +kernel
theorem dX8_allow_41 : decode cX8_allow 41 = .ok (.invokevirtual 150, 3) := by decide +kernel
theorem dX8_allow_44 : decode cX8_allow 44 = .ok (.aload_n 0, 1) := by decide +kernel
theorem dX8_allow_45 : decode cX8_allow 45 = .ok (.getfield 23, 3) := by decide +kernel
theorem dX8_allow_48 : decode cX8_allow 48 = .ok (.iload_n 1, 1) := by decide +kernel
theorem dX8_allow_49 : decode cX8_allow 49 = .ok (.iload_n 3, 1) := by decide +kernel
theorem dX8_allow_50 : decode cX8_allow 50 = .ok (.ifCond .eq 16, 3) := by decide +kernel
theorem dX8_allow_53 : decode cX8_allow 53 = .ok (.aload_n 0, 1) := by decide +kernel
theorem dX8_allow_54 : decode cX8_allow 54 = .ok (.getfield 23, 3) := by decide +kernel
theorem dX8_allow_57 : decode cX8_allow 57 = .ok (.iload_n 1, 1) := by decide +kernel
theorem dX8_allow_58 : decode cX8_allow 58 = .ok (.iaload, 1) := by decide +kernel
theorem dX8_allow_59 : decode cX8_allow 59 = .ok (.iconst 1, 1) := by decide +kernel
theorem dX8_allow_60 : decode cX8_allow 60 = .ok (.iload_n 2, 1) := by decide +kernel
theorem dX8_allow_61 : decode cX8_allow 61 = .ok (.ishl, 1) := by decide +kernel
theorem dX8_allow_62 : decode cX8_allow 62 = .ok (.ior, 1) := by decide +kernel
theorem dX8_allow_63 : decode cX8_allow 63 = .ok (.goto 15, 3) := by decide +kernel
theorem dX8_allow_66 : decode cX8_allow 66 = .ok (.aload_n 0, 1) := by decide +kernel
theorem dX8_allow_67 : decode cX8_allow 67 = .ok (.getfield 23, 3) := by decide +kernel
theorem dX8_allow_70 : decode cX8_allow 70 = .ok (.iload_n 1, 1) := by decide +kernel
theorem dX8_allow_71 : decode cX8_allow 71 = .ok (.iaload, 1) := by decide +kernel
theorem dX8_allow_72 : decode cX8_allow 72 = .ok (.iconst 1, 1) := by decide +kernel
theorem dX8_allow_73 : decode cX8_allow 73 = .ok (.iload_n 2, 1) := by decide +kernel
theorem dX8_allow_74 : decode cX8_allow 74 = .ok (.ishl, 1) := by decide +kernel
theorem dX8_allow_75 : decode cX8_allow 75 = .ok (.iconst (-1), 1) := by decide +kernel
theorem dX8_allow_76 : decode cX8_allow 76 = .ok (.ixor, 1) := by decide +kernel
theorem dX8_allow_77 : decode cX8_allow 77 = .ok (.iand, 1) := by decide +kernel
theorem dX8_allow_78 : decode cX8_allow 78 = .ok (.iastore, 1) := by decide +kernel
theorem dX8_allow_79 : decode cX8_allow 79 = .ok (.iload 4, 2) := by decide +kernel
theorem dX8_allow_81 : decode cX8_allow 81 = .ok (.ireturn, 1) := by decide +kernel
theorem dX8_undo_0 : decode cX8_undo 0 = .ok (.aload_n 0, 1) := by decide +kernel
theorem dX8_undo_1 : decode cX8_undo 1 = .ok (.getfield 86, 3) := by decide +kernel
theorem dX8_undo_4 : decode cX8_undo 4 = .ok (.ifCond .ne 6, 3) := by decide +kernel
theorem dX8_undo_7 : decode cX8_undo 7 = .ok (.bipush (-2), 2) := by decide +kernel
theorem dX8_undo_9 : decode cX8_undo 9 = .ok (.ireturn, 1) := by decide +kernel
theorem dX8_undo_10 : decode cX8_undo 10 = .ok (.aload_n 0, 1) := by decide +kernel
theorem dX8_undo_11 : decode cX8_undo 11 = .ok (.dup, 1) := by decide +kernel
theorem dX8_undo_12 : decode cX8_undo 12 = .ok (.getfield 86, 3) := by decide +kernel
theorem dX8_undo_15 : decode cX8_undo 15 = .ok (.iconst 1, 1) := by decide +kernel
theorem dX8_undo_16 : decode cX8_undo 16 = .ok (.isub, 1) := by decide +kernel
theorem dX8_undo_17 : decode cX8_undo 17 = .ok (.putfield 86, 3) := by decide +kernel
theorem dX8_undo_20 : decode cX8_undo 20 = .ok (.aload_n 0, 1) := by decide +kernel
theorem dX8_undo_21 : decode cX8_undo 21 = .ok (.getfield 30, 3) := by decide +kernel
theorem dX8_undo_24 : decode cX8_undo 24 = .ok (.iconst 3, 1) := by decide +kernel
theorem dX8_undo_25 : decode cX8_undo 25 = .ok (.aload_n 0, 1) := by decide +kernel
theorem dX8_undo_26 : decode cX8_undo 26 = .ok (.getfield 86, 3) := by decide +kernel
theorem dX8_undo_29 : decode cX8_undo 29 = .ok (.imul, 1) := by decide +kernel
theorem dX8_undo_30 : decode cX8_undo 30 = .ok (.iconst 1, 1) := by decide +kernel
theorem dX8_undo_31 : decode cX8_undo 31 = .ok (.iadd, 1) := by decide +kernel
theorem dX8_undo_32 : decode cX8_undo 32 = .ok (.iaload, 1) := by decide +kernel
theorem dX8_undo_33 : decode cX8_undo 33 = .ok (.istore_n 1, 1) := by decide +kernel
theorem dX8_undo_34 : decode cX8_undo 34 = .ok (.aload_n 0, 1) := by decide +kernel
theorem dX8_undo_35 : decode cX8_undo 35 = .ok (.getfield 30, 3) := by decide +kernel
theorem dX8_undo_38 : decode cX8_undo 38 = .ok (.iconst 3, 1) := by decide +kernel
theorem dX8_undo_39 : decode cX8_undo 39 = .ok (.aload_n 0, 1) := by decide +kernel
theorem dX8_undo_40 : decode cX8_undo 40 = .ok (.getfield 86, 3) := by decide +kernel
theorem dX8_undo_43 : decode cX8_undo 43 = .ok (.imul, 1) := by decide +kernel
theorem dX8_undo_44 : decode cX8_undo 44 = .ok (.iaload, 1) := by decide +kernel
theorem dX8_undo_45 : decode cX8_undo 45 = .ok (.ifCond .ne 17, 3) := by decide +kernel
theorem dX8_undo_48 : decode cX8_undo 48 = .ok (.aload_n 0, 1) := by decide +kernel
theorem dX8_undo_49 : decode cX8_undo 49 = .ok (.getfield 26, 3) := by decide +kernel
theorem dX8_undo_52 : decode cX8_undo 52 = .ok (.iconst 0, 1) := by decide +kernel
theorem dX8_undo_53 : decode cX8_undo 53 = .ok (.dup2, 1) := by decide +kernel
theorem dX8_undo_54 : decode cX8_undo 54 = .ok (.laload, 1) := by decide +kernel
theorem dX8_undo_55 : decode cX8_undo 55 = .ok (.iload_n 1, 1) := by decide +kernel
theorem dX8_undo_56 : decode cX8_undo 56 = .ok (.i2l, 1) := by decide +kernel
theorem dX8_undo_57 : decode cX8_undo 57 = .ok (.lsub, 1) := by decide +kernel
theorem dX8_undo_58 : decode cX8_undo 58 = .ok (.lastore, 1) := by decide +kernel
theorem dX8_undo_59 : decode cX8_undo 59 = .ok (.goto 101, 3) := by decide +kernel
theorem dX8_undo_62 : decode cX8_undo 62 = .ok (.aload_n 0, 1) := by decide +kernel
theorem dX8_undo_63 : decode cX8_undo 63 = .ok (.getfield 30, 3) := by decide +kernel
theorem dX8_undo_66 : decode cX8_undo 66 = .ok (.iconst 3, 1) := by decide +kernel
theorem dX8_undo_67 : decode cX8_undo 67 = .ok (.aload_n 0, 1) := by decide +kernel
theorem dX8_undo_68 : decode cX8_undo 68 = .ok (.getfield 86, 3) := by decide +kernel
theorem dX8_undo_71 : decode cX8_undo 71 = .ok (.imul, 1) := by decide +kernel
theorem dX8_undo_72 : decode cX8_undo 72 = .ok (.iaload, 1) := by decide +kernel
theorem dX8_undo_73 : decode cX8_undo 73 = .ok (.iconst 1, 1) := by decide +kernel
theorem dX8_undo_74 : decode cX8_undo 74 = .ok (.if_icmp .ne 67, 3) := by decide +kernel
theorem dX8_undo_77 : decode cX8_undo 77 = .ok (.aload_n 0, 1) := by decide +kernel
theorem dX8_undo_78 : decode cX8_undo 78 = .ok (.getfield 26, 3) := by decide +kernel
theorem dX8_undo_81 : decode cX8_undo 81 = .ok (.iconst 0, 1) := by decide +kernel
theorem dX8_undo_82 : decode cX8_undo 82 = .ok (.dup2, 1) := by decide +kernel
theorem dX8_undo_83 : decode cX8_undo 83 = .ok (.laload, 1) := by decide +kernel
theorem dX8_undo_84 : decode cX8_undo 84 = .ok (.aload_n 0, 1) := by decide +kernel
theorem dX8_undo_85 : decode cX8_undo 85 = .ok (.iload_n 1, 1) := by decide +kernel
theorem dX8_undo_86 : decode cX8_undo 86 = .ok (.invokevirtual 145, 3) := by decide +kernel
theorem dX8_undo_89 : decode cX8_undo 89 = .ok (.i2l, 1) := by decide +kernel
theorem dX8_undo_90 : decode cX8_undo 90 = .ok (.lsub, 1) := by decide +kernel
theorem dX8_undo_91 : decode cX8_undo 91 = .ok (.lastore, 1) := by decide +kernel
theorem dX8_undo_92 : decode cX8_undo 92 = .ok (.aload_n 0, 1) := by decide +kernel
theorem dX8_undo_93 : decode cX8_undo 93 = .ok (.getfield 26, 3) := by decide +kernel
theorem dX8_undo_96 : decode cX8_undo 96 = .ok (.iconst 2, 1) := by decide +kernel
theorem dX8_undo_97 : decode cX8_undo 97 = .ok (.dup2, 1) := by decide +kernel
theorem dX8_undo_98 : decode cX8_undo 98 = .ok (.laload, 1) := by decide +kernel
theorem dX8_undo_99 : decode cX8_undo 99 = .ok (.aload_n 0, 1) := by decide +kernel
theorem dX8_undo_100 : decode cX8_undo 100 = .ok (.getfield 20, 3) := by decide +kernel
theorem dX8_undo_103 : decode cX8_undo 103 = .ok (.iconst 5, 1) := by decide +kernel
theorem dX8_undo_104 : decode cX8_undo 104 = .ok (.iload_n 1, 1) := by decide +kernel
theorem dX8_undo_105 : decode cX8_undo 105 = .ok (.imul, 1) := by decide +kernel
theorem dX8_undo_106 : decode cX8_undo 106 = .ok (.iconst 3, 1) := by decide +kernel
theorem dX8_undo_107 : decode cX8_undo 107 = .ok (.iadd, 1) := by decide +kernel
theorem dX8_undo_108 : decode cX8_undo 108 = .ok (.iaload, 1) := by decide +kernel
theorem dX8_undo_109 : decode cX8_undo 109 = .ok (.bipush 50, 2) := by decide +kernel
theorem dX8_undo_111 : decode cX8_undo 111 = .ok (.isub, 1) := by decide +kernel
theorem dX8_undo_112 : decode cX8_undo 112 = .ok (.i2l, 1) := by decide +kernel
theorem dX8_undo_113 : decode cX8_undo 113 = .ok (.lsub, 1) := by decide +kernel
theorem dX8_undo_114 : decode cX8_undo 114 = .ok (.lastore, 1) := by decide +kernel
theorem dX8_undo_115 : decode cX8_undo 115 = .ok (.aload_n 0, 1) := by decide +kernel
theorem dX8_undo_116 : decode cX8_undo 116 = .ok (.getfield 26, 3) := by decide +kernel
theorem dX8_undo_119 : decode cX8_undo 119 = .ok (.iconst 3, 1) := by decide +kernel
theorem dX8_undo_120 : decode cX8_undo 120 = .ok (.dup2, 1) := by decide +kernel
theorem dX8_undo_121 : decode cX8_undo 121 = .ok (.laload, 1) := by decide +kernel
theorem dX8_undo_122 : decode cX8_undo 122 = .ok (.aload_n 0, 1) := by decide +kernel
theorem dX8_undo_123 : decode cX8_undo 123 = .ok (.getfield 20, 3) := by decide +kernel
theorem dX8_undo_126 : decode cX8_undo 126 = .ok (.iconst 5, 1) := by decide +kernel
theorem dX8_undo_127 : decode cX8_undo 127 = .ok (.iload_n 1, 1) := by decide +kernel
theorem dX8_undo_128 : decode cX8_undo 128 = .ok (.imul, 1) := by decide +kernel
theorem dX8_undo_129 : decode cX8_undo 129 = .ok (.iconst 4, 1) := by decide +kernel
theorem dX8_undo_130 : decode cX8_undo 130 = .ok (.iadd, 1) := by decide +kernel
theorem dX8_undo_131 : decode cX8_undo 131 = .ok (.iaload, 1) := by decide +kernel
theorem dX8_undo_132 : decode cX8_undo 132 = .ok (.bipush 50, 2) := by decide +kernel
theorem dX8_undo_134 : decode cX8_undo 134 = .ok (.isub, 1) := by decide +kernel
theorem dX8_undo_135 : decode cX8_undo 135 = .ok (.i2l, 1) := by decide +kernel
theorem dX8_undo_136 : decode cX8_undo 136 = .ok (.lsub, 1) := by decide +kernel
theorem dX8_undo_137 : decode cX8_undo 137 = .ok (.lastore, 1) := by decide +kernel
theorem dX8_undo_138 : decode cX8_undo 138 = .ok (.goto 22, 3) := by decide +kernel
theorem dX8_undo_141 : decode cX8_undo 141 = .ok (.aload_n 0, 1) := by decide +kernel
theorem dX8_undo_142 : decode cX8_undo 142 = .ok (.getfield 23, 3) := by decide +kernel
theorem dX8_undo_145 : decode cX8_undo 145 = .ok (.iload_n 1, 1) := by decide +kernel
theorem dX8_undo_146 : decode cX8_undo 146 = .ok (.aload_n 0, 1) := by decide +kernel
theorem dX8_undo_147 : decode cX8_undo 147 = .ok (.getfield 30, 3) := by decide +kernel
theorem dX8_undo_150 : decode cX8_undo 150 = .ok (.iconst 3, 1) := by decide +kernel
theorem dX8_undo_151 : decode cX8_undo 151 = .ok (.aload_n 0, 1) := by decide +kernel
theorem dX8_undo_152 : decode cX8_undo 152 = .ok (.getfield 86, 3) := by decide +kernel
theorem dX8_undo_155 : decode cX8_undo 155 = .ok (.imul, 1) := by decide +kernel
theorem dX8_undo_156 : decode cX8_undo 156 = .ok (.iconst 2, 1) := by decide +kernel
theorem dX8_undo_157 : decode cX8_undo 157 = .ok (.iadd, 1) := by decide +kernel
theorem dX8_undo_158 : decode cX8_undo 158 = .ok (.iaload, 1) := by decide +kernel
theorem dX8_undo_159 : decode cX8_undo 159 = .ok (.iastore, 1) := by decide +kernel
theorem dX8_undo_160 : decode cX8_undo 160 = .ok (.aload_n 0, 1) := by decide +kernel
theorem dX8_undo_161 : decode cX8_undo 161 = .ok (.getfield 86, 3) := by decide +kernel
theorem dX8_undo_164 : decode cX8_undo 164 = .ok (.ireturn, 1) := by decide +kernel
theorem dX8_worth_0 : decode cX8_worth 0 = .ok (.aload_n 0, 1) := by decide +kernel
theorem dX8_worth_1 : decode cX8_worth 1 = .ok (.getfield 20, 3) := by decide +kernel
theorem dX8_worth_4 : decode cX8_worth 4 = .ok (.iconst 5, 1) := by decide +kernel
theorem dX8_worth_5 : decode cX8_worth 5 = .ok (.iload_n 1, 1) := by decide +kernel
theorem dX8_worth_6 : decode cX8_worth 6 = .ok (.imul, 1) := by decide +kernel
theorem dX8_worth_7 : decode cX8_worth 7 = .ok (.iconst 3, 1) := by decide +kernel
theorem dX8_worth_8 : decode cX8_worth 8 = .ok (.iadd, 1) := by decide +kernel
theorem dX8_worth_9 : decode cX8_worth 9 = .ok (.iload_n 2, 1) := by decide +kernel
theorem dX8_worth_10 : decode cX8_worth 10 = .ok (.iadd, 1) := by decide +kernel
theorem dX8_worth_11 : decode cX8_worth 11 = .ok (.iaload, 1) := by decide +kernel
theorem dX8_worth_12 : decode cX8_worth 12 = .ok (.bipush 50, 2) := by decide +kernel
theorem dX8_worth_14 : decode cX8_worth 14 = .ok (.isub, 1) := by decide +kernel
theorem dX8_worth_15 : decode cX8_worth 15 = .ok (.ireturn, 1) := by decide +kernel
theorem dX8_gains_0 : decode cX8_gains 0 = .ok (.iconst 0, 1) := by decide +kernel
theorem dX8_gains_1 : decode cX8_gains 1 = .ok (.istore 4, 2) := by decide +kernel
theorem dX8_gains_3 : decode cX8_gains 3 = .ok (.iconst 0, 1) := by decide +kernel
theorem dX8_gains_4 : decode cX8_gains 4 = .ok (.istore 5, 2) := by decide +kernel
theorem dX8_gains_6 : decode cX8_gains 6 = .ok (.iload 5, 2) := by decide +kernel
theorem dX8_gains_8 : decode cX8_gains 8 = .ok (.aload_n 0, 1) := by decide +kernel
theorem dX8_gains_9 : decode cX8_gains 9 = .ok (.getfield 17, 3) := by decide +kernel
theorem dX8_gains_12 : decode cX8_gains 12 = .ok (.iconst 0, 1) := by decide +kernel
theorem dX8_gains_13 : decode cX8_gains 13 = .ok (.iaload, 1) := by decide +kernel
theorem dX8_gains_14 : decode cX8_gains 14 = .ok (.if_icmp .ge 73, 3) := by decide +kernel
theorem dX8_gains_17 : decode cX8_gains 17 = .ok (.aload_n 0, 1) := by decide +kernel
theorem dX8_gains_18 : decode cX8_gains 18 = .ok (.getfield 23, 3) := by decide +kernel
theorem dX8_gains_21 : decode cX8_gains 21 = .ok (.iload 5, 2) := by decide +kernel
theorem dX8_gains_23 : decode cX8_gains 23 = .ok (.iaload, 1) := by decide +kernel
theorem dX8_gains_24 : decode cX8_gains 24 = .ok (.istore 6, 2) := by decide +kernel
theorem dX8_gains_26 : decode cX8_gains 26 = .ok (.iload 5, 2) := by decide +kernel
theorem dX8_gains_28 : decode cX8_gains 28 = .ok (.iload_n 2, 1) := by decide +kernel
theorem dX8_gains_29 : decode cX8_gains 29 = .ok (.if_icmp .ne 10, 3) := by decide +kernel
theorem dX8_gains_32 : decode cX8_gains 32 = .ok (.iload 6, 2) := by decide +kernel
theorem dX8_gains_34 : decode cX8_gains 34 = .ok (.iconst 2, 1) := by decide +kernel
theorem dX8_gains_35 : decode cX8_gains 35 = .ok (.iand, 1) := by decide +kernel
theorem dX8_gains_36 : decode cX8_gains 36 = .ok (.goto 5, 3) := by decide +kernel
theorem dX8_gains_39 : decode cX8_gains 39 = .ok (.iload 6, 2) := by decide +kernel
theorem dX8_gains_41 : decode cX8_gains 41 = .ok (.istore 6, 2) := by decide +kernel
theorem dX8_gains_43 : decode cX8_gains 43 = .ok (.iload 5, 2) := by decide +kernel
theorem dX8_gains_45 : decode cX8_gains 45 = .ok (.iload_n 3, 1) := by decide +kernel
theorem dX8_gains_46 : decode cX8_gains 46 = .ok (.if_icmp .ne 10, 3) := by decide +kernel
theorem dX8_gains_49 : decode cX8_gains 49 = .ok (.iload 6, 2) := by decide +kernel
theorem dX8_gains_51 : decode cX8_gains 51 = .ok (.iconst 1, 1) := by decide +kernel
theorem dX8_gains_52 : decode cX8_gains 52 = .ok (.iand, 1) := by decide +kernel
theorem dX8_gains_53 : decode cX8_gains 53 = .ok (.goto 5, 3) := by decide +kernel
theorem dX8_gains_56 : decode cX8_gains 56 = .ok (.iload 6, 2) := by decide +kernel
theorem dX8_gains_58 : decode cX8_gains 58 = .ok (.istore 6, 2) := by decide +kernel
theorem dX8_gains_60 : decode cX8_gains 60 = .ok (.iload 4, 2) := by decide +kernel
theorem dX8_gains_62 : decode cX8_gains 62 = .ok (.iload 6, 2) := by decide +kernel
theorem dX8_gains_64 : decode cX8_gains 64 = .ok (.ifCond .ne 7, 3) := by decide +kernel
theorem dX8_gains_67 : decode cX8_gains 67 = .ok (.iconst 0, 1) := by decide +kernel
theorem dX8_gains_68 : decode cX8_gains 68 = .ok (.goto 10, 3) := by decide +kernel
theorem dX8_gains_71 : decode cX8_gains 71 = .ok (.aload_n 0, 1) := by decide +kernel
theorem dX8_gains_72 : decode cX8_gains 72 = .ok (.iload 5, 2) := by decide +kernel
theorem dX8_gains_74 : decode cX8_gains 74 = .ok (.iload_n 1, 1) := by decide +kernel
theorem dX8_gains_75 : decode cX8_gains 75 = .ok (.invokevirtual 156, 3) := by decide +kernel
theorem dX8_gains_78 : decode cX8_gains 78 = .ok (.iadd, 1) := by decide +kernel
theorem dX8_gains_79 : decode cX8_gains 79 = .ok (.istore 4, 2) := by decide +kernel
theorem dX8_gains_81 : decode cX8_gains 81 = .ok (.iinc 5 1, 3) := by decide +kernel
theorem dX8_gains_84 : decode cX8_gains 84 = .ok (.goto (-78), 3) := by decide +kernel
theorem dX8_gains_87 : decode cX8_gains 87 = .ok (.iload 4, 2) := by decide +kernel
theorem dX8_gains_89 : decode cX8_gains 89 = .ok (.ireturn, 1) := by decide +kernel
theorem dX8_gain_0 : decode cX8_gain 0 = .ok (.iload_n 1, 1) := by decide +kernel
theorem dX8_gain_1 : decode cX8_gain 1 = .ok (.i2l, 1) := by decide +kernel
theorem dX8_gain_2 : decode cX8_gain 2 = .ok (.lconst 0, 1) := by decide +kernel
theorem dX8_gain_3 : decode cX8_gain 3 = .ok (.lconst 1, 1) := by decide +kernel
theorem dX8_gain_4 : decode cX8_gain 4 = .ok (.invokestatic 53, 3) := by decide +kernel
theorem dX8_gain_7 : decode cX8_gain 7 = .ok (.ifCond .eq 17, 3) := by decide +kernel
theorem dX8_gain_10 : decode cX8_gain 10 = .ok (.aload_n 0, 1) := by decide +kernel
theorem dX8_gain_11 : decode cX8_gain 11 = .ok (.iload_n 1, 1) := by decide +kernel
theorem dX8_gain_12 : decode cX8_gain 12 = .ok (.iconst (-1), 1) := by decide +kernel
theorem dX8_gain_13 : decode cX8_gain 13 = .ok (.iconst (-1), 1) := by decide +kernel
theorem dX8_gain_14 : decode cX8_gain 14 = .ok (.invokevirtual 160, 3) := by decide +kernel
theorem dX8_gain_17 : decode cX8_gain 17 = .ok (.sipush 1000, 3) := by decide +kernel
theorem dX8_gain_20 : decode cX8_gain 20 = .ok (.iadd, 1) := by decide +kernel
theorem dX8_gain_21 : decode cX8_gain 21 = .ok (.goto 4, 3) := by decide +kernel
theorem dX8_gain_24 : decode cX8_gain 24 = .ok (.iconst (-1), 1) := by decide +kernel
theorem dX8_gain_25 : decode cX8_gain 25 = .ok (.ireturn, 1) := by decide +kernel
theorem dX8_forbid_0 : decode cX8_forbid 0 = .ok (.iload_n 1, 1) := by decide +kernel
theorem dX8_forbid_1 : decode cX8_forbid 1 = .ok (.i2l, 1) := by decide +kernel
theorem dX8_forbid_2 : decode cX8_forbid 2 = .ok (.ldc2_w 130, 3) := by decide +kernel
theorem dX8_forbid_5 : decode cX8_forbid 5 = .ok (.aload_n 0, 1) := by decide +kernel
theorem dX8_forbid_6 : decode cX8_forbid 6 = .ok (.getfield 17, 3) := by decide +kernel
theorem dX8_forbid_9 : decode cX8_forbid 9 = .ok (.iconst 0, 1) := by decide +kernel
theorem dX8_forbid_10 : decode cX8_forbid 10 = .ok (.iaload, 1) := by decide +kernel
theorem dX8_forbid_11 : decode cX8_forbid 11 = .ok (.iconst 1, 1) := by decide +kernel
theorem dX8_forbid_12 : decode cX8_forbid 12 = .ok (.isub, 1) := by decide +kernel
theorem dX8_forbid_13 : decode cX8_forbid 13 = .ok (.i2l, 1) := by decide +kernel
theorem dX8_forbid_14 : decode cX8_forbid 14 = .ok (.invokestatic 53, 3) := by decide +kernel
theorem dX8_forbid_17 : decode cX8_forbid 17 = .ok (.ifCond .eq 47, 3) := by decide +kernel
theorem dX8_forbid_20 : decode cX8_forbid 20 = .ok (.iload_n 2, 1) := by decide +kernel
theorem dX8_forbid_21 : decode cX8_forbid 21 = .ok (.i2l, 1) := by decide +kernel
theorem dX8_forbid_22 : decode cX8_forbid 22 = .ok (.ldc2_w 130, 3) := by decide +kernel
theorem dX8_forbid_25 : decode cX8_forbid 25 = .ok (.aload_n 0, 1) := by decide +kernel
theorem dX8_forbid_26 : decode cX8_forbid 26 = .ok (.getfield 17, 3) := by decide +kernel
theorem dX8_forbid_29 : decode cX8_forbid 29 = .ok (.iconst 0, 1) := by decide +kernel
theorem dX8_forbid_30 : decode cX8_forbid 30 = .ok (.iaload, 1) := by decide +kernel
theorem dX8_forbid_31 : decode cX8_forbid 31 = .ok (.iconst 1, 1) := by decide +kernel
theorem dX8_forbid_32 : decode cX8_forbid 32 = .ok (.isub, 1) := by decide +kernel
theorem dX8_forbid_33 : decode cX8_forbid 33 = .ok (.i2l, 1) := by decide +kernel
theorem dX8_forbid_34 : decode cX8_forbid 34 = .ok (.invokestatic 53, 3) := by decide +kernel
theorem dX8_forbid_37 : decode cX8_forbid 37 = .ok (.ifCond .eq 27, 3) := by decide +kernel
theorem dX8_forbid_40 : decode cX8_forbid 40 = .ok (.iload_n 3, 1) := by decide +kernel
theorem dX8_forbid_41 : decode cX8_forbid 41 = .ok (.i2l, 1) := by decide +kernel
theorem dX8_forbid_42 : decode cX8_forbid 42 = .ok (.lconst 0, 1) := by decide +kernel
theorem dX8_forbid_43 : decode cX8_forbid 43 = .ok (.lconst 1, 1) := by decide +kernel
theorem dX8_forbid_44 : decode cX8_forbid 44 = .ok (.invokestatic 53, 3) := by decide +kernel
theorem dX8_forbid_47 : decode cX8_forbid 47 = .ok (.ifCond .eq 17, 3) := by decide +kernel
theorem dX8_forbid_50 : decode cX8_forbid 50 = .ok (.aload_n 0, 1) := by decide +kernel
theorem dX8_forbid_51 : decode cX8_forbid 51 = .ok (.iload_n 3, 1) := by decide +kernel
theorem dX8_forbid_52 : decode cX8_forbid 52 = .ok (.iload_n 1, 1) := by decide +kernel
theorem dX8_forbid_53 : decode cX8_forbid 53 = .ok (.iload_n 2, 1) := by decide +kernel
theorem dX8_forbid_54 : decode cX8_forbid 54 = .ok (.invokevirtual 160, 3) := by decide +kernel
theorem dX8_forbid_57 : decode cX8_forbid 57 = .ok (.sipush 1000, 3) := by decide +kernel
theorem dX8_forbid_60 : decode cX8_forbid 60 = .ok (.iadd, 1) := by decide +kernel
theorem dX8_forbid_61 : decode cX8_forbid 61 = .ok (.goto 4, 3) := by decide +kernel
theorem dX8_forbid_64 : decode cX8_forbid 64 = .ok (.iconst (-1), 1) := by decide +kernel
theorem dX8_forbid_65 : decode cX8_forbid 65 = .ok (.ireturn, 1) := by decide +kernel
theorem dX8_isRest_0 : decode cX8_isRest 0 = .ok (.iconst 1, 1) := by decide +kernel
theorem dX8_isRest_1 : decode cX8_isRest 1 = .ok (.istore_n 3, 1) := by decide +kernel
theorem dX8_isRest_2 : decode cX8_isRest 2 = .ok (.iconst (-1), 1) := by decide +kernel
theorem dX8_isRest_3 : decode cX8_isRest 3 = .ok (.istore 4, 2) := by decide +kernel
theorem dX8_isRest_5 : decode cX8_isRest 5 = .ok (.iload 4, 2) := by decide +kernel
theorem dX8_isRest_7 : decode cX8_isRest 7 = .ok (.aload_n 0, 1) := by decide +kernel
theorem dX8_isRest_8 : decode cX8_isRest 8 = .ok (.getfield 17, 3) := by decide +kernel
theorem dX8_isRest_11 : decode cX8_isRest 11 = .ok (.iconst 0, 1) := by decide +kernel
theorem dX8_isRest_12 : decode cX8_isRest 12 = .ok (.iaload, 1) := by decide +kernel
theorem dX8_isRest_13 : decode cX8_isRest 13 = .ok (.if_icmp .ge 55, 3) := by decide +kernel
theorem dX8_isRest_16 : decode cX8_isRest 16 = .ok (.iload_n 3, 1) := by decide +kernel
theorem dX8_isRest_17 : decode cX8_isRest 17 = .ok (.ifCond .eq 43, 3) := by decide +kernel
theorem dX8_isRest_20 : decode cX8_isRest 20 = .ok (.aload_n 0, 1) := by decide +kernel
theorem dX8_isRest_21 : decode cX8_isRest 21 = .ok (.iconst 0, 1) := by decide +kernel
theorem dX8_isRest_22 : decode cX8_isRest 22 = .ok (.iload 4, 2) := by decide +kernel
theorem dX8_isRest_24 : decode cX8_isRest 24 = .ok (.iload_n 2, 1) := by decide +kernel
theorem dX8_isRest_25 : decode cX8_isRest 25 = .ok (.invokevirtual 160, 3) := by decide +kernel
theorem dX8_isRest_28 : decode cX8_isRest 28 = .ok (.aload_n 0, 1) := by decide +kernel
theorem dX8_isRest_29 : decode cX8_isRest 29 = .ok (.iconst 0, 1) := by decide +kernel
theorem dX8_isRest_30 : decode cX8_isRest 30 = .ok (.iload_n 1, 1) := by decide +kernel
theorem dX8_isRest_31 : decode cX8_isRest 31 = .ok (.iload_n 2, 1) := by decide +kernel
theorem dX8_isRest_32 : decode cX8_isRest 32 = .ok (.invokevirtual 160, 3) := by decide +kernel
theorem dX8_isRest_35 : decode cX8_isRest 35 = .ok (.if_icmp .gt 25, 3) := by decide +kernel
theorem dX8_isRest_38 : decode cX8_isRest 38 = .ok (.aload_n 0, 1) := by decide +kernel
theorem dX8_isRest_39 : decode cX8_isRest 39 = .ok (.iconst 1, 1) := by decide +kernel
theorem dX8_isRest_40 : decode cX8_isRest 40 = .ok (.iload_n 1, 1) := by decide +kernel
theorem dX8_isRest_41 : decode cX8_isRest 41 = .ok (.iload 4, 2) := by decide +kernel
theorem dX8_isRest_43 : decode cX8_isRest 43 = .ok (.invokevirtual 160, 3) := by decide +kernel
theorem dX8_isRest_46 : decode cX8_isRest 46 = .ok (.aload_n 0, 1) := by decide +kernel
theorem dX8_isRest_47 : decode cX8_isRest 47 = .ok (.iconst 1, 1) := by decide +kernel
theorem dX8_isRest_48 : decode cX8_isRest 48 = .ok (.iload_n 1, 1) := by decide +kernel
theorem dX8_isRest_49 : decode cX8_isRest 49 = .ok (.iload_n 2, 1) := by decide +kernel
theorem dX8_isRest_50 : decode cX8_isRest 50 = .ok (.invokevirtual 160, 3) := by decide +kernel
theorem dX8_isRest_53 : decode cX8_isRest 53 = .ok (.if_icmp .gt 7, 3) := by decide +kernel
theorem dX8_isRest_56 : decode cX8_isRest 56 = .ok (.iconst 1, 1) := by decide +kernel
theorem dX8_isRest_57 : decode cX8_isRest 57 = .ok (.goto 4, 3) := by decide +kernel
theorem dX8_isRest_60 : decode cX8_isRest 60 = .ok (.iconst 0, 1) := by decide +kernel
theorem dX8_isRest_61 : decode cX8_isRest 61 = .ok (.istore_n 3, 1) := by decide +kernel
theorem dX8_isRest_62 : decode cX8_isRest 62 = .ok (.iinc 4 1, 3) := by decide +kernel
theorem dX8_isRest_65 : decode cX8_isRest 65 = .ok (.goto (-60), 3) := by decide +kernel
theorem dX8_isRest_68 : decode cX8_isRest 68 = .ok (.iload_n 3, 1) := by decide +kernel
theorem dX8_isRest_69 : decode cX8_isRest 69 = .ok (.ireturn, 1) := by decide +kernel
theorem dX8_rests_0 : decode cX8_rests 0 = .ok (.iload_n 1, 1) := by decide +kernel
theorem dX8_rests_1 : decode cX8_rests 1 = .ok (.i2l, 1) := by decide +kernel
theorem dX8_rests_2 : decode cX8_rests 2 = .ok (.lconst 0, 1) := by decide +kernel
theorem dX8_rests_3 : decode cX8_rests 3 = .ok (.ldc2_w 124, 3) := by decide +kernel
theorem dX8_rests_6 : decode cX8_rests 6 = .ok (.invokestatic 53, 3) := by decide +kernel
theorem dX8_rests_9 : decode cX8_rests 9 = .ok (.ifCond .ne 5, 3) := by decide +kernel
theorem dX8_rests_12 : decode cX8_rests 12 = .ok (.iconst (-1), 1) := by decide +kernel
theorem dX8_rests_13 : decode cX8_rests 13 = .ok (.ireturn, 1) := by decide +kernel
theorem dX8_rests_14 : decode cX8_rests 14 = .ok (.iconst 0, 1) := by decide +kernel
theorem dX8_rests_15 : decode cX8_rests 15 = .ok (.istore_n 2, 1) := by decide +kernel
theorem dX8_rests_16 : decode cX8_rests 16 = .ok (.iconst (-1), 1) := by decide +kernel
theorem dX8_rests_17 : decode cX8_rests 17 = .ok (.istore_n 3, 1) := by decide +kernel
theorem dX8_rests_18 : decode cX8_rests 18 = .ok (.iload_n 3, 1) := by decide +kernel
theorem dX8_rests_19 : decode cX8_rests 19 = .ok (.aload_n 0, 1) := by decide +kernel
theorem dX8_rests_20 : decode cX8_rests 20 = .ok (.getfield 17, 3) := by decide +kernel
theorem dX8_rests_23 : decode cX8_rests 23 = .ok (.iconst 0, 1) := by decide +kernel
theorem dX8_rests_24 : decode cX8_rests 24 = .ok (.iaload, 1) := by decide +kernel
theorem dX8_rests_25 : decode cX8_rests 25 = .ok (.if_icmp .ge 72, 3) := by decide +kernel
theorem dX8_rests_28 : decode cX8_rests 28 = .ok (.iconst (-1), 1) := by decide +kernel
theorem dX8_rests_29 : decode cX8_rests 29 = .ok (.istore 4, 2) := by decide +kernel
theorem dX8_rests_31 : decode cX8_rests 31 = .ok (.iload 4, 2) := by decide +kernel
theorem dX8_rests_33 : decode cX8_rests 33 = .ok (.aload_n 0, 1) := by decide +kernel
theorem dX8_rests_34 : decode cX8_rests 34 = .ok (.getfield 17, 3) := by decide +kernel
theorem dX8_rests_37 : decode cX8_rests 37 = .ok (.iconst 0, 1) := by decide +kernel
theorem dX8_rests_38 : decode cX8_rests 38 = .ok (.iaload, 1) := by decide +kernel
theorem dX8_rests_39 : decode cX8_rests 39 = .ok (.if_icmp .ge 52, 3) := by decide +kernel
theorem dX8_rests_42 : decode cX8_rests 42 = .ok (.aload_n 0, 1) := by decide +kernel
theorem dX8_rests_43 : decode cX8_rests 43 = .ok (.iload_n 3, 1) := by decide +kernel
theorem dX8_rests_44 : decode cX8_rests 44 = .ok (.iload 4, 2) := by decide +kernel
theorem dX8_rests_46 : decode cX8_rests 46 = .ok (.invokevirtual 164, 3) := by decide +kernel
theorem dX8_rests_49 : decode cX8_rests 49 = .ok (.ifCond .eq 36, 3) := by decide +kernel
theorem dX8_rests_52 : decode cX8_rests 52 = .ok (.iinc 2 1, 3) := by decide +kernel
theorem dX8_rests_55 : decode cX8_rests 55 = .ok (.iload_n 1, 1) := by decide +kernel
theorem dX8_rests_56 : decode cX8_rests 56 = .ok (.ifCond .le 29, 3) := by decide +kernel
theorem dX8_rests_59 : decode cX8_rests 59 = .ok (.iload_n 1, 1) := by decide +kernel
theorem dX8_rests_60 : decode cX8_rests 60 = .ok (.iconst 1, 1) := by decide +kernel
theorem dX8_rests_61 : decode cX8_rests 61 = .ok (.if_icmp .ne 7, 3) := by decide +kernel
theorem dX8_rests_64 : decode cX8_rests 64 = .ok (.iload_n 3, 1) := by decide +kernel
theorem dX8_rests_65 : decode cX8_rests 65 = .ok (.goto 5, 3) := by decide +kernel
theorem dX8_rests_68 : decode cX8_rests 68 = .ok (.iload 4, 2) := by decide +kernel
theorem dX8_rests_70 : decode cX8_rests 70 = .ok (.istore 5, 2) := by decide +kernel
theorem dX8_rests_72 : decode cX8_rests 72 = .ok (.iload 5, 2) := by decide +kernel
theorem dX8_rests_74 : decode cX8_rests 74 = .ok (.ifCond .ge 8, 3) := by decide +kernel
theorem dX8_rests_77 : decode cX8_rests 77 = .ok (.bipush (-4), 2) := by decide +kernel
theorem dX8_rests_79 : decode cX8_rests 79 = .ok (.goto 5, 3) := by decide +kernel
theorem dX8_rests_82 : decode cX8_rests 82 = .ok (.iload 5, 2) := by decide +kernel
theorem dX8_rests_84 : decode cX8_rests 84 = .ok (.ireturn, 1) := by decide +kernel
theorem dX8_rests_85 : decode cX8_rests 85 = .ok (.iinc 4 1, 3) := by decide +kernel
theorem dX8_rests_88 : decode cX8_rests 88 = .ok (.goto (-57), 3) := by decide +kernel
theorem dX8_rests_91 : decode cX8_rests 91 = .ok (.iinc 3 1, 3) := by decide +kernel
theorem dX8_rests_94 : decode cX8_rests 94 = .ok (.goto (-76), 3) := by decide +kernel
theorem dX8_rests_97 : decode cX8_rests 97 = .ok (.iload_n 1, 1) := by decide +kernel
theorem dX8_rests_98 : decode cX8_rests 98 = .ok (.ifCond .ne 7, 3) := by decide +kernel
theorem dX8_rests_101 : decode cX8_rests 101 = .ok (.iload_n 2, 1) := by decide +kernel
theorem dX8_rests_102 : decode cX8_rests 102 = .ok (.goto 5, 3) := by decide +kernel
theorem dX8_rests_105 : decode cX8_rests 105 = .ok (.bipush (-4), 2) := by decide +kernel
theorem dX8_rests_107 : decode cX8_rests 107 = .ok (.ireturn, 1) := by decide +kernel
theorem dX8_isFirm_0 : decode cX8_isFirm 0 = .ok (.iconst 1, 1) := by decide +kernel
theorem dX8_isFirm_1 : decode cX8_isFirm 1 = .ok (.istore_n 2, 1) := by decide +kernel
theorem dX8_isFirm_2 : decode cX8_isFirm 2 = .ok (.iconst 0, 1) := by decide +kernel
theorem dX8_isFirm_3 : decode cX8_isFirm 3 = .ok (.istore_n 3, 1) := by decide +kernel
theorem dX8_isFirm_4 : decode cX8_isFirm 4 = .ok (.iload_n 3, 1) := by decide +kernel
theorem dX8_isFirm_5 : decode cX8_isFirm 5 = .ok (.aload_n 0, 1) := by decide +kernel
theorem dX8_isFirm_6 : decode cX8_isFirm 6 = .ok (.getfield 17, 3) := by decide +kernel
theorem dX8_isFirm_9 : decode cX8_isFirm 9 = .ok (.iconst 0, 1) := by decide +kernel
theorem dX8_isFirm_10 : decode cX8_isFirm 10 = .ok (.iaload, 1) := by decide +kernel
theorem dX8_isFirm_11 : decode cX8_isFirm 11 = .ok (.if_icmp .ge 45, 3) := by decide +kernel
theorem dX8_isFirm_14 : decode cX8_isFirm 14 = .ok (.iload_n 2, 1) := by decide +kernel
theorem dX8_isFirm_15 : decode cX8_isFirm 15 = .ok (.ifCond .eq 33, 3) := by decide +kernel
theorem dX8_isFirm_18 : decode cX8_isFirm 18 = .ok (.iload_n 1, 1) := by decide +kernel
theorem dX8_isFirm_19 : decode cX8_isFirm 19 = .ok (.iload_n 3, 1) := by decide +kernel
theorem dX8_isFirm_20 : decode cX8_isFirm 20 = .ok (.ishr, 1) := by decide +kernel
theorem dX8_isFirm_21 : decode cX8_isFirm 21 = .ok (.iconst 1, 1) := by decide +kernel
theorem dX8_isFirm_22 : decode cX8_isFirm 22 = .ok (.iand, 1) := by decide +kernel
theorem dX8_isFirm_23 : decode cX8_isFirm 23 = .ok (.ifCond .eq 21, 3) := by decide +kernel
theorem dX8_isFirm_26 : decode cX8_isFirm 26 = .ok (.aload_n 0, 1) := by decide +kernel
theorem dX8_isFirm_27 : decode cX8_isFirm 27 = .ok (.iload_n 3, 1) := by decide +kernel
theorem dX8_isFirm_28 : decode cX8_isFirm 28 = .ok (.iconst 0, 1) := by decide +kernel
theorem dX8_isFirm_29 : decode cX8_isFirm 29 = .ok (.invokevirtual 156, 3) := by decide +kernel
theorem dX8_isFirm_32 : decode cX8_isFirm 32 = .ok (.ifCond .lt 16, 3) := by decide +kernel
theorem dX8_isFirm_35 : decode cX8_isFirm 35 = .ok (.aload_n 0, 1) := by decide +kernel
theorem dX8_isFirm_36 : decode cX8_isFirm 36 = .ok (.iload_n 3, 1) := by decide +kernel
theorem dX8_isFirm_37 : decode cX8_isFirm 37 = .ok (.iconst 1, 1) := by decide +kernel
theorem dX8_isFirm_38 : decode cX8_isFirm 38 = .ok (.invokevirtual 156, 3) := by decide +kernel
theorem dX8_isFirm_41 : decode cX8_isFirm 41 = .ok (.ifCond .lt 7, 3) := by decide +kernel
theorem dX8_isFirm_44 : decode cX8_isFirm 44 = .ok (.iconst 1, 1) := by decide +kernel
theorem dX8_isFirm_45 : decode cX8_isFirm 45 = .ok (.goto 4, 3) := by decide +kernel
theorem dX8_isFirm_48 : decode cX8_isFirm 48 = .ok (.iconst 0, 1) := by decide +kernel
theorem dX8_isFirm_49 : decode cX8_isFirm 49 = .ok (.istore_n 2, 1) := by decide +kernel
theorem dX8_isFirm_50 : decode cX8_isFirm 50 = .ok (.iinc 3 1, 3) := by decide +kernel
theorem dX8_isFirm_53 : decode cX8_isFirm 53 = .ok (.goto (-49), 3) := by decide +kernel
theorem dX8_isFirm_56 : decode cX8_isFirm 56 = .ok (.iload_n 2, 1) := by decide +kernel
theorem dX8_isFirm_57 : decode cX8_isFirm 57 = .ok (.ireturn, 1) := by decide +kernel
theorem dX8_isSet_0 : decode cX8_isSet 0 = .ok (.iload_n 1, 1) := by decide +kernel
theorem dX8_isSet_1 : decode cX8_isSet 1 = .ok (.i2l, 1) := by decide +kernel
theorem dX8_isSet_2 : decode cX8_isSet 2 = .ok (.lconst 0, 1) := by decide +kernel
theorem dX8_isSet_3 : decode cX8_isSet 3 = .ok (.iconst 1, 1) := by decide +kernel
theorem dX8_isSet_4 : decode cX8_isSet 4 = .ok (.aload_n 0, 1) := by decide +kernel
theorem dX8_isSet_5 : decode cX8_isSet 5 = .ok (.getfield 17, 3) := by decide +kernel
theorem dX8_isSet_8 : decode cX8_isSet 8 = .ok (.iconst 0, 1) := by decide +kernel
theorem dX8_isSet_9 : decode cX8_isSet 9 = .ok (.iaload, 1) := by decide +kernel
theorem dX8_isSet_10 : decode cX8_isSet 10 = .ok (.ishl, 1) := by decide +kernel
theorem dX8_isSet_11 : decode cX8_isSet 11 = .ok (.iconst 1, 1) := by decide +kernel
theorem dX8_isSet_12 : decode cX8_isSet 12 = .ok (.isub, 1) := by decide +kernel
theorem dX8_isSet_13 : decode cX8_isSet 13 = .ok (.i2l, 1) := by decide +kernel
theorem dX8_isSet_14 : decode cX8_isSet 14 = .ok (.invokestatic 53, 3) := by decide +kernel
theorem dX8_isSet_17 : decode cX8_isSet 17 = .ok (.ireturn, 1) := by decide +kernel
theorem dX8_firm_0 : decode cX8_firm 0 = .ok (.aload_n 0, 1) := by decide +kernel
theorem dX8_firm_1 : decode cX8_firm 1 = .ok (.iload_n 1, 1) := by decide +kernel
theorem dX8_firm_2 : decode cX8_firm 2 = .ok (.invokevirtual 168, 3) := by decide +kernel
theorem dX8_firm_5 : decode cX8_firm 5 = .ok (.ifCond .ne 7, 3) := by decide +kernel
theorem dX8_firm_8 : decode cX8_firm 8 = .ok (.iconst (-1), 1) := by decide +kernel
theorem dX8_firm_9 : decode cX8_firm 9 = .ok (.goto 16, 3) := by decide +kernel
theorem dX8_firm_12 : decode cX8_firm 12 = .ok (.aload_n 0, 1) := by decide +kernel
theorem dX8_firm_13 : decode cX8_firm 13 = .ok (.iload_n 1, 1) := by decide +kernel
theorem dX8_firm_14 : decode cX8_firm 14 = .ok (.invokevirtual 171, 3) := by decide +kernel
theorem dX8_firm_17 : decode cX8_firm 17 = .ok (.ifCond .eq 7, 3) := by decide +kernel
theorem dX8_firm_20 : decode cX8_firm 20 = .ok (.iconst 1, 1) := by decide +kernel
theorem dX8_firm_21 : decode cX8_firm 21 = .ok (.goto 4, 3) := by decide +kernel
theorem dX8_firm_24 : decode cX8_firm 24 = .ok (.iconst 0, 1) := by decide +kernel
theorem dX8_firm_25 : decode cX8_firm 25 = .ok (.ireturn, 1) := by decide +kernel
theorem dX8_together_0 : decode cX8_together 0 = .ok (.iconst 0, 1) := by decide +kernel
theorem dX8_together_1 : decode cX8_together 1 = .ok (.istore_n 2, 1) := by decide +kernel
theorem dX8_together_2 : decode cX8_together 2 = .ok (.iconst 0, 1) := by decide +kernel
theorem dX8_together_3 : decode cX8_together 3 = .ok (.istore_n 3, 1) := by decide +kernel
theorem dX8_together_4 : decode cX8_together 4 = .ok (.iload_n 3, 1) := by decide +kernel
theorem dX8_together_5 : decode cX8_together 5 = .ok (.aload_n 0, 1) := by decide +kernel
theorem dX8_together_6 : decode cX8_together 6 = .ok (.getfield 17, 3) := by decide +kernel
theorem dX8_together_9 : decode cX8_together 9 = .ok (.iconst 0, 1) := by decide +kernel
theorem dX8_together_10 : decode cX8_together 10 = .ok (.iaload, 1) := by decide +kernel
theorem dX8_together_11 : decode cX8_together 11 = .ok (.if_icmp .ge 47, 3) := by decide +kernel
theorem dX8_together_14 : decode cX8_together 14 = .ok (.iload_n 2, 1) := by decide +kernel
theorem dX8_together_15 : decode cX8_together 15 = .ok (.iload_n 1, 1) := by decide +kernel
theorem dX8_together_16 : decode cX8_together 16 = .ok (.iload_n 3, 1) := by decide +kernel
theorem dX8_together_17 : decode cX8_together 17 = .ok (.ishr, 1) := by decide +kernel
theorem dX8_together_18 : decode cX8_together 18 = .ok (.iconst 1, 1) := by decide +kernel
theorem dX8_together_19 : decode cX8_together 19 = .ok (.iand, 1) := by decide +kernel
theorem dX8_together_20 : decode cX8_together 20 = .ok (.iconst 1, 1) := by decide +kernel
theorem dX8_together_21 : decode cX8_together 21 = .ok (.if_icmp .eq 12, 3) := by decide +kernel
theorem dX8_together_24 : decode cX8_together 24 = .ok (.aload_n 0, 1) := by decide +kernel
theorem dX8_together_25 : decode cX8_together 25 = .ok (.getfield 23, 3) := by decide +kernel
theorem dX8_together_28 : decode cX8_together 28 = .ok (.iload_n 3, 1) := by decide +kernel
theorem dX8_together_29 : decode cX8_together 29 = .ok (.iaload, 1) := by decide +kernel
theorem dX8_together_30 : decode cX8_together 30 = .ok (.ifCond .le 19, 3) := by decide +kernel
theorem dX8_together_33 : decode cX8_together 33 = .ok (.aload_n 0, 1) := by decide +kernel
theorem dX8_together_34 : decode cX8_together 34 = .ok (.iload_n 3, 1) := by decide +kernel
theorem dX8_together_35 : decode cX8_together 35 = .ok (.iconst 0, 1) := by decide +kernel
theorem dX8_together_36 : decode cX8_together 36 = .ok (.invokevirtual 156, 3) := by decide +kernel
theorem dX8_together_39 : decode cX8_together 39 = .ok (.aload_n 0, 1) := by decide +kernel
theorem dX8_together_40 : decode cX8_together 40 = .ok (.iload_n 3, 1) := by decide +kernel
theorem dX8_together_41 : decode cX8_together 41 = .ok (.iconst 1, 1) := by decide +kernel
theorem dX8_together_42 : decode cX8_together 42 = .ok (.invokevirtual 156, 3) := by decide +kernel
theorem dX8_together_45 : decode cX8_together 45 = .ok (.iadd, 1) := by decide +kernel
theorem dX8_together_46 : decode cX8_together 46 = .ok (.goto 4, 3) := by decide +kernel
theorem dX8_together_49 : decode cX8_together 49 = .ok (.iconst 0, 1) := by decide +kernel
theorem dX8_together_50 : decode cX8_together 50 = .ok (.iadd, 1) := by decide +kernel
theorem dX8_together_51 : decode cX8_together 51 = .ok (.istore_n 2, 1) := by decide +kernel
theorem dX8_together_52 : decode cX8_together 52 = .ok (.iinc 3 1, 3) := by decide +kernel
theorem dX8_together_55 : decode cX8_together 55 = .ok (.goto (-51), 3) := by decide +kernel
theorem dX8_together_58 : decode cX8_together 58 = .ok (.iload_n 2, 1) := by decide +kernel
theorem dX8_together_59 : decode cX8_together 59 = .ok (.ireturn, 1) := by decide +kernel
theorem dX8_treaty_0 : decode cX8_treaty 0 = .ok (.iload_n 1, 1) := by decide +kernel
theorem dX8_treaty_1 : decode cX8_treaty 1 = .ok (.i2l, 1) := by decide +kernel
theorem dX8_treaty_2 : decode cX8_treaty 2 = .ok (.lconst 0, 1) := by decide +kernel
theorem dX8_treaty_3 : decode cX8_treaty 3 = .ok (.lconst 1, 1) := by decide +kernel
theorem dX8_treaty_4 : decode cX8_treaty 4 = .ok (.invokestatic 53, 3) := by decide +kernel
theorem dX8_treaty_7 : decode cX8_treaty 7 = .ok (.ifCond .ne 5, 3) := by decide +kernel
theorem dX8_treaty_10 : decode cX8_treaty 10 = .ok (.iconst (-1), 1) := by decide +kernel
theorem dX8_treaty_11 : decode cX8_treaty 11 = .ok (.ireturn, 1) := by decide +kernel
theorem dX8_treaty_12 : decode cX8_treaty 12 = .ok (.iconst 0, 1) := by decide +kernel
theorem dX8_treaty_13 : decode cX8_treaty 13 = .ok (.istore_n 2, 1) := by decide +kernel
theorem dX8_treaty_14 : decode cX8_treaty 14 = .ok (.aload_n 0, 1) := by decide +kernel
theorem dX8_treaty_15 : decode cX8_treaty 15 = .ok (.iconst 0, 1) := by decide +kernel
theorem dX8_treaty_16 : decode cX8_treaty 16 = .ok (.invokevirtual 174, 3) := by decide +kernel
theorem dX8_treaty_19 : decode cX8_treaty 19 = .ok (.istore_n 3, 1) := by decide +kernel
theorem dX8_treaty_20 : decode cX8_treaty 20 = .ok (.iconst 1, 1) := by decide +kernel
theorem dX8_treaty_21 : decode cX8_treaty 21 = .ok (.istore 4, 2) := by decide +kernel
theorem dX8_treaty_23 : decode cX8_treaty 23 = .ok (.iload 4, 2) := by decide +kernel
theorem dX8_treaty_25 : decode cX8_treaty 25 = .ok (.iconst 1, 1) := by decide +kernel
theorem dX8_treaty_26 : decode cX8_treaty 26 = .ok (.aload_n 0, 1) := by decide +kernel
theorem dX8_treaty_27 : decode cX8_treaty 27 = .ok (.getfield 17, 3) := by decide +kernel
theorem dX8_treaty_30 : decode cX8_treaty 30 = .ok (.iconst 0, 1) := by decide +kernel
theorem dX8_treaty_31 : decode cX8_treaty 31 = .ok (.iaload, 1) := by decide +kernel
theorem dX8_treaty_32 : decode cX8_treaty 32 = .ok (.ishl, 1) := by decide +kernel
theorem dX8_treaty_33 : decode cX8_treaty 33 = .ok (.if_icmp .ge 38, 3) := by decide +kernel
theorem dX8_treaty_36 : decode cX8_treaty 36 = .ok (.aload_n 0, 1) := by decide +kernel
theorem dX8_treaty_37 : decode cX8_treaty 37 = .ok (.iload 4, 2) := by decide +kernel
theorem dX8_treaty_39 : decode cX8_treaty 39 = .ok (.invokevirtual 171, 3) := by decide +kernel
theorem dX8_treaty_42 : decode cX8_treaty 42 = .ok (.ifCond .eq 23, 3) := by decide +kernel
theorem dX8_treaty_45 : decode cX8_treaty 45 = .ok (.aload_n 0, 1) := by decide +kernel
theorem dX8_treaty_46 : decode cX8_treaty 46 = .ok (.iload 4, 2) := by decide +kernel
theorem dX8_treaty_48 : decode cX8_treaty 48 = .ok (.invokevirtual 174, 3) := by decide +kernel
theorem dX8_treaty_51 : decode cX8_treaty 51 = .ok (.iload_n 3, 1) := by decide +kernel
theorem dX8_treaty_52 : decode cX8_treaty 52 = .ok (.if_icmp .le 13, 3) := by decide +kernel
theorem dX8_treaty_55 : decode cX8_treaty 55 = .ok (.iload 4, 2) := by decide +kernel
theorem dX8_treaty_57 : decode cX8_treaty 57 = .ok (.istore_n 2, 1) := by decide +kernel
theorem dX8_treaty_58 : decode cX8_treaty 58 = .ok (.aload_n 0, 1) := by decide +kernel
theorem dX8_treaty_59 : decode cX8_treaty 59 = .ok (.iload 4, 2) := by decide +kernel
theorem dX8_treaty_61 : decode cX8_treaty 61 = .ok (.invokevirtual 174, 3) := by decide +kernel
theorem dX8_treaty_64 : decode cX8_treaty 64 = .ok (.istore_n 3, 1) := by decide +kernel
theorem dX8_treaty_65 : decode cX8_treaty 65 = .ok (.iinc 4 1, 3) := by decide +kernel
theorem dX8_treaty_68 : decode cX8_treaty 68 = .ok (.goto (-45), 3) := by decide +kernel
theorem dX8_treaty_71 : decode cX8_treaty 71 = .ok (.iload_n 1, 1) := by decide +kernel
theorem dX8_treaty_72 : decode cX8_treaty 72 = .ok (.ifCond .ne 7, 3) := by decide +kernel
theorem dX8_treaty_75 : decode cX8_treaty 75 = .ok (.iload_n 2, 1) := by decide +kernel
theorem dX8_treaty_76 : decode cX8_treaty 76 = .ok (.goto 8, 3) := by decide +kernel
theorem dX8_treaty_79 : decode cX8_treaty 79 = .ok (.iload_n 3, 1) := by decide +kernel
theorem dX8_treaty_80 : decode cX8_treaty 80 = .ok (.sipush 2000, 3) := by decide +kernel
theorem dX8_treaty_83 : decode cX8_treaty 83 = .ok (.iadd, 1) := by decide +kernel
theorem dX8_treaty_84 : decode cX8_treaty 84 = .ok (.ireturn, 1) := by decide +kernel
theorem dX8_bargain_0 : decode cX8_bargain 0 = .ok (.aload_n 0, 1) := by decide +kernel
theorem dX8_bargain_1 : decode cX8_bargain 1 = .ok (.iload_n 1, 1) := by decide +kernel
theorem dX8_bargain_2 : decode cX8_bargain 2 = .ok (.invokevirtual 107, 3) := by decide +kernel
theorem dX8_bargain_5 : decode cX8_bargain 5 = .ok (.ifCond .eq 23, 3) := by decide +kernel
theorem dX8_bargain_8 : decode cX8_bargain 8 = .ok (.aload_n 0, 1) := by decide +kernel
theorem dX8_bargain_9 : decode cX8_bargain 9 = .ok (.iload_n 2, 1) := by decide +kernel
theorem dX8_bargain_10 : decode cX8_bargain 10 = .ok (.invokevirtual 107, 3) := by decide +kernel
theorem dX8_bargain_13 : decode cX8_bargain 13 = .ok (.ifCond .eq 15, 3) := by decide +kernel
theorem dX8_bargain_16 : decode cX8_bargain 16 = .ok (.iload_n 1, 1) := by decide +kernel
theorem dX8_bargain_17 : decode cX8_bargain 17 = .ok (.iload_n 2, 1) := by decide +kernel
theorem dX8_bargain_18 : decode cX8_bargain 18 = .ok (.if_icmp .eq 10, 3) := by decide +kernel
theorem dX8_bargain_21 : decode cX8_bargain 21 = .ok (.lload_n 3, 1) := by decide +kernel
theorem dX8_bargain_22 : decode cX8_bargain 22 = .ok (.invokestatic 114, 3) := by decide +kernel
theorem dX8_bargain_25 : decode cX8_bargain 25 = .ok (.ifCond .ne 7, 3) := by decide +kernel
theorem dX8_bargain_28 : decode cX8_bargain 28 = .ok (.ldc2_w 130, 3) := by decide +kernel
theorem dX8_bargain_31 : decode cX8_bargain 31 = .ok (.lreturn, 1) := by decide +kernel
theorem dX8_bargain_32 : decode cX8_bargain 32 = .ok (.lload_n 3, 1) := by decide +kernel
theorem dX8_bargain_33 : decode cX8_bargain 33 = .ok (.lstore 5, 2) := by decide +kernel
theorem dX8_bargain_35 : decode cX8_bargain 35 = .ok (.lload 5, 2) := by decide +kernel
theorem dX8_bargain_37 : decode cX8_bargain 37 = .ok (.lload_n 3, 1) := by decide +kernel
theorem dX8_bargain_38 : decode cX8_bargain 38 = .ok (.ldc2_w 143, 3) := by decide +kernel
theorem dX8_bargain_41 : decode cX8_bargain 41 = .ok (.ladd, 1) := by decide +kernel
theorem dX8_bargain_42 : decode cX8_bargain 42 = .ok (.lcmp, 1) := by decide +kernel
theorem dX8_bargain_43 : decode cX8_bargain 43 = .ok (.ifCond .gt 35, 3) := by decide +kernel
theorem dX8_bargain_46 : decode cX8_bargain 46 = .ok (.aload_n 0, 1) := by decide +kernel
theorem dX8_bargain_47 : decode cX8_bargain 47 = .ok (.iload_n 1, 1) := by decide +kernel
theorem dX8_bargain_48 : decode cX8_bargain 48 = .ok (.lload 5, 2) := by decide +kernel
theorem dX8_bargain_50 : decode cX8_bargain 50 = .ok (.invokevirtual 140, 3) := by decide +kernel
theorem dX8_bargain_53 : decode cX8_bargain 53 = .ok (.ifCond .eq 16, 3) := by decide +kernel
theorem dX8_bargain_56 : decode cX8_bargain 56 = .ok (.aload_n 0, 1) := by decide +kernel
theorem dX8_bargain_57 : decode cX8_bargain 57 = .ok (.iload_n 2, 1) := by decide +kernel
theorem dX8_bargain_58 : decode cX8_bargain 58 = .ok (.lload 5, 2) := by decide +kernel
theorem dX8_bargain_60 : decode cX8_bargain 60 = .ok (.invokevirtual 140, 3) := by decide +kernel
theorem dX8_bargain_63 : decode cX8_bargain 63 = .ok (.ifCond .eq 6, 3) := by decide +kernel
theorem dX8_bargain_66 : decode cX8_bargain 66 = .ok (.lload 5, 2) := by decide +kernel
theorem dX8_bargain_68 : decode cX8_bargain 68 = .ok (.lreturn, 1) := by decide +kernel
theorem dX8_bargain_69 : decode cX8_bargain 69 = .ok (.lload 5, 2) := by decide +kernel
theorem dX8_bargain_71 : decode cX8_bargain 71 = .ok (.lconst 1, 1) := by decide +kernel
theorem dX8_bargain_72 : decode cX8_bargain 72 = .ok (.ladd, 1) := by decide +kernel
theorem dX8_bargain_73 : decode cX8_bargain 73 = .ok (.lstore 5, 2) := by decide +kernel
theorem dX8_bargain_75 : decode cX8_bargain 75 = .ok (.goto (-40), 3) := by decide +kernel
theorem dX8_bargain_78 : decode cX8_bargain 78 = .ok (.ldc2_w 134, 3) := by decide +kernel
theorem dX8_bargain_81 : decode cX8_bargain 81 = .ok (.lreturn, 1) := by decide +kernel
theorem dX8_line_0 : decode cX8_line 0 = .ok (.iload_n 1, 1) := by decide +kernel
theorem dX8_line_1 : decode cX8_line 1 = .ok (.i2l, 1) := by decide +kernel
theorem dX8_line_2 : decode cX8_line 2 = .ok (.lconst 0, 1) := by decide +kernel
theorem dX8_line_3 : decode cX8_line 3 = .ok (.ldc2_w 177, 3) := by decide +kernel
theorem dX8_line_6 : decode cX8_line 6 = .ok (.invokestatic 53, 3) := by decide +kernel
theorem dX8_line_9 : decode cX8_line 9 = .ok (.ifCond .eq 15, 3) := by decide +kernel
theorem dX8_line_12 : decode cX8_line 12 = .ok (.iload_n 2, 1) := by decide +kernel
theorem dX8_line_13 : decode cX8_line 13 = .ok (.i2l, 1) := by decide +kernel
theorem dX8_line_14 : decode cX8_line 14 = .ok (.lconst 0, 1) := by decide +kernel
theorem dX8_line_15 : decode cX8_line 15 = .ok (.ldc2_w 124, 3) := by decide +kernel
theorem dX8_line_18 : decode cX8_line 18 = .ok (.invokestatic 53, 3) := by decide +kernel
theorem dX8_line_21 : decode cX8_line 21 = .ok (.ifCond .ne 5, 3) := by decide +kernel
theorem dX8_line_24 : decode cX8_line 24 = .ok (.iconst (-1), 1) := by decide +kernel
theorem dX8_line_25 : decode cX8_line 25 = .ok (.ireturn, 1) := by decide +kernel
theorem dX8_line_26 : decode cX8_line 26 = .ok (.aload_n 0, 1) := by decide +kernel
theorem dX8_line_27 : decode cX8_line 27 = .ok (.getfield 92, 3) := by decide +kernel
theorem dX8_line_30 : decode cX8_line 30 = .ok (.bipush 10, 2) := by decide +kernel
theorem dX8_line_32 : decode cX8_line 32 = .ok (.if_icmp .ne 6, 3) := by decide +kernel
theorem dX8_line_35 : decode cX8_line 35 = .ok (.bipush (-3), 2) := by decide +kernel
theorem dX8_line_37 : decode cX8_line 37 = .ok (.ireturn, 1) := by decide +kernel
theorem dX8_line_38 : decode cX8_line 38 = .ok (.aload_n 0, 1) := by decide +kernel
theorem dX8_line_39 : decode cX8_line 39 = .ok (.getfield 39, 3) := by decide +kernel
theorem dX8_line_42 : decode cX8_line 42 = .ok (.iconst 2, 1) := by decide +kernel
theorem dX8_line_43 : decode cX8_line 43 = .ok (.aload_n 0, 1) := by decide +kernel
theorem dX8_line_44 : decode cX8_line 44 = .ok (.getfield 92, 3) := by decide +kernel
theorem dX8_line_47 : decode cX8_line 47 = .ok (.imul, 1) := by decide +kernel
theorem dX8_line_48 : decode cX8_line 48 = .ok (.iload_n 1, 1) := by decide +kernel
theorem dX8_line_49 : decode cX8_line 49 = .ok (.iastore, 1) := by decide +kernel
theorem dX8_line_50 : decode cX8_line 50 = .ok (.aload_n 0, 1) := by decide +kernel
theorem dX8_line_51 : decode cX8_line 51 = .ok (.getfield 39, 3) := by decide +kernel
theorem dX8_line_54 : decode cX8_line 54 = .ok (.iconst 2, 1) := by decide +kernel
theorem dX8_line_55 : decode cX8_line 55 = .ok (.aload_n 0, 1) := by decide +kernel
theorem dX8_line_56 : decode cX8_line 56 = .ok (.getfield 92, 3) := by decide +kernel
theorem dX8_line_59 : decode cX8_line 59 = .ok (.imul, 1) := by decide +kernel
theorem dX8_line_60 : decode cX8_line 60 = .ok (.iconst 1, 1) := by decide +kernel
theorem dX8_line_61 : decode cX8_line 61 = .ok (.iadd, 1) := by decide +kernel
theorem dX8_line_62 : decode cX8_line 62 = .ok (.iload_n 2, 1) := by decide +kernel
theorem dX8_line_63 : decode cX8_line 63 = .ok (.iastore, 1) := by decide +kernel
theorem dX8_line_64 : decode cX8_line 64 = .ok (.aload_n 0, 1) := by decide +kernel
theorem dX8_line_65 : decode cX8_line 65 = .ok (.dup, 1) := by decide +kernel
theorem dX8_line_66 : decode cX8_line 66 = .ok (.getfield 92, 3) := by decide +kernel
theorem dX8_line_69 : decode cX8_line 69 = .ok (.iconst 1, 1) := by decide +kernel
theorem dX8_line_70 : decode cX8_line 70 = .ok (.iadd, 1) := by decide +kernel
theorem dX8_line_71 : decode cX8_line 71 = .ok (.putfield 92, 3) := by decide +kernel
theorem dX8_line_74 : decode cX8_line 74 = .ok (.aload_n 0, 1) := by decide +kernel
theorem dX8_line_75 : decode cX8_line 75 = .ok (.getfield 92, 3) := by decide +kernel
theorem dX8_line_78 : decode cX8_line 78 = .ok (.ireturn, 1) := by decide +kernel
theorem dX8_noTable_0 : decode cX8_noTable 0 = .ok (.aload_n 0, 1) := by decide +kernel
theorem dX8_noTable_1 : decode cX8_noTable 1 = .ok (.getfield 92, 3) := by decide +kernel
theorem dX8_noTable_4 : decode cX8_noTable 4 = .ok (.istore_n 1, 1) := by decide +kernel
theorem dX8_noTable_5 : decode cX8_noTable 5 = .ok (.aload_n 0, 1) := by decide +kernel
theorem dX8_noTable_6 : decode cX8_noTable 6 = .ok (.iconst 0, 1) := by decide +kernel
theorem dX8_noTable_7 : decode cX8_noTable 7 = .ok (.putfield 92, 3) := by decide +kernel
theorem dX8_noTable_10 : decode cX8_noTable 10 = .ok (.iload_n 1, 1) := by decide +kernel
theorem dX8_noTable_11 : decode cX8_noTable 11 = .ok (.ireturn, 1) := by decide +kernel
theorem dX8_forged_0 : decode cX8_forged 0 = .ok (.iconst 0, 1) := by decide +kernel
theorem dX8_forged_1 : decode cX8_forged 1 = .ok (.istore_n 1, 1) := by decide +kernel
theorem dX8_forged_2 : decode cX8_forged 2 = .ok (.iconst 0, 1) := by decide +kernel
theorem dX8_forged_3 : decode cX8_forged 3 = .ok (.istore_n 2, 1) := by decide +kernel
theorem dX8_forged_4 : decode cX8_forged 4 = .ok (.iload_n 2, 1) := by decide +kernel
theorem dX8_forged_5 : decode cX8_forged 5 = .ok (.aload_n 0, 1) := by decide +kernel
theorem dX8_forged_6 : decode cX8_forged 6 = .ok (.getfield 92, 3) := by decide +kernel
theorem dX8_forged_9 : decode cX8_forged 9 = .ok (.if_icmp .ge 45, 3) := by decide +kernel
theorem dX8_forged_12 : decode cX8_forged 12 = .ok (.iload_n 1, 1) := by decide +kernel
theorem dX8_forged_13 : decode cX8_forged 13 = .ok (.aload_n 0, 1) := by decide +kernel
theorem dX8_forged_14 : decode cX8_forged 14 = .ok (.aload_n 0, 1) := by decide +kernel
theorem dX8_forged_15 : decode cX8_forged 15 = .ok (.getfield 39, 3) := by decide +kernel
theorem dX8_forged_18 : decode cX8_forged 18 = .ok (.iconst 2, 1) := by decide +kernel
theorem dX8_forged_19 : decode cX8_forged 19 = .ok (.iload_n 2, 1) := by decide +kernel
theorem dX8_forged_20 : decode cX8_forged 20 = .ok (.imul, 1) := by decide +kernel
theorem dX8_forged_21 : decode cX8_forged 21 = .ok (.iaload, 1) := by decide +kernel
theorem dX8_forged_22 : decode cX8_forged 22 = .ok (.i2l, 1) := by decide +kernel
theorem dX8_forged_23 : decode cX8_forged 23 = .ok (.invokevirtual 118, 3) := by decide +kernel
theorem dX8_forged_26 : decode cX8_forged 26 = .ok (.aload_n 0, 1) := by decide +kernel
theorem dX8_forged_27 : decode cX8_forged 27 = .ok (.getfield 39, 3) := by decide +kernel
theorem dX8_forged_30 : decode cX8_forged 30 = .ok (.iconst 2, 1) := by decide +kernel
theorem dX8_forged_31 : decode cX8_forged 31 = .ok (.iload_n 2, 1) := by decide +kernel
theorem dX8_forged_32 : decode cX8_forged 32 = .ok (.imul, 1) := by decide +kernel
theorem dX8_forged_33 : decode cX8_forged 33 = .ok (.iconst 1, 1) := by decide +kernel
theorem dX8_forged_34 : decode cX8_forged 34 = .ok (.iadd, 1) := by decide +kernel
theorem dX8_forged_35 : decode cX8_forged 35 = .ok (.iaload, 1) := by decide +kernel
theorem dX8_forged_36 : decode cX8_forged 36 = .ok (.if_icmp .ne 7, 3) := by decide +kernel
theorem dX8_forged_39 : decode cX8_forged 39 = .ok (.iconst 0, 1) := by decide +kernel
theorem dX8_forged_40 : decode cX8_forged 40 = .ok (.goto 6, 3) := by decide +kernel
theorem dX8_forged_43 : decode cX8_forged 43 = .ok (.iconst 1, 1) := by decide +kernel
theorem dX8_forged_44 : decode cX8_forged 44 = .ok (.iload_n 2, 1) := by decide +kernel
theorem dX8_forged_45 : decode cX8_forged 45 = .ok (.ishl, 1) := by decide +kernel
theorem dX8_forged_46 : decode cX8_forged 46 = .ok (.ior, 1) := by decide +kernel
theorem dX8_forged_47 : decode cX8_forged 47 = .ok (.istore_n 1, 1) := by decide +kernel
theorem dX8_forged_48 : decode cX8_forged 48 = .ok (.iinc 2 1, 3) := by decide +kernel
theorem dX8_forged_51 : decode cX8_forged 51 = .ok (.goto (-47), 3) := by decide +kernel
theorem dX8_forged_54 : decode cX8_forged 54 = .ok (.iload_n 1, 1) := by decide +kernel
theorem dX8_forged_55 : decode cX8_forged 55 = .ok (.ireturn, 1) := by decide +kernel
theorem dX8_so_0 : decode cX8_so 0 = .ok (.iconst 0, 1) := by decide +kernel
theorem dX8_so_1 : decode cX8_so 1 = .ok (.istore_n 2, 1) := by decide +kernel
theorem dX8_so_2 : decode cX8_so 2 = .ok (.iconst 0, 1) := by decide +kernel
theorem dX8_so_3 : decode cX8_so 3 = .ok (.istore_n 3, 1) := by decide +kernel
theorem dX8_so_4 : decode cX8_so 4 = .ok (.iload_n 3, 1) := by decide +kernel
theorem dX8_so_5 : decode cX8_so 5 = .ok (.aload_n 0, 1) := by decide +kernel
theorem dX8_so_6 : decode cX8_so 6 = .ok (.getfield 92, 3) := by decide +kernel
theorem dX8_so_9 : decode cX8_so 9 = .ok (.if_icmp .ge 60, 3) := by decide +kernel
theorem dX8_so_12 : decode cX8_so 12 = .ok (.aload_n 0, 1) := by decide +kernel
theorem dX8_so_13 : decode cX8_so 13 = .ok (.getfield 39, 3) := by decide +kernel
theorem dX8_so_16 : decode cX8_so 16 = .ok (.iconst 2, 1) := by decide +kernel
theorem dX8_so_17 : decode cX8_so 17 = .ok (.iload_n 3, 1) := by decide +kernel
theorem dX8_so_18 : decode cX8_so 18 = .ok (.imul, 1) := by decide +kernel
theorem dX8_so_19 : decode cX8_so 19 = .ok (.iaload, 1) := by decide +kernel
theorem dX8_so_20 : decode cX8_so 20 = .ok (.iload_n 1, 1) := by decide +kernel
theorem dX8_so_21 : decode cX8_so 21 = .ok (.iadd, 1) := by decide +kernel
theorem dX8_so_22 : decode cX8_so 22 = .ok (.i2l, 1) := by decide +kernel
theorem dX8_so_23 : decode cX8_so 23 = .ok (.lstore 4, 2) := by decide +kernel
theorem dX8_so_25 : decode cX8_so 25 = .ok (.iload_n 2, 1) := by decide +kernel
theorem dX8_so_26 : decode cX8_so 26 = .ok (.aload_n 0, 1) := by decide +kernel
theorem dX8_so_27 : decode cX8_so 27 = .ok (.lload 4, 2) := by decide +kernel
theorem dX8_so_29 : decode cX8_so 29 = .ok (.lconst 0, 1) := by decide +kernel
theorem dX8_so_30 : decode cX8_so 30 = .ok (.lcmp, 1) := by decide +kernel
theorem dX8_so_31 : decode cX8_so 31 = .ok (.ifCond .ge 7, 3) := by decide +kernel
theorem dX8_so_34 : decode cX8_so 34 = .ok (.lconst 0, 1) := by decide +kernel
theorem dX8_so_35 : decode cX8_so 35 = .ok (.goto 5, 3) := by decide +kernel
theorem dX8_so_38 : decode cX8_so 38 = .ok (.lload 4, 2) := by decide +kernel
theorem dX8_so_40 : decode cX8_so 40 = .ok (.invokevirtual 118, 3) := by decide +kernel
theorem dX8_so_43 : decode cX8_so 43 = .ok (.aload_n 0, 1) := by decide +kernel
theorem dX8_so_44 : decode cX8_so 44 = .ok (.getfield 39, 3) := by decide +kernel
theorem dX8_so_47 : decode cX8_so 47 = .ok (.iconst 2, 1) := by decide +kernel
theorem dX8_so_48 : decode cX8_so 48 = .ok (.iload_n 3, 1) := by decide +kernel
theorem dX8_so_49 : decode cX8_so 49 = .ok (.imul, 1) := by decide +kernel
theorem dX8_so_50 : decode cX8_so 50 = .ok (.iconst 1, 1) := by decide +kernel
theorem dX8_so_51 : decode cX8_so 51 = .ok (.iadd, 1) := by decide +kernel
theorem dX8_so_52 : decode cX8_so 52 = .ok (.iaload, 1) := by decide +kernel
theorem dX8_so_53 : decode cX8_so 53 = .ok (.if_icmp .ne 7, 3) := by decide +kernel
theorem dX8_so_56 : decode cX8_so 56 = .ok (.iconst 1, 1) := by decide +kernel
theorem dX8_so_57 : decode cX8_so 57 = .ok (.goto 4, 3) := by decide +kernel
theorem dX8_so_60 : decode cX8_so 60 = .ok (.iconst 0, 1) := by decide +kernel
theorem dX8_so_61 : decode cX8_so 61 = .ok (.iadd, 1) := by decide +kernel
theorem dX8_so_62 : decode cX8_so 62 = .ok (.istore_n 2, 1) := by decide +kernel
theorem dX8_so_63 : decode cX8_so 63 = .ok (.iinc 3 1, 3) := by decide +kernel
theorem dX8_so_66 : decode cX8_so 66 = .ok (.goto (-62), 3) := by decide +kernel
theorem dX8_so_69 : decode cX8_so 69 = .ok (.iload_n 2, 1) := by decide +kernel
theorem dX8_so_70 : decode cX8_so 70 = .ok (.ireturn, 1) := by decide +kernel
theorem dX8_shift_0 : decode cX8_shift 0 = .ok (.iload_n 1, 1) := by decide +kernel
theorem dX8_shift_1 : decode cX8_shift 1 = .ok (.i2l, 1) := by decide +kernel
theorem dX8_shift_2 : decode cX8_shift 2 = .ok (.lconst 0, 1) := by decide +kernel
theorem dX8_shift_3 : decode cX8_shift 3 = .ok (.lconst 1, 1) := by decide +kernel
theorem dX8_shift_4 : decode cX8_shift 4 = .ok (.invokestatic 53, 3) := by decide +kernel
theorem dX8_shift_7 : decode cX8_shift 7 = .ok (.ifCond .ne 5, 3) := by decide +kernel
theorem dX8_shift_10 : decode cX8_shift 10 = .ok (.iconst (-1), 1) := by decide +kernel
theorem dX8_shift_11 : decode cX8_shift 11 = .ok (.ireturn, 1) := by decide +kernel
theorem dX8_shift_12 : decode cX8_shift 12 = .ok (.aload_n 0, 1) := by decide +kernel
theorem dX8_shift_13 : decode cX8_shift 13 = .ok (.iconst 0, 1) := by decide +kernel
theorem dX8_shift_14 : decode cX8_shift 14 = .ok (.invokevirtual 179, 3) := by decide +kernel
theorem dX8_shift_17 : decode cX8_shift 17 = .ok (.istore_n 2, 1) := by decide +kernel
theorem dX8_shift_18 : decode cX8_shift 18 = .ok (.aload_n 0, 1) := by decide +kernel
theorem dX8_shift_19 : decode cX8_shift 19 = .ok (.iconst 0, 1) := by decide +kernel
theorem dX8_shift_20 : decode cX8_shift 20 = .ok (.putfield 182, 3) := by decide +kernel
theorem dX8_shift_23 : decode cX8_shift 23 = .ok (.iconst 1, 1) := by decide +kernel
theorem dX8_shift_24 : decode cX8_shift 24 = .ok (.istore_n 3, 1) := by decide +kernel
theorem dX8_shift_25 : decode cX8_shift 25 = .ok (.iload_n 3, 1) := by decide +kernel
theorem dX8_shift_26 : decode cX8_shift 26 = .ok (.bipush 30, 2) := by decide +kernel
theorem dX8_shift_28 : decode cX8_shift 28 = .ok (.if_icmp .gt 68, 3) := by decide +kernel
theorem dX8_shift_31 : decode cX8_shift 31 = .ok (.iconst (-1), 1) := by decide +kernel
theorem dX8_shift_32 : decode cX8_shift 32 = .ok (.istore 4, 2) := by decide +kernel
theorem dX8_shift_34 : decode cX8_shift 34 = .ok (.iload 4, 2) := by decide +kernel
theorem dX8_shift_36 : decode cX8_shift 36 = .ok (.iconst 2, 1) := by decide +kernel
theorem dX8_shift_37 : decode cX8_shift 37 = .ok (.if_icmp .ge 53, 3) := by decide +kernel
theorem dX8_shift_40 : decode cX8_shift 40 = .ok (.aload_n 0, 1) := by decide +kernel
theorem dX8_shift_41 : decode cX8_shift 41 = .ok (.iload 4, 2) := by decide +kernel
theorem dX8_shift_43 : decode cX8_shift 43 = .ok (.iload_n 3, 1) := by decide +kernel
theorem dX8_shift_44 : decode cX8_shift 44 = .ok (.imul, 1) := by decide +kernel
theorem dX8_shift_45 : decode cX8_shift 45 = .ok (.invokevirtual 179, 3) := by decide +kernel
theorem dX8_shift_48 : decode cX8_shift 48 = .ok (.istore 5, 2) := by decide +kernel
theorem dX8_shift_50 : decode cX8_shift 50 = .ok (.aload_n 0, 1) := by decide +kernel
theorem dX8_shift_51 : decode cX8_shift 51 = .ok (.iload 5, 2) := by decide +kernel
theorem dX8_shift_53 : decode cX8_shift 53 = .ok (.iload_n 2, 1) := by decide +kernel
theorem dX8_shift_54 : decode cX8_shift 54 = .ok (.if_icmp .le 10, 3) := by decide +kernel
theorem dX8_shift_57 : decode cX8_shift 57 = .ok (.iload 4, 2) := by decide +kernel
theorem dX8_shift_59 : decode cX8_shift 59 = .ok (.iload_n 3, 1) := by decide +kernel
theorem dX8_shift_60 : decode cX8_shift 60 = .ok (.imul, 1) := by decide +kernel
theorem dX8_shift_61 : decode cX8_shift 61 = .ok (.goto 7, 3) := by decide +kernel
theorem dX8_shift_64 : decode cX8_shift 64 = .ok (.aload_n 0, 1) := by decide +kernel
theorem dX8_shift_65 : decode cX8_shift 65 = .ok (.getfield 182, 3) := by decide +kernel
theorem dX8_shift_68 : decode cX8_shift 68 = .ok (.putfield 182, 3) := by decide +kernel
theorem dX8_shift_71 : decode cX8_shift 71 = .ok (.iload 5, 2) := by decide +kernel
theorem dX8_shift_73 : decode cX8_shift 73 = .ok (.iload_n 2, 1) := by decide +kernel
theorem dX8_shift_74 : decode cX8_shift 74 = .ok (.if_icmp .le 8, 3) := by decide +kernel
theorem dX8_shift_77 : decode cX8_shift 77 = .ok (.iload 5, 2) := by decide +kernel
theorem dX8_shift_79 : decode cX8_shift 79 = .ok (.goto 4, 3) := by decide +kernel
theorem dX8_shift_82 : decode cX8_shift 82 = .ok (.iload_n 2, 1) := by decide +kernel
theorem dX8_shift_83 : decode cX8_shift 83 = .ok (.istore_n 2, 1) := by decide +kernel
theorem dX8_shift_84 : decode cX8_shift 84 = .ok (.iinc 4 2, 3) := by decide +kernel
theorem dX8_shift_87 : decode cX8_shift 87 = .ok (.goto (-53), 3) := by decide +kernel
theorem dX8_shift_90 : decode cX8_shift 90 = .ok (.iinc 3 1, 3) := by decide +kernel
theorem dX8_shift_93 : decode cX8_shift 93 = .ok (.goto (-68), 3) := by decide +kernel
theorem dX8_shift_96 : decode cX8_shift 96 = .ok (.iload_n 1, 1) := by decide +kernel
theorem dX8_shift_97 : decode cX8_shift 97 = .ok (.ifCond .ne 7, 3) := by decide +kernel
theorem dX8_shift_100 : decode cX8_shift 100 = .ok (.iload_n 2, 1) := by decide +kernel
theorem dX8_shift_101 : decode cX8_shift 101 = .ok (.goto 10, 3) := by decide +kernel
theorem dX8_shift_104 : decode cX8_shift 104 = .ok (.aload_n 0, 1) := by decide +kernel
theorem dX8_shift_105 : decode cX8_shift 105 = .ok (.getfield 182, 3) := by decide +kernel
theorem dX8_shift_108 : decode cX8_shift 108 = .ok (.bipush 30, 2) := by decide +kernel
theorem dX8_shift_110 : decode cX8_shift 110 = .ok (.iadd, 1) := by decide +kernel
theorem dX8_shift_111 : decode cX8_shift 111 = .ok (.ireturn, 1) := by decide +kernel
theorem dX8_wreck_0 : decode cX8_wreck 0 = .ok (.lload_n 1, 1) := by decide +kernel
theorem dX8_wreck_1 : decode cX8_wreck 1 = .ok (.invokestatic 114, 3) := by decide +kernel
theorem dX8_wreck_4 : decode cX8_wreck 4 = .ok (.ifCond .eq 37, 3) := by decide +kernel
theorem dX8_wreck_7 : decode cX8_wreck 7 = .ok (.iload_n 3, 1) := by decide +kernel
theorem dX8_wreck_8 : decode cX8_wreck 8 = .ok (.i2l, 1) := by decide +kernel
theorem dX8_wreck_9 : decode cX8_wreck 9 = .ok (.lconst 1, 1) := by decide +kernel
theorem dX8_wreck_10 : decode cX8_wreck 10 = .ok (.ldc2_w 185, 3) := by decide +kernel
theorem dX8_wreck_13 : decode cX8_wreck 13 = .ok (.invokestatic 53, 3) := by decide +kernel
theorem dX8_wreck_16 : decode cX8_wreck 16 = .ok (.ifCond .eq 25, 3) := by decide +kernel
theorem dX8_wreck_19 : decode cX8_wreck 19 = .ok (.iload 4, 2) := by decide +kernel
theorem dX8_wreck_21 : decode cX8_wreck 21 = .ok (.i2l, 1) := by decide +kernel
theorem dX8_wreck_22 : decode cX8_wreck 22 = .ok (.lconst 0, 1) := by decide +kernel
theorem dX8_wreck_23 : decode cX8_wreck 23 = .ok (.lconst 1, 1) := by decide +kernel
theorem dX8_wreck_24 : decode cX8_wreck 24 = .ok (.invokestatic 53, 3) := by decide +kernel
theorem dX8_wreck_27 : decode cX8_wreck 27 = .ok (.ifCond .eq 14, 3) := by decide +kernel
theorem dX8_wreck_30 : decode cX8_wreck 30 = .ok (.iload 5, 2) := by decide +kernel
theorem dX8_wreck_32 : decode cX8_wreck 32 = .ok (.i2l, 1) := by decide +kernel
theorem dX8_wreck_33 : decode cX8_wreck 33 = .ok (.lconst 0, 1) := by decide +kernel
theorem dX8_wreck_34 : decode cX8_wreck 34 = .ok (.lconst 1, 1) := by decide +kernel
theorem dX8_wreck_35 : decode cX8_wreck 35 = .ok (.invokestatic 53, 3) := by decide +kernel
theorem dX8_wreck_38 : decode cX8_wreck 38 = .ok (.ifCond .ne 5, 3) := by decide +kernel
theorem dX8_wreck_41 : decode cX8_wreck 41 = .ok (.iconst (-1), 1) := by decide +kernel
theorem dX8_wreck_42 : decode cX8_wreck 42 = .ok (.ireturn, 1) := by decide +kernel
theorem dX8_wreck_43 : decode cX8_wreck 43 = .ok (.aload_n 0, 1) := by decide +kernel
theorem dX8_wreck_44 : decode cX8_wreck 44 = .ok (.lload_n 1, 1) := by decide +kernel
theorem dX8_wreck_45 : decode cX8_wreck 45 = .ok (.iload_n 3, 1) := by decide +kernel
theorem dX8_wreck_46 : decode cX8_wreck 46 = .ok (.iload 4, 2) := by decide +kernel
theorem dX8_wreck_48 : decode cX8_wreck 48 = .ok (.invokevirtual 126, 3) := by decide +kernel
theorem dX8_wreck_51 : decode cX8_wreck 51 = .ok (.istore 6, 2) := by decide +kernel
theorem dX8_wreck_53 : decode cX8_wreck 53 = .ok (.iload 6, 2) := by decide +kernel
theorem dX8_wreck_55 : decode cX8_wreck 55 = .ok (.aload_n 0, 1) := by decide +kernel
theorem dX8_wreck_56 : decode cX8_wreck 56 = .ok (.lload_n 1, 1) := by decide +kernel
theorem dX8_wreck_57 : decode cX8_wreck 57 = .ok (.iload_n 3, 1) := by decide +kernel
theorem dX8_wreck_58 : decode cX8_wreck 58 = .ok (.iconst 1, 1) := by decide +kernel
theorem dX8_wreck_59 : decode cX8_wreck 59 = .ok (.iload 4, 2) := by decide +kernel
theorem dX8_wreck_61 : decode cX8_wreck 61 = .ok (.isub, 1) := by decide +kernel
theorem dX8_wreck_62 : decode cX8_wreck 62 = .ok (.invokevirtual 126, 3) := by decide +kernel
theorem dX8_wreck_65 : decode cX8_wreck 65 = .ok (.iadd, 1) := by decide +kernel
theorem dX8_wreck_66 : decode cX8_wreck 66 = .ok (.istore 7, 2) := by decide +kernel
theorem dX8_wreck_68 : decode cX8_wreck 68 = .ok (.iload 7, 2) := by decide +kernel
theorem dX8_wreck_70 : decode cX8_wreck 70 = .ok (.ifCond .ne 6, 3) := by decide +kernel
theorem dX8_wreck_73 : decode cX8_wreck 73 = .ok (.bipush (-4), 2) := by decide +kernel
theorem dX8_wreck_75 : decode cX8_wreck 75 = .ok (.ireturn, 1) := by decide +kernel
theorem dX8_wreck_76 : decode cX8_wreck 76 = .ok (.iload 6, 2) := by decide +kernel
theorem dX8_wreck_78 : decode cX8_wreck 78 = .ok (.istore 8, 2) := by decide +kernel
theorem dX8_wreck_80 : decode cX8_wreck 80 = .ok (.iload 7, 2) := by decide +kernel
theorem dX8_wreck_82 : decode cX8_wreck 82 = .ok (.istore 9, 2) := by decide +kernel
theorem dX8_wreck_84 : decode cX8_wreck 84 = .ok (.iload 9, 2) := by decide +kernel
theorem dX8_wreck_86 : decode cX8_wreck 86 = .ok (.ifCond .eq 21, 3) := by decide +kernel
theorem dX8_wreck_89 : decode cX8_wreck 89 = .ok (.iload 8, 2) := by decide +kernel
theorem dX8_wreck_91 : decode cX8_wreck 91 = .ok (.iload 9, 2) := by decide +kernel
theorem dX8_wreck_93 : decode cX8_wreck 93 = .ok (.irem, 1) := by decide +kernel
theorem dX8_wreck_94 : decode cX8_wreck 94 = .ok (.istore 10, 2) := by decide +kernel
theorem dX8_wreck_96 : decode cX8_wreck 96 = .ok (.iload 9, 2) := by decide +kernel
theorem dX8_wreck_98 : decode cX8_wreck 98 = .ok (.istore 8, 2) := by decide +kernel
theorem dX8_wreck_100 : decode cX8_wreck 100 = .ok (.iload 10, 2) := by decide +kernel
theorem dX8_wreck_102 : decode cX8_wreck 102 = .ok (.istore 9, 2) := by decide +kernel
theorem dX8_wreck_104 : decode cX8_wreck 104 = .ok (.goto (-20), 3) := by decide +kernel
theorem dX8_wreck_107 : decode cX8_wreck 107 = .ok (.iload 5, 2) := by decide +kernel
theorem dX8_wreck_109 : decode cX8_wreck 109 = .ok (.ifCond .ne 11, 3) := by decide +kernel
theorem dX8_wreck_112 : decode cX8_wreck 112 = .ok (.iload 6, 2) := by decide +kernel
theorem dX8_wreck_114 : decode cX8_wreck 114 = .ok (.iload 8, 2) := by decide +kernel
theorem dX8_wreck_116 : decode cX8_wreck 116 = .ok (.idiv, 1) := by decide +kernel
theorem dX8_wreck_117 : decode cX8_wreck 117 = .ok (.goto 8, 3) := by decide +kernel
theorem dX8_wreck_120 : decode cX8_wreck 120 = .ok (.iload 7, 2) := by decide +kernel
theorem dX8_wreck_122 : decode cX8_wreck 122 = .ok (.iload 8, 2) := by decide +kernel
theorem dX8_wreck_124 : decode cX8_wreck 124 = .ok (.idiv, 1) := by decide +kernel
theorem dX8_wreck_125 : decode cX8_wreck 125 = .ok (.ireturn, 1) := by decide +kernel
theorem dX8_drawn_0 : decode cX8_drawn 0 = .ok (.iload_n 1, 1) := by decide +kernel
theorem dX8_drawn_1 : decode cX8_drawn 1 = .ok (.i2l, 1) := by decide +kernel
theorem dX8_drawn_2 : decode cX8_drawn 2 = .ok (.lconst 0, 1) := by decide +kernel
theorem dX8_drawn_3 : decode cX8_drawn 3 = .ok (.ldc2_w 148, 3) := by decide +kernel
theorem dX8_drawn_6 : decode cX8_drawn 6 = .ok (.invokestatic 53, 3) := by decide +kernel
theorem dX8_drawn_9 : decode cX8_drawn 9 = .ok (.ifCond .eq 15, 3) := by decide +kernel
theorem dX8_drawn_12 : decode cX8_drawn 12 = .ok (.iload_n 2, 1) := by decide +kernel
theorem dX8_drawn_13 : decode cX8_drawn 13 = .ok (.i2l, 1) := by decide +kernel
theorem dX8_drawn_14 : decode cX8_drawn 14 = .ok (.lconst 1, 1) := by decide +kernel
theorem dX8_drawn_15 : decode cX8_drawn 15 = .ok (.ldc2_w 187, 3) := by decide +kernel
theorem dX8_drawn_18 : decode cX8_drawn 18 = .ok (.invokestatic 53, 3) := by decide +kernel
theorem dX8_drawn_21 : decode cX8_drawn 21 = .ok (.ifCond .ne 5, 3) := by decide +kernel
theorem dX8_drawn_24 : decode cX8_drawn 24 = .ok (.iconst (-1), 1) := by decide +kernel
theorem dX8_drawn_25 : decode cX8_drawn 25 = .ok (.ireturn, 1) := by decide +kernel
theorem dX8_drawn_26 : decode cX8_drawn 26 = .ok (.iconst 0, 1) := by decide +kernel
theorem dX8_drawn_27 : decode cX8_drawn 27 = .ok (.istore_n 3, 1) := by decide +kernel
theorem dX8_drawn_28 : decode cX8_drawn 28 = .ok (.iconst 0, 1) := by decide +kernel
theorem dX8_drawn_29 : decode cX8_drawn 29 = .ok (.istore 4, 2) := by decide +kernel
theorem dX8_drawn_31 : decode cX8_drawn 31 = .ok (.iload 4, 2) := by decide +kernel
theorem dX8_drawn_33 : decode cX8_drawn 33 = .ok (.iload_n 2, 1) := by decide +kernel
theorem dX8_drawn_34 : decode cX8_drawn 34 = .ok (.if_icmp .ge 60, 3) := by decide +kernel
theorem dX8_drawn_37 : decode cX8_drawn 37 = .ok (.ldc2_w 189, 3) := by decide +kernel
theorem dX8_drawn_40 : decode cX8_drawn 40 = .ok (.iload_n 1, 1) := by decide +kernel
theorem dX8_drawn_41 : decode cX8_drawn 41 = .ok (.i2l, 1) := by decide +kernel
theorem dX8_drawn_42 : decode cX8_drawn 42 = .ok (.lmul, 1) := by decide +kernel
theorem dX8_drawn_43 : decode cX8_drawn 43 = .ok (.ldc2_w 191, 3) := by decide +kernel
theorem dX8_drawn_46 : decode cX8_drawn 46 = .ok (.iload 4, 2) := by decide +kernel
theorem dX8_drawn_48 : decode cX8_drawn 48 = .ok (.i2l, 1) := by decide +kernel
theorem dX8_drawn_49 : decode cX8_drawn 49 = .ok (.lmul, 1) := by decide +kernel
theorem dX8_drawn_50 : decode cX8_drawn 50 = .ok (.ladd, 1) := by decide +kernel
theorem dX8_drawn_51 : decode cX8_drawn 51 = .ok (.lconst 1, 1) := by decide +kernel
theorem dX8_drawn_52 : decode cX8_drawn 52 = .ok (.ladd, 1) := by decide +kernel
theorem dX8_drawn_53 : decode cX8_drawn 53 = .ok (.lstore 5, 2) := by decide +kernel
theorem dX8_drawn_55 : decode cX8_drawn 55 = .ok (.iload_n 3, 1) := by decide +kernel
theorem dX8_drawn_56 : decode cX8_drawn 56 = .ok (.aload_n 0, 1) := by decide +kernel
theorem dX8_drawn_57 : decode cX8_drawn 57 = .ok (.iload 4, 2) := by decide +kernel
theorem dX8_drawn_59 : decode cX8_drawn 59 = .ok (.aload_n 0, 1) := by decide +kernel
theorem dX8_drawn_60 : decode cX8_drawn 60 = .ok (.getfield 17, 3) := by decide +kernel
theorem dX8_drawn_63 : decode cX8_drawn 63 = .ok (.iconst 0, 1) := by decide +kernel
theorem dX8_drawn_64 : decode cX8_drawn 64 = .ok (.iaload, 1) := by decide +kernel
theorem dX8_drawn_65 : decode cX8_drawn 65 = .ok (.irem, 1) := by decide +kernel
theorem dX8_drawn_66 : decode cX8_drawn 66 = .ok (.lload 5, 2) := by decide +kernel
theorem dX8_drawn_68 : decode cX8_drawn 68 = .ok (.lload 5, 2) := by decide +kernel
theorem dX8_drawn_70 : decode cX8_drawn 70 = .ok (.lmul, 1) := by decide +kernel
theorem dX8_drawn_71 : decode cX8_drawn 71 = .ok (.ldc2_w 193, 3) := by decide +kernel
theorem dX8_drawn_74 : decode cX8_drawn 74 = .ok (.lrem, 1) := by decide +kernel
theorem dX8_drawn_75 : decode cX8_drawn 75 = .ok (.invokevirtual 140, 3) := by decide +kernel
theorem dX8_drawn_78 : decode cX8_drawn 78 = .ok (.ifCond .eq 7, 3) := by decide +kernel
theorem dX8_drawn_81 : decode cX8_drawn 81 = .ok (.iconst 1, 1) := by decide +kernel
theorem dX8_drawn_82 : decode cX8_drawn 82 = .ok (.goto 4, 3) := by decide +kernel
theorem dX8_drawn_85 : decode cX8_drawn 85 = .ok (.iconst 0, 1) := by decide +kernel
theorem dX8_drawn_86 : decode cX8_drawn 86 = .ok (.iadd, 1) := by decide +kernel
theorem dX8_drawn_87 : decode cX8_drawn 87 = .ok (.istore_n 3, 1) := by decide +kernel
theorem dX8_drawn_88 : decode cX8_drawn 88 = .ok (.iinc 4 1, 3) := by decide +kernel
theorem dX8_drawn_91 : decode cX8_drawn 91 = .ok (.goto (-60), 3) := by decide +kernel
theorem dX8_drawn_94 : decode cX8_drawn 94 = .ok (.iload_n 3, 1) := by decide +kernel
theorem dX8_drawn_95 : decode cX8_drawn 95 = .ok (.ireturn, 1) := by decide +kernel
theorem dX8_copies_0 : decode cX8_copies 0 = .ok (.iconst 0, 1) := by decide +kernel
theorem dX8_copies_1 : decode cX8_copies 1 = .ok (.istore_n 3, 1) := by decide +kernel
theorem dX8_copies_2 : decode cX8_copies 2 = .ok (.iload_n 3, 1) := by decide +kernel
theorem dX8_copies_3 : decode cX8_copies 3 = .ok (.bipush 6, 2) := by decide +kernel
theorem dX8_copies_5 : decode cX8_copies 5 = .ok (.if_icmp .ge 31, 3) := by decide +kernel
theorem dX8_copies_8 : decode cX8_copies 8 = .ok (.aload_n 0, 1) := by decide +kernel
theorem dX8_copies_9 : decode cX8_copies 9 = .ok (.getfield 23, 3) := by decide +kernel
theorem dX8_copies_12 : decode cX8_copies 12 = .ok (.bipush 6, 2) := by decide +kernel
theorem dX8_copies_14 : decode cX8_copies 14 = .ok (.iload_n 2, 1) := by decide +kernel
theorem dX8_copies_15 : decode cX8_copies 15 = .ok (.imul, 1) := by decide +kernel
theorem dX8_copies_16 : decode cX8_copies 16 = .ok (.iload_n 3, 1) := by decide +kernel
theorem dX8_copies_17 : decode cX8_copies 17 = .ok (.iadd, 1) := by decide +kernel
theorem dX8_copies_18 : decode cX8_copies 18 = .ok (.aload_n 0, 1) := by decide +kernel
theorem dX8_copies_19 : decode cX8_copies 19 = .ok (.getfield 23, 3) := by decide +kernel
theorem dX8_copies_22 : decode cX8_copies 22 = .ok (.bipush 6, 2) := by decide +kernel
theorem dX8_copies_24 : decode cX8_copies 24 = .ok (.iload_n 1, 1) := by decide +kernel
theorem dX8_copies_25 : decode cX8_copies 25 = .ok (.imul, 1) := by decide +kernel
theorem dX8_copies_26 : decode cX8_copies 26 = .ok (.iload_n 3, 1) := by decide +kernel
theorem dX8_copies_27 : decode cX8_copies 27 = .ok (.iadd, 1) := by decide +kernel
theorem dX8_copies_28 : decode cX8_copies 28 = .ok (.iaload, 1) := by decide +kernel
theorem dX8_copies_29 : decode cX8_copies 29 = .ok (.iastore, 1) := by decide +kernel
theorem dX8_copies_30 : decode cX8_copies 30 = .ok (.iinc 3 1, 3) := by decide +kernel
theorem dX8_copies_33 : decode cX8_copies 33 = .ok (.goto (-31), 3) := by decide +kernel
theorem dX8_copies_36 : decode cX8_copies 36 = .ok (.iconst 0, 1) := by decide +kernel
theorem dX8_copies_37 : decode cX8_copies 37 = .ok (.istore_n 3, 1) := by decide +kernel
theorem dX8_copies_38 : decode cX8_copies 38 = .ok (.iload_n 3, 1) := by decide +kernel
theorem dX8_copies_39 : decode cX8_copies 39 = .ok (.iconst 4, 1) := by decide +kernel
theorem dX8_copies_40 : decode cX8_copies 40 = .ok (.if_icmp .ge 29, 3) := by decide +kernel
theorem dX8_copies_43 : decode cX8_copies 43 = .ok (.aload_n 0, 1) := by decide +kernel
theorem dX8_copies_44 : decode cX8_copies 44 = .ok (.getfield 26, 3) := by decide +kernel
theorem dX8_copies_47 : decode cX8_copies 47 = .ok (.iconst 4, 1) := by decide +kernel
theorem dX8_copies_48 : decode cX8_copies 48 = .ok (.iload_n 2, 1) := by decide +kernel
theorem dX8_copies_49 : decode cX8_copies 49 = .ok (.imul, 1) := by decide +kernel
theorem dX8_copies_50 : decode cX8_copies 50 = .ok (.iload_n 3, 1) := by decide +kernel
theorem dX8_copies_51 : decode cX8_copies 51 = .ok (.iadd, 1) := by decide +kernel
theorem dX8_copies_52 : decode cX8_copies 52 = .ok (.aload_n 0, 1) := by decide +kernel
theorem dX8_copies_53 : decode cX8_copies 53 = .ok (.getfield 26, 3) := by decide +kernel
theorem dX8_copies_56 : decode cX8_copies 56 = .ok (.iconst 4, 1) := by decide +kernel
theorem dX8_copies_57 : decode cX8_copies 57 = .ok (.iload_n 1, 1) := by decide +kernel
theorem dX8_copies_58 : decode cX8_copies 58 = .ok (.imul, 1) := by decide +kernel
theorem dX8_copies_59 : decode cX8_copies 59 = .ok (.iload_n 3, 1) := by decide +kernel
theorem dX8_copies_60 : decode cX8_copies 60 = .ok (.iadd, 1) := by decide +kernel
theorem dX8_copies_61 : decode cX8_copies 61 = .ok (.laload, 1) := by decide +kernel
theorem dX8_copies_62 : decode cX8_copies 62 = .ok (.lastore, 1) := by decide +kernel
theorem dX8_copies_63 : decode cX8_copies 63 = .ok (.iinc 3 1, 3) := by decide +kernel
theorem dX8_copies_66 : decode cX8_copies 66 = .ok (.goto (-28), 3) := by decide +kernel
theorem dX8_copies_69 : decode cX8_copies 69 = .ok (.return_, 1) := by decide +kernel
theorem dX8_keep_0 : decode cX8_keep 0 = .ok (.aload_n 0, 1) := by decide +kernel
theorem dX8_keep_1 : decode cX8_keep 1 = .ok (.getfield 95, 3) := by decide +kernel
theorem dX8_keep_4 : decode cX8_keep 4 = .ok (.iconst 2, 1) := by decide +kernel
theorem dX8_keep_5 : decode cX8_keep 5 = .ok (.if_icmp .ne 6, 3) := by decide +kernel
theorem dX8_keep_8 : decode cX8_keep 8 = .ok (.bipush (-3), 2) := by decide +kernel
theorem dX8_keep_10 : decode cX8_keep 10 = .ok (.ireturn, 1) := by decide +kernel
theorem dX8_keep_11 : decode cX8_keep 11 = .ok (.aload_n 0, 1) := by decide +kernel
theorem dX8_keep_12 : decode cX8_keep 12 = .ok (.dup, 1) := by decide +kernel
theorem dX8_keep_13 : decode cX8_keep 13 = .ok (.getfield 95, 3) := by decide +kernel
theorem dX8_keep_16 : decode cX8_keep 16 = .ok (.iconst 1, 1) := by decide +kernel
theorem dX8_keep_17 : decode cX8_keep 17 = .ok (.iadd, 1) := by decide +kernel
theorem dX8_keep_18 : decode cX8_keep 18 = .ok (.putfield 95, 3) := by decide +kernel
theorem dX8_keep_21 : decode cX8_keep 21 = .ok (.aload_n 0, 1) := by decide +kernel
theorem dX8_keep_22 : decode cX8_keep 22 = .ok (.iconst 0, 1) := by decide +kernel
theorem dX8_keep_23 : decode cX8_keep 23 = .ok (.aload_n 0, 1) := by decide +kernel
theorem dX8_keep_24 : decode cX8_keep 24 = .ok (.getfield 95, 3) := by decide +kernel
theorem dX8_keep_27 : decode cX8_keep 27 = .ok (.invokevirtual 195, 3) := by decide +kernel
theorem dX8_keep_30 : decode cX8_keep 30 = .ok (.aload_n 0, 1) := by decide +kernel
theorem dX8_keep_31 : decode cX8_keep 31 = .ok (.getfield 95, 3) := by decide +kernel
theorem dX8_keep_34 : decode cX8_keep 34 = .ok (.ireturn, 1) := by decide +kernel
theorem dX8_back_0 : decode cX8_back 0 = .ok (.aload_n 0, 1) := by decide +kernel
theorem dX8_back_1 : decode cX8_back 1 = .ok (.getfield 95, 3) := by decide +kernel
theorem dX8_back_4 : decode cX8_back 4 = .ok (.ifCond .ne 6, 3) := by decide +kernel
theorem dX8_back_7 : decode cX8_back 7 = .ok (.bipush (-2), 2) := by decide +kernel
theorem dX8_back_9 : decode cX8_back 9 = .ok (.ireturn, 1) := by decide +kernel
theorem dX8_back_10 : decode cX8_back 10 = .ok (.aload_n 0, 1) := by decide +kernel
theorem dX8_back_11 : decode cX8_back 11 = .ok (.aload_n 0, 1) := by decide +kernel
theorem dX8_back_12 : decode cX8_back 12 = .ok (.getfield 95, 3) := by decide +kernel
theorem dX8_back_15 : decode cX8_back 15 = .ok (.iconst 0, 1) := by decide +kernel
theorem dX8_back_16 : decode cX8_back 16 = .ok (.invokevirtual 195, 3) := by decide +kernel
theorem dX8_back_19 : decode cX8_back 19 = .ok (.aload_n 0, 1) := by decide +kernel
theorem dX8_back_20 : decode cX8_back 20 = .ok (.dup, 1) := by decide +kernel
theorem dX8_back_21 : decode cX8_back 21 = .ok (.getfield 95, 3) := by decide +kernel
theorem dX8_back_24 : decode cX8_back 24 = .ok (.iconst 1, 1) := by decide +kernel
theorem dX8_back_25 : decode cX8_back 25 = .ok (.isub, 1) := by decide +kernel
theorem dX8_back_26 : decode cX8_back 26 = .ok (.putfield 95, 3) := by decide +kernel
theorem dX8_back_29 : decode cX8_back 29 = .ok (.aload_n 0, 1) := by decide +kernel
theorem dX8_back_30 : decode cX8_back 30 = .ok (.iconst 0, 1) := by decide +kernel
theorem dX8_back_31 : decode cX8_back 31 = .ok (.putfield 86, 3) := by decide +kernel
theorem dX8_back_34 : decode cX8_back 34 = .ok (.aload_n 0, 1) := by decide +kernel
theorem dX8_back_35 : decode cX8_back 35 = .ok (.getfield 95, 3) := by decide +kernel
theorem dX8_back_38 : decode cX8_back 38 = .ok (.ireturn, 1) := by decide +kernel
theorem dX8_count_0 : decode cX8_count 0 = .ok (.iload_n 1, 1) := by decide +kernel
theorem dX8_count_1 : decode cX8_count 1 = .ok (.tableswitch 113 0 8 #[51, 58, 63, 71, 76, 81, 86, 97, 108], 51) := by decide +kernel
theorem dX8_count_52 : decode cX8_count 52 = .ok (.aload_n 0, 1) := by decide +kernel
theorem dX8_count_53 : decode cX8_count 53 = .ok (.getfield 17, 3) := by decide +kernel
theorem dX8_count_56 : decode cX8_count 56 = .ok (.iconst 0, 1) := by decide +kernel
theorem dX8_count_57 : decode cX8_count 57 = .ok (.iaload, 1) := by decide +kernel
theorem dX8_count_58 : decode cX8_count 58 = .ok (.ireturn, 1) := by decide +kernel
theorem dX8_count_59 : decode cX8_count 59 = .ok (.aload_n 0, 1) := by decide +kernel
theorem dX8_count_60 : decode cX8_count 60 = .ok (.getfield 57, 3) := by decide +kernel
theorem dX8_count_63 : decode cX8_count 63 = .ok (.ireturn, 1) := by decide +kernel
theorem dX8_count_64 : decode cX8_count 64 = .ok (.aload_n 0, 1) := by decide +kernel
theorem dX8_count_65 : decode cX8_count 65 = .ok (.getfield 26, 3) := by decide +kernel
theorem dX8_count_68 : decode cX8_count 68 = .ok (.iconst 1, 1) := by decide +kernel
theorem dX8_count_69 : decode cX8_count 69 = .ok (.laload, 1) := by decide +kernel
theorem dX8_count_70 : decode cX8_count 70 = .ok (.l2i, 1) := by decide +kernel
theorem dX8_count_71 : decode cX8_count 71 = .ok (.ireturn, 1) := by decide +kernel
theorem dX8_count_72 : decode cX8_count 72 = .ok (.aload_n 0, 1) := by decide +kernel
theorem dX8_count_73 : decode cX8_count 73 = .ok (.getfield 89, 3) := by decide +kernel
theorem dX8_count_76 : decode cX8_count 76 = .ok (.ireturn, 1) := by decide +kernel
theorem dX8_count_77 : decode cX8_count 77 = .ok (.aload_n 0, 1) := by decide +kernel
theorem dX8_count_78 : decode cX8_count 78 = .ok (.getfield 92, 3) := by decide +kernel
theorem dX8_count_81 : decode cX8_count 81 = .ok (.ireturn, 1) := by decide +kernel
theorem dX8_count_82 : decode cX8_count 82 = .ok (.aload_n 0, 1) := by decide +kernel
theorem dX8_count_83 : decode cX8_count 83 = .ok (.getfield 86, 3) := by decide +kernel
theorem dX8_count_86 : decode cX8_count 86 = .ok (.ireturn, 1) := by decide +kernel
theorem dX8_count_87 : decode cX8_count 87 = .ok (.aload_n 0, 1) := by decide +kernel
theorem dX8_count_88 : decode cX8_count 88 = .ok (.getfield 26, 3) := by decide +kernel
theorem dX8_count_91 : decode cX8_count 91 = .ok (.iconst 2, 1) := by decide +kernel
theorem dX8_count_92 : decode cX8_count 92 = .ok (.laload, 1) := by decide +kernel
theorem dX8_count_93 : decode cX8_count 93 = .ok (.l2i, 1) := by decide +kernel
theorem dX8_count_94 : decode cX8_count 94 = .ok (.ldc 199, 2) := by decide +kernel
theorem dX8_count_96 : decode cX8_count 96 = .ok (.iadd, 1) := by decide +kernel
theorem dX8_count_97 : decode cX8_count 97 = .ok (.ireturn, 1) := by decide +kernel
theorem dX8_count_98 : decode cX8_count 98 = .ok (.aload_n 0, 1) := by decide +kernel
theorem dX8_count_99 : decode cX8_count 99 = .ok (.getfield 26, 3) := by decide +kernel
theorem dX8_count_102 : decode cX8_count 102 = .ok (.iconst 3, 1) := by decide +kernel
theorem dX8_count_103 : decode cX8_count 103 = .ok (.laload, 1) := by decide +kernel
theorem dX8_count_104 : decode cX8_count 104 = .ok (.l2i, 1) := by decide +kernel
theorem dX8_count_105 : decode cX8_count 105 = .ok (.ldc 199, 2) := by decide +kernel
theorem dX8_count_107 : decode cX8_count 107 = .ok (.iadd, 1) := by decide +kernel
theorem dX8_count_108 : decode cX8_count 108 = .ok (.ireturn, 1) := by decide +kernel
theorem dX8_count_109 : decode cX8_count 109 = .ok (.aload_n 0, 1) := by decide +kernel
theorem dX8_count_110 : decode cX8_count 110 = .ok (.getfield 95, 3) := by decide +kernel
theorem dX8_count_113 : decode cX8_count 113 = .ok (.ireturn, 1) := by decide +kernel
theorem dX8_count_114 : decode cX8_count 114 = .ok (.iconst (-1), 1) := by decide +kernel
theorem dX8_count_115 : decode cX8_count 115 = .ok (.ireturn, 1) := by decide +kernel
theorem dJ9_floorMod_f86c9_0 : decode cJ9_floorMod_f86c9 0 = .ok (.lload_n 0, 1) := by decide +kernel
theorem dJ9_floorMod_f86c9_1 : decode cJ9_floorMod_f86c9 1 = .ok (.lload_n 2, 1) := by decide +kernel
theorem dJ9_floorMod_f86c9_2 : decode cJ9_floorMod_f86c9 2 = .ok (.lrem, 1) := by decide +kernel
theorem dJ9_floorMod_f86c9_3 : decode cJ9_floorMod_f86c9 3 = .ok (.lstore 4, 2) := by decide +kernel
theorem dJ9_floorMod_f86c9_5 : decode cJ9_floorMod_f86c9 5 = .ok (.lload_n 0, 1) := by decide +kernel
theorem dJ9_floorMod_f86c9_6 : decode cJ9_floorMod_f86c9 6 = .ok (.lload_n 2, 1) := by decide +kernel
theorem dJ9_floorMod_f86c9_7 : decode cJ9_floorMod_f86c9 7 = .ok (.lxor, 1) := by decide +kernel
theorem dJ9_floorMod_f86c9_8 : decode cJ9_floorMod_f86c9 8 = .ok (.lconst 0, 1) := by decide +kernel
theorem dJ9_floorMod_f86c9_9 : decode cJ9_floorMod_f86c9 9 = .ok (.lcmp, 1) := by decide +kernel
theorem dJ9_floorMod_f86c9_10 : decode cJ9_floorMod_f86c9 10 = .ok (.ifCond .ge 15, 3) := by decide +kernel
theorem dJ9_floorMod_f86c9_13 : decode cJ9_floorMod_f86c9 13 = .ok (.lload 4, 2) := by decide +kernel
theorem dJ9_floorMod_f86c9_15 : decode cJ9_floorMod_f86c9 15 = .ok (.lconst 0, 1) := by decide +kernel
theorem dJ9_floorMod_f86c9_16 : decode cJ9_floorMod_f86c9 16 = .ok (.lcmp, 1) := by decide +kernel
theorem dJ9_floorMod_f86c9_17 : decode cJ9_floorMod_f86c9 17 = .ok (.ifCond .eq 8, 3) := by decide +kernel
theorem dJ9_floorMod_f86c9_20 : decode cJ9_floorMod_f86c9 20 = .ok (.lload 4, 2) := by decide +kernel
theorem dJ9_floorMod_f86c9_22 : decode cJ9_floorMod_f86c9 22 = .ok (.lload_n 2, 1) := by decide +kernel
theorem dJ9_floorMod_f86c9_23 : decode cJ9_floorMod_f86c9 23 = .ok (.ladd, 1) := by decide +kernel
theorem dJ9_floorMod_f86c9_24 : decode cJ9_floorMod_f86c9 24 = .ok (.lreturn, 1) := by decide +kernel
theorem dJ9_floorMod_f86c9_25 : decode cJ9_floorMod_f86c9 25 = .ok (.lload 4, 2) := by decide +kernel
theorem dJ9_floorMod_f86c9_27 : decode cJ9_floorMod_f86c9 27 = .ok (.lreturn, 1) := by decide +kernel
theorem dJ9_max_7cf53_0 : decode cJ9_max_7cf53 0 = .ok (.iload_n 0, 1) := by decide +kernel
theorem dJ9_max_7cf53_1 : decode cJ9_max_7cf53 1 = .ok (.iload_n 1, 1) := by decide +kernel
theorem dJ9_max_7cf53_2 : decode cJ9_max_7cf53 2 = .ok (.if_icmp .lt 7, 3) := by decide +kernel
theorem dJ9_max_7cf53_5 : decode cJ9_max_7cf53 5 = .ok (.iload_n 0, 1) := by decide +kernel
theorem dJ9_max_7cf53_6 : decode cJ9_max_7cf53 6 = .ok (.goto 4, 3) := by decide +kernel
theorem dJ9_max_7cf53_9 : decode cJ9_max_7cf53 9 = .ok (.iload_n 1, 1) := by decide +kernel
theorem dJ9_max_7cf53_10 : decode cJ9_max_7cf53 10 = .ok (.ireturn, 1) := by decide +kernel
theorem dJ9_max_f86c9_0 : decode cJ9_max_f86c9 0 = .ok (.lload_n 0, 1) := by decide +kernel
theorem dJ9_max_f86c9_1 : decode cJ9_max_f86c9 1 = .ok (.lload_n 2, 1) := by decide +kernel
theorem dJ9_max_f86c9_2 : decode cJ9_max_f86c9 2 = .ok (.lcmp, 1) := by decide +kernel
theorem dJ9_max_f86c9_3 : decode cJ9_max_f86c9 3 = .ok (.ifCond .lt 7, 3) := by decide +kernel
theorem dJ9_max_f86c9_6 : decode cJ9_max_f86c9 6 = .ok (.lload_n 0, 1) := by decide +kernel
theorem dJ9_max_f86c9_7 : decode cJ9_max_f86c9 7 = .ok (.goto 4, 3) := by decide +kernel
theorem dJ9_max_f86c9_10 : decode cJ9_max_f86c9 10 = .ok (.lload_n 2, 1) := by decide +kernel
theorem dJ9_max_f86c9_11 : decode cJ9_max_f86c9 11 = .ok (.lreturn, 1) := by decide +kernel
theorem dJ9_min_7cf53_0 : decode cJ9_min_7cf53 0 = .ok (.iload_n 0, 1) := by decide +kernel
theorem dJ9_min_7cf53_1 : decode cJ9_min_7cf53 1 = .ok (.iload_n 1, 1) := by decide +kernel
theorem dJ9_min_7cf53_2 : decode cJ9_min_7cf53 2 = .ok (.if_icmp .gt 7, 3) := by decide +kernel
theorem dJ9_min_7cf53_5 : decode cJ9_min_7cf53 5 = .ok (.iload_n 0, 1) := by decide +kernel
theorem dJ9_min_7cf53_6 : decode cJ9_min_7cf53 6 = .ok (.goto 4, 3) := by decide +kernel
theorem dJ9_min_7cf53_9 : decode cJ9_min_7cf53 9 = .ok (.iload_n 1, 1) := by decide +kernel
theorem dJ9_min_7cf53_10 : decode cJ9_min_7cf53 10 = .ok (.ireturn, 1) := by decide +kernel
theorem dL_law_0 : decode cL_law 0 = .ok (.new 7, 3) := by decide +kernel
theorem dL_law_3 : decode cL_law 3 = .ok (.dup, 1) := by decide +kernel
theorem dL_law_4 : decode cL_law 4 = .ok (.invokespecial 9, 3) := by decide +kernel
theorem dL_law_7 : decode cL_law 7 = .ok (.astore_n 1, 1) := by decide +kernel
theorem dL_law_8 : decode cL_law 8 = .ok (.new 10, 3) := by decide +kernel
theorem dL_law_11 : decode cL_law 11 = .ok (.dup, 1) := by decide +kernel
theorem dL_law_12 : decode cL_law 12 = .ok (.invokespecial 12, 3) := by decide +kernel
theorem dL_law_15 : decode cL_law 15 = .ok (.astore_n 2, 1) := by decide +kernel
theorem dL_law_16 : decode cL_law 16 = .ok (.iconst 0, 1) := by decide +kernel
theorem dL_law_17 : decode cL_law 17 = .ok (.istore_n 3, 1) := by decide +kernel
theorem dL_law_18 : decode cL_law 18 = .ok (.iload_n 3, 1) := by decide +kernel
theorem dL_law_19 : decode cL_law 19 = .ok (.aload_n 0, 1) := by decide +kernel
theorem dL_law_20 : decode cL_law 20 = .ok (.arraylength, 1) := by decide +kernel
theorem dL_law_21 : decode cL_law 21 = .ok (.bipush 6, 2) := by decide +kernel
theorem dL_law_23 : decode cL_law 23 = .ok (.isub, 1) := by decide +kernel
theorem dL_law_24 : decode cL_law 24 = .ok (.if_icmp .gt 1245, 3) := by decide +kernel
theorem dL_law_27 : decode cL_law 27 = .ok (.aload_n 0, 1) := by decide +kernel
theorem dL_law_28 : decode cL_law 28 = .ok (.iload_n 3, 1) := by decide +kernel
theorem dL_law_29 : decode cL_law 29 = .ok (.iaload, 1) := by decide +kernel
theorem dL_law_30 : decode cL_law 30 = .ok (.bipush 31, 2) := by decide +kernel
theorem dL_law_32 : decode cL_law 32 = .ok (.iand, 1) := by decide +kernel
theorem dL_law_33 : decode cL_law 33 = .ok (.tableswitch 1230 0 31 #[143, 206, 219, 232, 245, 278, 301, 354, 427, 491, 554, 577, 590, 654, 678, 702, 761, 774, 797, 840, 863, 886, 909, 983, 1016, 1029, 1042, 1065, 1148, 1181, 1194, 1207], 143) := by decide +kernel
theorem dL_law_176 : decode cL_law 176 = .ok (.aload_n 1, 1) := by decide +kernel
theorem dL_law_177 : decode cL_law 177 = .ok (.aload_n 0, 1) := by decide +kernel
theorem dL_law_178 : decode cL_law 178 = .ok (.iload_n 3, 1) := by decide +kernel
theorem dL_law_179 : decode cL_law 179 = .ok (.iconst 1, 1) := by decide +kernel
theorem dL_law_180 : decode cL_law 180 = .ok (.iadd, 1) := by decide +kernel
theorem dL_law_181 : decode cL_law 181 = .ok (.iaload, 1) := by decide +kernel
theorem dL_law_182 : decode cL_law 182 = .ok (.aload_n 0, 1) := by decide +kernel
theorem dL_law_183 : decode cL_law 183 = .ok (.iload_n 3, 1) := by decide +kernel
theorem dL_law_184 : decode cL_law 184 = .ok (.iconst 2, 1) := by decide +kernel
theorem dL_law_185 : decode cL_law 185 = .ok (.iadd, 1) := by decide +kernel
theorem dL_law_186 : decode cL_law 186 = .ok (.iaload, 1) := by decide +kernel
theorem dL_law_187 : decode cL_law 187 = .ok (.i2l, 1) := by decide +kernel
theorem dL_law_188 : decode cL_law 188 = .ok (.bipush 32, 2) := by decide +kernel
theorem dL_law_190 : decode cL_law 190 = .ok (.lshl, 1) := by decide +kernel
theorem dL_law_191 : decode cL_law 191 = .ok (.aload_n 0, 1) := by decide +kernel
theorem dL_law_192 : decode cL_law 192 = .ok (.iload_n 3, 1) := by decide +kernel
theorem dL_law_193 : decode cL_law 193 = .ok (.iconst 3, 1) := by decide +kernel
theorem dL_law_194 : decode cL_law 194 = .ok (.iadd, 1) := by decide +kernel
theorem dL_law_195 : decode cL_law 195 = .ok (.iaload, 1) := by decide +kernel
theorem dL_law_196 : decode cL_law 196 = .ok (.i2l, 1) := by decide +kernel
theorem dL_law_197 : decode cL_law 197 = .ok (.ldc2_w 13, 3) := by decide +kernel
theorem dL_law_200 : decode cL_law 200 = .ok (.land, 1) := by decide +kernel
theorem dL_law_201 : decode cL_law 201 = .ok (.lor, 1) := by decide +kernel
theorem dL_law_202 : decode cL_law 202 = .ok (.invokevirtual 15, 3) := by decide +kernel
theorem dL_law_205 : decode cL_law 205 = .ok (.aload_n 2, 1) := by decide +kernel
theorem dL_law_206 : decode cL_law 206 = .ok (.aload_n 0, 1) := by decide +kernel
theorem dL_law_207 : decode cL_law 207 = .ok (.iload_n 3, 1) := by decide +kernel
theorem dL_law_208 : decode cL_law 208 = .ok (.iconst 1, 1) := by decide +kernel
theorem dL_law_209 : decode cL_law 209 = .ok (.iadd, 1) := by decide +kernel
theorem dL_law_210 : decode cL_law 210 = .ok (.iaload, 1) := by decide +kernel
theorem dL_law_211 : decode cL_law 211 = .ok (.aload_n 0, 1) := by decide +kernel
theorem dL_law_212 : decode cL_law 212 = .ok (.iload_n 3, 1) := by decide +kernel
theorem dL_law_213 : decode cL_law 213 = .ok (.iconst 2, 1) := by decide +kernel
theorem dL_law_214 : decode cL_law 214 = .ok (.iadd, 1) := by decide +kernel
theorem dL_law_215 : decode cL_law 215 = .ok (.iaload, 1) := by decide +kernel
theorem dL_law_216 : decode cL_law 216 = .ok (.i2l, 1) := by decide +kernel
theorem dL_law_217 : decode cL_law 217 = .ok (.bipush 32, 2) := by decide +kernel
theorem dL_law_219 : decode cL_law 219 = .ok (.lshl, 1) := by decide +kernel
theorem dL_law_220 : decode cL_law 220 = .ok (.aload_n 0, 1) := by decide +kernel
theorem dL_law_221 : decode cL_law 221 = .ok (.iload_n 3, 1) := by decide +kernel
theorem dL_law_222 : decode cL_law 222 = .ok (.iconst 3, 1) := by decide +kernel
theorem dL_law_223 : decode cL_law 223 = .ok (.iadd, 1) := by decide +kernel
theorem dL_law_224 : decode cL_law 224 = .ok (.iaload, 1) := by decide +kernel
theorem dL_law_225 : decode cL_law 225 = .ok (.i2l, 1) := by decide +kernel
theorem dL_law_226 : decode cL_law 226 = .ok (.ldc2_w 13, 3) := by decide +kernel
theorem dL_law_229 : decode cL_law 229 = .ok (.land, 1) := by decide +kernel
theorem dL_law_230 : decode cL_law 230 = .ok (.lor, 1) := by decide +kernel
theorem dL_law_231 : decode cL_law 231 = .ok (.invokevirtual 19, 3) := by decide +kernel
theorem dL_law_234 : decode cL_law 234 = .ok (.if_icmp .eq 1029, 3) := by decide +kernel
theorem dL_law_237 : decode cL_law 237 = .ok (.iconst 0, 1) := by decide +kernel
theorem dL_law_238 : decode cL_law 238 = .ok (.ireturn, 1) := by decide +kernel
theorem dL_law_239 : decode cL_law 239 = .ok (.aload_n 1, 1) := by decide +kernel
theorem dL_law_240 : decode cL_law 240 = .ok (.invokevirtual 20, 3) := by decide +kernel
theorem dL_law_243 : decode cL_law 243 = .ok (.aload_n 2, 1) := by decide +kernel
theorem dL_law_244 : decode cL_law 244 = .ok (.invokevirtual 24, 3) := by decide +kernel
theorem dL_law_247 : decode cL_law 247 = .ok (.if_icmp .eq 1016, 3) := by decide +kernel
theorem dL_law_250 : decode cL_law 250 = .ok (.iconst 0, 1) := by decide +kernel
theorem dL_law_251 : decode cL_law 251 = .ok (.ireturn, 1) := by decide +kernel
theorem dL_law_252 : decode cL_law 252 = .ok (.aload_n 1, 1) := by decide +kernel
theorem dL_law_253 : decode cL_law 253 = .ok (.invokevirtual 25, 3) := by decide +kernel
theorem dL_law_256 : decode cL_law 256 = .ok (.aload_n 2, 1) := by decide +kernel
theorem dL_law_257 : decode cL_law 257 = .ok (.invokevirtual 28, 3) := by decide +kernel
theorem dL_law_260 : decode cL_law 260 = .ok (.if_icmp .eq 1003, 3) := by decide +kernel
theorem dL_law_263 : decode cL_law 263 = .ok (.iconst 0, 1) := by decide +kernel
theorem dL_law_264 : decode cL_law 264 = .ok (.ireturn, 1) := by decide +kernel
theorem dL_law_265 : decode cL_law 265 = .ok (.aload_n 1, 1) := by decide +kernel
theorem dL_law_266 : decode cL_law 266 = .ok (.invokevirtual 29, 3) := by decide +kernel
theorem dL_law_269 : decode cL_law 269 = .ok (.aload_n 2, 1) := by decide +kernel
theorem dL_law_270 : decode cL_law 270 = .ok (.invokevirtual 32, 3) := by decide +kernel
theorem dL_law_273 : decode cL_law 273 = .ok (.if_icmp .eq 990, 3) := by decide +kernel
theorem dL_law_276 : decode cL_law 276 = .ok (.iconst 0, 1) := by decide +kernel
theorem dL_law_277 : decode cL_law 277 = .ok (.ireturn, 1) := by decide +kernel
theorem dL_law_278 : decode cL_law 278 = .ok (.aload_n 1, 1) := by decide +kernel
theorem dL_law_279 : decode cL_law 279 = .ok (.aload_n 0, 1) := by decide +kernel
theorem dL_law_280 : decode cL_law 280 = .ok (.iload_n 3, 1) := by decide +kernel
theorem dL_law_281 : decode cL_law 281 = .ok (.iconst 1, 1) := by decide +kernel
theorem dL_law_282 : decode cL_law 282 = .ok (.iadd, 1) := by decide +kernel
theorem dL_law_283 : decode cL_law 283 = .ok (.iaload, 1) := by decide +kernel
theorem dL_law_284 : decode cL_law 284 = .ok (.aload_n 0, 1) := by decide +kernel
theorem dL_law_285 : decode cL_law 285 = .ok (.iload_n 3, 1) := by decide +kernel
theorem dL_law_286 : decode cL_law 286 = .ok (.iconst 2, 1) := by decide +kernel
theorem dL_law_287 : decode cL_law 287 = .ok (.iadd, 1) := by decide +kernel
theorem dL_law_288 : decode cL_law 288 = .ok (.iaload, 1) := by decide +kernel
theorem dL_law_289 : decode cL_law 289 = .ok (.invokevirtual 33, 3) := by decide +kernel
theorem dL_law_292 : decode cL_law 292 = .ok (.aload_n 2, 1) := by decide +kernel
theorem dL_law_293 : decode cL_law 293 = .ok (.aload_n 0, 1) := by decide +kernel
theorem dL_law_294 : decode cL_law 294 = .ok (.iload_n 3, 1) := by decide +kernel
theorem dL_law_295 : decode cL_law 295 = .ok (.iconst 1, 1) := by decide +kernel
theorem dL_law_296 : decode cL_law 296 = .ok (.iadd, 1) := by decide +kernel
theorem dL_law_297 : decode cL_law 297 = .ok (.iaload, 1) := by decide +kernel
theorem dL_law_298 : decode cL_law 298 = .ok (.aload_n 0, 1) := by decide +kernel
theorem dL_law_299 : decode cL_law 299 = .ok (.iload_n 3, 1) := by decide +kernel
theorem dL_law_300 : decode cL_law 300 = .ok (.iconst 2, 1) := by decide +kernel
theorem dL_law_301 : decode cL_law 301 = .ok (.iadd, 1) := by decide +kernel
theorem dL_law_302 : decode cL_law 302 = .ok (.iaload, 1) := by decide +kernel
theorem dL_law_303 : decode cL_law 303 = .ok (.invokevirtual 37, 3) := by decide +kernel
theorem dL_law_306 : decode cL_law 306 = .ok (.if_icmp .eq 957, 3) := by decide +kernel
theorem dL_law_309 : decode cL_law 309 = .ok (.iconst 0, 1) := by decide +kernel
theorem dL_law_310 : decode cL_law 310 = .ok (.ireturn, 1) := by decide +kernel
theorem dL_law_311 : decode cL_law 311 = .ok (.aload_n 1, 1) := by decide +kernel
theorem dL_law_312 : decode cL_law 312 = .ok (.aload_n 0, 1) := by decide +kernel
theorem dL_law_313 : decode cL_law 313 = .ok (.iload_n 3, 1) := by decide +kernel
theorem dL_law_314 : decode cL_law 314 = .ok (.iconst 1, 1) := by decide +kernel
theorem dL_law_315 : decode cL_law 315 = .ok (.iadd, 1) := by decide +kernel
theorem dL_law_316 : decode cL_law 316 = .ok (.iaload, 1) := by decide +kernel
theorem dL_law_317 : decode cL_law 317 = .ok (.invokevirtual 38, 3) := by decide +kernel
theorem dL_law_320 : decode cL_law 320 = .ok (.aload_n 2, 1) := by decide +kernel
theorem dL_law_321 : decode cL_law 321 = .ok (.aload_n 0, 1) := by decide +kernel
theorem dL_law_322 : decode cL_law 322 = .ok (.iload_n 3, 1) := by decide +kernel
theorem dL_law_323 : decode cL_law 323 = .ok (.iconst 1, 1) := by decide +kernel
theorem dL_law_324 : decode cL_law 324 = .ok (.iadd, 1) := by decide +kernel
theorem dL_law_325 : decode cL_law 325 = .ok (.iaload, 1) := by decide +kernel
theorem dL_law_326 : decode cL_law 326 = .ok (.invokevirtual 42, 3) := by decide +kernel
theorem dL_law_329 : decode cL_law 329 = .ok (.if_icmp .eq 934, 3) := by decide +kernel
theorem dL_law_332 : decode cL_law 332 = .ok (.iconst 0, 1) := by decide +kernel
theorem dL_law_333 : decode cL_law 333 = .ok (.ireturn, 1) := by decide +kernel
theorem dL_law_334 : decode cL_law 334 = .ok (.aload_n 1, 1) := by decide +kernel
theorem dL_law_335 : decode cL_law 335 = .ok (.aload_n 0, 1) := by decide +kernel
theorem dL_law_336 : decode cL_law 336 = .ok (.iload_n 3, 1) := by decide +kernel
theorem dL_law_337 : decode cL_law 337 = .ok (.iconst 1, 1) := by decide +kernel
theorem dL_law_338 : decode cL_law 338 = .ok (.iadd, 1) := by decide +kernel
theorem dL_law_339 : decode cL_law 339 = .ok (.iaload, 1) := by decide +kernel
theorem dL_law_340 : decode cL_law 340 = .ok (.i2l, 1) := by decide +kernel
theorem dL_law_341 : decode cL_law 341 = .ok (.bipush 32, 2) := by decide +kernel
theorem dL_law_343 : decode cL_law 343 = .ok (.lshl, 1) := by decide +kernel
theorem dL_law_344 : decode cL_law 344 = .ok (.aload_n 0, 1) := by decide +kernel
theorem dL_law_345 : decode cL_law 345 = .ok (.iload_n 3, 1) := by decide +kernel
theorem dL_law_346 : decode cL_law 346 = .ok (.iconst 2, 1) := by decide +kernel
theorem dL_law_347 : decode cL_law 347 = .ok (.iadd, 1) := by decide +kernel
theorem dL_law_348 : decode cL_law 348 = .ok (.iaload, 1) := by decide +kernel
theorem dL_law_349 : decode cL_law 349 = .ok (.i2l, 1) := by decide +kernel
theorem dL_law_350 : decode cL_law 350 = .ok (.ldc2_w 13, 3) := by decide +kernel
theorem dL_law_353 : decode cL_law 353 = .ok (.land, 1) := by decide +kernel
theorem dL_law_354 : decode cL_law 354 = .ok (.lor, 1) := by decide +kernel
theorem dL_law_355 : decode cL_law 355 = .ok (.invokevirtual 43, 3) := by decide +kernel
theorem dL_law_358 : decode cL_law 358 = .ok (.aload_n 2, 1) := by decide +kernel
theorem dL_law_359 : decode cL_law 359 = .ok (.aload_n 0, 1) := by decide +kernel
theorem dL_law_360 : decode cL_law 360 = .ok (.iload_n 3, 1) := by decide +kernel
theorem dL_law_361 : decode cL_law 361 = .ok (.iconst 1, 1) := by decide +kernel
theorem dL_law_362 : decode cL_law 362 = .ok (.iadd, 1) := by decide +kernel
theorem dL_law_363 : decode cL_law 363 = .ok (.iaload, 1) := by decide +kernel
theorem dL_law_364 : decode cL_law 364 = .ok (.i2l, 1) := by decide +kernel
theorem dL_law_365 : decode cL_law 365 = .ok (.bipush 32, 2) := by decide +kernel
theorem dL_law_367 : decode cL_law 367 = .ok (.lshl, 1) := by decide +kernel
theorem dL_law_368 : decode cL_law 368 = .ok (.aload_n 0, 1) := by decide +kernel
theorem dL_law_369 : decode cL_law 369 = .ok (.iload_n 3, 1) := by decide +kernel
theorem dL_law_370 : decode cL_law 370 = .ok (.iconst 2, 1) := by decide +kernel
theorem dL_law_371 : decode cL_law 371 = .ok (.iadd, 1) := by decide +kernel
theorem dL_law_372 : decode cL_law 372 = .ok (.iaload, 1) := by decide +kernel
theorem dL_law_373 : decode cL_law 373 = .ok (.i2l, 1) := by decide +kernel
theorem dL_law_374 : decode cL_law 374 = .ok (.ldc2_w 13, 3) := by decide +kernel
theorem dL_law_377 : decode cL_law 377 = .ok (.land, 1) := by decide +kernel
theorem dL_law_378 : decode cL_law 378 = .ok (.lor, 1) := by decide +kernel
theorem dL_law_379 : decode cL_law 379 = .ok (.invokevirtual 47, 3) := by decide +kernel
theorem dL_law_382 : decode cL_law 382 = .ok (.if_icmp .eq 881, 3) := by decide +kernel
theorem dL_law_385 : decode cL_law 385 = .ok (.iconst 0, 1) := by decide +kernel
theorem dL_law_386 : decode cL_law 386 = .ok (.ireturn, 1) := by decide +kernel
theorem dL_law_387 : decode cL_law 387 = .ok (.aload_n 1, 1) := by decide +kernel
theorem dL_law_388 : decode cL_law 388 = .ok (.aload_n 0, 1) := by decide +kernel
theorem dL_law_389 : decode cL_law 389 = .ok (.iload_n 3, 1) := by decide +kernel
theorem dL_law_390 : decode cL_law 390 = .ok (.iconst 1, 1) := by decide +kernel
theorem dL_law_391 : decode cL_law 391 = .ok (.iadd, 1) := by decide +kernel
theorem dL_law_392 : decode cL_law 392 = .ok (.iaload, 1) := by decide +kernel
theorem dL_law_393 : decode cL_law 393 = .ok (.i2l, 1) := by decide +kernel
theorem dL_law_394 : decode cL_law 394 = .ok (.bipush 32, 2) := by decide +kernel
theorem dL_law_396 : decode cL_law 396 = .ok (.lshl, 1) := by decide +kernel
theorem dL_law_397 : decode cL_law 397 = .ok (.aload_n 0, 1) := by decide +kernel
theorem dL_law_398 : decode cL_law 398 = .ok (.iload_n 3, 1) := by decide +kernel
theorem dL_law_399 : decode cL_law 399 = .ok (.iconst 2, 1) := by decide +kernel
theorem dL_law_400 : decode cL_law 400 = .ok (.iadd, 1) := by decide +kernel
theorem dL_law_401 : decode cL_law 401 = .ok (.iaload, 1) := by decide +kernel
theorem dL_law_402 : decode cL_law 402 = .ok (.i2l, 1) := by decide +kernel
theorem dL_law_403 : decode cL_law 403 = .ok (.ldc2_w 13, 3) := by decide +kernel
theorem dL_law_406 : decode cL_law 406 = .ok (.land, 1) := by decide +kernel
theorem dL_law_407 : decode cL_law 407 = .ok (.lor, 1) := by decide +kernel
theorem dL_law_408 : decode cL_law 408 = .ok (.aload_n 0, 1) := by decide +kernel
theorem dL_law_409 : decode cL_law 409 = .ok (.iload_n 3, 1) := by decide +kernel
theorem dL_law_410 : decode cL_law 410 = .ok (.iconst 3, 1) := by decide +kernel
theorem dL_law_411 : decode cL_law 411 = .ok (.iadd, 1) := by decide +kernel
theorem dL_law_412 : decode cL_law 412 = .ok (.iaload, 1) := by decide +kernel
theorem dL_law_413 : decode cL_law 413 = .ok (.aload_n 0, 1) := by decide +kernel
theorem dL_law_414 : decode cL_law 414 = .ok (.iload_n 3, 1) := by decide +kernel
theorem dL_law_415 : decode cL_law 415 = .ok (.iconst 4, 1) := by decide +kernel
theorem dL_law_416 : decode cL_law 416 = .ok (.iadd, 1) := by decide +kernel
theorem dL_law_417 : decode cL_law 417 = .ok (.iaload, 1) := by decide +kernel
theorem dL_law_418 : decode cL_law 418 = .ok (.invokevirtual 48, 3) := by decide +kernel
theorem dL_law_421 : decode cL_law 421 = .ok (.aload_n 2, 1) := by decide +kernel
theorem dL_law_422 : decode cL_law 422 = .ok (.aload_n 0, 1) := by decide +kernel
theorem dL_law_423 : decode cL_law 423 = .ok (.iload_n 3, 1) := by decide +kernel
theorem dL_law_424 : decode cL_law 424 = .ok (.iconst 1, 1) := by decide +kernel
theorem dL_law_425 : decode cL_law 425 = .ok (.iadd, 1) := by decide +kernel
theorem dL_law_426 : decode cL_law 426 = .ok (.iaload, 1) := by decide +kernel
theorem dL_law_427 : decode cL_law 427 = .ok (.i2l, 1) := by decide +kernel
theorem dL_law_428 : decode cL_law 428 = .ok (.bipush 32, 2) := by decide +kernel
theorem dL_law_430 : decode cL_law 430 = .ok (.lshl, 1) := by decide +kernel
theorem dL_law_431 : decode cL_law 431 = .ok (.aload_n 0, 1) := by decide +kernel
theorem dL_law_432 : decode cL_law 432 = .ok (.iload_n 3, 1) := by decide +kernel
theorem dL_law_433 : decode cL_law 433 = .ok (.iconst 2, 1) := by decide +kernel
theorem dL_law_434 : decode cL_law 434 = .ok (.iadd, 1) := by decide +kernel
theorem dL_law_435 : decode cL_law 435 = .ok (.iaload, 1) := by decide +kernel
theorem dL_law_436 : decode cL_law 436 = .ok (.i2l, 1) := by decide +kernel
theorem dL_law_437 : decode cL_law 437 = .ok (.ldc2_w 13, 3) := by decide +kernel
theorem dL_law_440 : decode cL_law 440 = .ok (.land, 1) := by decide +kernel
theorem dL_law_441 : decode cL_law 441 = .ok (.lor, 1) := by decide +kernel
theorem dL_law_442 : decode cL_law 442 = .ok (.aload_n 0, 1) := by decide +kernel
theorem dL_law_443 : decode cL_law 443 = .ok (.iload_n 3, 1) := by decide +kernel
theorem dL_law_444 : decode cL_law 444 = .ok (.iconst 3, 1) := by decide +kernel
theorem dL_law_445 : decode cL_law 445 = .ok (.iadd, 1) := by decide +kernel
theorem dL_law_446 : decode cL_law 446 = .ok (.iaload, 1) := by decide +kernel
theorem dL_law_447 : decode cL_law 447 = .ok (.aload_n 0, 1) := by decide +kernel
theorem dL_law_448 : decode cL_law 448 = .ok (.iload_n 3, 1) := by decide +kernel
theorem dL_law_449 : decode cL_law 449 = .ok (.iconst 4, 1) := by decide +kernel
theorem dL_law_450 : decode cL_law 450 = .ok (.iadd, 1) := by decide +kernel
theorem dL_law_451 : decode cL_law 451 = .ok (.iaload, 1) := by decide +kernel
theorem dL_law_452 : decode cL_law 452 = .ok (.invokevirtual 52, 3) := by decide +kernel
theorem dL_law_455 : decode cL_law 455 = .ok (.if_icmp .eq 808, 3) := by decide +kernel
theorem dL_law_458 : decode cL_law 458 = .ok (.iconst 0, 1) := by decide +kernel
theorem dL_law_459 : decode cL_law 459 = .ok (.ireturn, 1) := by decide +kernel
theorem dL_law_460 : decode cL_law 460 = .ok (.aload_n 1, 1) := by decide +kernel
theorem dL_law_461 : decode cL_law 461 = .ok (.aload_n 0, 1) := by decide +kernel
theorem dL_law_462 : decode cL_law 462 = .ok (.iload_n 3, 1) := by decide +kernel
theorem dL_law_463 : decode cL_law 463 = .ok (.iconst 1, 1) := by decide +kernel
theorem dL_law_464 : decode cL_law 464 = .ok (.iadd, 1) := by decide +kernel
theorem dL_law_465 : decode cL_law 465 = .ok (.iaload, 1) := by decide +kernel
theorem dL_law_466 : decode cL_law 466 = .ok (.i2l, 1) := by decide +kernel
theorem dL_law_467 : decode cL_law 467 = .ok (.bipush 32, 2) := by decide +kernel
theorem dL_law_469 : decode cL_law 469 = .ok (.lshl, 1) := by decide +kernel
theorem dL_law_470 : decode cL_law 470 = .ok (.aload_n 0, 1) := by decide +kernel
theorem dL_law_471 : decode cL_law 471 = .ok (.iload_n 3, 1) := by decide +kernel
theorem dL_law_472 : decode cL_law 472 = .ok (.iconst 2, 1) := by decide +kernel
theorem dL_law_473 : decode cL_law 473 = .ok (.iadd, 1) := by decide +kernel
theorem dL_law_474 : decode cL_law 474 = .ok (.iaload, 1) := by decide +kernel
theorem dL_law_475 : decode cL_law 475 = .ok (.i2l, 1) := by decide +kernel
theorem dL_law_476 : decode cL_law 476 = .ok (.ldc2_w 13, 3) := by decide +kernel
theorem dL_law_479 : decode cL_law 479 = .ok (.land, 1) := by decide +kernel
theorem dL_law_480 : decode cL_law 480 = .ok (.lor, 1) := by decide +kernel
theorem dL_law_481 : decode cL_law 481 = .ok (.aload_n 0, 1) := by decide +kernel
theorem dL_law_482 : decode cL_law 482 = .ok (.iload_n 3, 1) := by decide +kernel
theorem dL_law_483 : decode cL_law 483 = .ok (.iconst 3, 1) := by decide +kernel
theorem dL_law_484 : decode cL_law 484 = .ok (.iadd, 1) := by decide +kernel
theorem dL_law_485 : decode cL_law 485 = .ok (.iaload, 1) := by decide +kernel
theorem dL_law_486 : decode cL_law 486 = .ok (.invokevirtual 53, 3) := by decide +kernel
theorem dL_law_489 : decode cL_law 489 = .ok (.aload_n 2, 1) := by decide +kernel
theorem dL_law_490 : decode cL_law 490 = .ok (.aload_n 0, 1) := by decide +kernel
theorem dL_law_491 : decode cL_law 491 = .ok (.iload_n 3, 1) := by decide +kernel
theorem dL_law_492 : decode cL_law 492 = .ok (.iconst 1, 1) := by decide +kernel
theorem dL_law_493 : decode cL_law 493 = .ok (.iadd, 1) := by decide +kernel
theorem dL_law_494 : decode cL_law 494 = .ok (.iaload, 1) := by decide +kernel
theorem dL_law_495 : decode cL_law 495 = .ok (.i2l, 1) := by decide +kernel
theorem dL_law_496 : decode cL_law 496 = .ok (.bipush 32, 2) := by decide +kernel
theorem dL_law_498 : decode cL_law 498 = .ok (.lshl, 1) := by decide +kernel
theorem dL_law_499 : decode cL_law 499 = .ok (.aload_n 0, 1) := by decide +kernel
theorem dL_law_500 : decode cL_law 500 = .ok (.iload_n 3, 1) := by decide +kernel
theorem dL_law_501 : decode cL_law 501 = .ok (.iconst 2, 1) := by decide +kernel
theorem dL_law_502 : decode cL_law 502 = .ok (.iadd, 1) := by decide +kernel
theorem dL_law_503 : decode cL_law 503 = .ok (.iaload, 1) := by decide +kernel
theorem dL_law_504 : decode cL_law 504 = .ok (.i2l, 1) := by decide +kernel
theorem dL_law_505 : decode cL_law 505 = .ok (.ldc2_w 13, 3) := by decide +kernel
theorem dL_law_508 : decode cL_law 508 = .ok (.land, 1) := by decide +kernel
theorem dL_law_509 : decode cL_law 509 = .ok (.lor, 1) := by decide +kernel
theorem dL_law_510 : decode cL_law 510 = .ok (.aload_n 0, 1) := by decide +kernel
theorem dL_law_511 : decode cL_law 511 = .ok (.iload_n 3, 1) := by decide +kernel
theorem dL_law_512 : decode cL_law 512 = .ok (.iconst 3, 1) := by decide +kernel
theorem dL_law_513 : decode cL_law 513 = .ok (.iadd, 1) := by decide +kernel
theorem dL_law_514 : decode cL_law 514 = .ok (.iaload, 1) := by decide +kernel
theorem dL_law_515 : decode cL_law 515 = .ok (.invokevirtual 57, 3) := by decide +kernel
theorem dL_law_518 : decode cL_law 518 = .ok (.lcmp, 1) := by decide +kernel
theorem dL_law_519 : decode cL_law 519 = .ok (.ifCond .eq 744, 3) := by decide +kernel
theorem dL_law_522 : decode cL_law 522 = .ok (.iconst 0, 1) := by decide +kernel
theorem dL_law_523 : decode cL_law 523 = .ok (.ireturn, 1) := by decide +kernel
theorem dL_law_524 : decode cL_law 524 = .ok (.aload_n 1, 1) := by decide +kernel
theorem dL_law_525 : decode cL_law 525 = .ok (.aload_n 0, 1) := by decide +kernel
theorem dL_law_526 : decode cL_law 526 = .ok (.iload_n 3, 1) := by decide +kernel
theorem dL_law_527 : decode cL_law 527 = .ok (.iconst 1, 1) := by decide +kernel
theorem dL_law_528 : decode cL_law 528 = .ok (.iadd, 1) := by decide +kernel
theorem dL_law_529 : decode cL_law 529 = .ok (.iaload, 1) := by decide +kernel
theorem dL_law_530 : decode cL_law 530 = .ok (.aload_n 0, 1) := by decide +kernel
theorem dL_law_531 : decode cL_law 531 = .ok (.iload_n 3, 1) := by decide +kernel
theorem dL_law_532 : decode cL_law 532 = .ok (.iconst 2, 1) := by decide +kernel
theorem dL_law_533 : decode cL_law 533 = .ok (.iadd, 1) := by decide +kernel
theorem dL_law_534 : decode cL_law 534 = .ok (.iaload, 1) := by decide +kernel
theorem dL_law_535 : decode cL_law 535 = .ok (.i2l, 1) := by decide +kernel
theorem dL_law_536 : decode cL_law 536 = .ok (.bipush 32, 2) := by decide +kernel
theorem dL_law_538 : decode cL_law 538 = .ok (.lshl, 1) := by decide +kernel
theorem dL_law_539 : decode cL_law 539 = .ok (.aload_n 0, 1) := by decide +kernel
theorem dL_law_540 : decode cL_law 540 = .ok (.iload_n 3, 1) := by decide +kernel
theorem dL_law_541 : decode cL_law 541 = .ok (.iconst 3, 1) := by decide +kernel
theorem dL_law_542 : decode cL_law 542 = .ok (.iadd, 1) := by decide +kernel
theorem dL_law_543 : decode cL_law 543 = .ok (.iaload, 1) := by decide +kernel
theorem dL_law_544 : decode cL_law 544 = .ok (.i2l, 1) := by decide +kernel
theorem dL_law_545 : decode cL_law 545 = .ok (.ldc2_w 13, 3) := by decide +kernel
theorem dL_law_548 : decode cL_law 548 = .ok (.land, 1) := by decide +kernel
theorem dL_law_549 : decode cL_law 549 = .ok (.lor, 1) := by decide +kernel
theorem dL_law_550 : decode cL_law 550 = .ok (.invokevirtual 58, 3) := by decide +kernel
theorem dL_law_553 : decode cL_law 553 = .ok (.aload_n 2, 1) := by decide +kernel
theorem dL_law_554 : decode cL_law 554 = .ok (.aload_n 0, 1) := by decide +kernel
theorem dL_law_555 : decode cL_law 555 = .ok (.iload_n 3, 1) := by decide +kernel
theorem dL_law_556 : decode cL_law 556 = .ok (.iconst 1, 1) := by decide +kernel
theorem dL_law_557 : decode cL_law 557 = .ok (.iadd, 1) := by decide +kernel
theorem dL_law_558 : decode cL_law 558 = .ok (.iaload, 1) := by decide +kernel
theorem dL_law_559 : decode cL_law 559 = .ok (.aload_n 0, 1) := by decide +kernel
theorem dL_law_560 : decode cL_law 560 = .ok (.iload_n 3, 1) := by decide +kernel
theorem dL_law_561 : decode cL_law 561 = .ok (.iconst 2, 1) := by decide +kernel
theorem dL_law_562 : decode cL_law 562 = .ok (.iadd, 1) := by decide +kernel
theorem dL_law_563 : decode cL_law 563 = .ok (.iaload, 1) := by decide +kernel
theorem dL_law_564 : decode cL_law 564 = .ok (.i2l, 1) := by decide +kernel
theorem dL_law_565 : decode cL_law 565 = .ok (.bipush 32, 2) := by decide +kernel
theorem dL_law_567 : decode cL_law 567 = .ok (.lshl, 1) := by decide +kernel
theorem dL_law_568 : decode cL_law 568 = .ok (.aload_n 0, 1) := by decide +kernel
theorem dL_law_569 : decode cL_law 569 = .ok (.iload_n 3, 1) := by decide +kernel
theorem dL_law_570 : decode cL_law 570 = .ok (.iconst 3, 1) := by decide +kernel
theorem dL_law_571 : decode cL_law 571 = .ok (.iadd, 1) := by decide +kernel
theorem dL_law_572 : decode cL_law 572 = .ok (.iaload, 1) := by decide +kernel
theorem dL_law_573 : decode cL_law 573 = .ok (.i2l, 1) := by decide +kernel
theorem dL_law_574 : decode cL_law 574 = .ok (.ldc2_w 13, 3) := by decide +kernel
theorem dL_law_577 : decode cL_law 577 = .ok (.land, 1) := by decide +kernel
theorem dL_law_578 : decode cL_law 578 = .ok (.lor, 1) := by decide +kernel
theorem dL_law_579 : decode cL_law 579 = .ok (.invokevirtual 61, 3) := by decide +kernel
theorem dL_law_582 : decode cL_law 582 = .ok (.if_icmp .eq 681, 3) := by decide +kernel
theorem dL_law_585 : decode cL_law 585 = .ok (.iconst 0, 1) := by decide +kernel
theorem dL_law_586 : decode cL_law 586 = .ok (.ireturn, 1) := by decide +kernel
theorem dL_law_587 : decode cL_law 587 = .ok (.aload_n 1, 1) := by decide +kernel
theorem dL_law_588 : decode cL_law 588 = .ok (.aload_n 0, 1) := by decide +kernel
theorem dL_law_589 : decode cL_law 589 = .ok (.iload_n 3, 1) := by decide +kernel
theorem dL_law_590 : decode cL_law 590 = .ok (.iconst 1, 1) := by decide +kernel
theorem dL_law_591 : decode cL_law 591 = .ok (.iadd, 1) := by decide +kernel
theorem dL_law_592 : decode cL_law 592 = .ok (.iaload, 1) := by decide +kernel
theorem dL_law_593 : decode cL_law 593 = .ok (.invokevirtual 62, 3) := by decide +kernel
theorem dL_law_596 : decode cL_law 596 = .ok (.aload_n 2, 1) := by decide +kernel
theorem dL_law_597 : decode cL_law 597 = .ok (.aload_n 0, 1) := by decide +kernel
theorem dL_law_598 : decode cL_law 598 = .ok (.iload_n 3, 1) := by decide +kernel
theorem dL_law_599 : decode cL_law 599 = .ok (.iconst 1, 1) := by decide +kernel
theorem dL_law_600 : decode cL_law 600 = .ok (.iadd, 1) := by decide +kernel
theorem dL_law_601 : decode cL_law 601 = .ok (.iaload, 1) := by decide +kernel
theorem dL_law_602 : decode cL_law 602 = .ok (.invokevirtual 65, 3) := by decide +kernel
theorem dL_law_605 : decode cL_law 605 = .ok (.if_icmp .eq 658, 3) := by decide +kernel
theorem dL_law_608 : decode cL_law 608 = .ok (.iconst 0, 1) := by decide +kernel
theorem dL_law_609 : decode cL_law 609 = .ok (.ireturn, 1) := by decide +kernel
theorem dL_law_610 : decode cL_law 610 = .ok (.aload_n 1, 1) := by decide +kernel
theorem dL_law_611 : decode cL_law 611 = .ok (.invokevirtual 66, 3) := by decide +kernel
theorem dL_law_614 : decode cL_law 614 = .ok (.aload_n 2, 1) := by decide +kernel
theorem dL_law_615 : decode cL_law 615 = .ok (.invokevirtual 69, 3) := by decide +kernel
theorem dL_law_618 : decode cL_law 618 = .ok (.if_icmp .eq 645, 3) := by decide +kernel
theorem dL_law_621 : decode cL_law 621 = .ok (.iconst 0, 1) := by decide +kernel
theorem dL_law_622 : decode cL_law 622 = .ok (.ireturn, 1) := by decide +kernel
theorem dL_law_623 : decode cL_law 623 = .ok (.aload_n 1, 1) := by decide +kernel
theorem dL_law_624 : decode cL_law 624 = .ok (.aload_n 0, 1) := by decide +kernel
theorem dL_law_625 : decode cL_law 625 = .ok (.iload_n 3, 1) := by decide +kernel
theorem dL_law_626 : decode cL_law 626 = .ok (.iconst 1, 1) := by decide +kernel
theorem dL_law_627 : decode cL_law 627 = .ok (.iadd, 1) := by decide +kernel
theorem dL_law_628 : decode cL_law 628 = .ok (.iaload, 1) := by decide +kernel
theorem dL_law_629 : decode cL_law 629 = .ok (.i2l, 1) := by decide +kernel
theorem dL_law_630 : decode cL_law 630 = .ok (.bipush 32, 2) := by decide +kernel
theorem dL_law_632 : decode cL_law 632 = .ok (.lshl, 1) := by decide +kernel
theorem dL_law_633 : decode cL_law 633 = .ok (.aload_n 0, 1) := by decide +kernel
theorem dL_law_634 : decode cL_law 634 = .ok (.iload_n 3, 1) := by decide +kernel
theorem dL_law_635 : decode cL_law 635 = .ok (.iconst 2, 1) := by decide +kernel
theorem dL_law_636 : decode cL_law 636 = .ok (.iadd, 1) := by decide +kernel
theorem dL_law_637 : decode cL_law 637 = .ok (.iaload, 1) := by decide +kernel
theorem dL_law_638 : decode cL_law 638 = .ok (.i2l, 1) := by decide +kernel
theorem dL_law_639 : decode cL_law 639 = .ok (.ldc2_w 13, 3) := by decide +kernel
theorem dL_law_642 : decode cL_law 642 = .ok (.land, 1) := by decide +kernel
theorem dL_law_643 : decode cL_law 643 = .ok (.lor, 1) := by decide +kernel
theorem dL_law_644 : decode cL_law 644 = .ok (.aload_n 0, 1) := by decide +kernel
theorem dL_law_645 : decode cL_law 645 = .ok (.iload_n 3, 1) := by decide +kernel
theorem dL_law_646 : decode cL_law 646 = .ok (.iconst 3, 1) := by decide +kernel
theorem dL_law_647 : decode cL_law 647 = .ok (.iadd, 1) := by decide +kernel
theorem dL_law_648 : decode cL_law 648 = .ok (.iaload, 1) := by decide +kernel
theorem dL_law_649 : decode cL_law 649 = .ok (.invokevirtual 70, 3) := by decide +kernel
theorem dL_law_652 : decode cL_law 652 = .ok (.aload_n 2, 1) := by decide +kernel
theorem dL_law_653 : decode cL_law 653 = .ok (.aload_n 0, 1) := by decide +kernel
theorem dL_law_654 : decode cL_law 654 = .ok (.iload_n 3, 1) := by decide +kernel
theorem dL_law_655 : decode cL_law 655 = .ok (.iconst 1, 1) := by decide +kernel
theorem dL_law_656 : decode cL_law 656 = .ok (.iadd, 1) := by decide +kernel
theorem dL_law_657 : decode cL_law 657 = .ok (.iaload, 1) := by decide +kernel
theorem dL_law_658 : decode cL_law 658 = .ok (.i2l, 1) := by decide +kernel
theorem dL_law_659 : decode cL_law 659 = .ok (.bipush 32, 2) := by decide +kernel
theorem dL_law_661 : decode cL_law 661 = .ok (.lshl, 1) := by decide +kernel
theorem dL_law_662 : decode cL_law 662 = .ok (.aload_n 0, 1) := by decide +kernel
theorem dL_law_663 : decode cL_law 663 = .ok (.iload_n 3, 1) := by decide +kernel
theorem dL_law_664 : decode cL_law 664 = .ok (.iconst 2, 1) := by decide +kernel
theorem dL_law_665 : decode cL_law 665 = .ok (.iadd, 1) := by decide +kernel
theorem dL_law_666 : decode cL_law 666 = .ok (.iaload, 1) := by decide +kernel
theorem dL_law_667 : decode cL_law 667 = .ok (.i2l, 1) := by decide +kernel
theorem dL_law_668 : decode cL_law 668 = .ok (.ldc2_w 13, 3) := by decide +kernel
theorem dL_law_671 : decode cL_law 671 = .ok (.land, 1) := by decide +kernel
theorem dL_law_672 : decode cL_law 672 = .ok (.lor, 1) := by decide +kernel
theorem dL_law_673 : decode cL_law 673 = .ok (.aload_n 0, 1) := by decide +kernel
theorem dL_law_674 : decode cL_law 674 = .ok (.iload_n 3, 1) := by decide +kernel
theorem dL_law_675 : decode cL_law 675 = .ok (.iconst 3, 1) := by decide +kernel
theorem dL_law_676 : decode cL_law 676 = .ok (.iadd, 1) := by decide +kernel
theorem dL_law_677 : decode cL_law 677 = .ok (.iaload, 1) := by decide +kernel
theorem dL_law_678 : decode cL_law 678 = .ok (.invokevirtual 73, 3) := by decide +kernel
theorem dL_law_681 : decode cL_law 681 = .ok (.lcmp, 1) := by decide +kernel
theorem dL_law_682 : decode cL_law 682 = .ok (.ifCond .eq 581, 3) := by decide +kernel
theorem dL_law_685 : decode cL_law 685 = .ok (.iconst 0, 1) := by decide +kernel
theorem dL_law_686 : decode cL_law 686 = .ok (.ireturn, 1) := by decide +kernel
theorem dL_law_687 : decode cL_law 687 = .ok (.aload_n 1, 1) := by decide +kernel
theorem dL_law_688 : decode cL_law 688 = .ok (.aload_n 0, 1) := by decide +kernel
theorem dL_law_689 : decode cL_law 689 = .ok (.iload_n 3, 1) := by decide +kernel
theorem dL_law_690 : decode cL_law 690 = .ok (.iconst 1, 1) := by decide +kernel
theorem dL_law_691 : decode cL_law 691 = .ok (.iadd, 1) := by decide +kernel
theorem dL_law_692 : decode cL_law 692 = .ok (.iaload, 1) := by decide +kernel
theorem dL_law_693 : decode cL_law 693 = .ok (.invokevirtual 74, 3) := by decide +kernel
theorem dL_law_696 : decode cL_law 696 = .ok (.aload_n 2, 1) := by decide +kernel
theorem dL_law_697 : decode cL_law 697 = .ok (.aload_n 0, 1) := by decide +kernel
theorem dL_law_698 : decode cL_law 698 = .ok (.iload_n 3, 1) := by decide +kernel
theorem dL_law_699 : decode cL_law 699 = .ok (.iconst 1, 1) := by decide +kernel
theorem dL_law_700 : decode cL_law 700 = .ok (.iadd, 1) := by decide +kernel
theorem dL_law_701 : decode cL_law 701 = .ok (.iaload, 1) := by decide +kernel
theorem dL_law_702 : decode cL_law 702 = .ok (.invokevirtual 78, 3) := by decide +kernel
theorem dL_law_705 : decode cL_law 705 = .ok (.lcmp, 1) := by decide +kernel
theorem dL_law_706 : decode cL_law 706 = .ok (.ifCond .eq 557, 3) := by decide +kernel
theorem dL_law_709 : decode cL_law 709 = .ok (.iconst 0, 1) := by decide +kernel
theorem dL_law_710 : decode cL_law 710 = .ok (.ireturn, 1) := by decide +kernel
theorem dL_law_711 : decode cL_law 711 = .ok (.aload_n 1, 1) := by decide +kernel
theorem dL_law_712 : decode cL_law 712 = .ok (.aload_n 0, 1) := by decide +kernel
theorem dL_law_713 : decode cL_law 713 = .ok (.iload_n 3, 1) := by decide +kernel
theorem dL_law_714 : decode cL_law 714 = .ok (.iconst 1, 1) := by decide +kernel
theorem dL_law_715 : decode cL_law 715 = .ok (.iadd, 1) := by decide +kernel
theorem dL_law_716 : decode cL_law 716 = .ok (.iaload, 1) := by decide +kernel
theorem dL_law_717 : decode cL_law 717 = .ok (.invokevirtual 79, 3) := by decide +kernel
theorem dL_law_720 : decode cL_law 720 = .ok (.aload_n 2, 1) := by decide +kernel
theorem dL_law_721 : decode cL_law 721 = .ok (.aload_n 0, 1) := by decide +kernel
theorem dL_law_722 : decode cL_law 722 = .ok (.iload_n 3, 1) := by decide +kernel
theorem dL_law_723 : decode cL_law 723 = .ok (.iconst 1, 1) := by decide +kernel
theorem dL_law_724 : decode cL_law 724 = .ok (.iadd, 1) := by decide +kernel
theorem dL_law_725 : decode cL_law 725 = .ok (.iaload, 1) := by decide +kernel
theorem dL_law_726 : decode cL_law 726 = .ok (.invokevirtual 82, 3) := by decide +kernel
theorem dL_law_729 : decode cL_law 729 = .ok (.lcmp, 1) := by decide +kernel
theorem dL_law_730 : decode cL_law 730 = .ok (.ifCond .eq 533, 3) := by decide +kernel
theorem dL_law_733 : decode cL_law 733 = .ok (.iconst 0, 1) := by decide +kernel
theorem dL_law_734 : decode cL_law 734 = .ok (.ireturn, 1) := by decide +kernel
theorem dL_law_735 : decode cL_law 735 = .ok (.aload_n 1, 1) := by decide +kernel
theorem dL_law_736 : decode cL_law 736 = .ok (.aload_n 0, 1) := by decide +kernel
theorem dL_law_737 : decode cL_law 737 = .ok (.iload_n 3, 1) := by decide +kernel
theorem dL_law_738 : decode cL_law 738 = .ok (.iconst 1, 1) := by decide +kernel
theorem dL_law_739 : decode cL_law 739 = .ok (.iadd, 1) := by decide +kernel
theorem dL_law_740 : decode cL_law 740 = .ok (.iaload, 1) := by decide +kernel
theorem dL_law_741 : decode cL_law 741 = .ok (.aload_n 0, 1) := by decide +kernel
theorem dL_law_742 : decode cL_law 742 = .ok (.iload_n 3, 1) := by decide +kernel
theorem dL_law_743 : decode cL_law 743 = .ok (.iconst 2, 1) := by decide +kernel
theorem dL_law_744 : decode cL_law 744 = .ok (.iadd, 1) := by decide +kernel
theorem dL_law_745 : decode cL_law 745 = .ok (.iaload, 1) := by decide +kernel
theorem dL_law_746 : decode cL_law 746 = .ok (.aload_n 0, 1) := by decide +kernel
theorem dL_law_747 : decode cL_law 747 = .ok (.iload_n 3, 1) := by decide +kernel
theorem dL_law_748 : decode cL_law 748 = .ok (.iconst 3, 1) := by decide +kernel
theorem dL_law_749 : decode cL_law 749 = .ok (.iadd, 1) := by decide +kernel
theorem dL_law_750 : decode cL_law 750 = .ok (.iaload, 1) := by decide +kernel
theorem dL_law_751 : decode cL_law 751 = .ok (.ifCond .eq 7, 3) := by decide +kernel
theorem dL_law_754 : decode cL_law 754 = .ok (.iconst 1, 1) := by decide +kernel
theorem dL_law_755 : decode cL_law 755 = .ok (.goto 4, 3) := by decide +kernel
theorem dL_law_758 : decode cL_law 758 = .ok (.iconst 0, 1) := by decide +kernel
theorem dL_law_759 : decode cL_law 759 = .ok (.invokevirtual 83, 3) := by decide +kernel
theorem dL_law_762 : decode cL_law 762 = .ok (.aload_n 2, 1) := by decide +kernel
theorem dL_law_763 : decode cL_law 763 = .ok (.aload_n 0, 1) := by decide +kernel
theorem dL_law_764 : decode cL_law 764 = .ok (.iload_n 3, 1) := by decide +kernel
theorem dL_law_765 : decode cL_law 765 = .ok (.iconst 1, 1) := by decide +kernel
theorem dL_law_766 : decode cL_law 766 = .ok (.iadd, 1) := by decide +kernel
theorem dL_law_767 : decode cL_law 767 = .ok (.iaload, 1) := by decide +kernel
theorem dL_law_768 : decode cL_law 768 = .ok (.aload_n 0, 1) := by decide +kernel
theorem dL_law_769 : decode cL_law 769 = .ok (.iload_n 3, 1) := by decide +kernel
theorem dL_law_770 : decode cL_law 770 = .ok (.iconst 2, 1) := by decide +kernel
theorem dL_law_771 : decode cL_law 771 = .ok (.iadd, 1) := by decide +kernel
theorem dL_law_772 : decode cL_law 772 = .ok (.iaload, 1) := by decide +kernel
theorem dL_law_773 : decode cL_law 773 = .ok (.aload_n 0, 1) := by decide +kernel
theorem dL_law_774 : decode cL_law 774 = .ok (.iload_n 3, 1) := by decide +kernel
theorem dL_law_775 : decode cL_law 775 = .ok (.iconst 3, 1) := by decide +kernel
theorem dL_law_776 : decode cL_law 776 = .ok (.iadd, 1) := by decide +kernel
theorem dL_law_777 : decode cL_law 777 = .ok (.iaload, 1) := by decide +kernel
theorem dL_law_778 : decode cL_law 778 = .ok (.ifCond .eq 7, 3) := by decide +kernel
theorem dL_law_781 : decode cL_law 781 = .ok (.iconst 1, 1) := by decide +kernel
theorem dL_law_782 : decode cL_law 782 = .ok (.goto 4, 3) := by decide +kernel
theorem dL_law_785 : decode cL_law 785 = .ok (.iconst 0, 1) := by decide +kernel
theorem dL_law_786 : decode cL_law 786 = .ok (.invokevirtual 87, 3) := by decide +kernel
theorem dL_law_789 : decode cL_law 789 = .ok (.if_icmp .eq 474, 3) := by decide +kernel
theorem dL_law_792 : decode cL_law 792 = .ok (.iconst 0, 1) := by decide +kernel
theorem dL_law_793 : decode cL_law 793 = .ok (.ireturn, 1) := by decide +kernel
theorem dL_law_794 : decode cL_law 794 = .ok (.aload_n 1, 1) := by decide +kernel
theorem dL_law_795 : decode cL_law 795 = .ok (.invokevirtual 88, 3) := by decide +kernel
theorem dL_law_798 : decode cL_law 798 = .ok (.aload_n 2, 1) := by decide +kernel
theorem dL_law_799 : decode cL_law 799 = .ok (.invokevirtual 91, 3) := by decide +kernel
theorem dL_law_802 : decode cL_law 802 = .ok (.if_icmp .eq 461, 3) := by decide +kernel
theorem dL_law_805 : decode cL_law 805 = .ok (.iconst 0, 1) := by decide +kernel
theorem dL_law_806 : decode cL_law 806 = .ok (.ireturn, 1) := by decide +kernel
theorem dL_law_807 : decode cL_law 807 = .ok (.aload_n 1, 1) := by decide +kernel
theorem dL_law_808 : decode cL_law 808 = .ok (.aload_n 0, 1) := by decide +kernel
theorem dL_law_809 : decode cL_law 809 = .ok (.iload_n 3, 1) := by decide +kernel
theorem dL_law_810 : decode cL_law 810 = .ok (.iconst 1, 1) := by decide +kernel
theorem dL_law_811 : decode cL_law 811 = .ok (.iadd, 1) := by decide +kernel
theorem dL_law_812 : decode cL_law 812 = .ok (.iaload, 1) := by decide +kernel
theorem dL_law_813 : decode cL_law 813 = .ok (.invokevirtual 92, 3) := by decide +kernel
theorem dL_law_816 : decode cL_law 816 = .ok (.aload_n 2, 1) := by decide +kernel
theorem dL_law_817 : decode cL_law 817 = .ok (.aload_n 0, 1) := by decide +kernel
theorem dL_law_818 : decode cL_law 818 = .ok (.iload_n 3, 1) := by decide +kernel
theorem dL_law_819 : decode cL_law 819 = .ok (.iconst 1, 1) := by decide +kernel
theorem dL_law_820 : decode cL_law 820 = .ok (.iadd, 1) := by decide +kernel
theorem dL_law_821 : decode cL_law 821 = .ok (.iaload, 1) := by decide +kernel
theorem dL_law_822 : decode cL_law 822 = .ok (.invokevirtual 95, 3) := by decide +kernel
theorem dL_law_825 : decode cL_law 825 = .ok (.if_icmp .eq 438, 3) := by decide +kernel
theorem dL_law_828 : decode cL_law 828 = .ok (.iconst 0, 1) := by decide +kernel
theorem dL_law_829 : decode cL_law 829 = .ok (.ireturn, 1) := by decide +kernel
theorem dL_law_830 : decode cL_law 830 = .ok (.aload_n 1, 1) := by decide +kernel
theorem dL_law_831 : decode cL_law 831 = .ok (.aload_n 0, 1) := by decide +kernel
theorem dL_law_832 : decode cL_law 832 = .ok (.iload_n 3, 1) := by decide +kernel
theorem dL_law_833 : decode cL_law 833 = .ok (.iconst 1, 1) := by decide +kernel
theorem dL_law_834 : decode cL_law 834 = .ok (.iadd, 1) := by decide +kernel
theorem dL_law_835 : decode cL_law 835 = .ok (.iaload, 1) := by decide +kernel
theorem dL_law_836 : decode cL_law 836 = .ok (.aload_n 0, 1) := by decide +kernel
theorem dL_law_837 : decode cL_law 837 = .ok (.iload_n 3, 1) := by decide +kernel
theorem dL_law_838 : decode cL_law 838 = .ok (.iconst 2, 1) := by decide +kernel
theorem dL_law_839 : decode cL_law 839 = .ok (.iadd, 1) := by decide +kernel
theorem dL_law_840 : decode cL_law 840 = .ok (.iaload, 1) := by decide +kernel
theorem dL_law_841 : decode cL_law 841 = .ok (.aload_n 0, 1) := by decide +kernel
theorem dL_law_842 : decode cL_law 842 = .ok (.iload_n 3, 1) := by decide +kernel
theorem dL_law_843 : decode cL_law 843 = .ok (.iconst 3, 1) := by decide +kernel
theorem dL_law_844 : decode cL_law 844 = .ok (.iadd, 1) := by decide +kernel
theorem dL_law_845 : decode cL_law 845 = .ok (.iaload, 1) := by decide +kernel
theorem dL_law_846 : decode cL_law 846 = .ok (.invokevirtual 96, 3) := by decide +kernel
theorem dL_law_849 : decode cL_law 849 = .ok (.aload_n 2, 1) := by decide +kernel
theorem dL_law_850 : decode cL_law 850 = .ok (.aload_n 0, 1) := by decide +kernel
theorem dL_law_851 : decode cL_law 851 = .ok (.iload_n 3, 1) := by decide +kernel
theorem dL_law_852 : decode cL_law 852 = .ok (.iconst 1, 1) := by decide +kernel
theorem dL_law_853 : decode cL_law 853 = .ok (.iadd, 1) := by decide +kernel
theorem dL_law_854 : decode cL_law 854 = .ok (.iaload, 1) := by decide +kernel
theorem dL_law_855 : decode cL_law 855 = .ok (.aload_n 0, 1) := by decide +kernel
theorem dL_law_856 : decode cL_law 856 = .ok (.iload_n 3, 1) := by decide +kernel
theorem dL_law_857 : decode cL_law 857 = .ok (.iconst 2, 1) := by decide +kernel
theorem dL_law_858 : decode cL_law 858 = .ok (.iadd, 1) := by decide +kernel
theorem dL_law_859 : decode cL_law 859 = .ok (.iaload, 1) := by decide +kernel
theorem dL_law_860 : decode cL_law 860 = .ok (.aload_n 0, 1) := by decide +kernel
theorem dL_law_861 : decode cL_law 861 = .ok (.iload_n 3, 1) := by decide +kernel
theorem dL_law_862 : decode cL_law 862 = .ok (.iconst 3, 1) := by decide +kernel
theorem dL_law_863 : decode cL_law 863 = .ok (.iadd, 1) := by decide +kernel
theorem dL_law_864 : decode cL_law 864 = .ok (.iaload, 1) := by decide +kernel
theorem dL_law_865 : decode cL_law 865 = .ok (.invokevirtual 100, 3) := by decide +kernel
theorem dL_law_868 : decode cL_law 868 = .ok (.if_icmp .eq 395, 3) := by decide +kernel
theorem dL_law_871 : decode cL_law 871 = .ok (.iconst 0, 1) := by decide +kernel
theorem dL_law_872 : decode cL_law 872 = .ok (.ireturn, 1) := by decide +kernel
theorem dL_law_873 : decode cL_law 873 = .ok (.aload_n 1, 1) := by decide +kernel
theorem dL_law_874 : decode cL_law 874 = .ok (.aload_n 0, 1) := by decide +kernel
theorem dL_law_875 : decode cL_law 875 = .ok (.iload_n 3, 1) := by decide +kernel
theorem dL_law_876 : decode cL_law 876 = .ok (.iconst 1, 1) := by decide +kernel
theorem dL_law_877 : decode cL_law 877 = .ok (.iadd, 1) := by decide +kernel
theorem dL_law_878 : decode cL_law 878 = .ok (.iaload, 1) := by decide +kernel
theorem dL_law_879 : decode cL_law 879 = .ok (.invokevirtual 101, 3) := by decide +kernel
theorem dL_law_882 : decode cL_law 882 = .ok (.aload_n 2, 1) := by decide +kernel
theorem dL_law_883 : decode cL_law 883 = .ok (.aload_n 0, 1) := by decide +kernel
theorem dL_law_884 : decode cL_law 884 = .ok (.iload_n 3, 1) := by decide +kernel
theorem dL_law_885 : decode cL_law 885 = .ok (.iconst 1, 1) := by decide +kernel
theorem dL_law_886 : decode cL_law 886 = .ok (.iadd, 1) := by decide +kernel
theorem dL_law_887 : decode cL_law 887 = .ok (.iaload, 1) := by decide +kernel
theorem dL_law_888 : decode cL_law 888 = .ok (.invokevirtual 104, 3) := by decide +kernel
theorem dL_law_891 : decode cL_law 891 = .ok (.if_icmp .eq 372, 3) := by decide +kernel
theorem dL_law_894 : decode cL_law 894 = .ok (.iconst 0, 1) := by decide +kernel
theorem dL_law_895 : decode cL_law 895 = .ok (.ireturn, 1) := by decide +kernel
theorem dL_law_896 : decode cL_law 896 = .ok (.aload_n 1, 1) := by decide +kernel
theorem dL_law_897 : decode cL_law 897 = .ok (.aload_n 0, 1) := by decide +kernel
theorem dL_law_898 : decode cL_law 898 = .ok (.iload_n 3, 1) := by decide +kernel
theorem dL_law_899 : decode cL_law 899 = .ok (.iconst 1, 1) := by decide +kernel
theorem dL_law_900 : decode cL_law 900 = .ok (.iadd, 1) := by decide +kernel
theorem dL_law_901 : decode cL_law 901 = .ok (.iaload, 1) := by decide +kernel
theorem dL_law_902 : decode cL_law 902 = .ok (.invokevirtual 105, 3) := by decide +kernel
theorem dL_law_905 : decode cL_law 905 = .ok (.aload_n 2, 1) := by decide +kernel
theorem dL_law_906 : decode cL_law 906 = .ok (.aload_n 0, 1) := by decide +kernel
theorem dL_law_907 : decode cL_law 907 = .ok (.iload_n 3, 1) := by decide +kernel
theorem dL_law_908 : decode cL_law 908 = .ok (.iconst 1, 1) := by decide +kernel
theorem dL_law_909 : decode cL_law 909 = .ok (.iadd, 1) := by decide +kernel
theorem dL_law_910 : decode cL_law 910 = .ok (.iaload, 1) := by decide +kernel
theorem dL_law_911 : decode cL_law 911 = .ok (.invokevirtual 108, 3) := by decide +kernel
theorem dL_law_914 : decode cL_law 914 = .ok (.if_icmp .eq 349, 3) := by decide +kernel
theorem dL_law_917 : decode cL_law 917 = .ok (.iconst 0, 1) := by decide +kernel
theorem dL_law_918 : decode cL_law 918 = .ok (.ireturn, 1) := by decide +kernel
theorem dL_law_919 : decode cL_law 919 = .ok (.aload_n 1, 1) := by decide +kernel
theorem dL_law_920 : decode cL_law 920 = .ok (.aload_n 0, 1) := by decide +kernel
theorem dL_law_921 : decode cL_law 921 = .ok (.iload_n 3, 1) := by decide +kernel
theorem dL_law_922 : decode cL_law 922 = .ok (.iconst 1, 1) := by decide +kernel
theorem dL_law_923 : decode cL_law 923 = .ok (.iadd, 1) := by decide +kernel
theorem dL_law_924 : decode cL_law 924 = .ok (.iaload, 1) := by decide +kernel
theorem dL_law_925 : decode cL_law 925 = .ok (.invokevirtual 109, 3) := by decide +kernel
theorem dL_law_928 : decode cL_law 928 = .ok (.aload_n 2, 1) := by decide +kernel
theorem dL_law_929 : decode cL_law 929 = .ok (.aload_n 0, 1) := by decide +kernel
theorem dL_law_930 : decode cL_law 930 = .ok (.iload_n 3, 1) := by decide +kernel
theorem dL_law_931 : decode cL_law 931 = .ok (.iconst 1, 1) := by decide +kernel
theorem dL_law_932 : decode cL_law 932 = .ok (.iadd, 1) := by decide +kernel
theorem dL_law_933 : decode cL_law 933 = .ok (.iaload, 1) := by decide +kernel
theorem dL_law_934 : decode cL_law 934 = .ok (.invokevirtual 112, 3) := by decide +kernel
theorem dL_law_937 : decode cL_law 937 = .ok (.if_icmp .eq 326, 3) := by decide +kernel
theorem dL_law_940 : decode cL_law 940 = .ok (.iconst 0, 1) := by decide +kernel
theorem dL_law_941 : decode cL_law 941 = .ok (.ireturn, 1) := by decide +kernel
theorem dL_law_942 : decode cL_law 942 = .ok (.aload_n 1, 1) := by decide +kernel
theorem dL_law_943 : decode cL_law 943 = .ok (.aload_n 0, 1) := by decide +kernel
theorem dL_law_944 : decode cL_law 944 = .ok (.iload_n 3, 1) := by decide +kernel
theorem dL_law_945 : decode cL_law 945 = .ok (.iconst 1, 1) := by decide +kernel
theorem dL_law_946 : decode cL_law 946 = .ok (.iadd, 1) := by decide +kernel
theorem dL_law_947 : decode cL_law 947 = .ok (.iaload, 1) := by decide +kernel
theorem dL_law_948 : decode cL_law 948 = .ok (.aload_n 0, 1) := by decide +kernel
theorem dL_law_949 : decode cL_law 949 = .ok (.iload_n 3, 1) := by decide +kernel
theorem dL_law_950 : decode cL_law 950 = .ok (.iconst 2, 1) := by decide +kernel
theorem dL_law_951 : decode cL_law 951 = .ok (.iadd, 1) := by decide +kernel
theorem dL_law_952 : decode cL_law 952 = .ok (.iaload, 1) := by decide +kernel
theorem dL_law_953 : decode cL_law 953 = .ok (.aload_n 0, 1) := by decide +kernel
theorem dL_law_954 : decode cL_law 954 = .ok (.iload_n 3, 1) := by decide +kernel
theorem dL_law_955 : decode cL_law 955 = .ok (.iconst 3, 1) := by decide +kernel
theorem dL_law_956 : decode cL_law 956 = .ok (.iadd, 1) := by decide +kernel
theorem dL_law_957 : decode cL_law 957 = .ok (.iaload, 1) := by decide +kernel
theorem dL_law_958 : decode cL_law 958 = .ok (.i2l, 1) := by decide +kernel
theorem dL_law_959 : decode cL_law 959 = .ok (.bipush 32, 2) := by decide +kernel
theorem dL_law_961 : decode cL_law 961 = .ok (.lshl, 1) := by decide +kernel
theorem dL_law_962 : decode cL_law 962 = .ok (.aload_n 0, 1) := by decide +kernel
theorem dL_law_963 : decode cL_law 963 = .ok (.iload_n 3, 1) := by decide +kernel
theorem dL_law_964 : decode cL_law 964 = .ok (.iconst 4, 1) := by decide +kernel
theorem dL_law_965 : decode cL_law 965 = .ok (.iadd, 1) := by decide +kernel
theorem dL_law_966 : decode cL_law 966 = .ok (.iaload, 1) := by decide +kernel
theorem dL_law_967 : decode cL_law 967 = .ok (.i2l, 1) := by decide +kernel
theorem dL_law_968 : decode cL_law 968 = .ok (.ldc2_w 13, 3) := by decide +kernel
theorem dL_law_971 : decode cL_law 971 = .ok (.land, 1) := by decide +kernel
theorem dL_law_972 : decode cL_law 972 = .ok (.lor, 1) := by decide +kernel
theorem dL_law_973 : decode cL_law 973 = .ok (.invokevirtual 113, 3) := by decide +kernel
theorem dL_law_976 : decode cL_law 976 = .ok (.aload_n 2, 1) := by decide +kernel
theorem dL_law_977 : decode cL_law 977 = .ok (.aload_n 0, 1) := by decide +kernel
theorem dL_law_978 : decode cL_law 978 = .ok (.iload_n 3, 1) := by decide +kernel
theorem dL_law_979 : decode cL_law 979 = .ok (.iconst 1, 1) := by decide +kernel
theorem dL_law_980 : decode cL_law 980 = .ok (.iadd, 1) := by decide +kernel
theorem dL_law_981 : decode cL_law 981 = .ok (.iaload, 1) := by decide +kernel
theorem dL_law_982 : decode cL_law 982 = .ok (.aload_n 0, 1) := by decide +kernel
theorem dL_law_983 : decode cL_law 983 = .ok (.iload_n 3, 1) := by decide +kernel
theorem dL_law_984 : decode cL_law 984 = .ok (.iconst 2, 1) := by decide +kernel
theorem dL_law_985 : decode cL_law 985 = .ok (.iadd, 1) := by decide +kernel
theorem dL_law_986 : decode cL_law 986 = .ok (.iaload, 1) := by decide +kernel
theorem dL_law_987 : decode cL_law 987 = .ok (.aload_n 0, 1) := by decide +kernel
theorem dL_law_988 : decode cL_law 988 = .ok (.iload_n 3, 1) := by decide +kernel
theorem dL_law_989 : decode cL_law 989 = .ok (.iconst 3, 1) := by decide +kernel
theorem dL_law_990 : decode cL_law 990 = .ok (.iadd, 1) := by decide +kernel
theorem dL_law_991 : decode cL_law 991 = .ok (.iaload, 1) := by decide +kernel
theorem dL_law_992 : decode cL_law 992 = .ok (.i2l, 1) := by decide +kernel
theorem dL_law_993 : decode cL_law 993 = .ok (.bipush 32, 2) := by decide +kernel
theorem dL_law_995 : decode cL_law 995 = .ok (.lshl, 1) := by decide +kernel
theorem dL_law_996 : decode cL_law 996 = .ok (.aload_n 0, 1) := by decide +kernel
theorem dL_law_997 : decode cL_law 997 = .ok (.iload_n 3, 1) := by decide +kernel
theorem dL_law_998 : decode cL_law 998 = .ok (.iconst 4, 1) := by decide +kernel
theorem dL_law_999 : decode cL_law 999 = .ok (.iadd, 1) := by decide +kernel
theorem dL_law_1000 : decode cL_law 1000 = .ok (.iaload, 1) := by decide +kernel
theorem dL_law_1001 : decode cL_law 1001 = .ok (.i2l, 1) := by decide +kernel
theorem dL_law_1002 : decode cL_law 1002 = .ok (.ldc2_w 13, 3) := by decide +kernel
theorem dL_law_1005 : decode cL_law 1005 = .ok (.land, 1) := by decide +kernel
theorem dL_law_1006 : decode cL_law 1006 = .ok (.lor, 1) := by decide +kernel
theorem dL_law_1007 : decode cL_law 1007 = .ok (.invokevirtual 117, 3) := by decide +kernel
theorem dL_law_1010 : decode cL_law 1010 = .ok (.lcmp, 1) := by decide +kernel
theorem dL_law_1011 : decode cL_law 1011 = .ok (.ifCond .eq 252, 3) := by decide +kernel
theorem dL_law_1014 : decode cL_law 1014 = .ok (.iconst 0, 1) := by decide +kernel
theorem dL_law_1015 : decode cL_law 1015 = .ok (.ireturn, 1) := by decide +kernel
theorem dL_law_1016 : decode cL_law 1016 = .ok (.aload_n 1, 1) := by decide +kernel
theorem dL_law_1017 : decode cL_law 1017 = .ok (.aload_n 0, 1) := by decide +kernel
theorem dL_law_1018 : decode cL_law 1018 = .ok (.iload_n 3, 1) := by decide +kernel
theorem dL_law_1019 : decode cL_law 1019 = .ok (.iconst 1, 1) := by decide +kernel
theorem dL_law_1020 : decode cL_law 1020 = .ok (.iadd, 1) := by decide +kernel
theorem dL_law_1021 : decode cL_law 1021 = .ok (.iaload, 1) := by decide +kernel
theorem dL_law_1022 : decode cL_law 1022 = .ok (.aload_n 0, 1) := by decide +kernel
theorem dL_law_1023 : decode cL_law 1023 = .ok (.iload_n 3, 1) := by decide +kernel
theorem dL_law_1024 : decode cL_law 1024 = .ok (.iconst 2, 1) := by decide +kernel
theorem dL_law_1025 : decode cL_law 1025 = .ok (.iadd, 1) := by decide +kernel
theorem dL_law_1026 : decode cL_law 1026 = .ok (.iaload, 1) := by decide +kernel
theorem dL_law_1027 : decode cL_law 1027 = .ok (.invokevirtual 118, 3) := by decide +kernel
theorem dL_law_1030 : decode cL_law 1030 = .ok (.aload_n 2, 1) := by decide +kernel
theorem dL_law_1031 : decode cL_law 1031 = .ok (.aload_n 0, 1) := by decide +kernel
theorem dL_law_1032 : decode cL_law 1032 = .ok (.iload_n 3, 1) := by decide +kernel
theorem dL_law_1033 : decode cL_law 1033 = .ok (.iconst 1, 1) := by decide +kernel
theorem dL_law_1034 : decode cL_law 1034 = .ok (.iadd, 1) := by decide +kernel
theorem dL_law_1035 : decode cL_law 1035 = .ok (.iaload, 1) := by decide +kernel
theorem dL_law_1036 : decode cL_law 1036 = .ok (.aload_n 0, 1) := by decide +kernel
theorem dL_law_1037 : decode cL_law 1037 = .ok (.iload_n 3, 1) := by decide +kernel
theorem dL_law_1038 : decode cL_law 1038 = .ok (.iconst 2, 1) := by decide +kernel
theorem dL_law_1039 : decode cL_law 1039 = .ok (.iadd, 1) := by decide +kernel
theorem dL_law_1040 : decode cL_law 1040 = .ok (.iaload, 1) := by decide +kernel
theorem dL_law_1041 : decode cL_law 1041 = .ok (.invokevirtual 121, 3) := by decide +kernel
theorem dL_law_1044 : decode cL_law 1044 = .ok (.if_icmp .eq 219, 3) := by decide +kernel
theorem dL_law_1047 : decode cL_law 1047 = .ok (.iconst 0, 1) := by decide +kernel
theorem dL_law_1048 : decode cL_law 1048 = .ok (.ireturn, 1) := by decide +kernel
theorem dL_law_1049 : decode cL_law 1049 = .ok (.aload_n 1, 1) := by decide +kernel
theorem dL_law_1050 : decode cL_law 1050 = .ok (.invokevirtual 122, 3) := by decide +kernel
theorem dL_law_1053 : decode cL_law 1053 = .ok (.aload_n 2, 1) := by decide +kernel
theorem dL_law_1054 : decode cL_law 1054 = .ok (.invokevirtual 125, 3) := by decide +kernel
theorem dL_law_1057 : decode cL_law 1057 = .ok (.if_icmp .eq 206, 3) := by decide +kernel
theorem dL_law_1060 : decode cL_law 1060 = .ok (.iconst 0, 1) := by decide +kernel
theorem dL_law_1061 : decode cL_law 1061 = .ok (.ireturn, 1) := by decide +kernel
theorem dL_law_1062 : decode cL_law 1062 = .ok (.aload_n 1, 1) := by decide +kernel
theorem dL_law_1063 : decode cL_law 1063 = .ok (.invokevirtual 126, 3) := by decide +kernel
theorem dL_law_1066 : decode cL_law 1066 = .ok (.aload_n 2, 1) := by decide +kernel
theorem dL_law_1067 : decode cL_law 1067 = .ok (.invokevirtual 129, 3) := by decide +kernel
theorem dL_law_1070 : decode cL_law 1070 = .ok (.if_icmp .eq 193, 3) := by decide +kernel
theorem dL_law_1073 : decode cL_law 1073 = .ok (.iconst 0, 1) := by decide +kernel
theorem dL_law_1074 : decode cL_law 1074 = .ok (.ireturn, 1) := by decide +kernel
theorem dL_law_1075 : decode cL_law 1075 = .ok (.aload_n 1, 1) := by decide +kernel
theorem dL_law_1076 : decode cL_law 1076 = .ok (.aload_n 0, 1) := by decide +kernel
theorem dL_law_1077 : decode cL_law 1077 = .ok (.iload_n 3, 1) := by decide +kernel
theorem dL_law_1078 : decode cL_law 1078 = .ok (.iconst 1, 1) := by decide +kernel
theorem dL_law_1079 : decode cL_law 1079 = .ok (.iadd, 1) := by decide +kernel
theorem dL_law_1080 : decode cL_law 1080 = .ok (.iaload, 1) := by decide +kernel
theorem dL_law_1081 : decode cL_law 1081 = .ok (.invokevirtual 130, 3) := by decide +kernel
theorem dL_law_1084 : decode cL_law 1084 = .ok (.aload_n 2, 1) := by decide +kernel
theorem dL_law_1085 : decode cL_law 1085 = .ok (.aload_n 0, 1) := by decide +kernel
theorem dL_law_1086 : decode cL_law 1086 = .ok (.iload_n 3, 1) := by decide +kernel
theorem dL_law_1087 : decode cL_law 1087 = .ok (.iconst 1, 1) := by decide +kernel
theorem dL_law_1088 : decode cL_law 1088 = .ok (.iadd, 1) := by decide +kernel
theorem dL_law_1089 : decode cL_law 1089 = .ok (.iaload, 1) := by decide +kernel
theorem dL_law_1090 : decode cL_law 1090 = .ok (.invokevirtual 133, 3) := by decide +kernel
theorem dL_law_1093 : decode cL_law 1093 = .ok (.if_icmp .eq 170, 3) := by decide +kernel
theorem dL_law_1096 : decode cL_law 1096 = .ok (.iconst 0, 1) := by decide +kernel
theorem dL_law_1097 : decode cL_law 1097 = .ok (.ireturn, 1) := by decide +kernel
theorem dL_law_1098 : decode cL_law 1098 = .ok (.aload_n 1, 1) := by decide +kernel
theorem dL_law_1099 : decode cL_law 1099 = .ok (.aload_n 0, 1) := by decide +kernel
theorem dL_law_1100 : decode cL_law 1100 = .ok (.iload_n 3, 1) := by decide +kernel
theorem dL_law_1101 : decode cL_law 1101 = .ok (.iconst 1, 1) := by decide +kernel
theorem dL_law_1102 : decode cL_law 1102 = .ok (.iadd, 1) := by decide +kernel
theorem dL_law_1103 : decode cL_law 1103 = .ok (.iaload, 1) := by decide +kernel
theorem dL_law_1104 : decode cL_law 1104 = .ok (.i2l, 1) := by decide +kernel
theorem dL_law_1105 : decode cL_law 1105 = .ok (.bipush 32, 2) := by decide +kernel
theorem dL_law_1107 : decode cL_law 1107 = .ok (.lshl, 1) := by decide +kernel
theorem dL_law_1108 : decode cL_law 1108 = .ok (.aload_n 0, 1) := by decide +kernel
theorem dL_law_1109 : decode cL_law 1109 = .ok (.iload_n 3, 1) := by decide +kernel
theorem dL_law_1110 : decode cL_law 1110 = .ok (.iconst 2, 1) := by decide +kernel
theorem dL_law_1111 : decode cL_law 1111 = .ok (.iadd, 1) := by decide +kernel
theorem dL_law_1112 : decode cL_law 1112 = .ok (.iaload, 1) := by decide +kernel
theorem dL_law_1113 : decode cL_law 1113 = .ok (.i2l, 1) := by decide +kernel
theorem dL_law_1114 : decode cL_law 1114 = .ok (.ldc2_w 13, 3) := by decide +kernel
theorem dL_law_1117 : decode cL_law 1117 = .ok (.land, 1) := by decide +kernel
theorem dL_law_1118 : decode cL_law 1118 = .ok (.lor, 1) := by decide +kernel
theorem dL_law_1119 : decode cL_law 1119 = .ok (.aload_n 0, 1) := by decide +kernel
theorem dL_law_1120 : decode cL_law 1120 = .ok (.iload_n 3, 1) := by decide +kernel
theorem dL_law_1121 : decode cL_law 1121 = .ok (.iconst 3, 1) := by decide +kernel
theorem dL_law_1122 : decode cL_law 1122 = .ok (.iadd, 1) := by decide +kernel
theorem dL_law_1123 : decode cL_law 1123 = .ok (.iaload, 1) := by decide +kernel
theorem dL_law_1124 : decode cL_law 1124 = .ok (.aload_n 0, 1) := by decide +kernel
theorem dL_law_1125 : decode cL_law 1125 = .ok (.iload_n 3, 1) := by decide +kernel
theorem dL_law_1126 : decode cL_law 1126 = .ok (.iconst 4, 1) := by decide +kernel
theorem dL_law_1127 : decode cL_law 1127 = .ok (.iadd, 1) := by decide +kernel
theorem dL_law_1128 : decode cL_law 1128 = .ok (.iaload, 1) := by decide +kernel
theorem dL_law_1129 : decode cL_law 1129 = .ok (.aload_n 0, 1) := by decide +kernel
theorem dL_law_1130 : decode cL_law 1130 = .ok (.iload_n 3, 1) := by decide +kernel
theorem dL_law_1131 : decode cL_law 1131 = .ok (.iconst 5, 1) := by decide +kernel
theorem dL_law_1132 : decode cL_law 1132 = .ok (.iadd, 1) := by decide +kernel
theorem dL_law_1133 : decode cL_law 1133 = .ok (.iaload, 1) := by decide +kernel
theorem dL_law_1134 : decode cL_law 1134 = .ok (.invokevirtual 134, 3) := by decide +kernel
theorem dL_law_1137 : decode cL_law 1137 = .ok (.aload_n 2, 1) := by decide +kernel
theorem dL_law_1138 : decode cL_law 1138 = .ok (.aload_n 0, 1) := by decide +kernel
theorem dL_law_1139 : decode cL_law 1139 = .ok (.iload_n 3, 1) := by decide +kernel
theorem dL_law_1140 : decode cL_law 1140 = .ok (.iconst 1, 1) := by decide +kernel
theorem dL_law_1141 : decode cL_law 1141 = .ok (.iadd, 1) := by decide +kernel
theorem dL_law_1142 : decode cL_law 1142 = .ok (.iaload, 1) := by decide +kernel
theorem dL_law_1143 : decode cL_law 1143 = .ok (.i2l, 1) := by decide +kernel
theorem dL_law_1144 : decode cL_law 1144 = .ok (.bipush 32, 2) := by decide +kernel
theorem dL_law_1146 : decode cL_law 1146 = .ok (.lshl, 1) := by decide +kernel
theorem dL_law_1147 : decode cL_law 1147 = .ok (.aload_n 0, 1) := by decide +kernel
theorem dL_law_1148 : decode cL_law 1148 = .ok (.iload_n 3, 1) := by decide +kernel
theorem dL_law_1149 : decode cL_law 1149 = .ok (.iconst 2, 1) := by decide +kernel
theorem dL_law_1150 : decode cL_law 1150 = .ok (.iadd, 1) := by decide +kernel
theorem dL_law_1151 : decode cL_law 1151 = .ok (.iaload, 1) := by decide +kernel
theorem dL_law_1152 : decode cL_law 1152 = .ok (.i2l, 1) := by decide +kernel
theorem dL_law_1153 : decode cL_law 1153 = .ok (.ldc2_w 13, 3) := by decide +kernel
theorem dL_law_1156 : decode cL_law 1156 = .ok (.land, 1) := by decide +kernel
theorem dL_law_1157 : decode cL_law 1157 = .ok (.lor, 1) := by decide +kernel
theorem dL_law_1158 : decode cL_law 1158 = .ok (.aload_n 0, 1) := by decide +kernel
theorem dL_law_1159 : decode cL_law 1159 = .ok (.iload_n 3, 1) := by decide +kernel
theorem dL_law_1160 : decode cL_law 1160 = .ok (.iconst 3, 1) := by decide +kernel
theorem dL_law_1161 : decode cL_law 1161 = .ok (.iadd, 1) := by decide +kernel
theorem dL_law_1162 : decode cL_law 1162 = .ok (.iaload, 1) := by decide +kernel
theorem dL_law_1163 : decode cL_law 1163 = .ok (.aload_n 0, 1) := by decide +kernel
theorem dL_law_1164 : decode cL_law 1164 = .ok (.iload_n 3, 1) := by decide +kernel
theorem dL_law_1165 : decode cL_law 1165 = .ok (.iconst 4, 1) := by decide +kernel
theorem dL_law_1166 : decode cL_law 1166 = .ok (.iadd, 1) := by decide +kernel
theorem dL_law_1167 : decode cL_law 1167 = .ok (.iaload, 1) := by decide +kernel
theorem dL_law_1168 : decode cL_law 1168 = .ok (.aload_n 0, 1) := by decide +kernel
theorem dL_law_1169 : decode cL_law 1169 = .ok (.iload_n 3, 1) := by decide +kernel
theorem dL_law_1170 : decode cL_law 1170 = .ok (.iconst 5, 1) := by decide +kernel
theorem dL_law_1171 : decode cL_law 1171 = .ok (.iadd, 1) := by decide +kernel
theorem dL_law_1172 : decode cL_law 1172 = .ok (.iaload, 1) := by decide +kernel
theorem dL_law_1173 : decode cL_law 1173 = .ok (.invokevirtual 138, 3) := by decide +kernel
theorem dL_law_1176 : decode cL_law 1176 = .ok (.if_icmp .eq 87, 3) := by decide +kernel
theorem dL_law_1179 : decode cL_law 1179 = .ok (.iconst 0, 1) := by decide +kernel
theorem dL_law_1180 : decode cL_law 1180 = .ok (.ireturn, 1) := by decide +kernel
theorem dL_law_1181 : decode cL_law 1181 = .ok (.aload_n 1, 1) := by decide +kernel
theorem dL_law_1182 : decode cL_law 1182 = .ok (.aload_n 0, 1) := by decide +kernel
theorem dL_law_1183 : decode cL_law 1183 = .ok (.iload_n 3, 1) := by decide +kernel
theorem dL_law_1184 : decode cL_law 1184 = .ok (.iconst 1, 1) := by decide +kernel
theorem dL_law_1185 : decode cL_law 1185 = .ok (.iadd, 1) := by decide +kernel
theorem dL_law_1186 : decode cL_law 1186 = .ok (.iaload, 1) := by decide +kernel
theorem dL_law_1187 : decode cL_law 1187 = .ok (.aload_n 0, 1) := by decide +kernel
theorem dL_law_1188 : decode cL_law 1188 = .ok (.iload_n 3, 1) := by decide +kernel
theorem dL_law_1189 : decode cL_law 1189 = .ok (.iconst 2, 1) := by decide +kernel
theorem dL_law_1190 : decode cL_law 1190 = .ok (.iadd, 1) := by decide +kernel
theorem dL_law_1191 : decode cL_law 1191 = .ok (.iaload, 1) := by decide +kernel
theorem dL_law_1192 : decode cL_law 1192 = .ok (.invokevirtual 139, 3) := by decide +kernel
theorem dL_law_1195 : decode cL_law 1195 = .ok (.aload_n 2, 1) := by decide +kernel
theorem dL_law_1196 : decode cL_law 1196 = .ok (.aload_n 0, 1) := by decide +kernel
theorem dL_law_1197 : decode cL_law 1197 = .ok (.iload_n 3, 1) := by decide +kernel
theorem dL_law_1198 : decode cL_law 1198 = .ok (.iconst 1, 1) := by decide +kernel
theorem dL_law_1199 : decode cL_law 1199 = .ok (.iadd, 1) := by decide +kernel
theorem dL_law_1200 : decode cL_law 1200 = .ok (.iaload, 1) := by decide +kernel
theorem dL_law_1201 : decode cL_law 1201 = .ok (.aload_n 0, 1) := by decide +kernel
theorem dL_law_1202 : decode cL_law 1202 = .ok (.iload_n 3, 1) := by decide +kernel
theorem dL_law_1203 : decode cL_law 1203 = .ok (.iconst 2, 1) := by decide +kernel
theorem dL_law_1204 : decode cL_law 1204 = .ok (.iadd, 1) := by decide +kernel
theorem dL_law_1205 : decode cL_law 1205 = .ok (.iaload, 1) := by decide +kernel
theorem dL_law_1206 : decode cL_law 1206 = .ok (.invokevirtual 142, 3) := by decide +kernel
theorem dL_law_1209 : decode cL_law 1209 = .ok (.if_icmp .eq 54, 3) := by decide +kernel
theorem dL_law_1212 : decode cL_law 1212 = .ok (.iconst 0, 1) := by decide +kernel
theorem dL_law_1213 : decode cL_law 1213 = .ok (.ireturn, 1) := by decide +kernel
theorem dL_law_1214 : decode cL_law 1214 = .ok (.aload_n 1, 1) := by decide +kernel
theorem dL_law_1215 : decode cL_law 1215 = .ok (.invokevirtual 143, 3) := by decide +kernel
theorem dL_law_1218 : decode cL_law 1218 = .ok (.aload_n 2, 1) := by decide +kernel
theorem dL_law_1219 : decode cL_law 1219 = .ok (.invokevirtual 146, 3) := by decide +kernel
theorem dL_law_1222 : decode cL_law 1222 = .ok (.if_icmp .eq 41, 3) := by decide +kernel
theorem dL_law_1225 : decode cL_law 1225 = .ok (.iconst 0, 1) := by decide +kernel
theorem dL_law_1226 : decode cL_law 1226 = .ok (.ireturn, 1) := by decide +kernel
theorem dL_law_1227 : decode cL_law 1227 = .ok (.aload_n 1, 1) := by decide +kernel
theorem dL_law_1228 : decode cL_law 1228 = .ok (.invokevirtual 147, 3) := by decide +kernel
theorem dL_law_1231 : decode cL_law 1231 = .ok (.aload_n 2, 1) := by decide +kernel
theorem dL_law_1232 : decode cL_law 1232 = .ok (.invokevirtual 150, 3) := by decide +kernel
theorem dL_law_1235 : decode cL_law 1235 = .ok (.if_icmp .eq 28, 3) := by decide +kernel
theorem dL_law_1238 : decode cL_law 1238 = .ok (.iconst 0, 1) := by decide +kernel
theorem dL_law_1239 : decode cL_law 1239 = .ok (.ireturn, 1) := by decide +kernel
theorem dL_law_1240 : decode cL_law 1240 = .ok (.aload_n 1, 1) := by decide +kernel
theorem dL_law_1241 : decode cL_law 1241 = .ok (.aload_n 0, 1) := by decide +kernel
theorem dL_law_1242 : decode cL_law 1242 = .ok (.iload_n 3, 1) := by decide +kernel
theorem dL_law_1243 : decode cL_law 1243 = .ok (.iconst 1, 1) := by decide +kernel
theorem dL_law_1244 : decode cL_law 1244 = .ok (.iadd, 1) := by decide +kernel
theorem dL_law_1245 : decode cL_law 1245 = .ok (.iaload, 1) := by decide +kernel
theorem dL_law_1246 : decode cL_law 1246 = .ok (.invokevirtual 151, 3) := by decide +kernel
theorem dL_law_1249 : decode cL_law 1249 = .ok (.aload_n 2, 1) := by decide +kernel
theorem dL_law_1250 : decode cL_law 1250 = .ok (.aload_n 0, 1) := by decide +kernel
theorem dL_law_1251 : decode cL_law 1251 = .ok (.iload_n 3, 1) := by decide +kernel
theorem dL_law_1252 : decode cL_law 1252 = .ok (.iconst 1, 1) := by decide +kernel
theorem dL_law_1253 : decode cL_law 1253 = .ok (.iadd, 1) := by decide +kernel
theorem dL_law_1254 : decode cL_law 1254 = .ok (.iaload, 1) := by decide +kernel
theorem dL_law_1255 : decode cL_law 1255 = .ok (.invokevirtual 154, 3) := by decide +kernel
theorem dL_law_1258 : decode cL_law 1258 = .ok (.if_icmp .eq 5, 3) := by decide +kernel
theorem dL_law_1261 : decode cL_law 1261 = .ok (.iconst 0, 1) := by decide +kernel
theorem dL_law_1262 : decode cL_law 1262 = .ok (.ireturn, 1) := by decide +kernel
theorem dL_law_1263 : decode cL_law 1263 = .ok (.iinc 3 6, 3) := by decide +kernel
theorem dL_law_1266 : decode cL_law 1266 = .ok (.goto (-1248), 3) := by decide +kernel
theorem dL_law_1269 : decode cL_law 1269 = .ok (.iconst 1, 1) := by decide +kernel
theorem dL_law_1270 : decode cL_law 1270 = .ok (.ireturn, 1) := by decide +kernel
end

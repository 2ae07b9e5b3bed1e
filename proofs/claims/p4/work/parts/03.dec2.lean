def gl74 : List (Nat × Instr × Nat) := [(0, .lload_n 1, 1), (1, .invokestatic 129, 3), (4, .ifCond .eq 16, 3), (7, .iload_n 3, 1), (8, .iconst (-1), 1), (9, .if_icmp .lt 11, 3), (12, .iload_n 3, 1), (13, .aload_n 0, 1), (14, .getfield 103, 3), (17, .if_icmp .lt 7, 3), (20, .ldc2_w 145, 3), (23, .lreturn, 1), (24, .lload_n 1, 1), (25, .lstore 4, 2), (27, .iconst 0, 1), (28, .istore 6, 2), (30, .iload 6, 2), (32, .aload_n 0, 1), (33, .getfield 103, 3), (36, .if_icmp .ge 82, 3), (39, .iload 6, 2), (41, .aload_n 0, 1), (42, .getfield 70, 3), (45, .arraylength, 1), (46, .if_icmp .ge 72, 3), (49, .aload_n 0, 1), (50, .getfield 38, 3), (53, .aload_n 0, 1), (54, .getfield 70, 3), (57, .iload 6, 2), (59, .iaload, 1), (60, .aload_n 0, 1), (61, .getfield 70, 3), (64, .iload 6, 2), (66, .iaload, 1), (67, .lload 4, 2), (69, .invokevirtual 154, 3), (72, .lstore 7, 2), (74, .lload 7, 2), (76, .ldc2_w 158, 3), (79, .lcmp, 1), (80, .ifCond .eq 9, 3), (83, .iload 6, 2), (85, .iload_n 3, 1), (86, .if_icmp .ne 6, 3), (89, .lload 7, 2), (91, .lreturn, 1), (92, .lload 7, 2), (94, .aload_n 0, 1), (95, .getfield 23, 3), (98, .aload_n 0, 1), (99, .getfield 70, 3), (102, .iload 6, 2), (104, .iaload, 1), (105, .invokevirtual 160, 3), (108, .i2l, 1), (109, .ladd, 1), (110, .lstore 4, 2), (112, .iinc 6 1, 3), (115, .goto (-85), 3)]
set_option maxRecDepth 100000 in
theorem gg74 : gl74.all (fun x => decide (decode cX7_soon x.1 = .ok (x.2.1, x.2.2))) = true := by decide +kernel
theorem dX7_soon_0 : decode cX7_soon 0 = .ok (.lload_n 1, 1) := dg_at gg74 0 rfl
theorem dX7_soon_1 : decode cX7_soon 1 = .ok (.invokestatic 129, 3) := dg_at gg74 1 rfl
theorem dX7_soon_4 : decode cX7_soon 4 = .ok (.ifCond .eq 16, 3) := dg_at gg74 2 rfl
theorem dX7_soon_7 : decode cX7_soon 7 = .ok (.iload_n 3, 1) := dg_at gg74 3 rfl
theorem dX7_soon_8 : decode cX7_soon 8 = .ok (.iconst (-1), 1) := dg_at gg74 4 rfl
theorem dX7_soon_9 : decode cX7_soon 9 = .ok (.if_icmp .lt 11, 3) := dg_at gg74 5 rfl
theorem dX7_soon_12 : decode cX7_soon 12 = .ok (.iload_n 3, 1) := dg_at gg74 6 rfl
theorem dX7_soon_13 : decode cX7_soon 13 = .ok (.aload_n 0, 1) := dg_at gg74 7 rfl
theorem dX7_soon_14 : decode cX7_soon 14 = .ok (.getfield 103, 3) := dg_at gg74 8 rfl
theorem dX7_soon_17 : decode cX7_soon 17 = .ok (.if_icmp .lt 7, 3) := dg_at gg74 9 rfl
theorem dX7_soon_20 : decode cX7_soon 20 = .ok (.ldc2_w 145, 3) := dg_at gg74 10 rfl
theorem dX7_soon_23 : decode cX7_soon 23 = .ok (.lreturn, 1) := dg_at gg74 11 rfl
theorem dX7_soon_24 : decode cX7_soon 24 = .ok (.lload_n 1, 1) := dg_at gg74 12 rfl
theorem dX7_soon_25 : decode cX7_soon 25 = .ok (.lstore 4, 2) := dg_at gg74 13 rfl
theorem dX7_soon_27 : decode cX7_soon 27 = .ok (.iconst 0, 1) := dg_at gg74 14 rfl
theorem dX7_soon_28 : decode cX7_soon 28 = .ok (.istore 6, 2) := dg_at gg74 15 rfl
theorem dX7_soon_30 : decode cX7_soon 30 = .ok (.iload 6, 2) := dg_at gg74 16 rfl
theorem dX7_soon_32 : decode cX7_soon 32 = .ok (.aload_n 0, 1) := dg_at gg74 17 rfl
theorem dX7_soon_33 : decode cX7_soon 33 = .ok (.getfield 103, 3) := dg_at gg74 18 rfl
theorem dX7_soon_36 : decode cX7_soon 36 = .ok (.if_icmp .ge 82, 3) := dg_at gg74 19 rfl
theorem dX7_soon_39 : decode cX7_soon 39 = .ok (.iload 6, 2) := dg_at gg74 20 rfl
theorem dX7_soon_41 : decode cX7_soon 41 = .ok (.aload_n 0, 1) := dg_at gg74 21 rfl
theorem dX7_soon_42 : decode cX7_soon 42 = .ok (.getfield 70, 3) := dg_at gg74 22 rfl
theorem dX7_soon_45 : decode cX7_soon 45 = .ok (.arraylength, 1) := dg_at gg74 23 rfl
theorem dX7_soon_46 : decode cX7_soon 46 = .ok (.if_icmp .ge 72, 3) := dg_at gg74 24 rfl
theorem dX7_soon_49 : decode cX7_soon 49 = .ok (.aload_n 0, 1) := dg_at gg74 25 rfl
theorem dX7_soon_50 : decode cX7_soon 50 = .ok (.getfield 38, 3) := dg_at gg74 26 rfl
theorem dX7_soon_53 : decode cX7_soon 53 = .ok (.aload_n 0, 1) := dg_at gg74 27 rfl
theorem dX7_soon_54 : decode cX7_soon 54 = .ok (.getfield 70, 3) := dg_at gg74 28 rfl
theorem dX7_soon_57 : decode cX7_soon 57 = .ok (.iload 6, 2) := dg_at gg74 29 rfl
theorem dX7_soon_59 : decode cX7_soon 59 = .ok (.iaload, 1) := dg_at gg74 30 rfl
theorem dX7_soon_60 : decode cX7_soon 60 = .ok (.aload_n 0, 1) := dg_at gg74 31 rfl
theorem dX7_soon_61 : decode cX7_soon 61 = .ok (.getfield 70, 3) := dg_at gg74 32 rfl
theorem dX7_soon_64 : decode cX7_soon 64 = .ok (.iload 6, 2) := dg_at gg74 33 rfl
theorem dX7_soon_66 : decode cX7_soon 66 = .ok (.iaload, 1) := dg_at gg74 34 rfl
theorem dX7_soon_67 : decode cX7_soon 67 = .ok (.lload 4, 2) := dg_at gg74 35 rfl
theorem dX7_soon_69 : decode cX7_soon 69 = .ok (.invokevirtual 154, 3) := dg_at gg74 36 rfl
theorem dX7_soon_72 : decode cX7_soon 72 = .ok (.lstore 7, 2) := dg_at gg74 37 rfl
theorem dX7_soon_74 : decode cX7_soon 74 = .ok (.lload 7, 2) := dg_at gg74 38 rfl
theorem dX7_soon_76 : decode cX7_soon 76 = .ok (.ldc2_w 158, 3) := dg_at gg74 39 rfl
theorem dX7_soon_79 : decode cX7_soon 79 = .ok (.lcmp, 1) := dg_at gg74 40 rfl
theorem dX7_soon_80 : decode cX7_soon 80 = .ok (.ifCond .eq 9, 3) := dg_at gg74 41 rfl
theorem dX7_soon_83 : decode cX7_soon 83 = .ok (.iload 6, 2) := dg_at gg74 42 rfl
theorem dX7_soon_85 : decode cX7_soon 85 = .ok (.iload_n 3, 1) := dg_at gg74 43 rfl
theorem dX7_soon_86 : decode cX7_soon 86 = .ok (.if_icmp .ne 6, 3) := dg_at gg74 44 rfl
theorem dX7_soon_89 : decode cX7_soon 89 = .ok (.lload 7, 2) := dg_at gg74 45 rfl
theorem dX7_soon_91 : decode cX7_soon 91 = .ok (.lreturn, 1) := dg_at gg74 46 rfl
theorem dX7_soon_92 : decode cX7_soon 92 = .ok (.lload 7, 2) := dg_at gg74 47 rfl
theorem dX7_soon_94 : decode cX7_soon 94 = .ok (.aload_n 0, 1) := dg_at gg74 48 rfl
theorem dX7_soon_95 : decode cX7_soon 95 = .ok (.getfield 23, 3) := dg_at gg74 49 rfl
theorem dX7_soon_98 : decode cX7_soon 98 = .ok (.aload_n 0, 1) := dg_at gg74 50 rfl
theorem dX7_soon_99 : decode cX7_soon 99 = .ok (.getfield 70, 3) := dg_at gg74 51 rfl
theorem dX7_soon_102 : decode cX7_soon 102 = .ok (.iload 6, 2) := dg_at gg74 52 rfl
theorem dX7_soon_104 : decode cX7_soon 104 = .ok (.iaload, 1) := dg_at gg74 53 rfl
theorem dX7_soon_105 : decode cX7_soon 105 = .ok (.invokevirtual 160, 3) := dg_at gg74 54 rfl
theorem dX7_soon_108 : decode cX7_soon 108 = .ok (.i2l, 1) := dg_at gg74 55 rfl
theorem dX7_soon_109 : decode cX7_soon 109 = .ok (.ladd, 1) := dg_at gg74 56 rfl
theorem dX7_soon_110 : decode cX7_soon 110 = .ok (.lstore 4, 2) := dg_at gg74 57 rfl
theorem dX7_soon_112 : decode cX7_soon 112 = .ok (.iinc 6 1, 3) := dg_at gg74 58 rfl
theorem dX7_soon_115 : decode cX7_soon 115 = .ok (.goto (-85), 3) := dg_at gg74 59 rfl
def gl75 : List (Nat × Instr × Nat) := [(118, .lload 4, 2), (120, .lreturn, 1)]
set_option maxRecDepth 100000 in
theorem gg75 : gl75.all (fun x => decide (decode cX7_soon x.1 = .ok (x.2.1, x.2.2))) = true := by decide +kernel
theorem dX7_soon_118 : decode cX7_soon 118 = .ok (.lload 4, 2) := dg_at gg75 0 rfl
theorem dX7_soon_120 : decode cX7_soon 120 = .ok (.lreturn, 1) := dg_at gg75 1 rfl
def gl76 : List (Nat × Instr × Nat) := [(0, .iload_n 1, 1), (1, .iconst 1, 1), (2, .if_icmp .lt 10, 3), (5, .iload_n 1, 1), (6, .sipush 9999, 3), (9, .if_icmp .le 7, 3), (12, .ldc2_w 145, 3), (15, .lreturn, 1), (16, .aload_n 0, 1), (17, .getfield 63, 3), (20, .aload_n 0, 1), (21, .getfield 29, 3), (24, .invokevirtual 164, 3), (27, .aload_n 0, 1), (28, .getfield 29, 3), (31, .dup, 1), (32, .getfield 168, 3), (35, .iload_n 1, 1), (36, .i2l, 1), (37, .ladd, 1), (38, .putfield 168, 3), (41, .aload_n 0, 1), (42, .getfield 29, 3), (45, .getfield 168, 3), (48, .lreturn, 1)]
set_option maxRecDepth 100000 in
theorem gg76 : gl76.all (fun x => decide (decode cX7_pass x.1 = .ok (x.2.1, x.2.2))) = true := by decide +kernel
theorem dX7_pass_0 : decode cX7_pass 0 = .ok (.iload_n 1, 1) := dg_at gg76 0 rfl
theorem dX7_pass_1 : decode cX7_pass 1 = .ok (.iconst 1, 1) := dg_at gg76 1 rfl
theorem dX7_pass_2 : decode cX7_pass 2 = .ok (.if_icmp .lt 10, 3) := dg_at gg76 2 rfl
theorem dX7_pass_5 : decode cX7_pass 5 = .ok (.iload_n 1, 1) := dg_at gg76 3 rfl
theorem dX7_pass_6 : decode cX7_pass 6 = .ok (.sipush 9999, 3) := dg_at gg76 4 rfl
theorem dX7_pass_9 : decode cX7_pass 9 = .ok (.if_icmp .le 7, 3) := dg_at gg76 5 rfl
theorem dX7_pass_12 : decode cX7_pass 12 = .ok (.ldc2_w 145, 3) := dg_at gg76 6 rfl
theorem dX7_pass_15 : decode cX7_pass 15 = .ok (.lreturn, 1) := dg_at gg76 7 rfl
theorem dX7_pass_16 : decode cX7_pass 16 = .ok (.aload_n 0, 1) := dg_at gg76 8 rfl
theorem dX7_pass_17 : decode cX7_pass 17 = .ok (.getfield 63, 3) := dg_at gg76 9 rfl
theorem dX7_pass_20 : decode cX7_pass 20 = .ok (.aload_n 0, 1) := dg_at gg76 10 rfl
theorem dX7_pass_21 : decode cX7_pass 21 = .ok (.getfield 29, 3) := dg_at gg76 11 rfl
theorem dX7_pass_24 : decode cX7_pass 24 = .ok (.invokevirtual 164, 3) := dg_at gg76 12 rfl
theorem dX7_pass_27 : decode cX7_pass 27 = .ok (.aload_n 0, 1) := dg_at gg76 13 rfl
theorem dX7_pass_28 : decode cX7_pass 28 = .ok (.getfield 29, 3) := dg_at gg76 14 rfl
theorem dX7_pass_31 : decode cX7_pass 31 = .ok (.dup, 1) := dg_at gg76 15 rfl
theorem dX7_pass_32 : decode cX7_pass 32 = .ok (.getfield 168, 3) := dg_at gg76 16 rfl
theorem dX7_pass_35 : decode cX7_pass 35 = .ok (.iload_n 1, 1) := dg_at gg76 17 rfl
theorem dX7_pass_36 : decode cX7_pass 36 = .ok (.i2l, 1) := dg_at gg76 18 rfl
theorem dX7_pass_37 : decode cX7_pass 37 = .ok (.ladd, 1) := dg_at gg76 19 rfl
theorem dX7_pass_38 : decode cX7_pass 38 = .ok (.putfield 168, 3) := dg_at gg76 20 rfl
theorem dX7_pass_41 : decode cX7_pass 41 = .ok (.aload_n 0, 1) := dg_at gg76 21 rfl
theorem dX7_pass_42 : decode cX7_pass 42 = .ok (.getfield 29, 3) := dg_at gg76 22 rfl
theorem dX7_pass_45 : decode cX7_pass 45 = .ok (.getfield 168, 3) := dg_at gg76 23 rfl
theorem dX7_pass_48 : decode cX7_pass 48 = .ok (.lreturn, 1) := dg_at gg76 24 rfl
def gl77 : List (Nat × Instr × Nat) := [(0, .aload_n 0, 1), (1, .iload_n 1, 1), (2, .invokevirtual 112, 3), (5, .ifCond .ne 7, 3), (8, .ldc2_w 145, 3), (11, .lreturn, 1), (12, .aload_n 0, 1), (13, .getfield 38, 3), (16, .iload_n 1, 1), (17, .aload_n 0, 1), (18, .getfield 29, 3), (21, .getfield 168, 3), (24, .invokevirtual 151, 3), (27, .ifCond .ne 7, 3), (30, .ldc2_w 172, 3), (33, .lreturn, 1), (34, .aload_n 0, 1), (35, .getfield 63, 3), (38, .aload_n 0, 1), (39, .getfield 29, 3), (42, .invokevirtual 164, 3), (45, .aload_n 0, 1), (46, .getfield 29, 3), (49, .dup, 1), (50, .getfield 168, 3), (53, .aload_n 0, 1), (54, .getfield 23, 3), (57, .iload_n 1, 1), (58, .invokevirtual 160, 3), (61, .i2l, 1), (62, .ladd, 1), (63, .putfield 168, 3), (66, .aload_n 0, 1), (67, .getfield 29, 3), (70, .dup, 1), (71, .getfield 174, 3), (74, .aload_n 0, 1), (75, .getfield 23, 3), (78, .iload_n 1, 1), (79, .iconst 0, 1), (80, .invokevirtual 177, 3), (83, .iadd, 1), (84, .putfield 174, 3), (87, .aload_n 0, 1), (88, .getfield 29, 3), (91, .dup, 1), (92, .getfield 180, 3), (95, .aload_n 0, 1), (96, .getfield 23, 3), (99, .iload_n 1, 1), (100, .iconst 1, 1), (101, .invokevirtual 177, 3), (104, .iadd, 1), (105, .putfield 180, 3), (108, .aload_n 0, 1), (109, .getfield 29, 3), (112, .getfield 168, 3), (115, .lreturn, 1)]
set_option maxRecDepth 100000 in
theorem gg77 : gl77.all (fun x => decide (decode cX7_doAct x.1 = .ok (x.2.1, x.2.2))) = true := by decide +kernel
theorem dX7_doAct_0 : decode cX7_doAct 0 = .ok (.aload_n 0, 1) := dg_at gg77 0 rfl
theorem dX7_doAct_1 : decode cX7_doAct 1 = .ok (.iload_n 1, 1) := dg_at gg77 1 rfl
theorem dX7_doAct_2 : decode cX7_doAct 2 = .ok (.invokevirtual 112, 3) := dg_at gg77 2 rfl
theorem dX7_doAct_5 : decode cX7_doAct 5 = .ok (.ifCond .ne 7, 3) := dg_at gg77 3 rfl
theorem dX7_doAct_8 : decode cX7_doAct 8 = .ok (.ldc2_w 145, 3) := dg_at gg77 4 rfl
theorem dX7_doAct_11 : decode cX7_doAct 11 = .ok (.lreturn, 1) := dg_at gg77 5 rfl
theorem dX7_doAct_12 : decode cX7_doAct 12 = .ok (.aload_n 0, 1) := dg_at gg77 6 rfl
theorem dX7_doAct_13 : decode cX7_doAct 13 = .ok (.getfield 38, 3) := dg_at gg77 7 rfl
theorem dX7_doAct_16 : decode cX7_doAct 16 = .ok (.iload_n 1, 1) := dg_at gg77 8 rfl
theorem dX7_doAct_17 : decode cX7_doAct 17 = .ok (.aload_n 0, 1) := dg_at gg77 9 rfl
theorem dX7_doAct_18 : decode cX7_doAct 18 = .ok (.getfield 29, 3) := dg_at gg77 10 rfl
theorem dX7_doAct_21 : decode cX7_doAct 21 = .ok (.getfield 168, 3) := dg_at gg77 11 rfl
theorem dX7_doAct_24 : decode cX7_doAct 24 = .ok (.invokevirtual 151, 3) := dg_at gg77 12 rfl
theorem dX7_doAct_27 : decode cX7_doAct 27 = .ok (.ifCond .ne 7, 3) := dg_at gg77 13 rfl
theorem dX7_doAct_30 : decode cX7_doAct 30 = .ok (.ldc2_w 172, 3) := dg_at gg77 14 rfl
theorem dX7_doAct_33 : decode cX7_doAct 33 = .ok (.lreturn, 1) := dg_at gg77 15 rfl
theorem dX7_doAct_34 : decode cX7_doAct 34 = .ok (.aload_n 0, 1) := dg_at gg77 16 rfl
theorem dX7_doAct_35 : decode cX7_doAct 35 = .ok (.getfield 63, 3) := dg_at gg77 17 rfl
theorem dX7_doAct_38 : decode cX7_doAct 38 = .ok (.aload_n 0, 1) := dg_at gg77 18 rfl
theorem dX7_doAct_39 : decode cX7_doAct 39 = .ok (.getfield 29, 3) := dg_at gg77 19 rfl
theorem dX7_doAct_42 : decode cX7_doAct 42 = .ok (.invokevirtual 164, 3) := dg_at gg77 20 rfl
theorem dX7_doAct_45 : decode cX7_doAct 45 = .ok (.aload_n 0, 1) := dg_at gg77 21 rfl
theorem dX7_doAct_46 : decode cX7_doAct 46 = .ok (.getfield 29, 3) := dg_at gg77 22 rfl
theorem dX7_doAct_49 : decode cX7_doAct 49 = .ok (.dup, 1) := dg_at gg77 23 rfl
theorem dX7_doAct_50 : decode cX7_doAct 50 = .ok (.getfield 168, 3) := dg_at gg77 24 rfl
theorem dX7_doAct_53 : decode cX7_doAct 53 = .ok (.aload_n 0, 1) := dg_at gg77 25 rfl
theorem dX7_doAct_54 : decode cX7_doAct 54 = .ok (.getfield 23, 3) := dg_at gg77 26 rfl
theorem dX7_doAct_57 : decode cX7_doAct 57 = .ok (.iload_n 1, 1) := dg_at gg77 27 rfl
theorem dX7_doAct_58 : decode cX7_doAct 58 = .ok (.invokevirtual 160, 3) := dg_at gg77 28 rfl
theorem dX7_doAct_61 : decode cX7_doAct 61 = .ok (.i2l, 1) := dg_at gg77 29 rfl
theorem dX7_doAct_62 : decode cX7_doAct 62 = .ok (.ladd, 1) := dg_at gg77 30 rfl
theorem dX7_doAct_63 : decode cX7_doAct 63 = .ok (.putfield 168, 3) := dg_at gg77 31 rfl
theorem dX7_doAct_66 : decode cX7_doAct 66 = .ok (.aload_n 0, 1) := dg_at gg77 32 rfl
theorem dX7_doAct_67 : decode cX7_doAct 67 = .ok (.getfield 29, 3) := dg_at gg77 33 rfl
theorem dX7_doAct_70 : decode cX7_doAct 70 = .ok (.dup, 1) := dg_at gg77 34 rfl
theorem dX7_doAct_71 : decode cX7_doAct 71 = .ok (.getfield 174, 3) := dg_at gg77 35 rfl
theorem dX7_doAct_74 : decode cX7_doAct 74 = .ok (.aload_n 0, 1) := dg_at gg77 36 rfl
theorem dX7_doAct_75 : decode cX7_doAct 75 = .ok (.getfield 23, 3) := dg_at gg77 37 rfl
theorem dX7_doAct_78 : decode cX7_doAct 78 = .ok (.iload_n 1, 1) := dg_at gg77 38 rfl
theorem dX7_doAct_79 : decode cX7_doAct 79 = .ok (.iconst 0, 1) := dg_at gg77 39 rfl
theorem dX7_doAct_80 : decode cX7_doAct 80 = .ok (.invokevirtual 177, 3) := dg_at gg77 40 rfl
theorem dX7_doAct_83 : decode cX7_doAct 83 = .ok (.iadd, 1) := dg_at gg77 41 rfl
theorem dX7_doAct_84 : decode cX7_doAct 84 = .ok (.putfield 174, 3) := dg_at gg77 42 rfl
theorem dX7_doAct_87 : decode cX7_doAct 87 = .ok (.aload_n 0, 1) := dg_at gg77 43 rfl
theorem dX7_doAct_88 : decode cX7_doAct 88 = .ok (.getfield 29, 3) := dg_at gg77 44 rfl
theorem dX7_doAct_91 : decode cX7_doAct 91 = .ok (.dup, 1) := dg_at gg77 45 rfl
theorem dX7_doAct_92 : decode cX7_doAct 92 = .ok (.getfield 180, 3) := dg_at gg77 46 rfl
theorem dX7_doAct_95 : decode cX7_doAct 95 = .ok (.aload_n 0, 1) := dg_at gg77 47 rfl
theorem dX7_doAct_96 : decode cX7_doAct 96 = .ok (.getfield 23, 3) := dg_at gg77 48 rfl
theorem dX7_doAct_99 : decode cX7_doAct 99 = .ok (.iload_n 1, 1) := dg_at gg77 49 rfl
theorem dX7_doAct_100 : decode cX7_doAct 100 = .ok (.iconst 1, 1) := dg_at gg77 50 rfl
theorem dX7_doAct_101 : decode cX7_doAct 101 = .ok (.invokevirtual 177, 3) := dg_at gg77 51 rfl
theorem dX7_doAct_104 : decode cX7_doAct 104 = .ok (.iadd, 1) := dg_at gg77 52 rfl
theorem dX7_doAct_105 : decode cX7_doAct 105 = .ok (.putfield 180, 3) := dg_at gg77 53 rfl
theorem dX7_doAct_108 : decode cX7_doAct 108 = .ok (.aload_n 0, 1) := dg_at gg77 54 rfl
theorem dX7_doAct_109 : decode cX7_doAct 109 = .ok (.getfield 29, 3) := dg_at gg77 55 rfl
theorem dX7_doAct_112 : decode cX7_doAct 112 = .ok (.getfield 168, 3) := dg_at gg77 56 rfl
theorem dX7_doAct_115 : decode cX7_doAct 115 = .ok (.lreturn, 1) := dg_at gg77 57 rfl
def gl78 : List (Nat × Instr × Nat) := [(0, .aload_n 0, 1), (1, .iload_n 1, 1), (2, .invokevirtual 112, 3), (5, .ifCond .eq 10, 3), (8, .iload_n 2, 1), (9, .invokestatic 183, 3), (12, .ifCond .ne 5, 3), (15, .iconst (-1), 1), (16, .ireturn, 1), (17, .aload_n 0, 1), (18, .getfield 29, 3), (21, .getfield 116, 3), (24, .iload_n 1, 1), (25, .invokestatic 119, 3), (28, .iload_n 2, 1), (29, .ishr, 1), (30, .iconst 1, 1), (31, .iand, 1), (32, .istore 4, 2), (34, .aload_n 0, 1), (35, .getfield 63, 3), (38, .aload_n 0, 1), (39, .getfield 29, 3), (42, .invokevirtual 164, 3), (45, .aload_n 0, 1), (46, .getfield 29, 3), (49, .iload_n 3, 1), (50, .ifCond .eq 21, 3), (53, .aload_n 0, 1), (54, .getfield 29, 3), (57, .getfield 116, 3), (60, .iload_n 1, 1), (61, .iconst 1, 1), (62, .iload_n 2, 1), (63, .ishl, 1), (64, .invokestatic 186, 3), (67, .ior, 1), (68, .goto 20, 3), (71, .aload_n 0, 1), (72, .getfield 29, 3), (75, .getfield 116, 3), (78, .iload_n 1, 1), (79, .iconst 1, 1), (80, .iload_n 2, 1), (81, .ishl, 1), (82, .invokestatic 186, 3), (85, .iconst (-1), 1), (86, .ixor, 1), (87, .iand, 1), (88, .putfield 116, 3), (91, .iload 4, 2), (93, .ireturn, 1)]
set_option maxRecDepth 100000 in
theorem gg78 : gl78.all (fun x => decide (decode cX7_allow x.1 = .ok (x.2.1, x.2.2))) = true := by decide +kernel
theorem dX7_allow_0 : decode cX7_allow 0 = .ok (.aload_n 0, 1) := dg_at gg78 0 rfl
theorem dX7_allow_1 : decode cX7_allow 1 = .ok (.iload_n 1, 1) := dg_at gg78 1 rfl
theorem dX7_allow_2 : decode cX7_allow 2 = .ok (.invokevirtual 112, 3) := dg_at gg78 2 rfl
theorem dX7_allow_5 : decode cX7_allow 5 = .ok (.ifCond .eq 10, 3) := dg_at gg78 3 rfl
theorem dX7_allow_8 : decode cX7_allow 8 = .ok (.iload_n 2, 1) := dg_at gg78 4 rfl
theorem dX7_allow_9 : decode cX7_allow 9 = .ok (.invokestatic 183, 3) := dg_at gg78 5 rfl
theorem dX7_allow_12 : decode cX7_allow 12 = .ok (.ifCond .ne 5, 3) := dg_at gg78 6 rfl
theorem dX7_allow_15 : decode cX7_allow 15 = .ok (.iconst (-1), 1) := dg_at gg78 7 rfl
theorem dX7_allow_16 : decode cX7_allow 16 = .ok (.ireturn, 1) := dg_at gg78 8 rfl
theorem dX7_allow_17 : decode cX7_allow 17 = .ok (.aload_n 0, 1) := dg_at gg78 9 rfl
theorem dX7_allow_18 : decode cX7_allow 18 = .ok (.getfield 29, 3) := dg_at gg78 10 rfl
theorem dX7_allow_21 : decode cX7_allow 21 = .ok (.getfield 116, 3) := dg_at gg78 11 rfl
theorem dX7_allow_24 : decode cX7_allow 24 = .ok (.iload_n 1, 1) := dg_at gg78 12 rfl
theorem dX7_allow_25 : decode cX7_allow 25 = .ok (.invokestatic 119, 3) := dg_at gg78 13 rfl
theorem dX7_allow_28 : decode cX7_allow 28 = .ok (.iload_n 2, 1) := dg_at gg78 14 rfl
theorem dX7_allow_29 : decode cX7_allow 29 = .ok (.ishr, 1) := dg_at gg78 15 rfl
theorem dX7_allow_30 : decode cX7_allow 30 = .ok (.iconst 1, 1) := dg_at gg78 16 rfl
theorem dX7_allow_31 : decode cX7_allow 31 = .ok (.iand, 1) := dg_at gg78 17 rfl
theorem dX7_allow_32 : decode cX7_allow 32 = .ok (.istore 4, 2) := dg_at gg78 18 rfl
theorem dX7_allow_34 : decode cX7_allow 34 = .ok (.aload_n 0, 1) := dg_at gg78 19 rfl
theorem dX7_allow_35 : decode cX7_allow 35 = .ok (.getfield 63, 3) := dg_at gg78 20 rfl
theorem dX7_allow_38 : decode cX7_allow 38 = .ok (.aload_n 0, 1) := dg_at gg78 21 rfl
theorem dX7_allow_39 : decode cX7_allow 39 = .ok (.getfield 29, 3) := dg_at gg78 22 rfl
theorem dX7_allow_42 : decode cX7_allow 42 = .ok (.invokevirtual 164, 3) := dg_at gg78 23 rfl
theorem dX7_allow_45 : decode cX7_allow 45 = .ok (.aload_n 0, 1) := dg_at gg78 24 rfl
theorem dX7_allow_46 : decode cX7_allow 46 = .ok (.getfield 29, 3) := dg_at gg78 25 rfl
theorem dX7_allow_49 : decode cX7_allow 49 = .ok (.iload_n 3, 1) := dg_at gg78 26 rfl
theorem dX7_allow_50 : decode cX7_allow 50 = .ok (.ifCond .eq 21, 3) := dg_at gg78 27 rfl
theorem dX7_allow_53 : decode cX7_allow 53 = .ok (.aload_n 0, 1) := dg_at gg78 28 rfl
theorem dX7_allow_54 : decode cX7_allow 54 = .ok (.getfield 29, 3) := dg_at gg78 29 rfl
theorem dX7_allow_57 : decode cX7_allow 57 = .ok (.getfield 116, 3) := dg_at gg78 30 rfl
theorem dX7_allow_60 : decode cX7_allow 60 = .ok (.iload_n 1, 1) := dg_at gg78 31 rfl
theorem dX7_allow_61 : decode cX7_allow 61 = .ok (.iconst 1, 1) := dg_at gg78 32 rfl
theorem dX7_allow_62 : decode cX7_allow 62 = .ok (.iload_n 2, 1) := dg_at gg78 33 rfl
theorem dX7_allow_63 : decode cX7_allow 63 = .ok (.ishl, 1) := dg_at gg78 34 rfl
theorem dX7_allow_64 : decode cX7_allow 64 = .ok (.invokestatic 186, 3) := dg_at gg78 35 rfl
theorem dX7_allow_67 : decode cX7_allow 67 = .ok (.ior, 1) := dg_at gg78 36 rfl
theorem dX7_allow_68 : decode cX7_allow 68 = .ok (.goto 20, 3) := dg_at gg78 37 rfl
theorem dX7_allow_71 : decode cX7_allow 71 = .ok (.aload_n 0, 1) := dg_at gg78 38 rfl
theorem dX7_allow_72 : decode cX7_allow 72 = .ok (.getfield 29, 3) := dg_at gg78 39 rfl
theorem dX7_allow_75 : decode cX7_allow 75 = .ok (.getfield 116, 3) := dg_at gg78 40 rfl
theorem dX7_allow_78 : decode cX7_allow 78 = .ok (.iload_n 1, 1) := dg_at gg78 41 rfl
theorem dX7_allow_79 : decode cX7_allow 79 = .ok (.iconst 1, 1) := dg_at gg78 42 rfl
theorem dX7_allow_80 : decode cX7_allow 80 = .ok (.iload_n 2, 1) := dg_at gg78 43 rfl
theorem dX7_allow_81 : decode cX7_allow 81 = .ok (.ishl, 1) := dg_at gg78 44 rfl
theorem dX7_allow_82 : decode cX7_allow 82 = .ok (.invokestatic 186, 3) := dg_at gg78 45 rfl
theorem dX7_allow_85 : decode cX7_allow 85 = .ok (.iconst (-1), 1) := dg_at gg78 46 rfl
theorem dX7_allow_86 : decode cX7_allow 86 = .ok (.ixor, 1) := dg_at gg78 47 rfl
theorem dX7_allow_87 : decode cX7_allow 87 = .ok (.iand, 1) := dg_at gg78 48 rfl
theorem dX7_allow_88 : decode cX7_allow 88 = .ok (.putfield 116, 3) := dg_at gg78 49 rfl
theorem dX7_allow_91 : decode cX7_allow 91 = .ok (.iload 4, 2) := dg_at gg78 50 rfl
theorem dX7_allow_93 : decode cX7_allow 93 = .ok (.ireturn, 1) := dg_at gg78 51 rfl
def gl79 : List (Nat × Instr × Nat) := [(0, .aload_n 0, 1), (1, .getfield 63, 3), (4, .getfield 189, 3), (7, .ifCond .ne 6, 3), (10, .bipush (-2), 2), (12, .ireturn, 1), (13, .aload_n 0, 1), (14, .getfield 29, 3), (17, .getfield 126, 3), (20, .istore_n 1, 1), (21, .aload_n 0, 1), (22, .getfield 63, 3), (25, .aload_n 0, 1), (26, .getfield 29, 3), (29, .invokevirtual 192, 3), (32, .aload_n 0, 1), (33, .getfield 29, 3), (36, .iload_n 1, 1), (37, .putfield 126, 3), (40, .aload_n 0, 1), (41, .getfield 63, 3), (44, .getfield 189, 3), (47, .ireturn, 1)]
set_option maxRecDepth 100000 in
theorem gg79 : gl79.all (fun x => decide (decode cX7_undo x.1 = .ok (x.2.1, x.2.2))) = true := by decide +kernel
theorem dX7_undo_0 : decode cX7_undo 0 = .ok (.aload_n 0, 1) := dg_at gg79 0 rfl
theorem dX7_undo_1 : decode cX7_undo 1 = .ok (.getfield 63, 3) := dg_at gg79 1 rfl
theorem dX7_undo_4 : decode cX7_undo 4 = .ok (.getfield 189, 3) := dg_at gg79 2 rfl
theorem dX7_undo_7 : decode cX7_undo 7 = .ok (.ifCond .ne 6, 3) := dg_at gg79 3 rfl
theorem dX7_undo_10 : decode cX7_undo 10 = .ok (.bipush (-2), 2) := dg_at gg79 4 rfl
theorem dX7_undo_12 : decode cX7_undo 12 = .ok (.ireturn, 1) := dg_at gg79 5 rfl
theorem dX7_undo_13 : decode cX7_undo 13 = .ok (.aload_n 0, 1) := dg_at gg79 6 rfl
theorem dX7_undo_14 : decode cX7_undo 14 = .ok (.getfield 29, 3) := dg_at gg79 7 rfl
theorem dX7_undo_17 : decode cX7_undo 17 = .ok (.getfield 126, 3) := dg_at gg79 8 rfl
theorem dX7_undo_20 : decode cX7_undo 20 = .ok (.istore_n 1, 1) := dg_at gg79 9 rfl
theorem dX7_undo_21 : decode cX7_undo 21 = .ok (.aload_n 0, 1) := dg_at gg79 10 rfl
theorem dX7_undo_22 : decode cX7_undo 22 = .ok (.getfield 63, 3) := dg_at gg79 11 rfl
theorem dX7_undo_25 : decode cX7_undo 25 = .ok (.aload_n 0, 1) := dg_at gg79 12 rfl
theorem dX7_undo_26 : decode cX7_undo 26 = .ok (.getfield 29, 3) := dg_at gg79 13 rfl
theorem dX7_undo_29 : decode cX7_undo 29 = .ok (.invokevirtual 192, 3) := dg_at gg79 14 rfl
theorem dX7_undo_32 : decode cX7_undo 32 = .ok (.aload_n 0, 1) := dg_at gg79 15 rfl
theorem dX7_undo_33 : decode cX7_undo 33 = .ok (.getfield 29, 3) := dg_at gg79 16 rfl
theorem dX7_undo_36 : decode cX7_undo 36 = .ok (.iload_n 1, 1) := dg_at gg79 17 rfl
theorem dX7_undo_37 : decode cX7_undo 37 = .ok (.putfield 126, 3) := dg_at gg79 18 rfl
theorem dX7_undo_40 : decode cX7_undo 40 = .ok (.aload_n 0, 1) := dg_at gg79 19 rfl
theorem dX7_undo_41 : decode cX7_undo 41 = .ok (.getfield 63, 3) := dg_at gg79 20 rfl
theorem dX7_undo_44 : decode cX7_undo 44 = .ok (.getfield 189, 3) := dg_at gg79 21 rfl
theorem dX7_undo_47 : decode cX7_undo 47 = .ok (.ireturn, 1) := dg_at gg79 22 rfl
def gl80 : List (Nat × Instr × Nat) := [(0, .iload_n 1, 1), (1, .invokestatic 183, 3), (4, .ifCond .eq 25, 3), (7, .aload_n 0, 1), (8, .getfield 45, 3), (11, .aload_n 0, 1), (12, .getfield 29, 3), (15, .getfield 116, 3), (18, .iload_n 1, 1), (19, .invokevirtual 195, 3), (22, .sipush 1000, 3), (25, .iadd, 1), (26, .goto 4, 3), (29, .iconst (-1), 1), (30, .ireturn, 1)]
set_option maxRecDepth 100000 in
theorem gg80 : gl80.all (fun x => decide (decode cX7_gain x.1 = .ok (x.2.1, x.2.2))) = true := by decide +kernel
theorem dX7_gain_0 : decode cX7_gain 0 = .ok (.iload_n 1, 1) := dg_at gg80 0 rfl
theorem dX7_gain_1 : decode cX7_gain 1 = .ok (.invokestatic 183, 3) := dg_at gg80 1 rfl
theorem dX7_gain_4 : decode cX7_gain 4 = .ok (.ifCond .eq 25, 3) := dg_at gg80 2 rfl
theorem dX7_gain_7 : decode cX7_gain 7 = .ok (.aload_n 0, 1) := dg_at gg80 3 rfl
theorem dX7_gain_8 : decode cX7_gain 8 = .ok (.getfield 45, 3) := dg_at gg80 4 rfl
theorem dX7_gain_11 : decode cX7_gain 11 = .ok (.aload_n 0, 1) := dg_at gg80 5 rfl
theorem dX7_gain_12 : decode cX7_gain 12 = .ok (.getfield 29, 3) := dg_at gg80 6 rfl
theorem dX7_gain_15 : decode cX7_gain 15 = .ok (.getfield 116, 3) := dg_at gg80 7 rfl
theorem dX7_gain_18 : decode cX7_gain 18 = .ok (.iload_n 1, 1) := dg_at gg80 8 rfl
theorem dX7_gain_19 : decode cX7_gain 19 = .ok (.invokevirtual 195, 3) := dg_at gg80 9 rfl
theorem dX7_gain_22 : decode cX7_gain 22 = .ok (.sipush 1000, 3) := dg_at gg80 10 rfl
theorem dX7_gain_25 : decode cX7_gain 25 = .ok (.iadd, 1) := dg_at gg80 11 rfl
theorem dX7_gain_26 : decode cX7_gain 26 = .ok (.goto 4, 3) := dg_at gg80 12 rfl
theorem dX7_gain_29 : decode cX7_gain 29 = .ok (.iconst (-1), 1) := dg_at gg80 13 rfl
theorem dX7_gain_30 : decode cX7_gain 30 = .ok (.ireturn, 1) := dg_at gg80 14 rfl
def gl81 : List (Nat × Instr × Nat) := [(0, .aload_n 0, 1), (1, .iload_n 1, 1), (2, .invokevirtual 198, 3), (5, .ifCond .eq 18, 3), (8, .aload_n 0, 1), (9, .iload_n 2, 1), (10, .invokevirtual 198, 3), (13, .ifCond .eq 10, 3), (16, .iload_n 3, 1), (17, .invokestatic 183, 3), (20, .ifCond .ne 5, 3), (23, .iconst (-1), 1), (24, .ireturn, 1), (25, .aload_n 0, 1), (26, .getfield 45, 3), (29, .iload_n 1, 1), (30, .iload_n 2, 1), (31, .iload_n 3, 1), (32, .invokevirtual 201, 3), (35, .sipush 1000, 3), (38, .iadd, 1), (39, .ireturn, 1)]
set_option maxRecDepth 100000 in
theorem gg81 : gl81.all (fun x => decide (decode cX7_forbid x.1 = .ok (x.2.1, x.2.2))) = true := by decide +kernel
theorem dX7_forbid_0 : decode cX7_forbid 0 = .ok (.aload_n 0, 1) := dg_at gg81 0 rfl
theorem dX7_forbid_1 : decode cX7_forbid 1 = .ok (.iload_n 1, 1) := dg_at gg81 1 rfl
theorem dX7_forbid_2 : decode cX7_forbid 2 = .ok (.invokevirtual 198, 3) := dg_at gg81 2 rfl
theorem dX7_forbid_5 : decode cX7_forbid 5 = .ok (.ifCond .eq 18, 3) := dg_at gg81 3 rfl
theorem dX7_forbid_8 : decode cX7_forbid 8 = .ok (.aload_n 0, 1) := dg_at gg81 4 rfl
theorem dX7_forbid_9 : decode cX7_forbid 9 = .ok (.iload_n 2, 1) := dg_at gg81 5 rfl
theorem dX7_forbid_10 : decode cX7_forbid 10 = .ok (.invokevirtual 198, 3) := dg_at gg81 6 rfl
theorem dX7_forbid_13 : decode cX7_forbid 13 = .ok (.ifCond .eq 10, 3) := dg_at gg81 7 rfl
theorem dX7_forbid_16 : decode cX7_forbid 16 = .ok (.iload_n 3, 1) := dg_at gg81 8 rfl
theorem dX7_forbid_17 : decode cX7_forbid 17 = .ok (.invokestatic 183, 3) := dg_at gg81 9 rfl
theorem dX7_forbid_20 : decode cX7_forbid 20 = .ok (.ifCond .ne 5, 3) := dg_at gg81 10 rfl
theorem dX7_forbid_23 : decode cX7_forbid 23 = .ok (.iconst (-1), 1) := dg_at gg81 11 rfl
theorem dX7_forbid_24 : decode cX7_forbid 24 = .ok (.ireturn, 1) := dg_at gg81 12 rfl
theorem dX7_forbid_25 : decode cX7_forbid 25 = .ok (.aload_n 0, 1) := dg_at gg81 13 rfl
theorem dX7_forbid_26 : decode cX7_forbid 26 = .ok (.getfield 45, 3) := dg_at gg81 14 rfl
theorem dX7_forbid_29 : decode cX7_forbid 29 = .ok (.iload_n 1, 1) := dg_at gg81 15 rfl
theorem dX7_forbid_30 : decode cX7_forbid 30 = .ok (.iload_n 2, 1) := dg_at gg81 16 rfl
theorem dX7_forbid_31 : decode cX7_forbid 31 = .ok (.iload_n 3, 1) := dg_at gg81 17 rfl
theorem dX7_forbid_32 : decode cX7_forbid 32 = .ok (.invokevirtual 201, 3) := dg_at gg81 18 rfl
theorem dX7_forbid_35 : decode cX7_forbid 35 = .ok (.sipush 1000, 3) := dg_at gg81 19 rfl
theorem dX7_forbid_38 : decode cX7_forbid 38 = .ok (.iadd, 1) := dg_at gg81 20 rfl
theorem dX7_forbid_39 : decode cX7_forbid 39 = .ok (.ireturn, 1) := dg_at gg81 21 rfl
def gl82 : List (Nat × Instr × Nat) := [(0, .iload_n 1, 1), (1, .ifCond .lt 8, 3), (4, .iload_n 1, 1), (5, .iconst 2, 1), (6, .if_icmp .le 5, 3), (9, .iconst (-1), 1), (10, .ireturn, 1), (11, .iload_n 1, 1), (12, .ifCond .ne 11, 3), (15, .aload_n 0, 1), (16, .getfield 45, 3), (19, .invokevirtual 205, 3), (22, .ireturn, 1), (23, .aload_n 0, 1), (24, .getfield 45, 3), (27, .iload_n 1, 1), (28, .iconst 1, 1), (29, .if_icmp .ne 7, 3), (32, .iconst 0, 1), (33, .goto 4, 3), (36, .iconst 1, 1), (37, .invokevirtual 208, 3), (40, .istore_n 2, 1), (41, .iload_n 2, 1), (42, .ifCond .ge 8, 3), (45, .bipush (-4), 2), (47, .goto 4, 3), (50, .iload_n 2, 1), (51, .ireturn, 1)]
set_option maxRecDepth 100000 in
theorem gg82 : gl82.all (fun x => decide (decode cX7_rests x.1 = .ok (x.2.1, x.2.2))) = true := by decide +kernel
theorem dX7_rests_0 : decode cX7_rests 0 = .ok (.iload_n 1, 1) := dg_at gg82 0 rfl
theorem dX7_rests_1 : decode cX7_rests 1 = .ok (.ifCond .lt 8, 3) := dg_at gg82 1 rfl
theorem dX7_rests_4 : decode cX7_rests 4 = .ok (.iload_n 1, 1) := dg_at gg82 2 rfl
theorem dX7_rests_5 : decode cX7_rests 5 = .ok (.iconst 2, 1) := dg_at gg82 3 rfl
theorem dX7_rests_6 : decode cX7_rests 6 = .ok (.if_icmp .le 5, 3) := dg_at gg82 4 rfl
theorem dX7_rests_9 : decode cX7_rests 9 = .ok (.iconst (-1), 1) := dg_at gg82 5 rfl
theorem dX7_rests_10 : decode cX7_rests 10 = .ok (.ireturn, 1) := dg_at gg82 6 rfl
theorem dX7_rests_11 : decode cX7_rests 11 = .ok (.iload_n 1, 1) := dg_at gg82 7 rfl
theorem dX7_rests_12 : decode cX7_rests 12 = .ok (.ifCond .ne 11, 3) := dg_at gg82 8 rfl
theorem dX7_rests_15 : decode cX7_rests 15 = .ok (.aload_n 0, 1) := dg_at gg82 9 rfl
theorem dX7_rests_16 : decode cX7_rests 16 = .ok (.getfield 45, 3) := dg_at gg82 10 rfl
theorem dX7_rests_19 : decode cX7_rests 19 = .ok (.invokevirtual 205, 3) := dg_at gg82 11 rfl
theorem dX7_rests_22 : decode cX7_rests 22 = .ok (.ireturn, 1) := dg_at gg82 12 rfl
theorem dX7_rests_23 : decode cX7_rests 23 = .ok (.aload_n 0, 1) := dg_at gg82 13 rfl
theorem dX7_rests_24 : decode cX7_rests 24 = .ok (.getfield 45, 3) := dg_at gg82 14 rfl
theorem dX7_rests_27 : decode cX7_rests 27 = .ok (.iload_n 1, 1) := dg_at gg82 15 rfl
theorem dX7_rests_28 : decode cX7_rests 28 = .ok (.iconst 1, 1) := dg_at gg82 16 rfl
theorem dX7_rests_29 : decode cX7_rests 29 = .ok (.if_icmp .ne 7, 3) := dg_at gg82 17 rfl
theorem dX7_rests_32 : decode cX7_rests 32 = .ok (.iconst 0, 1) := dg_at gg82 18 rfl
theorem dX7_rests_33 : decode cX7_rests 33 = .ok (.goto 4, 3) := dg_at gg82 19 rfl
theorem dX7_rests_36 : decode cX7_rests 36 = .ok (.iconst 1, 1) := dg_at gg82 20 rfl
theorem dX7_rests_37 : decode cX7_rests 37 = .ok (.invokevirtual 208, 3) := dg_at gg82 21 rfl
theorem dX7_rests_40 : decode cX7_rests 40 = .ok (.istore_n 2, 1) := dg_at gg82 22 rfl
theorem dX7_rests_41 : decode cX7_rests 41 = .ok (.iload_n 2, 1) := dg_at gg82 23 rfl
theorem dX7_rests_42 : decode cX7_rests 42 = .ok (.ifCond .ge 8, 3) := dg_at gg82 24 rfl
theorem dX7_rests_45 : decode cX7_rests 45 = .ok (.bipush (-4), 2) := dg_at gg82 25 rfl
theorem dX7_rests_47 : decode cX7_rests 47 = .ok (.goto 4, 3) := dg_at gg82 26 rfl
theorem dX7_rests_50 : decode cX7_rests 50 = .ok (.iload_n 2, 1) := dg_at gg82 27 rfl
theorem dX7_rests_51 : decode cX7_rests 51 = .ok (.ireturn, 1) := dg_at gg82 28 rfl
def gl83 : List (Nat × Instr × Nat) := [(0, .iload_n 1, 1), (1, .ifCond .lt 16, 3), (4, .iload_n 1, 1), (5, .iconst 1, 1), (6, .aload_n 0, 1), (7, .getfield 23, 3), (10, .getfield 96, 3), (13, .ishl, 1), (14, .if_icmp .lt 5, 3), (17, .iconst (-1), 1), (18, .ireturn, 1), (19, .aload_n 0, 1), (20, .getfield 45, 3), (23, .iload_n 1, 1), (24, .invokevirtual 211, 3), (27, .ifCond .eq 7, 3), (30, .iconst 1, 1), (31, .goto 4, 3), (34, .iconst 0, 1), (35, .ireturn, 1)]
set_option maxRecDepth 100000 in
theorem gg83 : gl83.all (fun x => decide (decode cX7_firm x.1 = .ok (x.2.1, x.2.2))) = true := by decide +kernel
theorem dX7_firm_0 : decode cX7_firm 0 = .ok (.iload_n 1, 1) := dg_at gg83 0 rfl
theorem dX7_firm_1 : decode cX7_firm 1 = .ok (.ifCond .lt 16, 3) := dg_at gg83 1 rfl
theorem dX7_firm_4 : decode cX7_firm 4 = .ok (.iload_n 1, 1) := dg_at gg83 2 rfl
theorem dX7_firm_5 : decode cX7_firm 5 = .ok (.iconst 1, 1) := dg_at gg83 3 rfl
theorem dX7_firm_6 : decode cX7_firm 6 = .ok (.aload_n 0, 1) := dg_at gg83 4 rfl
theorem dX7_firm_7 : decode cX7_firm 7 = .ok (.getfield 23, 3) := dg_at gg83 5 rfl
theorem dX7_firm_10 : decode cX7_firm 10 = .ok (.getfield 96, 3) := dg_at gg83 6 rfl
theorem dX7_firm_13 : decode cX7_firm 13 = .ok (.ishl, 1) := dg_at gg83 7 rfl
theorem dX7_firm_14 : decode cX7_firm 14 = .ok (.if_icmp .lt 5, 3) := dg_at gg83 8 rfl
theorem dX7_firm_17 : decode cX7_firm 17 = .ok (.iconst (-1), 1) := dg_at gg83 9 rfl
theorem dX7_firm_18 : decode cX7_firm 18 = .ok (.ireturn, 1) := dg_at gg83 10 rfl
theorem dX7_firm_19 : decode cX7_firm 19 = .ok (.aload_n 0, 1) := dg_at gg83 11 rfl
theorem dX7_firm_20 : decode cX7_firm 20 = .ok (.getfield 45, 3) := dg_at gg83 12 rfl
theorem dX7_firm_23 : decode cX7_firm 23 = .ok (.iload_n 1, 1) := dg_at gg83 13 rfl
theorem dX7_firm_24 : decode cX7_firm 24 = .ok (.invokevirtual 211, 3) := dg_at gg83 14 rfl
theorem dX7_firm_27 : decode cX7_firm 27 = .ok (.ifCond .eq 7, 3) := dg_at gg83 15 rfl
theorem dX7_firm_30 : decode cX7_firm 30 = .ok (.iconst 1, 1) := dg_at gg83 16 rfl
theorem dX7_firm_31 : decode cX7_firm 31 = .ok (.goto 4, 3) := dg_at gg83 17 rfl
theorem dX7_firm_34 : decode cX7_firm 34 = .ok (.iconst 0, 1) := dg_at gg83 18 rfl
theorem dX7_firm_35 : decode cX7_firm 35 = .ok (.ireturn, 1) := dg_at gg83 19 rfl
def gl84 : List (Nat × Instr × Nat) := [(0, .iload_n 1, 1), (1, .ifCond .lt 8, 3), (4, .iload_n 1, 1), (5, .iconst 1, 1), (6, .if_icmp .le 5, 3), (9, .iconst (-1), 1), (10, .ireturn, 1), (11, .aload_n 0, 1), (12, .getfield 45, 3), (15, .invokevirtual 214, 3), (18, .istore_n 2, 1), (19, .iload_n 1, 1), (20, .ifCond .ne 7, 3), (23, .iload_n 2, 1), (24, .goto 15, 3), (27, .aload_n 0, 1), (28, .getfield 45, 3), (31, .iload_n 2, 1), (32, .invokevirtual 217, 3), (35, .sipush 2000, 3), (38, .iadd, 1), (39, .ireturn, 1)]
set_option maxRecDepth 100000 in
theorem gg84 : gl84.all (fun x => decide (decode cX7_treaty x.1 = .ok (x.2.1, x.2.2))) = true := by decide +kernel
theorem dX7_treaty_0 : decode cX7_treaty 0 = .ok (.iload_n 1, 1) := dg_at gg84 0 rfl
theorem dX7_treaty_1 : decode cX7_treaty 1 = .ok (.ifCond .lt 8, 3) := dg_at gg84 1 rfl
theorem dX7_treaty_4 : decode cX7_treaty 4 = .ok (.iload_n 1, 1) := dg_at gg84 2 rfl
theorem dX7_treaty_5 : decode cX7_treaty 5 = .ok (.iconst 1, 1) := dg_at gg84 3 rfl
theorem dX7_treaty_6 : decode cX7_treaty 6 = .ok (.if_icmp .le 5, 3) := dg_at gg84 4 rfl
theorem dX7_treaty_9 : decode cX7_treaty 9 = .ok (.iconst (-1), 1) := dg_at gg84 5 rfl
theorem dX7_treaty_10 : decode cX7_treaty 10 = .ok (.ireturn, 1) := dg_at gg84 6 rfl
theorem dX7_treaty_11 : decode cX7_treaty 11 = .ok (.aload_n 0, 1) := dg_at gg84 7 rfl
theorem dX7_treaty_12 : decode cX7_treaty 12 = .ok (.getfield 45, 3) := dg_at gg84 8 rfl
theorem dX7_treaty_15 : decode cX7_treaty 15 = .ok (.invokevirtual 214, 3) := dg_at gg84 9 rfl
theorem dX7_treaty_18 : decode cX7_treaty 18 = .ok (.istore_n 2, 1) := dg_at gg84 10 rfl
theorem dX7_treaty_19 : decode cX7_treaty 19 = .ok (.iload_n 1, 1) := dg_at gg84 11 rfl
theorem dX7_treaty_20 : decode cX7_treaty 20 = .ok (.ifCond .ne 7, 3) := dg_at gg84 12 rfl
theorem dX7_treaty_23 : decode cX7_treaty 23 = .ok (.iload_n 2, 1) := dg_at gg84 13 rfl
theorem dX7_treaty_24 : decode cX7_treaty 24 = .ok (.goto 15, 3) := dg_at gg84 14 rfl
theorem dX7_treaty_27 : decode cX7_treaty 27 = .ok (.aload_n 0, 1) := dg_at gg84 15 rfl
theorem dX7_treaty_28 : decode cX7_treaty 28 = .ok (.getfield 45, 3) := dg_at gg84 16 rfl
theorem dX7_treaty_31 : decode cX7_treaty 31 = .ok (.iload_n 2, 1) := dg_at gg84 17 rfl
theorem dX7_treaty_32 : decode cX7_treaty 32 = .ok (.invokevirtual 217, 3) := dg_at gg84 18 rfl
theorem dX7_treaty_35 : decode cX7_treaty 35 = .ok (.sipush 2000, 3) := dg_at gg84 19 rfl
theorem dX7_treaty_38 : decode cX7_treaty 38 = .ok (.iadd, 1) := dg_at gg84 20 rfl
theorem dX7_treaty_39 : decode cX7_treaty 39 = .ok (.ireturn, 1) := dg_at gg84 21 rfl
def gl85 : List (Nat × Instr × Nat) := [(0, .aload_n 0, 1), (1, .iload_n 1, 1), (2, .invokevirtual 112, 3), (5, .ifCond .eq 23, 3), (8, .aload_n 0, 1), (9, .iload_n 2, 1), (10, .invokevirtual 112, 3), (13, .ifCond .eq 15, 3), (16, .iload_n 1, 1), (17, .iload_n 2, 1), (18, .if_icmp .eq 10, 3), (21, .lload_n 3, 1), (22, .invokestatic 129, 3), (25, .ifCond .ne 7, 3), (28, .ldc2_w 145, 3), (31, .lreturn, 1), (32, .aload_n 0, 1), (33, .getfield 38, 3), (36, .iload_n 1, 1), (37, .iload_n 2, 1), (38, .lload_n 3, 1), (39, .invokevirtual 154, 3), (42, .lreturn, 1)]
set_option maxRecDepth 100000 in
theorem gg85 : gl85.all (fun x => decide (decode cX7_bargain x.1 = .ok (x.2.1, x.2.2))) = true := by decide +kernel
theorem dX7_bargain_0 : decode cX7_bargain 0 = .ok (.aload_n 0, 1) := dg_at gg85 0 rfl
theorem dX7_bargain_1 : decode cX7_bargain 1 = .ok (.iload_n 1, 1) := dg_at gg85 1 rfl
theorem dX7_bargain_2 : decode cX7_bargain 2 = .ok (.invokevirtual 112, 3) := dg_at gg85 2 rfl
theorem dX7_bargain_5 : decode cX7_bargain 5 = .ok (.ifCond .eq 23, 3) := dg_at gg85 3 rfl
theorem dX7_bargain_8 : decode cX7_bargain 8 = .ok (.aload_n 0, 1) := dg_at gg85 4 rfl
theorem dX7_bargain_9 : decode cX7_bargain 9 = .ok (.iload_n 2, 1) := dg_at gg85 5 rfl
theorem dX7_bargain_10 : decode cX7_bargain 10 = .ok (.invokevirtual 112, 3) := dg_at gg85 6 rfl
theorem dX7_bargain_13 : decode cX7_bargain 13 = .ok (.ifCond .eq 15, 3) := dg_at gg85 7 rfl
theorem dX7_bargain_16 : decode cX7_bargain 16 = .ok (.iload_n 1, 1) := dg_at gg85 8 rfl
theorem dX7_bargain_17 : decode cX7_bargain 17 = .ok (.iload_n 2, 1) := dg_at gg85 9 rfl
theorem dX7_bargain_18 : decode cX7_bargain 18 = .ok (.if_icmp .eq 10, 3) := dg_at gg85 10 rfl
theorem dX7_bargain_21 : decode cX7_bargain 21 = .ok (.lload_n 3, 1) := dg_at gg85 11 rfl
theorem dX7_bargain_22 : decode cX7_bargain 22 = .ok (.invokestatic 129, 3) := dg_at gg85 12 rfl
theorem dX7_bargain_25 : decode cX7_bargain 25 = .ok (.ifCond .ne 7, 3) := dg_at gg85 13 rfl
theorem dX7_bargain_28 : decode cX7_bargain 28 = .ok (.ldc2_w 145, 3) := dg_at gg85 14 rfl
theorem dX7_bargain_31 : decode cX7_bargain 31 = .ok (.lreturn, 1) := dg_at gg85 15 rfl
theorem dX7_bargain_32 : decode cX7_bargain 32 = .ok (.aload_n 0, 1) := dg_at gg85 16 rfl
theorem dX7_bargain_33 : decode cX7_bargain 33 = .ok (.getfield 38, 3) := dg_at gg85 17 rfl
theorem dX7_bargain_36 : decode cX7_bargain 36 = .ok (.iload_n 1, 1) := dg_at gg85 18 rfl
theorem dX7_bargain_37 : decode cX7_bargain 37 = .ok (.iload_n 2, 1) := dg_at gg85 19 rfl
theorem dX7_bargain_38 : decode cX7_bargain 38 = .ok (.lload_n 3, 1) := dg_at gg85 20 rfl
theorem dX7_bargain_39 : decode cX7_bargain 39 = .ok (.invokevirtual 154, 3) := dg_at gg85 21 rfl
theorem dX7_bargain_42 : decode cX7_bargain 42 = .ok (.lreturn, 1) := dg_at gg85 22 rfl
def gl86 : List (Nat × Instr × Nat) := [(0, .iload_n 1, 1), (1, .ifCond .lt 16, 3), (4, .iload_n 1, 1), (5, .ldc 220, 2), (7, .if_icmp .gt 10, 3), (10, .iload_n 2, 1), (11, .invokestatic 138, 3), (14, .ifCond .ne 5, 3), (17, .iconst (-1), 1), (18, .ireturn, 1), (19, .aload_n 0, 1), (20, .getfield 54, 3), (23, .iload_n 1, 1), (24, .iload_n 2, 1), (25, .invokevirtual 221, 3), (28, .ifCond .eq 13, 3), (31, .aload_n 0, 1), (32, .getfield 54, 3), (35, .getfield 106, 3), (38, .goto 5, 3), (41, .bipush (-3), 2), (43, .ireturn, 1)]
set_option maxRecDepth 100000 in
theorem gg86 : gl86.all (fun x => decide (decode cX7_line x.1 = .ok (x.2.1, x.2.2))) = true := by decide +kernel
theorem dX7_line_0 : decode cX7_line 0 = .ok (.iload_n 1, 1) := dg_at gg86 0 rfl
theorem dX7_line_1 : decode cX7_line 1 = .ok (.ifCond .lt 16, 3) := dg_at gg86 1 rfl
theorem dX7_line_4 : decode cX7_line 4 = .ok (.iload_n 1, 1) := dg_at gg86 2 rfl
theorem dX7_line_5 : decode cX7_line 5 = .ok (.ldc 220, 2) := dg_at gg86 3 rfl
theorem dX7_line_7 : decode cX7_line 7 = .ok (.if_icmp .gt 10, 3) := dg_at gg86 4 rfl
theorem dX7_line_10 : decode cX7_line 10 = .ok (.iload_n 2, 1) := dg_at gg86 5 rfl
theorem dX7_line_11 : decode cX7_line 11 = .ok (.invokestatic 138, 3) := dg_at gg86 6 rfl
theorem dX7_line_14 : decode cX7_line 14 = .ok (.ifCond .ne 5, 3) := dg_at gg86 7 rfl
theorem dX7_line_17 : decode cX7_line 17 = .ok (.iconst (-1), 1) := dg_at gg86 8 rfl
theorem dX7_line_18 : decode cX7_line 18 = .ok (.ireturn, 1) := dg_at gg86 9 rfl
theorem dX7_line_19 : decode cX7_line 19 = .ok (.aload_n 0, 1) := dg_at gg86 10 rfl
theorem dX7_line_20 : decode cX7_line 20 = .ok (.getfield 54, 3) := dg_at gg86 11 rfl
theorem dX7_line_23 : decode cX7_line 23 = .ok (.iload_n 1, 1) := dg_at gg86 12 rfl
theorem dX7_line_24 : decode cX7_line 24 = .ok (.iload_n 2, 1) := dg_at gg86 13 rfl
theorem dX7_line_25 : decode cX7_line 25 = .ok (.invokevirtual 221, 3) := dg_at gg86 14 rfl
theorem dX7_line_28 : decode cX7_line 28 = .ok (.ifCond .eq 13, 3) := dg_at gg86 15 rfl
theorem dX7_line_31 : decode cX7_line 31 = .ok (.aload_n 0, 1) := dg_at gg86 16 rfl
theorem dX7_line_32 : decode cX7_line 32 = .ok (.getfield 54, 3) := dg_at gg86 17 rfl
theorem dX7_line_35 : decode cX7_line 35 = .ok (.getfield 106, 3) := dg_at gg86 18 rfl
theorem dX7_line_38 : decode cX7_line 38 = .ok (.goto 5, 3) := dg_at gg86 19 rfl
theorem dX7_line_41 : decode cX7_line 41 = .ok (.bipush (-3), 2) := dg_at gg86 20 rfl
theorem dX7_line_43 : decode cX7_line 43 = .ok (.ireturn, 1) := dg_at gg86 21 rfl
def gl87 : List (Nat × Instr × Nat) := [(0, .aload_n 0, 1), (1, .getfield 54, 3), (4, .getfield 106, 3), (7, .istore_n 1, 1), (8, .aload_n 0, 1), (9, .getfield 54, 3), (12, .iconst 0, 1), (13, .putfield 106, 3), (16, .iload_n 1, 1), (17, .ireturn, 1)]
set_option maxRecDepth 100000 in
theorem gg87 : gl87.all (fun x => decide (decode cX7_noTable x.1 = .ok (x.2.1, x.2.2))) = true := by decide +kernel
theorem dX7_noTable_0 : decode cX7_noTable 0 = .ok (.aload_n 0, 1) := dg_at gg87 0 rfl
theorem dX7_noTable_1 : decode cX7_noTable 1 = .ok (.getfield 54, 3) := dg_at gg87 1 rfl
theorem dX7_noTable_4 : decode cX7_noTable 4 = .ok (.getfield 106, 3) := dg_at gg87 2 rfl
theorem dX7_noTable_7 : decode cX7_noTable 7 = .ok (.istore_n 1, 1) := dg_at gg87 3 rfl
theorem dX7_noTable_8 : decode cX7_noTable 8 = .ok (.aload_n 0, 1) := dg_at gg87 4 rfl
theorem dX7_noTable_9 : decode cX7_noTable 9 = .ok (.getfield 54, 3) := dg_at gg87 5 rfl
theorem dX7_noTable_12 : decode cX7_noTable 12 = .ok (.iconst 0, 1) := dg_at gg87 6 rfl
theorem dX7_noTable_13 : decode cX7_noTable 13 = .ok (.putfield 106, 3) := dg_at gg87 7 rfl
theorem dX7_noTable_16 : decode cX7_noTable 16 = .ok (.iload_n 1, 1) := dg_at gg87 8 rfl
theorem dX7_noTable_17 : decode cX7_noTable 17 = .ok (.ireturn, 1) := dg_at gg87 9 rfl
def gl88 : List (Nat × Instr × Nat) := [(0, .aload_n 0, 1), (1, .getfield 54, 3), (4, .invokevirtual 225, 3), (7, .ireturn, 1)]
set_option maxRecDepth 100000 in
theorem gg88 : gl88.all (fun x => decide (decode cX7_forged x.1 = .ok (x.2.1, x.2.2))) = true := by decide +kernel
theorem dX7_forged_0 : decode cX7_forged 0 = .ok (.aload_n 0, 1) := dg_at gg88 0 rfl
theorem dX7_forged_1 : decode cX7_forged 1 = .ok (.getfield 54, 3) := dg_at gg88 1 rfl
theorem dX7_forged_4 : decode cX7_forged 4 = .ok (.invokevirtual 225, 3) := dg_at gg88 2 rfl
theorem dX7_forged_7 : decode cX7_forged 7 = .ok (.ireturn, 1) := dg_at gg88 3 rfl
def gl89 : List (Nat × Instr × Nat) := [(0, .iload_n 1, 1), (1, .ifCond .lt 8, 3), (4, .iload_n 1, 1), (5, .iconst 1, 1), (6, .if_icmp .le 5, 3), (9, .iconst (-1), 1), (10, .ireturn, 1), (11, .aload_n 0, 1), (12, .getfield 54, 3), (15, .invokevirtual 228, 3), (18, .istore_n 2, 1), (19, .iload_n 1, 1), (20, .ifCond .ne 14, 3), (23, .aload_n 0, 1), (24, .getfield 54, 3), (27, .iload_n 2, 1), (28, .invokevirtual 231, 3), (31, .goto 7, 3), (34, .iload_n 2, 1), (35, .bipush 30, 2), (37, .iadd, 1), (38, .ireturn, 1)]
set_option maxRecDepth 100000 in
theorem gg89 : gl89.all (fun x => decide (decode cX7_shift x.1 = .ok (x.2.1, x.2.2))) = true := by decide +kernel
theorem dX7_shift_0 : decode cX7_shift 0 = .ok (.iload_n 1, 1) := dg_at gg89 0 rfl
theorem dX7_shift_1 : decode cX7_shift 1 = .ok (.ifCond .lt 8, 3) := dg_at gg89 1 rfl
theorem dX7_shift_4 : decode cX7_shift 4 = .ok (.iload_n 1, 1) := dg_at gg89 2 rfl
theorem dX7_shift_5 : decode cX7_shift 5 = .ok (.iconst 1, 1) := dg_at gg89 3 rfl
theorem dX7_shift_6 : decode cX7_shift 6 = .ok (.if_icmp .le 5, 3) := dg_at gg89 4 rfl
theorem dX7_shift_9 : decode cX7_shift 9 = .ok (.iconst (-1), 1) := dg_at gg89 5 rfl
theorem dX7_shift_10 : decode cX7_shift 10 = .ok (.ireturn, 1) := dg_at gg89 6 rfl
theorem dX7_shift_11 : decode cX7_shift 11 = .ok (.aload_n 0, 1) := dg_at gg89 7 rfl
theorem dX7_shift_12 : decode cX7_shift 12 = .ok (.getfield 54, 3) := dg_at gg89 8 rfl
theorem dX7_shift_15 : decode cX7_shift 15 = .ok (.invokevirtual 228, 3) := dg_at gg89 9 rfl
theorem dX7_shift_18 : decode cX7_shift 18 = .ok (.istore_n 2, 1) := dg_at gg89 10 rfl
theorem dX7_shift_19 : decode cX7_shift 19 = .ok (.iload_n 1, 1) := dg_at gg89 11 rfl
theorem dX7_shift_20 : decode cX7_shift 20 = .ok (.ifCond .ne 14, 3) := dg_at gg89 12 rfl
theorem dX7_shift_23 : decode cX7_shift 23 = .ok (.aload_n 0, 1) := dg_at gg89 13 rfl
theorem dX7_shift_24 : decode cX7_shift 24 = .ok (.getfield 54, 3) := dg_at gg89 14 rfl
theorem dX7_shift_27 : decode cX7_shift 27 = .ok (.iload_n 2, 1) := dg_at gg89 15 rfl
theorem dX7_shift_28 : decode cX7_shift 28 = .ok (.invokevirtual 231, 3) := dg_at gg89 16 rfl
theorem dX7_shift_31 : decode cX7_shift 31 = .ok (.goto 7, 3) := dg_at gg89 17 rfl
theorem dX7_shift_34 : decode cX7_shift 34 = .ok (.iload_n 2, 1) := dg_at gg89 18 rfl
theorem dX7_shift_35 : decode cX7_shift 35 = .ok (.bipush 30, 2) := dg_at gg89 19 rfl
theorem dX7_shift_37 : decode cX7_shift 37 = .ok (.iadd, 1) := dg_at gg89 20 rfl
theorem dX7_shift_38 : decode cX7_shift 38 = .ok (.ireturn, 1) := dg_at gg89 21 rfl
def gl90 : List (Nat × Instr × Nat) := [(0, .lload_n 1, 1), (1, .invokestatic 129, 3), (4, .ifCond .eq 15, 3), (7, .iload_n 3, 1), (8, .iconst 1, 1), (9, .if_icmp .lt 10, 3), (12, .iload_n 3, 1), (13, .sipush 10000, 3), (16, .if_icmp .le 5, 3), (19, .iconst (-1), 1), (20, .ireturn, 1), (21, .iload 4, 2), (23, .invokestatic 183, 3), (26, .ifCond .eq 14, 3), (29, .iload 5, 2), (31, .ifCond .lt 9, 3), (34, .iload 5, 2), (36, .iconst 1, 1), (37, .if_icmp .le 5, 3), (40, .iconst (-1), 1), (41, .ireturn, 1), (42, .aload_n 0, 1), (43, .getfield 38, 3), (46, .iload 4, 2), (48, .lload_n 1, 1), (49, .iload_n 3, 1), (50, .invokevirtual 141, 3), (53, .istore 6, 2), (55, .iload_n 3, 1), (56, .aload_n 0, 1), (57, .getfield 38, 3), (60, .iconst 2, 1), (61, .lload_n 1, 1), (62, .iload_n 3, 1), (63, .invokevirtual 141, 3), (66, .isub, 1), (67, .istore 7, 2), (69, .iload 7, 2), (71, .ifCond .gt 6, 3), (74, .bipush (-4), 2), (76, .ireturn, 1), (77, .iconst 1, 1), (78, .iload 7, 2), (80, .iload 6, 2), (82, .invokestatic 234, 3), (85, .invokestatic 237, 3), (88, .istore 8, 2), (90, .iload 5, 2), (92, .ifCond .ne 8, 3), (95, .iload 6, 2), (97, .goto 5, 3), (100, .iload 7, 2), (102, .iload 8, 2), (104, .idiv, 1), (105, .ireturn, 1)]
set_option maxRecDepth 100000 in
theorem gg90 : gl90.all (fun x => decide (decode cX7_wreck x.1 = .ok (x.2.1, x.2.2))) = true := by decide +kernel
theorem dX7_wreck_0 : decode cX7_wreck 0 = .ok (.lload_n 1, 1) := dg_at gg90 0 rfl
theorem dX7_wreck_1 : decode cX7_wreck 1 = .ok (.invokestatic 129, 3) := dg_at gg90 1 rfl
theorem dX7_wreck_4 : decode cX7_wreck 4 = .ok (.ifCond .eq 15, 3) := dg_at gg90 2 rfl
theorem dX7_wreck_7 : decode cX7_wreck 7 = .ok (.iload_n 3, 1) := dg_at gg90 3 rfl
theorem dX7_wreck_8 : decode cX7_wreck 8 = .ok (.iconst 1, 1) := dg_at gg90 4 rfl
theorem dX7_wreck_9 : decode cX7_wreck 9 = .ok (.if_icmp .lt 10, 3) := dg_at gg90 5 rfl
theorem dX7_wreck_12 : decode cX7_wreck 12 = .ok (.iload_n 3, 1) := dg_at gg90 6 rfl
theorem dX7_wreck_13 : decode cX7_wreck 13 = .ok (.sipush 10000, 3) := dg_at gg90 7 rfl
theorem dX7_wreck_16 : decode cX7_wreck 16 = .ok (.if_icmp .le 5, 3) := dg_at gg90 8 rfl
theorem dX7_wreck_19 : decode cX7_wreck 19 = .ok (.iconst (-1), 1) := dg_at gg90 9 rfl
theorem dX7_wreck_20 : decode cX7_wreck 20 = .ok (.ireturn, 1) := dg_at gg90 10 rfl
theorem dX7_wreck_21 : decode cX7_wreck 21 = .ok (.iload 4, 2) := dg_at gg90 11 rfl
theorem dX7_wreck_23 : decode cX7_wreck 23 = .ok (.invokestatic 183, 3) := dg_at gg90 12 rfl
theorem dX7_wreck_26 : decode cX7_wreck 26 = .ok (.ifCond .eq 14, 3) := dg_at gg90 13 rfl
theorem dX7_wreck_29 : decode cX7_wreck 29 = .ok (.iload 5, 2) := dg_at gg90 14 rfl
theorem dX7_wreck_31 : decode cX7_wreck 31 = .ok (.ifCond .lt 9, 3) := dg_at gg90 15 rfl
theorem dX7_wreck_34 : decode cX7_wreck 34 = .ok (.iload 5, 2) := dg_at gg90 16 rfl
theorem dX7_wreck_36 : decode cX7_wreck 36 = .ok (.iconst 1, 1) := dg_at gg90 17 rfl
theorem dX7_wreck_37 : decode cX7_wreck 37 = .ok (.if_icmp .le 5, 3) := dg_at gg90 18 rfl
theorem dX7_wreck_40 : decode cX7_wreck 40 = .ok (.iconst (-1), 1) := dg_at gg90 19 rfl
theorem dX7_wreck_41 : decode cX7_wreck 41 = .ok (.ireturn, 1) := dg_at gg90 20 rfl
theorem dX7_wreck_42 : decode cX7_wreck 42 = .ok (.aload_n 0, 1) := dg_at gg90 21 rfl
theorem dX7_wreck_43 : decode cX7_wreck 43 = .ok (.getfield 38, 3) := dg_at gg90 22 rfl
theorem dX7_wreck_46 : decode cX7_wreck 46 = .ok (.iload 4, 2) := dg_at gg90 23 rfl
theorem dX7_wreck_48 : decode cX7_wreck 48 = .ok (.lload_n 1, 1) := dg_at gg90 24 rfl
theorem dX7_wreck_49 : decode cX7_wreck 49 = .ok (.iload_n 3, 1) := dg_at gg90 25 rfl
theorem dX7_wreck_50 : decode cX7_wreck 50 = .ok (.invokevirtual 141, 3) := dg_at gg90 26 rfl
theorem dX7_wreck_53 : decode cX7_wreck 53 = .ok (.istore 6, 2) := dg_at gg90 27 rfl
theorem dX7_wreck_55 : decode cX7_wreck 55 = .ok (.iload_n 3, 1) := dg_at gg90 28 rfl
theorem dX7_wreck_56 : decode cX7_wreck 56 = .ok (.aload_n 0, 1) := dg_at gg90 29 rfl
theorem dX7_wreck_57 : decode cX7_wreck 57 = .ok (.getfield 38, 3) := dg_at gg90 30 rfl
theorem dX7_wreck_60 : decode cX7_wreck 60 = .ok (.iconst 2, 1) := dg_at gg90 31 rfl
theorem dX7_wreck_61 : decode cX7_wreck 61 = .ok (.lload_n 1, 1) := dg_at gg90 32 rfl
theorem dX7_wreck_62 : decode cX7_wreck 62 = .ok (.iload_n 3, 1) := dg_at gg90 33 rfl
theorem dX7_wreck_63 : decode cX7_wreck 63 = .ok (.invokevirtual 141, 3) := dg_at gg90 34 rfl
theorem dX7_wreck_66 : decode cX7_wreck 66 = .ok (.isub, 1) := dg_at gg90 35 rfl
theorem dX7_wreck_67 : decode cX7_wreck 67 = .ok (.istore 7, 2) := dg_at gg90 36 rfl
theorem dX7_wreck_69 : decode cX7_wreck 69 = .ok (.iload 7, 2) := dg_at gg90 37 rfl
theorem dX7_wreck_71 : decode cX7_wreck 71 = .ok (.ifCond .gt 6, 3) := dg_at gg90 38 rfl
theorem dX7_wreck_74 : decode cX7_wreck 74 = .ok (.bipush (-4), 2) := dg_at gg90 39 rfl
theorem dX7_wreck_76 : decode cX7_wreck 76 = .ok (.ireturn, 1) := dg_at gg90 40 rfl
theorem dX7_wreck_77 : decode cX7_wreck 77 = .ok (.iconst 1, 1) := dg_at gg90 41 rfl
theorem dX7_wreck_78 : decode cX7_wreck 78 = .ok (.iload 7, 2) := dg_at gg90 42 rfl
theorem dX7_wreck_80 : decode cX7_wreck 80 = .ok (.iload 6, 2) := dg_at gg90 43 rfl
theorem dX7_wreck_82 : decode cX7_wreck 82 = .ok (.invokestatic 234, 3) := dg_at gg90 44 rfl
theorem dX7_wreck_85 : decode cX7_wreck 85 = .ok (.invokestatic 237, 3) := dg_at gg90 45 rfl
theorem dX7_wreck_88 : decode cX7_wreck 88 = .ok (.istore 8, 2) := dg_at gg90 46 rfl
theorem dX7_wreck_90 : decode cX7_wreck 90 = .ok (.iload 5, 2) := dg_at gg90 47 rfl
theorem dX7_wreck_92 : decode cX7_wreck 92 = .ok (.ifCond .ne 8, 3) := dg_at gg90 48 rfl
theorem dX7_wreck_95 : decode cX7_wreck 95 = .ok (.iload 6, 2) := dg_at gg90 49 rfl
theorem dX7_wreck_97 : decode cX7_wreck 97 = .ok (.goto 5, 3) := dg_at gg90 50 rfl
theorem dX7_wreck_100 : decode cX7_wreck 100 = .ok (.iload 7, 2) := dg_at gg90 51 rfl
theorem dX7_wreck_102 : decode cX7_wreck 102 = .ok (.iload 8, 2) := dg_at gg90 52 rfl
theorem dX7_wreck_104 : decode cX7_wreck 104 = .ok (.idiv, 1) := dg_at gg90 53 rfl
theorem dX7_wreck_105 : decode cX7_wreck 105 = .ok (.ireturn, 1) := dg_at gg90 54 rfl
def gl91 : List (Nat × Instr × Nat) := [(0, .iload_n 1, 1), (1, .ifCond .lt 22, 3), (4, .iload_n 1, 1), (5, .sipush 9999, 3), (8, .if_icmp .gt 15, 3), (11, .iload_n 2, 1), (12, .iconst 1, 1), (13, .if_icmp .lt 10, 3), (16, .iload_n 2, 1), (17, .sipush 200, 3), (20, .if_icmp .le 5, 3), (23, .iconst (-1), 1), (24, .ireturn, 1), (25, .iconst 1, 1), (26, .aload_n 0, 1), (27, .getfield 23, 3), (30, .getfield 96, 3), (33, .invokestatic 237, 3), (36, .istore_n 3, 1), (37, .iconst 0, 1), (38, .istore 4, 2), (40, .iconst 0, 1), (41, .istore 5, 2), (43, .iload 5, 2), (45, .iload_n 2, 1), (46, .if_icmp .ge 53, 3), (49, .ldc2_w 242, 3), (52, .iload_n 1, 1), (53, .i2l, 1), (54, .lmul, 1), (55, .ldc2_w 244, 3), (58, .iload 5, 2), (60, .i2l, 1), (61, .lmul, 1), (62, .ladd, 1), (63, .lconst 1, 1), (64, .ladd, 1), (65, .lstore 6, 2), (67, .aload_n 0, 1), (68, .getfield 38, 3), (71, .iload 5, 2), (73, .iload_n 3, 1), (74, .irem, 1), (75, .lload 6, 2), (77, .lload 6, 2), (79, .lmul, 1), (80, .ldc2_w 246, 3), (83, .lrem, 1), (84, .invokevirtual 151, 3), (87, .ifCond .eq 6, 3), (90, .iinc 4 1, 3), (93, .iinc 5 1, 3), (96, .goto (-53), 3), (99, .iload 4, 2), (101, .ireturn, 1)]
set_option maxRecDepth 100000 in
theorem gg91 : gl91.all (fun x => decide (decode cX7_drawn x.1 = .ok (x.2.1, x.2.2))) = true := by decide +kernel
theorem dX7_drawn_0 : decode cX7_drawn 0 = .ok (.iload_n 1, 1) := dg_at gg91 0 rfl
theorem dX7_drawn_1 : decode cX7_drawn 1 = .ok (.ifCond .lt 22, 3) := dg_at gg91 1 rfl
theorem dX7_drawn_4 : decode cX7_drawn 4 = .ok (.iload_n 1, 1) := dg_at gg91 2 rfl
theorem dX7_drawn_5 : decode cX7_drawn 5 = .ok (.sipush 9999, 3) := dg_at gg91 3 rfl
theorem dX7_drawn_8 : decode cX7_drawn 8 = .ok (.if_icmp .gt 15, 3) := dg_at gg91 4 rfl
theorem dX7_drawn_11 : decode cX7_drawn 11 = .ok (.iload_n 2, 1) := dg_at gg91 5 rfl
theorem dX7_drawn_12 : decode cX7_drawn 12 = .ok (.iconst 1, 1) := dg_at gg91 6 rfl
theorem dX7_drawn_13 : decode cX7_drawn 13 = .ok (.if_icmp .lt 10, 3) := dg_at gg91 7 rfl
theorem dX7_drawn_16 : decode cX7_drawn 16 = .ok (.iload_n 2, 1) := dg_at gg91 8 rfl
theorem dX7_drawn_17 : decode cX7_drawn 17 = .ok (.sipush 200, 3) := dg_at gg91 9 rfl
theorem dX7_drawn_20 : decode cX7_drawn 20 = .ok (.if_icmp .le 5, 3) := dg_at gg91 10 rfl
theorem dX7_drawn_23 : decode cX7_drawn 23 = .ok (.iconst (-1), 1) := dg_at gg91 11 rfl
theorem dX7_drawn_24 : decode cX7_drawn 24 = .ok (.ireturn, 1) := dg_at gg91 12 rfl
theorem dX7_drawn_25 : decode cX7_drawn 25 = .ok (.iconst 1, 1) := dg_at gg91 13 rfl
theorem dX7_drawn_26 : decode cX7_drawn 26 = .ok (.aload_n 0, 1) := dg_at gg91 14 rfl
theorem dX7_drawn_27 : decode cX7_drawn 27 = .ok (.getfield 23, 3) := dg_at gg91 15 rfl
theorem dX7_drawn_30 : decode cX7_drawn 30 = .ok (.getfield 96, 3) := dg_at gg91 16 rfl
theorem dX7_drawn_33 : decode cX7_drawn 33 = .ok (.invokestatic 237, 3) := dg_at gg91 17 rfl
theorem dX7_drawn_36 : decode cX7_drawn 36 = .ok (.istore_n 3, 1) := dg_at gg91 18 rfl
theorem dX7_drawn_37 : decode cX7_drawn 37 = .ok (.iconst 0, 1) := dg_at gg91 19 rfl
theorem dX7_drawn_38 : decode cX7_drawn 38 = .ok (.istore 4, 2) := dg_at gg91 20 rfl
theorem dX7_drawn_40 : decode cX7_drawn 40 = .ok (.iconst 0, 1) := dg_at gg91 21 rfl
theorem dX7_drawn_41 : decode cX7_drawn 41 = .ok (.istore 5, 2) := dg_at gg91 22 rfl
theorem dX7_drawn_43 : decode cX7_drawn 43 = .ok (.iload 5, 2) := dg_at gg91 23 rfl
theorem dX7_drawn_45 : decode cX7_drawn 45 = .ok (.iload_n 2, 1) := dg_at gg91 24 rfl
theorem dX7_drawn_46 : decode cX7_drawn 46 = .ok (.if_icmp .ge 53, 3) := dg_at gg91 25 rfl
theorem dX7_drawn_49 : decode cX7_drawn 49 = .ok (.ldc2_w 242, 3) := dg_at gg91 26 rfl
theorem dX7_drawn_52 : decode cX7_drawn 52 = .ok (.iload_n 1, 1) := dg_at gg91 27 rfl
theorem dX7_drawn_53 : decode cX7_drawn 53 = .ok (.i2l, 1) := dg_at gg91 28 rfl
theorem dX7_drawn_54 : decode cX7_drawn 54 = .ok (.lmul, 1) := dg_at gg91 29 rfl
theorem dX7_drawn_55 : decode cX7_drawn 55 = .ok (.ldc2_w 244, 3) := dg_at gg91 30 rfl
theorem dX7_drawn_58 : decode cX7_drawn 58 = .ok (.iload 5, 2) := dg_at gg91 31 rfl
theorem dX7_drawn_60 : decode cX7_drawn 60 = .ok (.i2l, 1) := dg_at gg91 32 rfl
theorem dX7_drawn_61 : decode cX7_drawn 61 = .ok (.lmul, 1) := dg_at gg91 33 rfl
theorem dX7_drawn_62 : decode cX7_drawn 62 = .ok (.ladd, 1) := dg_at gg91 34 rfl
theorem dX7_drawn_63 : decode cX7_drawn 63 = .ok (.lconst 1, 1) := dg_at gg91 35 rfl
theorem dX7_drawn_64 : decode cX7_drawn 64 = .ok (.ladd, 1) := dg_at gg91 36 rfl
theorem dX7_drawn_65 : decode cX7_drawn 65 = .ok (.lstore 6, 2) := dg_at gg91 37 rfl
theorem dX7_drawn_67 : decode cX7_drawn 67 = .ok (.aload_n 0, 1) := dg_at gg91 38 rfl
theorem dX7_drawn_68 : decode cX7_drawn 68 = .ok (.getfield 38, 3) := dg_at gg91 39 rfl
theorem dX7_drawn_71 : decode cX7_drawn 71 = .ok (.iload 5, 2) := dg_at gg91 40 rfl
theorem dX7_drawn_73 : decode cX7_drawn 73 = .ok (.iload_n 3, 1) := dg_at gg91 41 rfl
theorem dX7_drawn_74 : decode cX7_drawn 74 = .ok (.irem, 1) := dg_at gg91 42 rfl
theorem dX7_drawn_75 : decode cX7_drawn 75 = .ok (.lload 6, 2) := dg_at gg91 43 rfl
theorem dX7_drawn_77 : decode cX7_drawn 77 = .ok (.lload 6, 2) := dg_at gg91 44 rfl
theorem dX7_drawn_79 : decode cX7_drawn 79 = .ok (.lmul, 1) := dg_at gg91 45 rfl
theorem dX7_drawn_80 : decode cX7_drawn 80 = .ok (.ldc2_w 246, 3) := dg_at gg91 46 rfl
theorem dX7_drawn_83 : decode cX7_drawn 83 = .ok (.lrem, 1) := dg_at gg91 47 rfl
theorem dX7_drawn_84 : decode cX7_drawn 84 = .ok (.invokevirtual 151, 3) := dg_at gg91 48 rfl
theorem dX7_drawn_87 : decode cX7_drawn 87 = .ok (.ifCond .eq 6, 3) := dg_at gg91 49 rfl
theorem dX7_drawn_90 : decode cX7_drawn 90 = .ok (.iinc 4 1, 3) := dg_at gg91 50 rfl
theorem dX7_drawn_93 : decode cX7_drawn 93 = .ok (.iinc 5 1, 3) := dg_at gg91 51 rfl
theorem dX7_drawn_96 : decode cX7_drawn 96 = .ok (.goto (-53), 3) := dg_at gg91 52 rfl
theorem dX7_drawn_99 : decode cX7_drawn 99 = .ok (.iload 4, 2) := dg_at gg91 53 rfl
theorem dX7_drawn_101 : decode cX7_drawn 101 = .ok (.ireturn, 1) := dg_at gg91 54 rfl
def gl92 : List (Nat × Instr × Nat) := [(0, .aload_n 0, 1), (1, .getfield 67, 3), (4, .getfield 189, 3), (7, .iconst 2, 1), (8, .if_icmp .lt 6, 3), (11, .bipush (-3), 2), (13, .ireturn, 1), (14, .aload_n 0, 1), (15, .getfield 67, 3), (18, .aload_n 0, 1), (19, .getfield 29, 3), (22, .invokevirtual 164, 3), (25, .aload_n 0, 1), (26, .getfield 67, 3), (29, .getfield 189, 3), (32, .ireturn, 1)]
set_option maxRecDepth 100000 in
theorem gg92 : gl92.all (fun x => decide (decode cX7_keep x.1 = .ok (x.2.1, x.2.2))) = true := by decide +kernel
theorem dX7_keep_0 : decode cX7_keep 0 = .ok (.aload_n 0, 1) := dg_at gg92 0 rfl
theorem dX7_keep_1 : decode cX7_keep 1 = .ok (.getfield 67, 3) := dg_at gg92 1 rfl
theorem dX7_keep_4 : decode cX7_keep 4 = .ok (.getfield 189, 3) := dg_at gg92 2 rfl
theorem dX7_keep_7 : decode cX7_keep 7 = .ok (.iconst 2, 1) := dg_at gg92 3 rfl
theorem dX7_keep_8 : decode cX7_keep 8 = .ok (.if_icmp .lt 6, 3) := dg_at gg92 4 rfl
theorem dX7_keep_11 : decode cX7_keep 11 = .ok (.bipush (-3), 2) := dg_at gg92 5 rfl
theorem dX7_keep_13 : decode cX7_keep 13 = .ok (.ireturn, 1) := dg_at gg92 6 rfl
theorem dX7_keep_14 : decode cX7_keep 14 = .ok (.aload_n 0, 1) := dg_at gg92 7 rfl
theorem dX7_keep_15 : decode cX7_keep 15 = .ok (.getfield 67, 3) := dg_at gg92 8 rfl
theorem dX7_keep_18 : decode cX7_keep 18 = .ok (.aload_n 0, 1) := dg_at gg92 9 rfl
theorem dX7_keep_19 : decode cX7_keep 19 = .ok (.getfield 29, 3) := dg_at gg92 10 rfl
theorem dX7_keep_22 : decode cX7_keep 22 = .ok (.invokevirtual 164, 3) := dg_at gg92 11 rfl
theorem dX7_keep_25 : decode cX7_keep 25 = .ok (.aload_n 0, 1) := dg_at gg92 12 rfl
theorem dX7_keep_26 : decode cX7_keep 26 = .ok (.getfield 67, 3) := dg_at gg92 13 rfl
theorem dX7_keep_29 : decode cX7_keep 29 = .ok (.getfield 189, 3) := dg_at gg92 14 rfl
theorem dX7_keep_32 : decode cX7_keep 32 = .ok (.ireturn, 1) := dg_at gg92 15 rfl
def gl93 : List (Nat × Instr × Nat) := [(0, .aload_n 0, 1), (1, .getfield 67, 3), (4, .getfield 189, 3), (7, .ifCond .ne 6, 3), (10, .bipush (-2), 2), (12, .ireturn, 1), (13, .aload_n 0, 1), (14, .getfield 67, 3), (17, .aload_n 0, 1), (18, .getfield 29, 3), (21, .invokevirtual 192, 3), (24, .aload_n 0, 1), (25, .getfield 63, 3), (28, .invokevirtual 109, 3), (31, .aload_n 0, 1), (32, .getfield 67, 3), (35, .getfield 189, 3), (38, .ireturn, 1)]
set_option maxRecDepth 100000 in
theorem gg93 : gl93.all (fun x => decide (decode cX7_back x.1 = .ok (x.2.1, x.2.2))) = true := by decide +kernel
theorem dX7_back_0 : decode cX7_back 0 = .ok (.aload_n 0, 1) := dg_at gg93 0 rfl
theorem dX7_back_1 : decode cX7_back 1 = .ok (.getfield 67, 3) := dg_at gg93 1 rfl
theorem dX7_back_4 : decode cX7_back 4 = .ok (.getfield 189, 3) := dg_at gg93 2 rfl
theorem dX7_back_7 : decode cX7_back 7 = .ok (.ifCond .ne 6, 3) := dg_at gg93 3 rfl
theorem dX7_back_10 : decode cX7_back 10 = .ok (.bipush (-2), 2) := dg_at gg93 4 rfl
theorem dX7_back_12 : decode cX7_back 12 = .ok (.ireturn, 1) := dg_at gg93 5 rfl
theorem dX7_back_13 : decode cX7_back 13 = .ok (.aload_n 0, 1) := dg_at gg93 6 rfl
theorem dX7_back_14 : decode cX7_back 14 = .ok (.getfield 67, 3) := dg_at gg93 7 rfl
theorem dX7_back_17 : decode cX7_back 17 = .ok (.aload_n 0, 1) := dg_at gg93 8 rfl
theorem dX7_back_18 : decode cX7_back 18 = .ok (.getfield 29, 3) := dg_at gg93 9 rfl
theorem dX7_back_21 : decode cX7_back 21 = .ok (.invokevirtual 192, 3) := dg_at gg93 10 rfl
theorem dX7_back_24 : decode cX7_back 24 = .ok (.aload_n 0, 1) := dg_at gg93 11 rfl
theorem dX7_back_25 : decode cX7_back 25 = .ok (.getfield 63, 3) := dg_at gg93 12 rfl
theorem dX7_back_28 : decode cX7_back 28 = .ok (.invokevirtual 109, 3) := dg_at gg93 13 rfl
theorem dX7_back_31 : decode cX7_back 31 = .ok (.aload_n 0, 1) := dg_at gg93 14 rfl
theorem dX7_back_32 : decode cX7_back 32 = .ok (.getfield 67, 3) := dg_at gg93 15 rfl
theorem dX7_back_35 : decode cX7_back 35 = .ok (.getfield 189, 3) := dg_at gg93 16 rfl
theorem dX7_back_38 : decode cX7_back 38 = .ok (.ireturn, 1) := dg_at gg93 17 rfl
def gl94 : List (Nat × Instr × Nat) := [(0, .iload_n 1, 1), (1, .tableswitch 126 0 8 #[51, 59, 67, 75, 80, 88, 96, 107, 118], 51), (52, .aload_n 0, 1), (53, .getfield 23, 3), (56, .getfield 96, 3), (59, .ireturn, 1), (60, .aload_n 0, 1), (61, .getfield 10, 3), (64, .getfield 88, 3), (67, .ireturn, 1), (68, .aload_n 0, 1), (69, .getfield 29, 3), (72, .getfield 126, 3), (75, .ireturn, 1), (76, .aload_n 0, 1), (77, .getfield 103, 3), (80, .ireturn, 1), (81, .aload_n 0, 1), (82, .getfield 54, 3), (85, .getfield 106, 3), (88, .ireturn, 1), (89, .aload_n 0, 1), (90, .getfield 63, 3), (93, .getfield 189, 3), (96, .ireturn, 1), (97, .aload_n 0, 1), (98, .getfield 29, 3), (101, .getfield 174, 3), (104, .ldc 220, 2), (106, .iadd, 1), (107, .ireturn, 1), (108, .aload_n 0, 1), (109, .getfield 29, 3), (112, .getfield 180, 3), (115, .ldc 220, 2), (117, .iadd, 1), (118, .ireturn, 1), (119, .aload_n 0, 1), (120, .getfield 67, 3), (123, .getfield 189, 3), (126, .ireturn, 1), (127, .iconst (-1), 1), (128, .ireturn, 1)]
set_option maxRecDepth 100000 in
theorem gg94 : gl94.all (fun x => decide (decode cX7_count x.1 = .ok (x.2.1, x.2.2))) = true := by decide +kernel
theorem dX7_count_0 : decode cX7_count 0 = .ok (.iload_n 1, 1) := dg_at gg94 0 rfl
theorem dX7_count_1 : decode cX7_count 1 = .ok (.tableswitch 126 0 8 #[51, 59, 67, 75, 80, 88, 96, 107, 118], 51) := dg_at gg94 1 rfl
theorem dX7_count_52 : decode cX7_count 52 = .ok (.aload_n 0, 1) := dg_at gg94 2 rfl
theorem dX7_count_53 : decode cX7_count 53 = .ok (.getfield 23, 3) := dg_at gg94 3 rfl
theorem dX7_count_56 : decode cX7_count 56 = .ok (.getfield 96, 3) := dg_at gg94 4 rfl
theorem dX7_count_59 : decode cX7_count 59 = .ok (.ireturn, 1) := dg_at gg94 5 rfl
theorem dX7_count_60 : decode cX7_count 60 = .ok (.aload_n 0, 1) := dg_at gg94 6 rfl
theorem dX7_count_61 : decode cX7_count 61 = .ok (.getfield 10, 3) := dg_at gg94 7 rfl
theorem dX7_count_64 : decode cX7_count 64 = .ok (.getfield 88, 3) := dg_at gg94 8 rfl
theorem dX7_count_67 : decode cX7_count 67 = .ok (.ireturn, 1) := dg_at gg94 9 rfl
theorem dX7_count_68 : decode cX7_count 68 = .ok (.aload_n 0, 1) := dg_at gg94 10 rfl
theorem dX7_count_69 : decode cX7_count 69 = .ok (.getfield 29, 3) := dg_at gg94 11 rfl
theorem dX7_count_72 : decode cX7_count 72 = .ok (.getfield 126, 3) := dg_at gg94 12 rfl
theorem dX7_count_75 : decode cX7_count 75 = .ok (.ireturn, 1) := dg_at gg94 13 rfl
theorem dX7_count_76 : decode cX7_count 76 = .ok (.aload_n 0, 1) := dg_at gg94 14 rfl
theorem dX7_count_77 : decode cX7_count 77 = .ok (.getfield 103, 3) := dg_at gg94 15 rfl
theorem dX7_count_80 : decode cX7_count 80 = .ok (.ireturn, 1) := dg_at gg94 16 rfl
theorem dX7_count_81 : decode cX7_count 81 = .ok (.aload_n 0, 1) := dg_at gg94 17 rfl
theorem dX7_count_82 : decode cX7_count 82 = .ok (.getfield 54, 3) := dg_at gg94 18 rfl
theorem dX7_count_85 : decode cX7_count 85 = .ok (.getfield 106, 3) := dg_at gg94 19 rfl
theorem dX7_count_88 : decode cX7_count 88 = .ok (.ireturn, 1) := dg_at gg94 20 rfl
theorem dX7_count_89 : decode cX7_count 89 = .ok (.aload_n 0, 1) := dg_at gg94 21 rfl
theorem dX7_count_90 : decode cX7_count 90 = .ok (.getfield 63, 3) := dg_at gg94 22 rfl
theorem dX7_count_93 : decode cX7_count 93 = .ok (.getfield 189, 3) := dg_at gg94 23 rfl
theorem dX7_count_96 : decode cX7_count 96 = .ok (.ireturn, 1) := dg_at gg94 24 rfl
theorem dX7_count_97 : decode cX7_count 97 = .ok (.aload_n 0, 1) := dg_at gg94 25 rfl
theorem dX7_count_98 : decode cX7_count 98 = .ok (.getfield 29, 3) := dg_at gg94 26 rfl
theorem dX7_count_101 : decode cX7_count 101 = .ok (.getfield 174, 3) := dg_at gg94 27 rfl
theorem dX7_count_104 : decode cX7_count 104 = .ok (.ldc 220, 2) := dg_at gg94 28 rfl
theorem dX7_count_106 : decode cX7_count 106 = .ok (.iadd, 1) := dg_at gg94 29 rfl
theorem dX7_count_107 : decode cX7_count 107 = .ok (.ireturn, 1) := dg_at gg94 30 rfl
theorem dX7_count_108 : decode cX7_count 108 = .ok (.aload_n 0, 1) := dg_at gg94 31 rfl
theorem dX7_count_109 : decode cX7_count 109 = .ok (.getfield 29, 3) := dg_at gg94 32 rfl
theorem dX7_count_112 : decode cX7_count 112 = .ok (.getfield 180, 3) := dg_at gg94 33 rfl
theorem dX7_count_115 : decode cX7_count 115 = .ok (.ldc 220, 2) := dg_at gg94 34 rfl
theorem dX7_count_117 : decode cX7_count 117 = .ok (.iadd, 1) := dg_at gg94 35 rfl
theorem dX7_count_118 : decode cX7_count 118 = .ok (.ireturn, 1) := dg_at gg94 36 rfl
theorem dX7_count_119 : decode cX7_count 119 = .ok (.aload_n 0, 1) := dg_at gg94 37 rfl
theorem dX7_count_120 : decode cX7_count 120 = .ok (.getfield 67, 3) := dg_at gg94 38 rfl
theorem dX7_count_123 : decode cX7_count 123 = .ok (.getfield 189, 3) := dg_at gg94 39 rfl
theorem dX7_count_126 : decode cX7_count 126 = .ok (.ireturn, 1) := dg_at gg94 40 rfl
theorem dX7_count_127 : decode cX7_count 127 = .ok (.iconst (-1), 1) := dg_at gg94 41 rfl
theorem dX7_count_128 : decode cX7_count 128 = .ok (.ireturn, 1) := dg_at gg94 42 rfl
def gl95 : List (Nat × Instr × Nat) := [(0, .iload_n 1, 1), (1, .ifCond .lt 18, 3), (4, .iload_n 1, 1), (5, .aload_n 0, 1), (6, .getfield 23, 3), (9, .getfield 96, 3), (12, .if_icmp .ge 7, 3), (15, .iconst 1, 1), (16, .goto 4, 3), (19, .iconst 0, 1), (20, .ireturn, 1)]
set_option maxRecDepth 100000 in
theorem gg95 : gl95.all (fun x => decide (decode cX7_isAct x.1 = .ok (x.2.1, x.2.2))) = true := by decide +kernel
theorem dX7_isAct_0 : decode cX7_isAct 0 = .ok (.iload_n 1, 1) := dg_at gg95 0 rfl
theorem dX7_isAct_1 : decode cX7_isAct 1 = .ok (.ifCond .lt 18, 3) := dg_at gg95 1 rfl
theorem dX7_isAct_4 : decode cX7_isAct 4 = .ok (.iload_n 1, 1) := dg_at gg95 2 rfl
theorem dX7_isAct_5 : decode cX7_isAct 5 = .ok (.aload_n 0, 1) := dg_at gg95 3 rfl
theorem dX7_isAct_6 : decode cX7_isAct 6 = .ok (.getfield 23, 3) := dg_at gg95 4 rfl
theorem dX7_isAct_9 : decode cX7_isAct 9 = .ok (.getfield 96, 3) := dg_at gg95 5 rfl
theorem dX7_isAct_12 : decode cX7_isAct 12 = .ok (.if_icmp .ge 7, 3) := dg_at gg95 6 rfl
theorem dX7_isAct_15 : decode cX7_isAct 15 = .ok (.iconst 1, 1) := dg_at gg95 7 rfl
theorem dX7_isAct_16 : decode cX7_isAct 16 = .ok (.goto 4, 3) := dg_at gg95 8 rfl
theorem dX7_isAct_19 : decode cX7_isAct 19 = .ok (.iconst 0, 1) := dg_at gg95 9 rfl
theorem dX7_isAct_20 : decode cX7_isAct 20 = .ok (.ireturn, 1) := dg_at gg95 10 rfl
def gl96 : List (Nat × Instr × Nat) := [(0, .iload_n 1, 1), (1, .iconst (-1), 1), (2, .if_icmp .eq 11, 3), (5, .aload_n 0, 1), (6, .iload_n 1, 1), (7, .invokevirtual 112, 3), (10, .ifCond .eq 7, 3), (13, .iconst 1, 1), (14, .goto 4, 3), (17, .iconst 0, 1), (18, .ireturn, 1)]
set_option maxRecDepth 100000 in
theorem gg96 : gl96.all (fun x => decide (decode cX7_isActOrNone x.1 = .ok (x.2.1, x.2.2))) = true := by decide +kernel
theorem dX7_isActOrNone_0 : decode cX7_isActOrNone 0 = .ok (.iload_n 1, 1) := dg_at gg96 0 rfl
theorem dX7_isActOrNone_1 : decode cX7_isActOrNone 1 = .ok (.iconst (-1), 1) := dg_at gg96 1 rfl
theorem dX7_isActOrNone_2 : decode cX7_isActOrNone 2 = .ok (.if_icmp .eq 11, 3) := dg_at gg96 2 rfl
theorem dX7_isActOrNone_5 : decode cX7_isActOrNone 5 = .ok (.aload_n 0, 1) := dg_at gg96 3 rfl
theorem dX7_isActOrNone_6 : decode cX7_isActOrNone 6 = .ok (.iload_n 1, 1) := dg_at gg96 4 rfl
theorem dX7_isActOrNone_7 : decode cX7_isActOrNone 7 = .ok (.invokevirtual 112, 3) := dg_at gg96 5 rfl
theorem dX7_isActOrNone_10 : decode cX7_isActOrNone 10 = .ok (.ifCond .eq 7, 3) := dg_at gg96 6 rfl
theorem dX7_isActOrNone_13 : decode cX7_isActOrNone 13 = .ok (.iconst 1, 1) := dg_at gg96 7 rfl
theorem dX7_isActOrNone_14 : decode cX7_isActOrNone 14 = .ok (.goto 4, 3) := dg_at gg96 8 rfl
theorem dX7_isActOrNone_17 : decode cX7_isActOrNone 17 = .ok (.iconst 0, 1) := dg_at gg96 9 rfl
theorem dX7_isActOrNone_18 : decode cX7_isActOrNone 18 = .ok (.ireturn, 1) := dg_at gg96 10 rfl
def gl97 : List (Nat × Instr × Nat) := [(0, .iload_n 0, 1), (1, .ifCond .eq 8, 3), (4, .iload_n 0, 1), (5, .iconst 1, 1), (6, .if_icmp .ne 7, 3), (9, .iconst 1, 1), (10, .goto 4, 3), (13, .iconst 0, 1), (14, .ireturn, 1)]
set_option maxRecDepth 100000 in
theorem gg97 : gl97.all (fun x => decide (decode cX7_isKing x.1 = .ok (x.2.1, x.2.2))) = true := by decide +kernel
theorem dX7_isKing_0 : decode cX7_isKing 0 = .ok (.iload_n 0, 1) := dg_at gg97 0 rfl
theorem dX7_isKing_1 : decode cX7_isKing 1 = .ok (.ifCond .eq 8, 3) := dg_at gg97 1 rfl
theorem dX7_isKing_4 : decode cX7_isKing 4 = .ok (.iload_n 0, 1) := dg_at gg97 2 rfl
theorem dX7_isKing_5 : decode cX7_isKing 5 = .ok (.iconst 1, 1) := dg_at gg97 3 rfl
theorem dX7_isKing_6 : decode cX7_isKing 6 = .ok (.if_icmp .ne 7, 3) := dg_at gg97 4 rfl
theorem dX7_isKing_9 : decode cX7_isKing 9 = .ok (.iconst 1, 1) := dg_at gg97 5 rfl
theorem dX7_isKing_10 : decode cX7_isKing 10 = .ok (.goto 4, 3) := dg_at gg97 6 rfl
theorem dX7_isKing_13 : decode cX7_isKing 13 = .ok (.iconst 0, 1) := dg_at gg97 7 rfl
theorem dX7_isKing_14 : decode cX7_isKing 14 = .ok (.ireturn, 1) := dg_at gg97 8 rfl
def gl98 : List (Nat × Instr × Nat) := [(0, .iload_n 0, 1), (1, .ifCond .lt 12, 3), (4, .iload_n 0, 1), (5, .iconst 2, 1), (6, .if_icmp .gt 7, 3), (9, .iconst 1, 1), (10, .goto 4, 3), (13, .iconst 0, 1), (14, .ireturn, 1)]
set_option maxRecDepth 100000 in
theorem gg98 : gl98.all (fun x => decide (decode cX7_isRuler x.1 = .ok (x.2.1, x.2.2))) = true := by decide +kernel
theorem dX7_isRuler_0 : decode cX7_isRuler 0 = .ok (.iload_n 0, 1) := dg_at gg98 0 rfl
theorem dX7_isRuler_1 : decode cX7_isRuler 1 = .ok (.ifCond .lt 12, 3) := dg_at gg98 1 rfl
theorem dX7_isRuler_4 : decode cX7_isRuler 4 = .ok (.iload_n 0, 1) := dg_at gg98 2 rfl
theorem dX7_isRuler_5 : decode cX7_isRuler 5 = .ok (.iconst 2, 1) := dg_at gg98 3 rfl
theorem dX7_isRuler_6 : decode cX7_isRuler 6 = .ok (.if_icmp .gt 7, 3) := dg_at gg98 4 rfl
theorem dX7_isRuler_9 : decode cX7_isRuler 9 = .ok (.iconst 1, 1) := dg_at gg98 5 rfl
theorem dX7_isRuler_10 : decode cX7_isRuler 10 = .ok (.goto 4, 3) := dg_at gg98 6 rfl
theorem dX7_isRuler_13 : decode cX7_isRuler 13 = .ok (.iconst 0, 1) := dg_at gg98 7 rfl
theorem dX7_isRuler_14 : decode cX7_isRuler 14 = .ok (.ireturn, 1) := dg_at gg98 8 rfl
def gl99 : List (Nat × Instr × Nat) := [(0, .lload_n 0, 1), (1, .lconst 0, 1), (2, .lcmp, 1), (3, .ifCond .lt 15, 3), (6, .lload_n 0, 1), (7, .ldc2_w 248, 3), (10, .lcmp, 1), (11, .ifCond .gt 7, 3), (14, .iconst 1, 1), (15, .goto 4, 3), (18, .iconst 0, 1), (19, .ireturn, 1)]
set_option maxRecDepth 100000 in
theorem gg99 : gl99.all (fun x => decide (decode cX7_isMinute x.1 = .ok (x.2.1, x.2.2))) = true := by decide +kernel
theorem dX7_isMinute_0 : decode cX7_isMinute 0 = .ok (.lload_n 0, 1) := dg_at gg99 0 rfl
theorem dX7_isMinute_1 : decode cX7_isMinute 1 = .ok (.lconst 0, 1) := dg_at gg99 1 rfl
theorem dX7_isMinute_2 : decode cX7_isMinute 2 = .ok (.lcmp, 1) := dg_at gg99 2 rfl
theorem dX7_isMinute_3 : decode cX7_isMinute 3 = .ok (.ifCond .lt 15, 3) := dg_at gg99 3 rfl
theorem dX7_isMinute_6 : decode cX7_isMinute 6 = .ok (.lload_n 0, 1) := dg_at gg99 4 rfl
theorem dX7_isMinute_7 : decode cX7_isMinute 7 = .ok (.ldc2_w 248, 3) := dg_at gg99 5 rfl
theorem dX7_isMinute_10 : decode cX7_isMinute 10 = .ok (.lcmp, 1) := dg_at gg99 6 rfl
theorem dX7_isMinute_11 : decode cX7_isMinute 11 = .ok (.ifCond .gt 7, 3) := dg_at gg99 7 rfl
theorem dX7_isMinute_14 : decode cX7_isMinute 14 = .ok (.iconst 1, 1) := dg_at gg99 8 rfl
theorem dX7_isMinute_15 : decode cX7_isMinute 15 = .ok (.goto 4, 3) := dg_at gg99 9 rfl
theorem dX7_isMinute_18 : decode cX7_isMinute 18 = .ok (.iconst 0, 1) := dg_at gg99 10 rfl
theorem dX7_isMinute_19 : decode cX7_isMinute 19 = .ok (.ireturn, 1) := dg_at gg99 11 rfl
def gl100 : List (Nat × Instr × Nat) := [(0, .iload_n 0, 1), (1, .iconst 2, 1), (2, .iload_n 1, 1), (3, .imul, 1), (4, .ishr, 1), (5, .iconst 3, 1), (6, .iand, 1), (7, .ireturn, 1)]
set_option maxRecDepth 100000 in
theorem gg100 : gl100.all (fun x => decide (decode cX7_lawOf x.1 = .ok (x.2.1, x.2.2))) = true := by decide +kernel
theorem dX7_lawOf_0 : decode cX7_lawOf 0 = .ok (.iload_n 0, 1) := dg_at gg100 0 rfl
theorem dX7_lawOf_1 : decode cX7_lawOf 1 = .ok (.iconst 2, 1) := dg_at gg100 1 rfl
theorem dX7_lawOf_2 : decode cX7_lawOf 2 = .ok (.iload_n 1, 1) := dg_at gg100 2 rfl
theorem dX7_lawOf_3 : decode cX7_lawOf 3 = .ok (.imul, 1) := dg_at gg100 3 rfl
theorem dX7_lawOf_4 : decode cX7_lawOf 4 = .ok (.ishr, 1) := dg_at gg100 4 rfl
theorem dX7_lawOf_5 : decode cX7_lawOf 5 = .ok (.iconst 3, 1) := dg_at gg100 5 rfl
theorem dX7_lawOf_6 : decode cX7_lawOf 6 = .ok (.iand, 1) := dg_at gg100 6 rfl
theorem dX7_lawOf_7 : decode cX7_lawOf 7 = .ok (.ireturn, 1) := dg_at gg100 7 rfl
def gl101 : List (Nat × Instr × Nat) := [(0, .iload_n 1, 1), (1, .iconst 2, 1), (2, .iload_n 0, 1), (3, .imul, 1), (4, .ishl, 1), (5, .ireturn, 1)]
set_option maxRecDepth 100000 in
theorem gg101 : gl101.all (fun x => decide (decode cX7_lawBits x.1 = .ok (x.2.1, x.2.2))) = true := by decide +kernel
theorem dX7_lawBits_0 : decode cX7_lawBits 0 = .ok (.iload_n 1, 1) := dg_at gg101 0 rfl
theorem dX7_lawBits_1 : decode cX7_lawBits 1 = .ok (.iconst 2, 1) := dg_at gg101 1 rfl
theorem dX7_lawBits_2 : decode cX7_lawBits 2 = .ok (.iload_n 0, 1) := dg_at gg101 2 rfl
theorem dX7_lawBits_3 : decode cX7_lawBits 3 = .ok (.imul, 1) := dg_at gg101 3 rfl
theorem dX7_lawBits_4 : decode cX7_lawBits 4 = .ok (.ishl, 1) := dg_at gg101 4 rfl
theorem dX7_lawBits_5 : decode cX7_lawBits 5 = .ok (.ireturn, 1) := dg_at gg101 5 rfl
def gl102 : List (Nat × Instr × Nat) := [(0, .iload_n 0, 1), (1, .istore_n 2, 1), (2, .iload_n 1, 1), (3, .istore_n 3, 1), (4, .iconst 0, 1), (5, .istore 4, 2), (7, .iload 4, 2), (9, .bipush 50, 2), (11, .if_icmp .ge 23, 3), (14, .iload_n 3, 1), (15, .ifCond .le 19, 3), (18, .iload_n 2, 1), (19, .iload_n 3, 1), (20, .irem, 1), (21, .istore 5, 2), (23, .iload_n 3, 1), (24, .istore_n 2, 1), (25, .iload 5, 2), (27, .istore_n 3, 1), (28, .iinc 4 1, 3), (31, .goto (-24), 3), (34, .iload_n 2, 1), (35, .ireturn, 1)]
set_option maxRecDepth 100000 in
theorem gg102 : gl102.all (fun x => decide (decode cX7_greatestDivisor x.1 = .ok (x.2.1, x.2.2))) = true := by decide +kernel
theorem dX7_greatestDivisor_0 : decode cX7_greatestDivisor 0 = .ok (.iload_n 0, 1) := dg_at gg102 0 rfl
theorem dX7_greatestDivisor_1 : decode cX7_greatestDivisor 1 = .ok (.istore_n 2, 1) := dg_at gg102 1 rfl
theorem dX7_greatestDivisor_2 : decode cX7_greatestDivisor 2 = .ok (.iload_n 1, 1) := dg_at gg102 2 rfl
theorem dX7_greatestDivisor_3 : decode cX7_greatestDivisor 3 = .ok (.istore_n 3, 1) := dg_at gg102 3 rfl
theorem dX7_greatestDivisor_4 : decode cX7_greatestDivisor 4 = .ok (.iconst 0, 1) := dg_at gg102 4 rfl
theorem dX7_greatestDivisor_5 : decode cX7_greatestDivisor 5 = .ok (.istore 4, 2) := dg_at gg102 5 rfl
theorem dX7_greatestDivisor_7 : decode cX7_greatestDivisor 7 = .ok (.iload 4, 2) := dg_at gg102 6 rfl
theorem dX7_greatestDivisor_9 : decode cX7_greatestDivisor 9 = .ok (.bipush 50, 2) := dg_at gg102 7 rfl
theorem dX7_greatestDivisor_11 : decode cX7_greatestDivisor 11 = .ok (.if_icmp .ge 23, 3) := dg_at gg102 8 rfl
theorem dX7_greatestDivisor_14 : decode cX7_greatestDivisor 14 = .ok (.iload_n 3, 1) := dg_at gg102 9 rfl
theorem dX7_greatestDivisor_15 : decode cX7_greatestDivisor 15 = .ok (.ifCond .le 19, 3) := dg_at gg102 10 rfl
theorem dX7_greatestDivisor_18 : decode cX7_greatestDivisor 18 = .ok (.iload_n 2, 1) := dg_at gg102 11 rfl
theorem dX7_greatestDivisor_19 : decode cX7_greatestDivisor 19 = .ok (.iload_n 3, 1) := dg_at gg102 12 rfl
theorem dX7_greatestDivisor_20 : decode cX7_greatestDivisor 20 = .ok (.irem, 1) := dg_at gg102 13 rfl
theorem dX7_greatestDivisor_21 : decode cX7_greatestDivisor 21 = .ok (.istore 5, 2) := dg_at gg102 14 rfl
theorem dX7_greatestDivisor_23 : decode cX7_greatestDivisor 23 = .ok (.iload_n 3, 1) := dg_at gg102 15 rfl
theorem dX7_greatestDivisor_24 : decode cX7_greatestDivisor 24 = .ok (.istore_n 2, 1) := dg_at gg102 16 rfl
theorem dX7_greatestDivisor_25 : decode cX7_greatestDivisor 25 = .ok (.iload 5, 2) := dg_at gg102 17 rfl
theorem dX7_greatestDivisor_27 : decode cX7_greatestDivisor 27 = .ok (.istore_n 3, 1) := dg_at gg102 18 rfl
theorem dX7_greatestDivisor_28 : decode cX7_greatestDivisor 28 = .ok (.iinc 4 1, 3) := dg_at gg102 19 rfl
theorem dX7_greatestDivisor_31 : decode cX7_greatestDivisor 31 = .ok (.goto (-24), 3) := dg_at gg102 20 rfl
theorem dX7_greatestDivisor_34 : decode cX7_greatestDivisor 34 = .ok (.iload_n 2, 1) := dg_at gg102 21 rfl
theorem dX7_greatestDivisor_35 : decode cX7_greatestDivisor 35 = .ok (.ireturn, 1) := dg_at gg102 22 rfl
def gl103 : List (Nat × Instr × Nat) := [(0, .aload_n 0, 1), (1, .invokespecial 1, 3), (4, .aload_n 0, 1), (5, .sipush 400, 3), (8, .newarray .byte, 2), (10, .putfield 7, 3), (13, .aload_n 0, 1), (14, .bipush 12, 2), (16, .newarray .int, 2), (18, .putfield 13, 3), (21, .aload_n 0, 1), (22, .iconst 2, 1), (23, .newarray .int, 2), (25, .putfield 17, 3), (28, .aload_n 0, 1), (29, .bipush 60, 2), (31, .newarray .int, 2), (33, .putfield 20, 3), (36, .aload_n 0, 1), (37, .bipush 18, 2), (39, .newarray .int, 2), (41, .putfield 23, 3), (44, .aload_n 0, 1), (45, .bipush 12, 2), (47, .newarray .long, 2), (49, .putfield 26, 3), (52, .aload_n 0, 1), (53, .bipush 24, 2), (55, .newarray .int, 2), (57, .putfield 30, 3), (60, .aload_n 0, 1), (61, .bipush 8, 2), (63, .newarray .int, 2), (65, .putfield 33, 3), (68, .aload_n 0, 1), (69, .bipush 9, 2), (71, .newarray .long, 2), (73, .putfield 36, 3), (76, .aload_n 0, 1), (77, .bipush 20, 2), (79, .newarray .int, 2), (81, .putfield 39, 3), (84, .aload_n 0, 1), (85, .iconst 5, 1), (86, .newarray .int, 2), (88, .putfield 42, 3), (91, .aload_n 0, 1), (92, .invokevirtual 45, 3), (95, .aload_n 0, 1), (96, .getfield 17, 3), (99, .iconst 1, 1), (100, .iconst 1, 1), (101, .iastore, 1), (102, .aload_n 0, 1), (103, .getfield 20, 3), (106, .bipush 31, 2), (108, .iconst 1, 1), (109, .iastore, 1), (110, .aload_n 0, 1), (111, .getfield 20, 3)]
set_option maxRecDepth 100000 in
theorem gg103 : gl103.all (fun x => decide (decode cX8_init x.1 = .ok (x.2.1, x.2.2))) = true := by decide +kernel
theorem dX8_init_0 : decode cX8_init 0 = .ok (.aload_n 0, 1) := dg_at gg103 0 rfl
theorem dX8_init_1 : decode cX8_init 1 = .ok (.invokespecial 1, 3) := dg_at gg103 1 rfl
theorem dX8_init_4 : decode cX8_init 4 = .ok (.aload_n 0, 1) := dg_at gg103 2 rfl
theorem dX8_init_5 : decode cX8_init 5 = .ok (.sipush 400, 3) := dg_at gg103 3 rfl
theorem dX8_init_8 : decode cX8_init 8 = .ok (.newarray .byte, 2) := dg_at gg103 4 rfl
theorem dX8_init_10 : decode cX8_init 10 = .ok (.putfield 7, 3) := dg_at gg103 5 rfl
theorem dX8_init_13 : decode cX8_init 13 = .ok (.aload_n 0, 1) := dg_at gg103 6 rfl
theorem dX8_init_14 : decode cX8_init 14 = .ok (.bipush 12, 2) := dg_at gg103 7 rfl
theorem dX8_init_16 : decode cX8_init 16 = .ok (.newarray .int, 2) := dg_at gg103 8 rfl
theorem dX8_init_18 : decode cX8_init 18 = .ok (.putfield 13, 3) := dg_at gg103 9 rfl
theorem dX8_init_21 : decode cX8_init 21 = .ok (.aload_n 0, 1) := dg_at gg103 10 rfl
theorem dX8_init_22 : decode cX8_init 22 = .ok (.iconst 2, 1) := dg_at gg103 11 rfl
theorem dX8_init_23 : decode cX8_init 23 = .ok (.newarray .int, 2) := dg_at gg103 12 rfl
theorem dX8_init_25 : decode cX8_init 25 = .ok (.putfield 17, 3) := dg_at gg103 13 rfl
theorem dX8_init_28 : decode cX8_init 28 = .ok (.aload_n 0, 1) := dg_at gg103 14 rfl
theorem dX8_init_29 : decode cX8_init 29 = .ok (.bipush 60, 2) := dg_at gg103 15 rfl
theorem dX8_init_31 : decode cX8_init 31 = .ok (.newarray .int, 2) := dg_at gg103 16 rfl
theorem dX8_init_33 : decode cX8_init 33 = .ok (.putfield 20, 3) := dg_at gg103 17 rfl
theorem dX8_init_36 : decode cX8_init 36 = .ok (.aload_n 0, 1) := dg_at gg103 18 rfl
theorem dX8_init_37 : decode cX8_init 37 = .ok (.bipush 18, 2) := dg_at gg103 19 rfl
theorem dX8_init_39 : decode cX8_init 39 = .ok (.newarray .int, 2) := dg_at gg103 20 rfl
theorem dX8_init_41 : decode cX8_init 41 = .ok (.putfield 23, 3) := dg_at gg103 21 rfl
theorem dX8_init_44 : decode cX8_init 44 = .ok (.aload_n 0, 1) := dg_at gg103 22 rfl
theorem dX8_init_45 : decode cX8_init 45 = .ok (.bipush 12, 2) := dg_at gg103 23 rfl
theorem dX8_init_47 : decode cX8_init 47 = .ok (.newarray .long, 2) := dg_at gg103 24 rfl
theorem dX8_init_49 : decode cX8_init 49 = .ok (.putfield 26, 3) := dg_at gg103 25 rfl
theorem dX8_init_52 : decode cX8_init 52 = .ok (.aload_n 0, 1) := dg_at gg103 26 rfl
theorem dX8_init_53 : decode cX8_init 53 = .ok (.bipush 24, 2) := dg_at gg103 27 rfl
theorem dX8_init_55 : decode cX8_init 55 = .ok (.newarray .int, 2) := dg_at gg103 28 rfl
theorem dX8_init_57 : decode cX8_init 57 = .ok (.putfield 30, 3) := dg_at gg103 29 rfl
theorem dX8_init_60 : decode cX8_init 60 = .ok (.aload_n 0, 1) := dg_at gg103 30 rfl
theorem dX8_init_61 : decode cX8_init 61 = .ok (.bipush 8, 2) := dg_at gg103 31 rfl
theorem dX8_init_63 : decode cX8_init 63 = .ok (.newarray .int, 2) := dg_at gg103 32 rfl
theorem dX8_init_65 : decode cX8_init 65 = .ok (.putfield 33, 3) := dg_at gg103 33 rfl
theorem dX8_init_68 : decode cX8_init 68 = .ok (.aload_n 0, 1) := dg_at gg103 34 rfl
theorem dX8_init_69 : decode cX8_init 69 = .ok (.bipush 9, 2) := dg_at gg103 35 rfl
theorem dX8_init_71 : decode cX8_init 71 = .ok (.newarray .long, 2) := dg_at gg103 36 rfl
theorem dX8_init_73 : decode cX8_init 73 = .ok (.putfield 36, 3) := dg_at gg103 37 rfl
theorem dX8_init_76 : decode cX8_init 76 = .ok (.aload_n 0, 1) := dg_at gg103 38 rfl
theorem dX8_init_77 : decode cX8_init 77 = .ok (.bipush 20, 2) := dg_at gg103 39 rfl
theorem dX8_init_79 : decode cX8_init 79 = .ok (.newarray .int, 2) := dg_at gg103 40 rfl
theorem dX8_init_81 : decode cX8_init 81 = .ok (.putfield 39, 3) := dg_at gg103 41 rfl
theorem dX8_init_84 : decode cX8_init 84 = .ok (.aload_n 0, 1) := dg_at gg103 42 rfl
theorem dX8_init_85 : decode cX8_init 85 = .ok (.iconst 5, 1) := dg_at gg103 43 rfl
theorem dX8_init_86 : decode cX8_init 86 = .ok (.newarray .int, 2) := dg_at gg103 44 rfl
theorem dX8_init_88 : decode cX8_init 88 = .ok (.putfield 42, 3) := dg_at gg103 45 rfl
theorem dX8_init_91 : decode cX8_init 91 = .ok (.aload_n 0, 1) := dg_at gg103 46 rfl
theorem dX8_init_92 : decode cX8_init 92 = .ok (.invokevirtual 45, 3) := dg_at gg103 47 rfl
theorem dX8_init_95 : decode cX8_init 95 = .ok (.aload_n 0, 1) := dg_at gg103 48 rfl
theorem dX8_init_96 : decode cX8_init 96 = .ok (.getfield 17, 3) := dg_at gg103 49 rfl
theorem dX8_init_99 : decode cX8_init 99 = .ok (.iconst 1, 1) := dg_at gg103 50 rfl
theorem dX8_init_100 : decode cX8_init 100 = .ok (.iconst 1, 1) := dg_at gg103 51 rfl
theorem dX8_init_101 : decode cX8_init 101 = .ok (.iastore, 1) := dg_at gg103 52 rfl
theorem dX8_init_102 : decode cX8_init 102 = .ok (.aload_n 0, 1) := dg_at gg103 53 rfl
theorem dX8_init_103 : decode cX8_init 103 = .ok (.getfield 20, 3) := dg_at gg103 54 rfl
theorem dX8_init_106 : decode cX8_init 106 = .ok (.bipush 31, 2) := dg_at gg103 55 rfl
theorem dX8_init_108 : decode cX8_init 108 = .ok (.iconst 1, 1) := dg_at gg103 56 rfl
theorem dX8_init_109 : decode cX8_init 109 = .ok (.iastore, 1) := dg_at gg103 57 rfl
theorem dX8_init_110 : decode cX8_init 110 = .ok (.aload_n 0, 1) := dg_at gg103 58 rfl
theorem dX8_init_111 : decode cX8_init 111 = .ok (.getfield 20, 3) := dg_at gg103 59 rfl
def gl104 : List (Nat × Instr × Nat) := [(114, .bipush 32, 2), (116, .iconst 1, 1), (117, .iastore, 1), (118, .aload_n 0, 1), (119, .getfield 20, 3), (122, .bipush 33, 2), (124, .bipush 55, 2), (126, .iastore, 1), (127, .aload_n 0, 1), (128, .getfield 20, 3), (131, .bipush 34, 2), (133, .bipush 55, 2), (135, .iastore, 1), (136, .aload_n 0, 1), (137, .invokevirtual 48, 3), (140, .return_, 1)]
set_option maxRecDepth 100000 in
theorem gg104 : gl104.all (fun x => decide (decode cX8_init x.1 = .ok (x.2.1, x.2.2))) = true := by decide +kernel
theorem dX8_init_114 : decode cX8_init 114 = .ok (.bipush 32, 2) := dg_at gg104 0 rfl
theorem dX8_init_116 : decode cX8_init 116 = .ok (.iconst 1, 1) := dg_at gg104 1 rfl
theorem dX8_init_117 : decode cX8_init 117 = .ok (.iastore, 1) := dg_at gg104 2 rfl
theorem dX8_init_118 : decode cX8_init 118 = .ok (.aload_n 0, 1) := dg_at gg104 3 rfl
theorem dX8_init_119 : decode cX8_init 119 = .ok (.getfield 20, 3) := dg_at gg104 4 rfl
theorem dX8_init_122 : decode cX8_init 122 = .ok (.bipush 33, 2) := dg_at gg104 5 rfl
theorem dX8_init_124 : decode cX8_init 124 = .ok (.bipush 55, 2) := dg_at gg104 6 rfl
theorem dX8_init_126 : decode cX8_init 126 = .ok (.iastore, 1) := dg_at gg104 7 rfl
theorem dX8_init_127 : decode cX8_init 127 = .ok (.aload_n 0, 1) := dg_at gg104 8 rfl
theorem dX8_init_128 : decode cX8_init 128 = .ok (.getfield 20, 3) := dg_at gg104 9 rfl
theorem dX8_init_131 : decode cX8_init 131 = .ok (.bipush 34, 2) := dg_at gg104 10 rfl
theorem dX8_init_133 : decode cX8_init 133 = .ok (.bipush 55, 2) := dg_at gg104 11 rfl
theorem dX8_init_135 : decode cX8_init 135 = .ok (.iastore, 1) := dg_at gg104 12 rfl
theorem dX8_init_136 : decode cX8_init 136 = .ok (.aload_n 0, 1) := dg_at gg104 13 rfl
theorem dX8_init_137 : decode cX8_init 137 = .ok (.invokevirtual 48, 3) := dg_at gg104 14 rfl
theorem dX8_init_140 : decode cX8_init 140 = .ok (.return_, 1) := dg_at gg104 15 rfl
def gl105 : List (Nat × Instr × Nat) := [(0, .lload_n 0, 1), (1, .lload_n 2, 1), (2, .lcmp, 1), (3, .ifCond .lt 14, 3), (6, .lload_n 0, 1), (7, .lload 4, 2), (9, .lcmp, 1), (10, .ifCond .gt 7, 3), (13, .iconst 1, 1), (14, .goto 4, 3), (17, .iconst 0, 1), (18, .ireturn, 1)]
set_option maxRecDepth 100000 in
theorem gg105 : gl105.all (fun x => decide (decode cX8_in x.1 = .ok (x.2.1, x.2.2))) = true := by decide +kernel
theorem dX8_in_0 : decode cX8_in 0 = .ok (.lload_n 0, 1) := dg_at gg105 0 rfl
theorem dX8_in_1 : decode cX8_in 1 = .ok (.lload_n 2, 1) := dg_at gg105 1 rfl
theorem dX8_in_2 : decode cX8_in 2 = .ok (.lcmp, 1) := dg_at gg105 2 rfl
theorem dX8_in_3 : decode cX8_in 3 = .ok (.ifCond .lt 14, 3) := dg_at gg105 3 rfl
theorem dX8_in_6 : decode cX8_in 6 = .ok (.lload_n 0, 1) := dg_at gg105 4 rfl
theorem dX8_in_7 : decode cX8_in 7 = .ok (.lload 4, 2) := dg_at gg105 5 rfl
theorem dX8_in_9 : decode cX8_in 9 = .ok (.lcmp, 1) := dg_at gg105 6 rfl
theorem dX8_in_10 : decode cX8_in 10 = .ok (.ifCond .gt 7, 3) := dg_at gg105 7 rfl
theorem dX8_in_13 : decode cX8_in 13 = .ok (.iconst 1, 1) := dg_at gg105 8 rfl
theorem dX8_in_14 : decode cX8_in 14 = .ok (.goto 4, 3) := dg_at gg105 9 rfl
theorem dX8_in_17 : decode cX8_in 17 = .ok (.iconst 0, 1) := dg_at gg105 10 rfl
theorem dX8_in_18 : decode cX8_in 18 = .ok (.ireturn, 1) := dg_at gg105 11 rfl
def gl106 : List (Nat × Instr × Nat) := [(0, .iload_n 1, 1), (1, .i2l, 1), (2, .lconst 1, 1), (3, .ldc2_w 51, 3), (6, .invokestatic 53, 3), (9, .ifCond .ne 5, 3), (12, .iconst (-1), 1), (13, .ireturn, 1), (14, .aload_n 0, 1), (15, .getfield 57, 3), (18, .iload_n 1, 1), (19, .iadd, 1), (20, .sipush 400, 3), (23, .if_icmp .le 6, 3), (26, .bipush (-3), 2), (28, .ireturn, 1), (29, .iload_n 1, 1), (30, .iconst 1, 1), (31, .isub, 1), (32, .istore 4, 2), (34, .iload 4, 2), (36, .ifCond .lt 37, 3), (39, .aload_n 0, 1), (40, .getfield 7, 3), (43, .aload_n 0, 1), (44, .getfield 57, 3), (47, .lload_n 2, 1), (48, .bipush 8, 2), (50, .iload 4, 2), (52, .imul, 1), (53, .lshr, 1), (54, .l2i, 1), (55, .i2b, 1), (56, .bastore, 1), (57, .aload_n 0, 1), (58, .dup, 1), (59, .getfield 57, 3), (62, .iconst 1, 1), (63, .iadd, 1), (64, .putfield 57, 3), (67, .iinc 4 (-1), 3), (70, .goto (-36), 3), (73, .aload_n 0, 1), (74, .getfield 57, 3), (77, .ireturn, 1)]
set_option maxRecDepth 100000 in
theorem gg106 : gl106.all (fun x => decide (decode cX8_write x.1 = .ok (x.2.1, x.2.2))) = true := by decide +kernel
theorem dX8_write_0 : decode cX8_write 0 = .ok (.iload_n 1, 1) := dg_at gg106 0 rfl
theorem dX8_write_1 : decode cX8_write 1 = .ok (.i2l, 1) := dg_at gg106 1 rfl
theorem dX8_write_2 : decode cX8_write 2 = .ok (.lconst 1, 1) := dg_at gg106 2 rfl
theorem dX8_write_3 : decode cX8_write 3 = .ok (.ldc2_w 51, 3) := dg_at gg106 3 rfl
theorem dX8_write_6 : decode cX8_write 6 = .ok (.invokestatic 53, 3) := dg_at gg106 4 rfl
theorem dX8_write_9 : decode cX8_write 9 = .ok (.ifCond .ne 5, 3) := dg_at gg106 5 rfl
theorem dX8_write_12 : decode cX8_write 12 = .ok (.iconst (-1), 1) := dg_at gg106 6 rfl
theorem dX8_write_13 : decode cX8_write 13 = .ok (.ireturn, 1) := dg_at gg106 7 rfl
theorem dX8_write_14 : decode cX8_write 14 = .ok (.aload_n 0, 1) := dg_at gg106 8 rfl
theorem dX8_write_15 : decode cX8_write 15 = .ok (.getfield 57, 3) := dg_at gg106 9 rfl
theorem dX8_write_18 : decode cX8_write 18 = .ok (.iload_n 1, 1) := dg_at gg106 10 rfl
theorem dX8_write_19 : decode cX8_write 19 = .ok (.iadd, 1) := dg_at gg106 11 rfl
theorem dX8_write_20 : decode cX8_write 20 = .ok (.sipush 400, 3) := dg_at gg106 12 rfl
theorem dX8_write_23 : decode cX8_write 23 = .ok (.if_icmp .le 6, 3) := dg_at gg106 13 rfl
theorem dX8_write_26 : decode cX8_write 26 = .ok (.bipush (-3), 2) := dg_at gg106 14 rfl
theorem dX8_write_28 : decode cX8_write 28 = .ok (.ireturn, 1) := dg_at gg106 15 rfl
theorem dX8_write_29 : decode cX8_write 29 = .ok (.iload_n 1, 1) := dg_at gg106 16 rfl
theorem dX8_write_30 : decode cX8_write 30 = .ok (.iconst 1, 1) := dg_at gg106 17 rfl
theorem dX8_write_31 : decode cX8_write 31 = .ok (.isub, 1) := dg_at gg106 18 rfl
theorem dX8_write_32 : decode cX8_write 32 = .ok (.istore 4, 2) := dg_at gg106 19 rfl
theorem dX8_write_34 : decode cX8_write 34 = .ok (.iload 4, 2) := dg_at gg106 20 rfl
theorem dX8_write_36 : decode cX8_write 36 = .ok (.ifCond .lt 37, 3) := dg_at gg106 21 rfl
theorem dX8_write_39 : decode cX8_write 39 = .ok (.aload_n 0, 1) := dg_at gg106 22 rfl
theorem dX8_write_40 : decode cX8_write 40 = .ok (.getfield 7, 3) := dg_at gg106 23 rfl
theorem dX8_write_43 : decode cX8_write 43 = .ok (.aload_n 0, 1) := dg_at gg106 24 rfl
theorem dX8_write_44 : decode cX8_write 44 = .ok (.getfield 57, 3) := dg_at gg106 25 rfl
theorem dX8_write_47 : decode cX8_write 47 = .ok (.lload_n 2, 1) := dg_at gg106 26 rfl
theorem dX8_write_48 : decode cX8_write 48 = .ok (.bipush 8, 2) := dg_at gg106 27 rfl
theorem dX8_write_50 : decode cX8_write 50 = .ok (.iload 4, 2) := dg_at gg106 28 rfl
theorem dX8_write_52 : decode cX8_write 52 = .ok (.imul, 1) := dg_at gg106 29 rfl
theorem dX8_write_53 : decode cX8_write 53 = .ok (.lshr, 1) := dg_at gg106 30 rfl
theorem dX8_write_54 : decode cX8_write 54 = .ok (.l2i, 1) := dg_at gg106 31 rfl
theorem dX8_write_55 : decode cX8_write 55 = .ok (.i2b, 1) := dg_at gg106 32 rfl
theorem dX8_write_56 : decode cX8_write 56 = .ok (.bastore, 1) := dg_at gg106 33 rfl
theorem dX8_write_57 : decode cX8_write 57 = .ok (.aload_n 0, 1) := dg_at gg106 34 rfl
theorem dX8_write_58 : decode cX8_write 58 = .ok (.dup, 1) := dg_at gg106 35 rfl
theorem dX8_write_59 : decode cX8_write 59 = .ok (.getfield 57, 3) := dg_at gg106 36 rfl
theorem dX8_write_62 : decode cX8_write 62 = .ok (.iconst 1, 1) := dg_at gg106 37 rfl
theorem dX8_write_63 : decode cX8_write 63 = .ok (.iadd, 1) := dg_at gg106 38 rfl
theorem dX8_write_64 : decode cX8_write 64 = .ok (.putfield 57, 3) := dg_at gg106 39 rfl
theorem dX8_write_67 : decode cX8_write 67 = .ok (.iinc 4 (-1), 3) := dg_at gg106 40 rfl
theorem dX8_write_70 : decode cX8_write 70 = .ok (.goto (-36), 3) := dg_at gg106 41 rfl
theorem dX8_write_73 : decode cX8_write 73 = .ok (.aload_n 0, 1) := dg_at gg106 42 rfl
theorem dX8_write_74 : decode cX8_write 74 = .ok (.getfield 57, 3) := dg_at gg106 43 rfl
theorem dX8_write_77 : decode cX8_write 77 = .ok (.ireturn, 1) := dg_at gg106 44 rfl
def gl107 : List (Nat × Instr × Nat) := [(0, .aload_n 0, 1), (1, .getfield 57, 3), (4, .istore_n 1, 1), (5, .aload_n 0, 1), (6, .iconst 0, 1), (7, .putfield 57, 3), (10, .iload_n 1, 1), (11, .ireturn, 1)]
set_option maxRecDepth 100000 in
theorem gg107 : gl107.all (fun x => decide (decode cX8_wipe x.1 = .ok (x.2.1, x.2.2))) = true := by decide +kernel
theorem dX8_wipe_0 : decode cX8_wipe 0 = .ok (.aload_n 0, 1) := dg_at gg107 0 rfl
theorem dX8_wipe_1 : decode cX8_wipe 1 = .ok (.getfield 57, 3) := dg_at gg107 1 rfl
theorem dX8_wipe_4 : decode cX8_wipe 4 = .ok (.istore_n 1, 1) := dg_at gg107 2 rfl
theorem dX8_wipe_5 : decode cX8_wipe 5 = .ok (.aload_n 0, 1) := dg_at gg107 3 rfl
theorem dX8_wipe_6 : decode cX8_wipe 6 = .ok (.iconst 0, 1) := dg_at gg107 4 rfl
theorem dX8_wipe_7 : decode cX8_wipe 7 = .ok (.putfield 57, 3) := dg_at gg107 5 rfl
theorem dX8_wipe_10 : decode cX8_wipe 10 = .ok (.iload_n 1, 1) := dg_at gg107 6 rfl
theorem dX8_wipe_11 : decode cX8_wipe 11 = .ok (.ireturn, 1) := dg_at gg107 7 rfl
def gl108 : List (Nat × Instr × Nat) := [(0, .iconst 0, 1), (1, .istore_n 1, 1), (2, .iconst 0, 1), (3, .istore_n 2, 1), (4, .aload_n 0, 1), (5, .getfield 61, 3), (8, .aload_n 0, 1), (9, .getfield 57, 3), (12, .if_icmp .ge 68, 3), (15, .aload_n 0, 1), (16, .getfield 7, 3), (19, .aload_n 0, 1), (20, .getfield 61, 3), (23, .baload, 1), (24, .i2l, 1), (25, .ldc2_w 64, 3), (28, .ldc2_w 66, 3), (31, .invokestatic 53, 3), (34, .ifCond .eq 46, 3), (37, .iload_n 2, 1), (38, .iconst 3, 1), (39, .if_icmp .ge 23, 3), (42, .bipush 10, 2), (44, .iload_n 1, 1), (45, .imul, 1), (46, .aload_n 0, 1), (47, .getfield 7, 3), (50, .aload_n 0, 1), (51, .getfield 61, 3), (54, .baload, 1), (55, .iadd, 1), (56, .bipush 48, 2), (58, .isub, 1), (59, .goto 4, 3), (62, .iload_n 1, 1), (63, .istore_n 1, 1), (64, .iinc 2 1, 3), (67, .aload_n 0, 1), (68, .dup, 1), (69, .getfield 61, 3), (72, .iconst 1, 1), (73, .iadd, 1), (74, .putfield 61, 3), (77, .goto (-73), 3), (80, .iload_n 2, 1), (81, .i2l, 1), (82, .lconst 1, 1), (83, .ldc2_w 68, 3), (86, .invokestatic 53, 3), (89, .ifCond .eq 7, 3), (92, .iload_n 1, 1), (93, .goto 4, 3), (96, .iconst (-1), 1), (97, .ireturn, 1)]
set_option maxRecDepth 100000 in
theorem gg108 : gl108.all (fun x => decide (decode cX8_number x.1 = .ok (x.2.1, x.2.2))) = true := by decide +kernel
theorem dX8_number_0 : decode cX8_number 0 = .ok (.iconst 0, 1) := dg_at gg108 0 rfl
theorem dX8_number_1 : decode cX8_number 1 = .ok (.istore_n 1, 1) := dg_at gg108 1 rfl
theorem dX8_number_2 : decode cX8_number 2 = .ok (.iconst 0, 1) := dg_at gg108 2 rfl
theorem dX8_number_3 : decode cX8_number 3 = .ok (.istore_n 2, 1) := dg_at gg108 3 rfl
theorem dX8_number_4 : decode cX8_number 4 = .ok (.aload_n 0, 1) := dg_at gg108 4 rfl
theorem dX8_number_5 : decode cX8_number 5 = .ok (.getfield 61, 3) := dg_at gg108 5 rfl
theorem dX8_number_8 : decode cX8_number 8 = .ok (.aload_n 0, 1) := dg_at gg108 6 rfl
theorem dX8_number_9 : decode cX8_number 9 = .ok (.getfield 57, 3) := dg_at gg108 7 rfl
theorem dX8_number_12 : decode cX8_number 12 = .ok (.if_icmp .ge 68, 3) := dg_at gg108 8 rfl
theorem dX8_number_15 : decode cX8_number 15 = .ok (.aload_n 0, 1) := dg_at gg108 9 rfl
theorem dX8_number_16 : decode cX8_number 16 = .ok (.getfield 7, 3) := dg_at gg108 10 rfl
theorem dX8_number_19 : decode cX8_number 19 = .ok (.aload_n 0, 1) := dg_at gg108 11 rfl
theorem dX8_number_20 : decode cX8_number 20 = .ok (.getfield 61, 3) := dg_at gg108 12 rfl
theorem dX8_number_23 : decode cX8_number 23 = .ok (.baload, 1) := dg_at gg108 13 rfl
theorem dX8_number_24 : decode cX8_number 24 = .ok (.i2l, 1) := dg_at gg108 14 rfl
theorem dX8_number_25 : decode cX8_number 25 = .ok (.ldc2_w 64, 3) := dg_at gg108 15 rfl
theorem dX8_number_28 : decode cX8_number 28 = .ok (.ldc2_w 66, 3) := dg_at gg108 16 rfl
theorem dX8_number_31 : decode cX8_number 31 = .ok (.invokestatic 53, 3) := dg_at gg108 17 rfl
theorem dX8_number_34 : decode cX8_number 34 = .ok (.ifCond .eq 46, 3) := dg_at gg108 18 rfl
theorem dX8_number_37 : decode cX8_number 37 = .ok (.iload_n 2, 1) := dg_at gg108 19 rfl
theorem dX8_number_38 : decode cX8_number 38 = .ok (.iconst 3, 1) := dg_at gg108 20 rfl
theorem dX8_number_39 : decode cX8_number 39 = .ok (.if_icmp .ge 23, 3) := dg_at gg108 21 rfl
theorem dX8_number_42 : decode cX8_number 42 = .ok (.bipush 10, 2) := dg_at gg108 22 rfl
theorem dX8_number_44 : decode cX8_number 44 = .ok (.iload_n 1, 1) := dg_at gg108 23 rfl
theorem dX8_number_45 : decode cX8_number 45 = .ok (.imul, 1) := dg_at gg108 24 rfl
theorem dX8_number_46 : decode cX8_number 46 = .ok (.aload_n 0, 1) := dg_at gg108 25 rfl
theorem dX8_number_47 : decode cX8_number 47 = .ok (.getfield 7, 3) := dg_at gg108 26 rfl
theorem dX8_number_50 : decode cX8_number 50 = .ok (.aload_n 0, 1) := dg_at gg108 27 rfl
theorem dX8_number_51 : decode cX8_number 51 = .ok (.getfield 61, 3) := dg_at gg108 28 rfl
theorem dX8_number_54 : decode cX8_number 54 = .ok (.baload, 1) := dg_at gg108 29 rfl
theorem dX8_number_55 : decode cX8_number 55 = .ok (.iadd, 1) := dg_at gg108 30 rfl
theorem dX8_number_56 : decode cX8_number 56 = .ok (.bipush 48, 2) := dg_at gg108 31 rfl
theorem dX8_number_58 : decode cX8_number 58 = .ok (.isub, 1) := dg_at gg108 32 rfl
theorem dX8_number_59 : decode cX8_number 59 = .ok (.goto 4, 3) := dg_at gg108 33 rfl
theorem dX8_number_62 : decode cX8_number 62 = .ok (.iload_n 1, 1) := dg_at gg108 34 rfl
theorem dX8_number_63 : decode cX8_number 63 = .ok (.istore_n 1, 1) := dg_at gg108 35 rfl
theorem dX8_number_64 : decode cX8_number 64 = .ok (.iinc 2 1, 3) := dg_at gg108 36 rfl
theorem dX8_number_67 : decode cX8_number 67 = .ok (.aload_n 0, 1) := dg_at gg108 37 rfl
theorem dX8_number_68 : decode cX8_number 68 = .ok (.dup, 1) := dg_at gg108 38 rfl
theorem dX8_number_69 : decode cX8_number 69 = .ok (.getfield 61, 3) := dg_at gg108 39 rfl
theorem dX8_number_72 : decode cX8_number 72 = .ok (.iconst 1, 1) := dg_at gg108 40 rfl
theorem dX8_number_73 : decode cX8_number 73 = .ok (.iadd, 1) := dg_at gg108 41 rfl
theorem dX8_number_74 : decode cX8_number 74 = .ok (.putfield 61, 3) := dg_at gg108 42 rfl
theorem dX8_number_77 : decode cX8_number 77 = .ok (.goto (-73), 3) := dg_at gg108 43 rfl
theorem dX8_number_80 : decode cX8_number 80 = .ok (.iload_n 2, 1) := dg_at gg108 44 rfl
theorem dX8_number_81 : decode cX8_number 81 = .ok (.i2l, 1) := dg_at gg108 45 rfl
theorem dX8_number_82 : decode cX8_number 82 = .ok (.lconst 1, 1) := dg_at gg108 46 rfl
theorem dX8_number_83 : decode cX8_number 83 = .ok (.ldc2_w 68, 3) := dg_at gg108 47 rfl
theorem dX8_number_86 : decode cX8_number 86 = .ok (.invokestatic 53, 3) := dg_at gg108 48 rfl
theorem dX8_number_89 : decode cX8_number 89 = .ok (.ifCond .eq 7, 3) := dg_at gg108 49 rfl
theorem dX8_number_92 : decode cX8_number 92 = .ok (.iload_n 1, 1) := dg_at gg108 50 rfl
theorem dX8_number_93 : decode cX8_number 93 = .ok (.goto 4, 3) := dg_at gg108 51 rfl
theorem dX8_number_96 : decode cX8_number 96 = .ok (.iconst (-1), 1) := dg_at gg108 52 rfl
theorem dX8_number_97 : decode cX8_number 97 = .ok (.ireturn, 1) := dg_at gg108 53 rfl
def gl109 : List (Nat × Instr × Nat) := [(0, .iload_n 0, 1), (1, .bipush 97, 2), (3, .if_icmp .ne 7, 3), (6, .iconst 5, 1), (7, .goto 30, 3), (10, .iload_n 0, 1), (11, .bipush 116, 2), (13, .if_icmp .ne 7, 3), (16, .iconst 4, 1), (17, .goto 20, 3), (20, .iload_n 0, 1), (21, .bipush 111, 2), (23, .if_icmp .eq 9, 3), (26, .iload_n 0, 1), (27, .bipush 115, 2), (29, .if_icmp .ne 7, 3), (32, .iconst 1, 1), (33, .goto 4, 3), (36, .iconst 0, 1), (37, .ireturn, 1)]
set_option maxRecDepth 100000 in
theorem gg109 : gl109.all (fun x => decide (decode cX8_parts x.1 = .ok (x.2.1, x.2.2))) = true := by decide +kernel
theorem dX8_parts_0 : decode cX8_parts 0 = .ok (.iload_n 0, 1) := dg_at gg109 0 rfl
theorem dX8_parts_1 : decode cX8_parts 1 = .ok (.bipush 97, 2) := dg_at gg109 1 rfl
theorem dX8_parts_3 : decode cX8_parts 3 = .ok (.if_icmp .ne 7, 3) := dg_at gg109 2 rfl
theorem dX8_parts_6 : decode cX8_parts 6 = .ok (.iconst 5, 1) := dg_at gg109 3 rfl
theorem dX8_parts_7 : decode cX8_parts 7 = .ok (.goto 30, 3) := dg_at gg109 4 rfl
theorem dX8_parts_10 : decode cX8_parts 10 = .ok (.iload_n 0, 1) := dg_at gg109 5 rfl
theorem dX8_parts_11 : decode cX8_parts 11 = .ok (.bipush 116, 2) := dg_at gg109 6 rfl
theorem dX8_parts_13 : decode cX8_parts 13 = .ok (.if_icmp .ne 7, 3) := dg_at gg109 7 rfl
theorem dX8_parts_16 : decode cX8_parts 16 = .ok (.iconst 4, 1) := dg_at gg109 8 rfl
theorem dX8_parts_17 : decode cX8_parts 17 = .ok (.goto 20, 3) := dg_at gg109 9 rfl
theorem dX8_parts_20 : decode cX8_parts 20 = .ok (.iload_n 0, 1) := dg_at gg109 10 rfl
theorem dX8_parts_21 : decode cX8_parts 21 = .ok (.bipush 111, 2) := dg_at gg109 11 rfl
theorem dX8_parts_23 : decode cX8_parts 23 = .ok (.if_icmp .eq 9, 3) := dg_at gg109 12 rfl
theorem dX8_parts_26 : decode cX8_parts 26 = .ok (.iload_n 0, 1) := dg_at gg109 13 rfl
theorem dX8_parts_27 : decode cX8_parts 27 = .ok (.bipush 115, 2) := dg_at gg109 14 rfl
theorem dX8_parts_29 : decode cX8_parts 29 = .ok (.if_icmp .ne 7, 3) := dg_at gg109 15 rfl
theorem dX8_parts_32 : decode cX8_parts 32 = .ok (.iconst 1, 1) := dg_at gg109 16 rfl
theorem dX8_parts_33 : decode cX8_parts 33 = .ok (.goto 4, 3) := dg_at gg109 17 rfl
theorem dX8_parts_36 : decode cX8_parts 36 = .ok (.iconst 0, 1) := dg_at gg109 18 rfl
theorem dX8_parts_37 : decode cX8_parts 37 = .ok (.ireturn, 1) := dg_at gg109 19 rfl
def gl110 : List (Nat × Instr × Nat) := [(0, .aload_n 0, 1), (1, .getfield 42, 3), (4, .iload_n 1, 1), (5, .iaload, 1), (6, .i2l, 1), (7, .iload_n 2, 1), (8, .i2l, 1), (9, .iload_n 3, 1), (10, .i2l, 1), (11, .invokestatic 53, 3), (14, .ireturn, 1)]
set_option maxRecDepth 100000 in
theorem gg110 : gl110.all (fun x => decide (decode cX8_isIn x.1 = .ok (x.2.1, x.2.2))) = true := by decide +kernel
theorem dX8_isIn_0 : decode cX8_isIn 0 = .ok (.aload_n 0, 1) := dg_at gg110 0 rfl
theorem dX8_isIn_1 : decode cX8_isIn 1 = .ok (.getfield 42, 3) := dg_at gg110 1 rfl
theorem dX8_isIn_4 : decode cX8_isIn 4 = .ok (.iload_n 1, 1) := dg_at gg110 2 rfl
theorem dX8_isIn_5 : decode cX8_isIn 5 = .ok (.iaload, 1) := dg_at gg110 3 rfl
theorem dX8_isIn_6 : decode cX8_isIn 6 = .ok (.i2l, 1) := dg_at gg110 4 rfl
theorem dX8_isIn_7 : decode cX8_isIn 7 = .ok (.iload_n 2, 1) := dg_at gg110 5 rfl
theorem dX8_isIn_8 : decode cX8_isIn 8 = .ok (.i2l, 1) := dg_at gg110 6 rfl
theorem dX8_isIn_9 : decode cX8_isIn 9 = .ok (.iload_n 3, 1) := dg_at gg110 7 rfl
theorem dX8_isIn_10 : decode cX8_isIn 10 = .ok (.i2l, 1) := dg_at gg110 8 rfl
theorem dX8_isIn_11 : decode cX8_isIn 11 = .ok (.invokestatic 53, 3) := dg_at gg110 9 rfl
theorem dX8_isIn_14 : decode cX8_isIn 14 = .ok (.ireturn, 1) := dg_at gg110 10 rfl
def gl111 : List (Nat × Instr × Nat) := [(0, .aload_n 0, 1), (1, .getfield 7, 3), (4, .aload_n 0, 1), (5, .getfield 61, 3), (8, .baload, 1), (9, .istore_n 1, 1), (10, .aload_n 0, 1), (11, .dup, 1), (12, .getfield 61, 3), (15, .iconst 1, 1), (16, .iadd, 1), (17, .putfield 61, 3), (20, .iload_n 1, 1), (21, .invokestatic 70, 3), (24, .istore_n 2, 1), (25, .iload_n 2, 1), (26, .ifCond .le 7, 3), (29, .iconst 1, 1), (30, .goto 4, 3), (33, .iconst 0, 1), (34, .istore_n 3, 1), (35, .iconst 0, 1), (36, .istore 4, 2), (38, .iload 4, 2), (40, .iload_n 2, 1), (41, .if_icmp .ge 103, 3), (44, .iload_n 3, 1), (45, .ifCond .eq 99, 3), (48, .iload 4, 2), (50, .ifCond .eq 28, 3), (53, .aload_n 0, 1), (54, .getfield 61, 3), (57, .aload_n 0, 1), (58, .getfield 57, 3), (61, .if_icmp .ge 21, 3), (64, .aload_n 0, 1), (65, .getfield 7, 3), (68, .aload_n 0, 1), (69, .getfield 61, 3), (72, .baload, 1), (73, .bipush 44, 2), (75, .if_icmp .ne 7, 3), (78, .iconst 1, 1), (79, .goto 4, 3), (82, .iconst 0, 1), (83, .istore_n 3, 1), (84, .aload_n 0, 1), (85, .dup, 1), (86, .getfield 61, 3), (89, .iload 4, 2), (91, .ifCond .ne 7, 3), (94, .iconst 0, 1), (95, .goto 4, 3), (98, .iconst 1, 1), (99, .iadd, 1), (100, .putfield 61, 3), (103, .aload_n 0, 1), (104, .getfield 42, 3), (107, .iload 4, 2), (109, .iload_n 3, 1)]
set_option maxRecDepth 100000 in
theorem gg111 : gl111.all (fun x => decide (decode cX8_isItem x.1 = .ok (x.2.1, x.2.2))) = true := by decide +kernel
theorem dX8_isItem_0 : decode cX8_isItem 0 = .ok (.aload_n 0, 1) := dg_at gg111 0 rfl
theorem dX8_isItem_1 : decode cX8_isItem 1 = .ok (.getfield 7, 3) := dg_at gg111 1 rfl
theorem dX8_isItem_4 : decode cX8_isItem 4 = .ok (.aload_n 0, 1) := dg_at gg111 2 rfl
theorem dX8_isItem_5 : decode cX8_isItem 5 = .ok (.getfield 61, 3) := dg_at gg111 3 rfl
theorem dX8_isItem_8 : decode cX8_isItem 8 = .ok (.baload, 1) := dg_at gg111 4 rfl
theorem dX8_isItem_9 : decode cX8_isItem 9 = .ok (.istore_n 1, 1) := dg_at gg111 5 rfl
theorem dX8_isItem_10 : decode cX8_isItem 10 = .ok (.aload_n 0, 1) := dg_at gg111 6 rfl
theorem dX8_isItem_11 : decode cX8_isItem 11 = .ok (.dup, 1) := dg_at gg111 7 rfl
theorem dX8_isItem_12 : decode cX8_isItem 12 = .ok (.getfield 61, 3) := dg_at gg111 8 rfl
theorem dX8_isItem_15 : decode cX8_isItem 15 = .ok (.iconst 1, 1) := dg_at gg111 9 rfl
theorem dX8_isItem_16 : decode cX8_isItem 16 = .ok (.iadd, 1) := dg_at gg111 10 rfl
theorem dX8_isItem_17 : decode cX8_isItem 17 = .ok (.putfield 61, 3) := dg_at gg111 11 rfl
theorem dX8_isItem_20 : decode cX8_isItem 20 = .ok (.iload_n 1, 1) := dg_at gg111 12 rfl
theorem dX8_isItem_21 : decode cX8_isItem 21 = .ok (.invokestatic 70, 3) := dg_at gg111 13 rfl
theorem dX8_isItem_24 : decode cX8_isItem 24 = .ok (.istore_n 2, 1) := dg_at gg111 14 rfl
theorem dX8_isItem_25 : decode cX8_isItem 25 = .ok (.iload_n 2, 1) := dg_at gg111 15 rfl
theorem dX8_isItem_26 : decode cX8_isItem 26 = .ok (.ifCond .le 7, 3) := dg_at gg111 16 rfl
theorem dX8_isItem_29 : decode cX8_isItem 29 = .ok (.iconst 1, 1) := dg_at gg111 17 rfl
theorem dX8_isItem_30 : decode cX8_isItem 30 = .ok (.goto 4, 3) := dg_at gg111 18 rfl
theorem dX8_isItem_33 : decode cX8_isItem 33 = .ok (.iconst 0, 1) := dg_at gg111 19 rfl
theorem dX8_isItem_34 : decode cX8_isItem 34 = .ok (.istore_n 3, 1) := dg_at gg111 20 rfl
theorem dX8_isItem_35 : decode cX8_isItem 35 = .ok (.iconst 0, 1) := dg_at gg111 21 rfl
theorem dX8_isItem_36 : decode cX8_isItem 36 = .ok (.istore 4, 2) := dg_at gg111 22 rfl
theorem dX8_isItem_38 : decode cX8_isItem 38 = .ok (.iload 4, 2) := dg_at gg111 23 rfl
theorem dX8_isItem_40 : decode cX8_isItem 40 = .ok (.iload_n 2, 1) := dg_at gg111 24 rfl
theorem dX8_isItem_41 : decode cX8_isItem 41 = .ok (.if_icmp .ge 103, 3) := dg_at gg111 25 rfl
theorem dX8_isItem_44 : decode cX8_isItem 44 = .ok (.iload_n 3, 1) := dg_at gg111 26 rfl
theorem dX8_isItem_45 : decode cX8_isItem 45 = .ok (.ifCond .eq 99, 3) := dg_at gg111 27 rfl
theorem dX8_isItem_48 : decode cX8_isItem 48 = .ok (.iload 4, 2) := dg_at gg111 28 rfl
theorem dX8_isItem_50 : decode cX8_isItem 50 = .ok (.ifCond .eq 28, 3) := dg_at gg111 29 rfl
theorem dX8_isItem_53 : decode cX8_isItem 53 = .ok (.aload_n 0, 1) := dg_at gg111 30 rfl
theorem dX8_isItem_54 : decode cX8_isItem 54 = .ok (.getfield 61, 3) := dg_at gg111 31 rfl
theorem dX8_isItem_57 : decode cX8_isItem 57 = .ok (.aload_n 0, 1) := dg_at gg111 32 rfl
theorem dX8_isItem_58 : decode cX8_isItem 58 = .ok (.getfield 57, 3) := dg_at gg111 33 rfl
theorem dX8_isItem_61 : decode cX8_isItem 61 = .ok (.if_icmp .ge 21, 3) := dg_at gg111 34 rfl
theorem dX8_isItem_64 : decode cX8_isItem 64 = .ok (.aload_n 0, 1) := dg_at gg111 35 rfl
theorem dX8_isItem_65 : decode cX8_isItem 65 = .ok (.getfield 7, 3) := dg_at gg111 36 rfl
theorem dX8_isItem_68 : decode cX8_isItem 68 = .ok (.aload_n 0, 1) := dg_at gg111 37 rfl
theorem dX8_isItem_69 : decode cX8_isItem 69 = .ok (.getfield 61, 3) := dg_at gg111 38 rfl
theorem dX8_isItem_72 : decode cX8_isItem 72 = .ok (.baload, 1) := dg_at gg111 39 rfl
theorem dX8_isItem_73 : decode cX8_isItem 73 = .ok (.bipush 44, 2) := dg_at gg111 40 rfl
theorem dX8_isItem_75 : decode cX8_isItem 75 = .ok (.if_icmp .ne 7, 3) := dg_at gg111 41 rfl
theorem dX8_isItem_78 : decode cX8_isItem 78 = .ok (.iconst 1, 1) := dg_at gg111 42 rfl
theorem dX8_isItem_79 : decode cX8_isItem 79 = .ok (.goto 4, 3) := dg_at gg111 43 rfl
theorem dX8_isItem_82 : decode cX8_isItem 82 = .ok (.iconst 0, 1) := dg_at gg111 44 rfl
theorem dX8_isItem_83 : decode cX8_isItem 83 = .ok (.istore_n 3, 1) := dg_at gg111 45 rfl
theorem dX8_isItem_84 : decode cX8_isItem 84 = .ok (.aload_n 0, 1) := dg_at gg111 46 rfl
theorem dX8_isItem_85 : decode cX8_isItem 85 = .ok (.dup, 1) := dg_at gg111 47 rfl
theorem dX8_isItem_86 : decode cX8_isItem 86 = .ok (.getfield 61, 3) := dg_at gg111 48 rfl
theorem dX8_isItem_89 : decode cX8_isItem 89 = .ok (.iload 4, 2) := dg_at gg111 49 rfl
theorem dX8_isItem_91 : decode cX8_isItem 91 = .ok (.ifCond .ne 7, 3) := dg_at gg111 50 rfl
theorem dX8_isItem_94 : decode cX8_isItem 94 = .ok (.iconst 0, 1) := dg_at gg111 51 rfl
theorem dX8_isItem_95 : decode cX8_isItem 95 = .ok (.goto 4, 3) := dg_at gg111 52 rfl
theorem dX8_isItem_98 : decode cX8_isItem 98 = .ok (.iconst 1, 1) := dg_at gg111 53 rfl
theorem dX8_isItem_99 : decode cX8_isItem 99 = .ok (.iadd, 1) := dg_at gg111 54 rfl
theorem dX8_isItem_100 : decode cX8_isItem 100 = .ok (.putfield 61, 3) := dg_at gg111 55 rfl
theorem dX8_isItem_103 : decode cX8_isItem 103 = .ok (.aload_n 0, 1) := dg_at gg111 56 rfl
theorem dX8_isItem_104 : decode cX8_isItem 104 = .ok (.getfield 42, 3) := dg_at gg111 57 rfl
theorem dX8_isItem_107 : decode cX8_isItem 107 = .ok (.iload 4, 2) := dg_at gg111 58 rfl
theorem dX8_isItem_109 : decode cX8_isItem 109 = .ok (.iload_n 3, 1) := dg_at gg111 59 rfl
def gl112 : List (Nat × Instr × Nat) := [(110, .ifCond .eq 10, 3), (113, .aload_n 0, 1), (114, .invokevirtual 74, 3), (117, .goto 4, 3), (120, .iconst (-1), 1), (121, .iastore, 1), (122, .aload_n 0, 1), (123, .getfield 42, 3), (126, .iload 4, 2), (128, .iaload, 1), (129, .ifCond .lt 7, 3), (132, .iconst 1, 1), (133, .goto 4, 3), (136, .iconst 0, 1), (137, .istore_n 3, 1), (138, .iinc 4 1, 3), (141, .goto (-103), 3), (144, .iload_n 3, 1), (145, .ifCond .eq 32, 3), (148, .aload_n 0, 1), (149, .getfield 61, 3), (152, .aload_n 0, 1), (153, .getfield 57, 3), (156, .if_icmp .ge 21, 3), (159, .aload_n 0, 1), (160, .getfield 7, 3), (163, .aload_n 0, 1), (164, .getfield 61, 3), (167, .baload, 1), (168, .bipush 59, 2), (170, .if_icmp .ne 7, 3), (173, .iconst 1, 1), (174, .goto 4, 3), (177, .iconst 0, 1), (178, .istore_n 3, 1), (179, .aload_n 0, 1), (180, .dup, 1), (181, .getfield 61, 3), (184, .iconst 1, 1), (185, .iadd, 1), (186, .putfield 61, 3), (189, .iload_n 3, 1), (190, .ifCond .eq 15, 3), (193, .aload_n 0, 1), (194, .iload_n 1, 1), (195, .invokevirtual 78, 3), (198, .ifCond .eq 7, 3), (201, .iconst 1, 1), (202, .goto 4, 3), (205, .iconst 0, 1), (206, .ireturn, 1)]
set_option maxRecDepth 100000 in
theorem gg112 : gl112.all (fun x => decide (decode cX8_isItem x.1 = .ok (x.2.1, x.2.2))) = true := by decide +kernel
theorem dX8_isItem_110 : decode cX8_isItem 110 = .ok (.ifCond .eq 10, 3) := dg_at gg112 0 rfl
theorem dX8_isItem_113 : decode cX8_isItem 113 = .ok (.aload_n 0, 1) := dg_at gg112 1 rfl
theorem dX8_isItem_114 : decode cX8_isItem 114 = .ok (.invokevirtual 74, 3) := dg_at gg112 2 rfl
theorem dX8_isItem_117 : decode cX8_isItem 117 = .ok (.goto 4, 3) := dg_at gg112 3 rfl
theorem dX8_isItem_120 : decode cX8_isItem 120 = .ok (.iconst (-1), 1) := dg_at gg112 4 rfl
theorem dX8_isItem_121 : decode cX8_isItem 121 = .ok (.iastore, 1) := dg_at gg112 5 rfl
theorem dX8_isItem_122 : decode cX8_isItem 122 = .ok (.aload_n 0, 1) := dg_at gg112 6 rfl
theorem dX8_isItem_123 : decode cX8_isItem 123 = .ok (.getfield 42, 3) := dg_at gg112 7 rfl
theorem dX8_isItem_126 : decode cX8_isItem 126 = .ok (.iload 4, 2) := dg_at gg112 8 rfl
theorem dX8_isItem_128 : decode cX8_isItem 128 = .ok (.iaload, 1) := dg_at gg112 9 rfl
theorem dX8_isItem_129 : decode cX8_isItem 129 = .ok (.ifCond .lt 7, 3) := dg_at gg112 10 rfl
theorem dX8_isItem_132 : decode cX8_isItem 132 = .ok (.iconst 1, 1) := dg_at gg112 11 rfl
theorem dX8_isItem_133 : decode cX8_isItem 133 = .ok (.goto 4, 3) := dg_at gg112 12 rfl
theorem dX8_isItem_136 : decode cX8_isItem 136 = .ok (.iconst 0, 1) := dg_at gg112 13 rfl
theorem dX8_isItem_137 : decode cX8_isItem 137 = .ok (.istore_n 3, 1) := dg_at gg112 14 rfl
theorem dX8_isItem_138 : decode cX8_isItem 138 = .ok (.iinc 4 1, 3) := dg_at gg112 15 rfl
theorem dX8_isItem_141 : decode cX8_isItem 141 = .ok (.goto (-103), 3) := dg_at gg112 16 rfl
theorem dX8_isItem_144 : decode cX8_isItem 144 = .ok (.iload_n 3, 1) := dg_at gg112 17 rfl
theorem dX8_isItem_145 : decode cX8_isItem 145 = .ok (.ifCond .eq 32, 3) := dg_at gg112 18 rfl
theorem dX8_isItem_148 : decode cX8_isItem 148 = .ok (.aload_n 0, 1) := dg_at gg112 19 rfl
theorem dX8_isItem_149 : decode cX8_isItem 149 = .ok (.getfield 61, 3) := dg_at gg112 20 rfl
theorem dX8_isItem_152 : decode cX8_isItem 152 = .ok (.aload_n 0, 1) := dg_at gg112 21 rfl
theorem dX8_isItem_153 : decode cX8_isItem 153 = .ok (.getfield 57, 3) := dg_at gg112 22 rfl
theorem dX8_isItem_156 : decode cX8_isItem 156 = .ok (.if_icmp .ge 21, 3) := dg_at gg112 23 rfl
theorem dX8_isItem_159 : decode cX8_isItem 159 = .ok (.aload_n 0, 1) := dg_at gg112 24 rfl
theorem dX8_isItem_160 : decode cX8_isItem 160 = .ok (.getfield 7, 3) := dg_at gg112 25 rfl
theorem dX8_isItem_163 : decode cX8_isItem 163 = .ok (.aload_n 0, 1) := dg_at gg112 26 rfl
theorem dX8_isItem_164 : decode cX8_isItem 164 = .ok (.getfield 61, 3) := dg_at gg112 27 rfl
theorem dX8_isItem_167 : decode cX8_isItem 167 = .ok (.baload, 1) := dg_at gg112 28 rfl
theorem dX8_isItem_168 : decode cX8_isItem 168 = .ok (.bipush 59, 2) := dg_at gg112 29 rfl
theorem dX8_isItem_170 : decode cX8_isItem 170 = .ok (.if_icmp .ne 7, 3) := dg_at gg112 30 rfl
theorem dX8_isItem_173 : decode cX8_isItem 173 = .ok (.iconst 1, 1) := dg_at gg112 31 rfl
theorem dX8_isItem_174 : decode cX8_isItem 174 = .ok (.goto 4, 3) := dg_at gg112 32 rfl
theorem dX8_isItem_177 : decode cX8_isItem 177 = .ok (.iconst 0, 1) := dg_at gg112 33 rfl
theorem dX8_isItem_178 : decode cX8_isItem 178 = .ok (.istore_n 3, 1) := dg_at gg112 34 rfl
theorem dX8_isItem_179 : decode cX8_isItem 179 = .ok (.aload_n 0, 1) := dg_at gg112 35 rfl
theorem dX8_isItem_180 : decode cX8_isItem 180 = .ok (.dup, 1) := dg_at gg112 36 rfl
theorem dX8_isItem_181 : decode cX8_isItem 181 = .ok (.getfield 61, 3) := dg_at gg112 37 rfl
theorem dX8_isItem_184 : decode cX8_isItem 184 = .ok (.iconst 1, 1) := dg_at gg112 38 rfl
theorem dX8_isItem_185 : decode cX8_isItem 185 = .ok (.iadd, 1) := dg_at gg112 39 rfl
theorem dX8_isItem_186 : decode cX8_isItem 186 = .ok (.putfield 61, 3) := dg_at gg112 40 rfl
theorem dX8_isItem_189 : decode cX8_isItem 189 = .ok (.iload_n 3, 1) := dg_at gg112 41 rfl
theorem dX8_isItem_190 : decode cX8_isItem 190 = .ok (.ifCond .eq 15, 3) := dg_at gg112 42 rfl
theorem dX8_isItem_193 : decode cX8_isItem 193 = .ok (.aload_n 0, 1) := dg_at gg112 43 rfl
theorem dX8_isItem_194 : decode cX8_isItem 194 = .ok (.iload_n 1, 1) := dg_at gg112 44 rfl
theorem dX8_isItem_195 : decode cX8_isItem 195 = .ok (.invokevirtual 78, 3) := dg_at gg112 45 rfl
theorem dX8_isItem_198 : decode cX8_isItem 198 = .ok (.ifCond .eq 7, 3) := dg_at gg112 46 rfl
theorem dX8_isItem_201 : decode cX8_isItem 201 = .ok (.iconst 1, 1) := dg_at gg112 47 rfl
theorem dX8_isItem_202 : decode cX8_isItem 202 = .ok (.goto 4, 3) := dg_at gg112 48 rfl
theorem dX8_isItem_205 : decode cX8_isItem 205 = .ok (.iconst 0, 1) := dg_at gg112 49 rfl
theorem dX8_isItem_206 : decode cX8_isItem 206 = .ok (.ireturn, 1) := dg_at gg112 50 rfl
def gl113 : List (Nat × Instr × Nat) := [(0, .iload_n 1, 1), (1, .bipush 116, 2), (3, .if_icmp .ne 107, 3), (6, .iconst 0, 1), (7, .istore_n 2, 1), (8, .iload_n 2, 1), (9, .iconst 4, 1), (10, .if_icmp .ge 24, 3), (13, .aload_n 0, 1), (14, .getfield 13, 3), (17, .bipush 6, 2), (19, .iload_n 2, 1), (20, .iadd, 1), (21, .aload_n 0, 1), (22, .getfield 42, 3), (25, .iload_n 2, 1), (26, .iaload, 1), (27, .iastore, 1), (28, .iinc 2 1, 3), (31, .goto (-23), 3), (34, .aload_n 0, 1), (35, .iconst 0, 1), (36, .bipush 20, 2), (38, .sipush 999, 3), (41, .invokevirtual 82, 3), (44, .ifCond .eq 64, 3), (47, .aload_n 0, 1), (48, .iconst 1, 1), (49, .iconst 1, 1), (50, .bipush 20, 2), (52, .invokevirtual 82, 3), (55, .ifCond .eq 53, 3), (58, .aload_n 0, 1), (59, .getfield 42, 3), (62, .iconst 0, 1), (63, .iaload, 1), (64, .bipush 20, 2), (66, .aload_n 0, 1), (67, .getfield 42, 3), (70, .iconst 1, 1), (71, .iaload, 1), (72, .imul, 1), (73, .if_icmp .lt 35, 3), (76, .aload_n 0, 1), (77, .iconst 3, 1), (78, .iconst 2, 1), (79, .bipush 20, 2), (81, .invokevirtual 82, 3), (84, .ifCond .eq 24, 3), (87, .aload_n 0, 1), (88, .iconst 2, 1), (89, .iconst 1, 1), (90, .aload_n 0, 1), (91, .getfield 42, 3), (94, .iconst 3, 1), (95, .iaload, 1), (96, .iconst 1, 1), (97, .isub, 1), (98, .invokevirtual 82, 3), (101, .ifCond .eq 7, 3)]
set_option maxRecDepth 100000 in
theorem gg113 : gl113.all (fun x => decide (decode cX8_isGood x.1 = .ok (x.2.1, x.2.2))) = true := by decide +kernel
theorem dX8_isGood_0 : decode cX8_isGood 0 = .ok (.iload_n 1, 1) := dg_at gg113 0 rfl
theorem dX8_isGood_1 : decode cX8_isGood 1 = .ok (.bipush 116, 2) := dg_at gg113 1 rfl
theorem dX8_isGood_3 : decode cX8_isGood 3 = .ok (.if_icmp .ne 107, 3) := dg_at gg113 2 rfl
theorem dX8_isGood_6 : decode cX8_isGood 6 = .ok (.iconst 0, 1) := dg_at gg113 3 rfl
theorem dX8_isGood_7 : decode cX8_isGood 7 = .ok (.istore_n 2, 1) := dg_at gg113 4 rfl
theorem dX8_isGood_8 : decode cX8_isGood 8 = .ok (.iload_n 2, 1) := dg_at gg113 5 rfl
theorem dX8_isGood_9 : decode cX8_isGood 9 = .ok (.iconst 4, 1) := dg_at gg113 6 rfl
theorem dX8_isGood_10 : decode cX8_isGood 10 = .ok (.if_icmp .ge 24, 3) := dg_at gg113 7 rfl
theorem dX8_isGood_13 : decode cX8_isGood 13 = .ok (.aload_n 0, 1) := dg_at gg113 8 rfl
theorem dX8_isGood_14 : decode cX8_isGood 14 = .ok (.getfield 13, 3) := dg_at gg113 9 rfl
theorem dX8_isGood_17 : decode cX8_isGood 17 = .ok (.bipush 6, 2) := dg_at gg113 10 rfl
theorem dX8_isGood_19 : decode cX8_isGood 19 = .ok (.iload_n 2, 1) := dg_at gg113 11 rfl
theorem dX8_isGood_20 : decode cX8_isGood 20 = .ok (.iadd, 1) := dg_at gg113 12 rfl
theorem dX8_isGood_21 : decode cX8_isGood 21 = .ok (.aload_n 0, 1) := dg_at gg113 13 rfl
theorem dX8_isGood_22 : decode cX8_isGood 22 = .ok (.getfield 42, 3) := dg_at gg113 14 rfl
theorem dX8_isGood_25 : decode cX8_isGood 25 = .ok (.iload_n 2, 1) := dg_at gg113 15 rfl
theorem dX8_isGood_26 : decode cX8_isGood 26 = .ok (.iaload, 1) := dg_at gg113 16 rfl
theorem dX8_isGood_27 : decode cX8_isGood 27 = .ok (.iastore, 1) := dg_at gg113 17 rfl
theorem dX8_isGood_28 : decode cX8_isGood 28 = .ok (.iinc 2 1, 3) := dg_at gg113 18 rfl
theorem dX8_isGood_31 : decode cX8_isGood 31 = .ok (.goto (-23), 3) := dg_at gg113 19 rfl
theorem dX8_isGood_34 : decode cX8_isGood 34 = .ok (.aload_n 0, 1) := dg_at gg113 20 rfl
theorem dX8_isGood_35 : decode cX8_isGood 35 = .ok (.iconst 0, 1) := dg_at gg113 21 rfl
theorem dX8_isGood_36 : decode cX8_isGood 36 = .ok (.bipush 20, 2) := dg_at gg113 22 rfl
theorem dX8_isGood_38 : decode cX8_isGood 38 = .ok (.sipush 999, 3) := dg_at gg113 23 rfl
theorem dX8_isGood_41 : decode cX8_isGood 41 = .ok (.invokevirtual 82, 3) := dg_at gg113 24 rfl
theorem dX8_isGood_44 : decode cX8_isGood 44 = .ok (.ifCond .eq 64, 3) := dg_at gg113 25 rfl
theorem dX8_isGood_47 : decode cX8_isGood 47 = .ok (.aload_n 0, 1) := dg_at gg113 26 rfl
theorem dX8_isGood_48 : decode cX8_isGood 48 = .ok (.iconst 1, 1) := dg_at gg113 27 rfl
theorem dX8_isGood_49 : decode cX8_isGood 49 = .ok (.iconst 1, 1) := dg_at gg113 28 rfl
theorem dX8_isGood_50 : decode cX8_isGood 50 = .ok (.bipush 20, 2) := dg_at gg113 29 rfl
theorem dX8_isGood_52 : decode cX8_isGood 52 = .ok (.invokevirtual 82, 3) := dg_at gg113 30 rfl
theorem dX8_isGood_55 : decode cX8_isGood 55 = .ok (.ifCond .eq 53, 3) := dg_at gg113 31 rfl
theorem dX8_isGood_58 : decode cX8_isGood 58 = .ok (.aload_n 0, 1) := dg_at gg113 32 rfl
theorem dX8_isGood_59 : decode cX8_isGood 59 = .ok (.getfield 42, 3) := dg_at gg113 33 rfl
theorem dX8_isGood_62 : decode cX8_isGood 62 = .ok (.iconst 0, 1) := dg_at gg113 34 rfl
theorem dX8_isGood_63 : decode cX8_isGood 63 = .ok (.iaload, 1) := dg_at gg113 35 rfl
theorem dX8_isGood_64 : decode cX8_isGood 64 = .ok (.bipush 20, 2) := dg_at gg113 36 rfl
theorem dX8_isGood_66 : decode cX8_isGood 66 = .ok (.aload_n 0, 1) := dg_at gg113 37 rfl
theorem dX8_isGood_67 : decode cX8_isGood 67 = .ok (.getfield 42, 3) := dg_at gg113 38 rfl
theorem dX8_isGood_70 : decode cX8_isGood 70 = .ok (.iconst 1, 1) := dg_at gg113 39 rfl
theorem dX8_isGood_71 : decode cX8_isGood 71 = .ok (.iaload, 1) := dg_at gg113 40 rfl
theorem dX8_isGood_72 : decode cX8_isGood 72 = .ok (.imul, 1) := dg_at gg113 41 rfl
theorem dX8_isGood_73 : decode cX8_isGood 73 = .ok (.if_icmp .lt 35, 3) := dg_at gg113 42 rfl
theorem dX8_isGood_76 : decode cX8_isGood 76 = .ok (.aload_n 0, 1) := dg_at gg113 43 rfl
theorem dX8_isGood_77 : decode cX8_isGood 77 = .ok (.iconst 3, 1) := dg_at gg113 44 rfl
theorem dX8_isGood_78 : decode cX8_isGood 78 = .ok (.iconst 2, 1) := dg_at gg113 45 rfl
theorem dX8_isGood_79 : decode cX8_isGood 79 = .ok (.bipush 20, 2) := dg_at gg113 46 rfl
theorem dX8_isGood_81 : decode cX8_isGood 81 = .ok (.invokevirtual 82, 3) := dg_at gg113 47 rfl
theorem dX8_isGood_84 : decode cX8_isGood 84 = .ok (.ifCond .eq 24, 3) := dg_at gg113 48 rfl
theorem dX8_isGood_87 : decode cX8_isGood 87 = .ok (.aload_n 0, 1) := dg_at gg113 49 rfl
theorem dX8_isGood_88 : decode cX8_isGood 88 = .ok (.iconst 2, 1) := dg_at gg113 50 rfl
theorem dX8_isGood_89 : decode cX8_isGood 89 = .ok (.iconst 1, 1) := dg_at gg113 51 rfl
theorem dX8_isGood_90 : decode cX8_isGood 90 = .ok (.aload_n 0, 1) := dg_at gg113 52 rfl
theorem dX8_isGood_91 : decode cX8_isGood 91 = .ok (.getfield 42, 3) := dg_at gg113 53 rfl
theorem dX8_isGood_94 : decode cX8_isGood 94 = .ok (.iconst 3, 1) := dg_at gg113 54 rfl
theorem dX8_isGood_95 : decode cX8_isGood 95 = .ok (.iaload, 1) := dg_at gg113 55 rfl
theorem dX8_isGood_96 : decode cX8_isGood 96 = .ok (.iconst 1, 1) := dg_at gg113 56 rfl
theorem dX8_isGood_97 : decode cX8_isGood 97 = .ok (.isub, 1) := dg_at gg113 57 rfl
theorem dX8_isGood_98 : decode cX8_isGood 98 = .ok (.invokevirtual 82, 3) := dg_at gg113 58 rfl
theorem dX8_isGood_101 : decode cX8_isGood 101 = .ok (.ifCond .eq 7, 3) := dg_at gg113 59 rfl
def gl114 : List (Nat × Instr × Nat) := [(104, .iconst 1, 1), (105, .goto 4, 3), (108, .iconst 0, 1), (109, .ireturn, 1), (110, .iload_n 1, 1), (111, .bipush 111, 2), (113, .if_icmp .ne 26, 3), (116, .aload_n 0, 1), (117, .getfield 13, 3), (120, .bipush 10, 2), (122, .aload_n 0, 1), (123, .getfield 42, 3), (126, .iconst 0, 1), (127, .iaload, 1), (128, .iastore, 1), (129, .aload_n 0, 1), (130, .iconst 0, 1), (131, .iconst 0, 1), (132, .sipush 999, 3), (135, .invokevirtual 82, 3), (138, .ireturn, 1), (139, .iload_n 1, 1), (140, .bipush 115, 2), (142, .if_icmp .ne 25, 3), (145, .aload_n 0, 1), (146, .getfield 13, 3), (149, .bipush 11, 2), (151, .aload_n 0, 1), (152, .getfield 42, 3), (155, .iconst 0, 1), (156, .iaload, 1), (157, .iastore, 1), (158, .aload_n 0, 1), (159, .iconst 0, 1), (160, .iconst 0, 1), (161, .bipush 99, 2), (163, .invokevirtual 82, 3), (166, .ireturn, 1), (167, .aload_n 0, 1), (168, .iconst 0, 1), (169, .iconst 0, 1), (170, .iconst 4, 1), (171, .invokevirtual 82, 3), (174, .ifCond .eq 57, 3), (177, .aload_n 0, 1), (178, .iconst 1, 1), (179, .iconst 0, 1), (180, .iconst 3, 1), (181, .invokevirtual 82, 3), (184, .ifCond .eq 47, 3), (187, .aload_n 0, 1), (188, .iconst 2, 1), (189, .iconst 1, 1), (190, .bipush 99, 2), (192, .invokevirtual 82, 3), (195, .ifCond .eq 36, 3), (198, .aload_n 0, 1), (199, .iconst 3, 1), (200, .iconst 0, 1), (201, .bipush 99, 2)]
set_option maxRecDepth 100000 in
theorem gg114 : gl114.all (fun x => decide (decode cX8_isGood x.1 = .ok (x.2.1, x.2.2))) = true := by decide +kernel
theorem dX8_isGood_104 : decode cX8_isGood 104 = .ok (.iconst 1, 1) := dg_at gg114 0 rfl
theorem dX8_isGood_105 : decode cX8_isGood 105 = .ok (.goto 4, 3) := dg_at gg114 1 rfl
theorem dX8_isGood_108 : decode cX8_isGood 108 = .ok (.iconst 0, 1) := dg_at gg114 2 rfl
theorem dX8_isGood_109 : decode cX8_isGood 109 = .ok (.ireturn, 1) := dg_at gg114 3 rfl
theorem dX8_isGood_110 : decode cX8_isGood 110 = .ok (.iload_n 1, 1) := dg_at gg114 4 rfl
theorem dX8_isGood_111 : decode cX8_isGood 111 = .ok (.bipush 111, 2) := dg_at gg114 5 rfl
theorem dX8_isGood_113 : decode cX8_isGood 113 = .ok (.if_icmp .ne 26, 3) := dg_at gg114 6 rfl
theorem dX8_isGood_116 : decode cX8_isGood 116 = .ok (.aload_n 0, 1) := dg_at gg114 7 rfl
theorem dX8_isGood_117 : decode cX8_isGood 117 = .ok (.getfield 13, 3) := dg_at gg114 8 rfl
theorem dX8_isGood_120 : decode cX8_isGood 120 = .ok (.bipush 10, 2) := dg_at gg114 9 rfl
theorem dX8_isGood_122 : decode cX8_isGood 122 = .ok (.aload_n 0, 1) := dg_at gg114 10 rfl
theorem dX8_isGood_123 : decode cX8_isGood 123 = .ok (.getfield 42, 3) := dg_at gg114 11 rfl
theorem dX8_isGood_126 : decode cX8_isGood 126 = .ok (.iconst 0, 1) := dg_at gg114 12 rfl
theorem dX8_isGood_127 : decode cX8_isGood 127 = .ok (.iaload, 1) := dg_at gg114 13 rfl
theorem dX8_isGood_128 : decode cX8_isGood 128 = .ok (.iastore, 1) := dg_at gg114 14 rfl
theorem dX8_isGood_129 : decode cX8_isGood 129 = .ok (.aload_n 0, 1) := dg_at gg114 15 rfl
theorem dX8_isGood_130 : decode cX8_isGood 130 = .ok (.iconst 0, 1) := dg_at gg114 16 rfl
theorem dX8_isGood_131 : decode cX8_isGood 131 = .ok (.iconst 0, 1) := dg_at gg114 17 rfl
theorem dX8_isGood_132 : decode cX8_isGood 132 = .ok (.sipush 999, 3) := dg_at gg114 18 rfl
theorem dX8_isGood_135 : decode cX8_isGood 135 = .ok (.invokevirtual 82, 3) := dg_at gg114 19 rfl
theorem dX8_isGood_138 : decode cX8_isGood 138 = .ok (.ireturn, 1) := dg_at gg114 20 rfl
theorem dX8_isGood_139 : decode cX8_isGood 139 = .ok (.iload_n 1, 1) := dg_at gg114 21 rfl
theorem dX8_isGood_140 : decode cX8_isGood 140 = .ok (.bipush 115, 2) := dg_at gg114 22 rfl
theorem dX8_isGood_142 : decode cX8_isGood 142 = .ok (.if_icmp .ne 25, 3) := dg_at gg114 23 rfl
theorem dX8_isGood_145 : decode cX8_isGood 145 = .ok (.aload_n 0, 1) := dg_at gg114 24 rfl
theorem dX8_isGood_146 : decode cX8_isGood 146 = .ok (.getfield 13, 3) := dg_at gg114 25 rfl
theorem dX8_isGood_149 : decode cX8_isGood 149 = .ok (.bipush 11, 2) := dg_at gg114 26 rfl
theorem dX8_isGood_151 : decode cX8_isGood 151 = .ok (.aload_n 0, 1) := dg_at gg114 27 rfl
theorem dX8_isGood_152 : decode cX8_isGood 152 = .ok (.getfield 42, 3) := dg_at gg114 28 rfl
theorem dX8_isGood_155 : decode cX8_isGood 155 = .ok (.iconst 0, 1) := dg_at gg114 29 rfl
theorem dX8_isGood_156 : decode cX8_isGood 156 = .ok (.iaload, 1) := dg_at gg114 30 rfl
theorem dX8_isGood_157 : decode cX8_isGood 157 = .ok (.iastore, 1) := dg_at gg114 31 rfl
theorem dX8_isGood_158 : decode cX8_isGood 158 = .ok (.aload_n 0, 1) := dg_at gg114 32 rfl
theorem dX8_isGood_159 : decode cX8_isGood 159 = .ok (.iconst 0, 1) := dg_at gg114 33 rfl
theorem dX8_isGood_160 : decode cX8_isGood 160 = .ok (.iconst 0, 1) := dg_at gg114 34 rfl
theorem dX8_isGood_161 : decode cX8_isGood 161 = .ok (.bipush 99, 2) := dg_at gg114 35 rfl
theorem dX8_isGood_163 : decode cX8_isGood 163 = .ok (.invokevirtual 82, 3) := dg_at gg114 36 rfl
theorem dX8_isGood_166 : decode cX8_isGood 166 = .ok (.ireturn, 1) := dg_at gg114 37 rfl
theorem dX8_isGood_167 : decode cX8_isGood 167 = .ok (.aload_n 0, 1) := dg_at gg114 38 rfl
theorem dX8_isGood_168 : decode cX8_isGood 168 = .ok (.iconst 0, 1) := dg_at gg114 39 rfl
theorem dX8_isGood_169 : decode cX8_isGood 169 = .ok (.iconst 0, 1) := dg_at gg114 40 rfl
theorem dX8_isGood_170 : decode cX8_isGood 170 = .ok (.iconst 4, 1) := dg_at gg114 41 rfl
theorem dX8_isGood_171 : decode cX8_isGood 171 = .ok (.invokevirtual 82, 3) := dg_at gg114 42 rfl
theorem dX8_isGood_174 : decode cX8_isGood 174 = .ok (.ifCond .eq 57, 3) := dg_at gg114 43 rfl
theorem dX8_isGood_177 : decode cX8_isGood 177 = .ok (.aload_n 0, 1) := dg_at gg114 44 rfl
theorem dX8_isGood_178 : decode cX8_isGood 178 = .ok (.iconst 1, 1) := dg_at gg114 45 rfl
theorem dX8_isGood_179 : decode cX8_isGood 179 = .ok (.iconst 0, 1) := dg_at gg114 46 rfl
theorem dX8_isGood_180 : decode cX8_isGood 180 = .ok (.iconst 3, 1) := dg_at gg114 47 rfl
theorem dX8_isGood_181 : decode cX8_isGood 181 = .ok (.invokevirtual 82, 3) := dg_at gg114 48 rfl
theorem dX8_isGood_184 : decode cX8_isGood 184 = .ok (.ifCond .eq 47, 3) := dg_at gg114 49 rfl
theorem dX8_isGood_187 : decode cX8_isGood 187 = .ok (.aload_n 0, 1) := dg_at gg114 50 rfl
theorem dX8_isGood_188 : decode cX8_isGood 188 = .ok (.iconst 2, 1) := dg_at gg114 51 rfl
theorem dX8_isGood_189 : decode cX8_isGood 189 = .ok (.iconst 1, 1) := dg_at gg114 52 rfl
theorem dX8_isGood_190 : decode cX8_isGood 190 = .ok (.bipush 99, 2) := dg_at gg114 53 rfl
theorem dX8_isGood_192 : decode cX8_isGood 192 = .ok (.invokevirtual 82, 3) := dg_at gg114 54 rfl
theorem dX8_isGood_195 : decode cX8_isGood 195 = .ok (.ifCond .eq 36, 3) := dg_at gg114 55 rfl
theorem dX8_isGood_198 : decode cX8_isGood 198 = .ok (.aload_n 0, 1) := dg_at gg114 56 rfl
theorem dX8_isGood_199 : decode cX8_isGood 199 = .ok (.iconst 3, 1) := dg_at gg114 57 rfl
theorem dX8_isGood_200 : decode cX8_isGood 200 = .ok (.iconst 0, 1) := dg_at gg114 58 rfl
theorem dX8_isGood_201 : decode cX8_isGood 201 = .ok (.bipush 99, 2) := dg_at gg114 59 rfl
def gl115 : List (Nat × Instr × Nat) := [(203, .invokevirtual 82, 3), (206, .ifCond .eq 25, 3), (209, .aload_n 0, 1), (210, .iconst 4, 1), (211, .iconst 0, 1), (212, .bipush 99, 2), (214, .invokevirtual 82, 3), (217, .ifCond .eq 14, 3), (220, .aload_n 0, 1), (221, .getfield 17, 3), (224, .iconst 1, 1), (225, .iaload, 1), (226, .bipush 6, 2), (228, .if_icmp .ne 5, 3), (231, .iconst 0, 1), (232, .ireturn, 1), (233, .iconst 0, 1), (234, .istore_n 2, 1), (235, .iload_n 2, 1), (236, .iconst 5, 1), (237, .if_icmp .ge 33, 3), (240, .aload_n 0, 1), (241, .getfield 20, 3), (244, .bipush 30, 2), (246, .iconst 5, 1), (247, .aload_n 0, 1), (248, .getfield 17, 3), (251, .iconst 1, 1), (252, .iaload, 1), (253, .imul, 1), (254, .iadd, 1), (255, .iload_n 2, 1), (256, .iadd, 1), (257, .aload_n 0, 1), (258, .getfield 42, 3), (261, .iload_n 2, 1), (262, .iaload, 1), (263, .iastore, 1), (264, .iinc 2 1, 3), (267, .goto (-32), 3), (270, .aload_n 0, 1), (271, .getfield 17, 3), (274, .iconst 1, 1), (275, .dup2, 1), (276, .iaload, 1), (277, .iconst 1, 1), (278, .iadd, 1), (279, .iastore, 1), (280, .iconst 1, 1), (281, .ireturn, 1)]
set_option maxRecDepth 100000 in
theorem gg115 : gl115.all (fun x => decide (decode cX8_isGood x.1 = .ok (x.2.1, x.2.2))) = true := by decide +kernel
theorem dX8_isGood_203 : decode cX8_isGood 203 = .ok (.invokevirtual 82, 3) := dg_at gg115 0 rfl
theorem dX8_isGood_206 : decode cX8_isGood 206 = .ok (.ifCond .eq 25, 3) := dg_at gg115 1 rfl
theorem dX8_isGood_209 : decode cX8_isGood 209 = .ok (.aload_n 0, 1) := dg_at gg115 2 rfl
theorem dX8_isGood_210 : decode cX8_isGood 210 = .ok (.iconst 4, 1) := dg_at gg115 3 rfl
theorem dX8_isGood_211 : decode cX8_isGood 211 = .ok (.iconst 0, 1) := dg_at gg115 4 rfl
theorem dX8_isGood_212 : decode cX8_isGood 212 = .ok (.bipush 99, 2) := dg_at gg115 5 rfl
theorem dX8_isGood_214 : decode cX8_isGood 214 = .ok (.invokevirtual 82, 3) := dg_at gg115 6 rfl
theorem dX8_isGood_217 : decode cX8_isGood 217 = .ok (.ifCond .eq 14, 3) := dg_at gg115 7 rfl
theorem dX8_isGood_220 : decode cX8_isGood 220 = .ok (.aload_n 0, 1) := dg_at gg115 8 rfl
theorem dX8_isGood_221 : decode cX8_isGood 221 = .ok (.getfield 17, 3) := dg_at gg115 9 rfl
theorem dX8_isGood_224 : decode cX8_isGood 224 = .ok (.iconst 1, 1) := dg_at gg115 10 rfl
theorem dX8_isGood_225 : decode cX8_isGood 225 = .ok (.iaload, 1) := dg_at gg115 11 rfl
theorem dX8_isGood_226 : decode cX8_isGood 226 = .ok (.bipush 6, 2) := dg_at gg115 12 rfl
theorem dX8_isGood_228 : decode cX8_isGood 228 = .ok (.if_icmp .ne 5, 3) := dg_at gg115 13 rfl
theorem dX8_isGood_231 : decode cX8_isGood 231 = .ok (.iconst 0, 1) := dg_at gg115 14 rfl
theorem dX8_isGood_232 : decode cX8_isGood 232 = .ok (.ireturn, 1) := dg_at gg115 15 rfl
theorem dX8_isGood_233 : decode cX8_isGood 233 = .ok (.iconst 0, 1) := dg_at gg115 16 rfl
theorem dX8_isGood_234 : decode cX8_isGood 234 = .ok (.istore_n 2, 1) := dg_at gg115 17 rfl
theorem dX8_isGood_235 : decode cX8_isGood 235 = .ok (.iload_n 2, 1) := dg_at gg115 18 rfl
theorem dX8_isGood_236 : decode cX8_isGood 236 = .ok (.iconst 5, 1) := dg_at gg115 19 rfl
theorem dX8_isGood_237 : decode cX8_isGood 237 = .ok (.if_icmp .ge 33, 3) := dg_at gg115 20 rfl
theorem dX8_isGood_240 : decode cX8_isGood 240 = .ok (.aload_n 0, 1) := dg_at gg115 21 rfl
theorem dX8_isGood_241 : decode cX8_isGood 241 = .ok (.getfield 20, 3) := dg_at gg115 22 rfl
theorem dX8_isGood_244 : decode cX8_isGood 244 = .ok (.bipush 30, 2) := dg_at gg115 23 rfl
theorem dX8_isGood_246 : decode cX8_isGood 246 = .ok (.iconst 5, 1) := dg_at gg115 24 rfl
theorem dX8_isGood_247 : decode cX8_isGood 247 = .ok (.aload_n 0, 1) := dg_at gg115 25 rfl
theorem dX8_isGood_248 : decode cX8_isGood 248 = .ok (.getfield 17, 3) := dg_at gg115 26 rfl
theorem dX8_isGood_251 : decode cX8_isGood 251 = .ok (.iconst 1, 1) := dg_at gg115 27 rfl
theorem dX8_isGood_252 : decode cX8_isGood 252 = .ok (.iaload, 1) := dg_at gg115 28 rfl
theorem dX8_isGood_253 : decode cX8_isGood 253 = .ok (.imul, 1) := dg_at gg115 29 rfl
theorem dX8_isGood_254 : decode cX8_isGood 254 = .ok (.iadd, 1) := dg_at gg115 30 rfl
theorem dX8_isGood_255 : decode cX8_isGood 255 = .ok (.iload_n 2, 1) := dg_at gg115 31 rfl
theorem dX8_isGood_256 : decode cX8_isGood 256 = .ok (.iadd, 1) := dg_at gg115 32 rfl
theorem dX8_isGood_257 : decode cX8_isGood 257 = .ok (.aload_n 0, 1) := dg_at gg115 33 rfl
theorem dX8_isGood_258 : decode cX8_isGood 258 = .ok (.getfield 42, 3) := dg_at gg115 34 rfl
theorem dX8_isGood_261 : decode cX8_isGood 261 = .ok (.iload_n 2, 1) := dg_at gg115 35 rfl
theorem dX8_isGood_262 : decode cX8_isGood 262 = .ok (.iaload, 1) := dg_at gg115 36 rfl
theorem dX8_isGood_263 : decode cX8_isGood 263 = .ok (.iastore, 1) := dg_at gg115 37 rfl
theorem dX8_isGood_264 : decode cX8_isGood 264 = .ok (.iinc 2 1, 3) := dg_at gg115 38 rfl
theorem dX8_isGood_267 : decode cX8_isGood 267 = .ok (.goto (-32), 3) := dg_at gg115 39 rfl
theorem dX8_isGood_270 : decode cX8_isGood 270 = .ok (.aload_n 0, 1) := dg_at gg115 40 rfl
theorem dX8_isGood_271 : decode cX8_isGood 271 = .ok (.getfield 17, 3) := dg_at gg115 41 rfl
theorem dX8_isGood_274 : decode cX8_isGood 274 = .ok (.iconst 1, 1) := dg_at gg115 42 rfl
theorem dX8_isGood_275 : decode cX8_isGood 275 = .ok (.dup2, 1) := dg_at gg115 43 rfl
theorem dX8_isGood_276 : decode cX8_isGood 276 = .ok (.iaload, 1) := dg_at gg115 44 rfl
theorem dX8_isGood_277 : decode cX8_isGood 277 = .ok (.iconst 1, 1) := dg_at gg115 45 rfl
theorem dX8_isGood_278 : decode cX8_isGood 278 = .ok (.iadd, 1) := dg_at gg115 46 rfl
theorem dX8_isGood_279 : decode cX8_isGood 279 = .ok (.iastore, 1) := dg_at gg115 47 rfl
theorem dX8_isGood_280 : decode cX8_isGood 280 = .ok (.iconst 1, 1) := dg_at gg115 48 rfl
theorem dX8_isGood_281 : decode cX8_isGood 281 = .ok (.ireturn, 1) := dg_at gg115 49 rfl
def gl116 : List (Nat × Instr × Nat) := [(0, .aload_n 0, 1), (1, .getfield 17, 3), (4, .iconst 1, 1), (5, .iconst 0, 1), (6, .iastore, 1), (7, .aload_n 0, 1), (8, .getfield 13, 3), (11, .bipush 6, 2), (13, .sipush 745, 3), (16, .iastore, 1), (17, .aload_n 0, 1), (18, .getfield 13, 3), (21, .bipush 7, 2), (23, .iconst 1, 1), (24, .iastore, 1), (25, .aload_n 0, 1), (26, .getfield 13, 3), (29, .bipush 8, 2), (31, .iconst 1, 1), (32, .iastore, 1), (33, .aload_n 0, 1), (34, .getfield 13, 3), (37, .bipush 9, 2), (39, .iconst 2, 1), (40, .iastore, 1), (41, .aload_n 0, 1), (42, .getfield 13, 3), (45, .bipush 10, 2), (47, .iconst 0, 1), (48, .iastore, 1), (49, .aload_n 0, 1), (50, .getfield 13, 3), (53, .bipush 11, 2), (55, .iconst 0, 1), (56, .iastore, 1), (57, .return_, 1)]
set_option maxRecDepth 100000 in
theorem gg116 : gl116.all (fun x => decide (decode cX8_begins x.1 = .ok (x.2.1, x.2.2))) = true := by decide +kernel
theorem dX8_begins_0 : decode cX8_begins 0 = .ok (.aload_n 0, 1) := dg_at gg116 0 rfl
theorem dX8_begins_1 : decode cX8_begins 1 = .ok (.getfield 17, 3) := dg_at gg116 1 rfl
theorem dX8_begins_4 : decode cX8_begins 4 = .ok (.iconst 1, 1) := dg_at gg116 2 rfl
theorem dX8_begins_5 : decode cX8_begins 5 = .ok (.iconst 0, 1) := dg_at gg116 3 rfl
theorem dX8_begins_6 : decode cX8_begins 6 = .ok (.iastore, 1) := dg_at gg116 4 rfl
theorem dX8_begins_7 : decode cX8_begins 7 = .ok (.aload_n 0, 1) := dg_at gg116 5 rfl
theorem dX8_begins_8 : decode cX8_begins 8 = .ok (.getfield 13, 3) := dg_at gg116 6 rfl
theorem dX8_begins_11 : decode cX8_begins 11 = .ok (.bipush 6, 2) := dg_at gg116 7 rfl
theorem dX8_begins_13 : decode cX8_begins 13 = .ok (.sipush 745, 3) := dg_at gg116 8 rfl
theorem dX8_begins_16 : decode cX8_begins 16 = .ok (.iastore, 1) := dg_at gg116 9 rfl
theorem dX8_begins_17 : decode cX8_begins 17 = .ok (.aload_n 0, 1) := dg_at gg116 10 rfl
theorem dX8_begins_18 : decode cX8_begins 18 = .ok (.getfield 13, 3) := dg_at gg116 11 rfl
theorem dX8_begins_21 : decode cX8_begins 21 = .ok (.bipush 7, 2) := dg_at gg116 12 rfl
theorem dX8_begins_23 : decode cX8_begins 23 = .ok (.iconst 1, 1) := dg_at gg116 13 rfl
theorem dX8_begins_24 : decode cX8_begins 24 = .ok (.iastore, 1) := dg_at gg116 14 rfl
theorem dX8_begins_25 : decode cX8_begins 25 = .ok (.aload_n 0, 1) := dg_at gg116 15 rfl
theorem dX8_begins_26 : decode cX8_begins 26 = .ok (.getfield 13, 3) := dg_at gg116 16 rfl
theorem dX8_begins_29 : decode cX8_begins 29 = .ok (.bipush 8, 2) := dg_at gg116 17 rfl
theorem dX8_begins_31 : decode cX8_begins 31 = .ok (.iconst 1, 1) := dg_at gg116 18 rfl
theorem dX8_begins_32 : decode cX8_begins 32 = .ok (.iastore, 1) := dg_at gg116 19 rfl
theorem dX8_begins_33 : decode cX8_begins 33 = .ok (.aload_n 0, 1) := dg_at gg116 20 rfl
theorem dX8_begins_34 : decode cX8_begins 34 = .ok (.getfield 13, 3) := dg_at gg116 21 rfl
theorem dX8_begins_37 : decode cX8_begins 37 = .ok (.bipush 9, 2) := dg_at gg116 22 rfl
theorem dX8_begins_39 : decode cX8_begins 39 = .ok (.iconst 2, 1) := dg_at gg116 23 rfl
theorem dX8_begins_40 : decode cX8_begins 40 = .ok (.iastore, 1) := dg_at gg116 24 rfl
theorem dX8_begins_41 : decode cX8_begins 41 = .ok (.aload_n 0, 1) := dg_at gg116 25 rfl
theorem dX8_begins_42 : decode cX8_begins 42 = .ok (.getfield 13, 3) := dg_at gg116 26 rfl
theorem dX8_begins_45 : decode cX8_begins 45 = .ok (.bipush 10, 2) := dg_at gg116 27 rfl
theorem dX8_begins_47 : decode cX8_begins 47 = .ok (.iconst 0, 1) := dg_at gg116 28 rfl
theorem dX8_begins_48 : decode cX8_begins 48 = .ok (.iastore, 1) := dg_at gg116 29 rfl
theorem dX8_begins_49 : decode cX8_begins 49 = .ok (.aload_n 0, 1) := dg_at gg116 30 rfl
theorem dX8_begins_50 : decode cX8_begins 50 = .ok (.getfield 13, 3) := dg_at gg116 31 rfl
theorem dX8_begins_53 : decode cX8_begins 53 = .ok (.bipush 11, 2) := dg_at gg116 32 rfl
theorem dX8_begins_55 : decode cX8_begins 55 = .ok (.iconst 0, 1) := dg_at gg116 33 rfl
theorem dX8_begins_56 : decode cX8_begins 56 = .ok (.iastore, 1) := dg_at gg116 34 rfl
theorem dX8_begins_57 : decode cX8_begins 57 = .ok (.return_, 1) := dg_at gg116 35 rfl
def gl117 : List (Nat × Instr × Nat) := [(0, .iconst 0, 1), (1, .istore_n 1, 1), (2, .iload_n 1, 1), (3, .bipush 6, 2), (5, .if_icmp .ge 24, 3), (8, .aload_n 0, 1), (9, .getfield 13, 3), (12, .iload_n 1, 1), (13, .aload_n 0, 1), (14, .getfield 13, 3), (17, .bipush 6, 2), (19, .iload_n 1, 1), (20, .iadd, 1), (21, .iaload, 1), (22, .iastore, 1), (23, .iinc 1 1, 3), (26, .goto (-24), 3), (29, .aload_n 0, 1), (30, .getfield 17, 3), (33, .iconst 0, 1), (34, .aload_n 0, 1), (35, .getfield 17, 3), (38, .iconst 1, 1), (39, .iaload, 1), (40, .iastore, 1), (41, .iconst 0, 1), (42, .istore_n 1, 1), (43, .iload_n 1, 1), (44, .bipush 30, 2), (46, .if_icmp .ge 24, 3), (49, .aload_n 0, 1), (50, .getfield 20, 3), (53, .iload_n 1, 1), (54, .aload_n 0, 1), (55, .getfield 20, 3), (58, .bipush 30, 2), (60, .iload_n 1, 1), (61, .iadd, 1), (62, .iaload, 1), (63, .iastore, 1), (64, .iinc 1 1, 3), (67, .goto (-24), 3), (70, .iconst 0, 1), (71, .istore_n 1, 1), (72, .iload_n 1, 1), (73, .bipush 6, 2), (75, .if_icmp .ge 25, 3), (78, .aload_n 0, 1), (79, .getfield 23, 3), (82, .iload_n 1, 1), (83, .aload_n 0, 1), (84, .getfield 20, 3), (87, .iconst 5, 1), (88, .iload_n 1, 1), (89, .imul, 1), (90, .iconst 1, 1), (91, .iadd, 1), (92, .iaload, 1), (93, .iastore, 1), (94, .iinc 1 1, 3)]
set_option maxRecDepth 100000 in
theorem gg117 : gl117.all (fun x => decide (decode cX8_takes x.1 = .ok (x.2.1, x.2.2))) = true := by decide +kernel
theorem dX8_takes_0 : decode cX8_takes 0 = .ok (.iconst 0, 1) := dg_at gg117 0 rfl
theorem dX8_takes_1 : decode cX8_takes 1 = .ok (.istore_n 1, 1) := dg_at gg117 1 rfl
theorem dX8_takes_2 : decode cX8_takes 2 = .ok (.iload_n 1, 1) := dg_at gg117 2 rfl
theorem dX8_takes_3 : decode cX8_takes 3 = .ok (.bipush 6, 2) := dg_at gg117 3 rfl
theorem dX8_takes_5 : decode cX8_takes 5 = .ok (.if_icmp .ge 24, 3) := dg_at gg117 4 rfl
theorem dX8_takes_8 : decode cX8_takes 8 = .ok (.aload_n 0, 1) := dg_at gg117 5 rfl
theorem dX8_takes_9 : decode cX8_takes 9 = .ok (.getfield 13, 3) := dg_at gg117 6 rfl
theorem dX8_takes_12 : decode cX8_takes 12 = .ok (.iload_n 1, 1) := dg_at gg117 7 rfl
theorem dX8_takes_13 : decode cX8_takes 13 = .ok (.aload_n 0, 1) := dg_at gg117 8 rfl
theorem dX8_takes_14 : decode cX8_takes 14 = .ok (.getfield 13, 3) := dg_at gg117 9 rfl
theorem dX8_takes_17 : decode cX8_takes 17 = .ok (.bipush 6, 2) := dg_at gg117 10 rfl
theorem dX8_takes_19 : decode cX8_takes 19 = .ok (.iload_n 1, 1) := dg_at gg117 11 rfl
theorem dX8_takes_20 : decode cX8_takes 20 = .ok (.iadd, 1) := dg_at gg117 12 rfl
theorem dX8_takes_21 : decode cX8_takes 21 = .ok (.iaload, 1) := dg_at gg117 13 rfl
theorem dX8_takes_22 : decode cX8_takes 22 = .ok (.iastore, 1) := dg_at gg117 14 rfl
theorem dX8_takes_23 : decode cX8_takes 23 = .ok (.iinc 1 1, 3) := dg_at gg117 15 rfl
theorem dX8_takes_26 : decode cX8_takes 26 = .ok (.goto (-24), 3) := dg_at gg117 16 rfl
theorem dX8_takes_29 : decode cX8_takes 29 = .ok (.aload_n 0, 1) := dg_at gg117 17 rfl
theorem dX8_takes_30 : decode cX8_takes 30 = .ok (.getfield 17, 3) := dg_at gg117 18 rfl
theorem dX8_takes_33 : decode cX8_takes 33 = .ok (.iconst 0, 1) := dg_at gg117 19 rfl
theorem dX8_takes_34 : decode cX8_takes 34 = .ok (.aload_n 0, 1) := dg_at gg117 20 rfl
theorem dX8_takes_35 : decode cX8_takes 35 = .ok (.getfield 17, 3) := dg_at gg117 21 rfl
theorem dX8_takes_38 : decode cX8_takes 38 = .ok (.iconst 1, 1) := dg_at gg117 22 rfl
theorem dX8_takes_39 : decode cX8_takes 39 = .ok (.iaload, 1) := dg_at gg117 23 rfl
theorem dX8_takes_40 : decode cX8_takes 40 = .ok (.iastore, 1) := dg_at gg117 24 rfl
theorem dX8_takes_41 : decode cX8_takes 41 = .ok (.iconst 0, 1) := dg_at gg117 25 rfl
theorem dX8_takes_42 : decode cX8_takes 42 = .ok (.istore_n 1, 1) := dg_at gg117 26 rfl
theorem dX8_takes_43 : decode cX8_takes 43 = .ok (.iload_n 1, 1) := dg_at gg117 27 rfl
theorem dX8_takes_44 : decode cX8_takes 44 = .ok (.bipush 30, 2) := dg_at gg117 28 rfl
theorem dX8_takes_46 : decode cX8_takes 46 = .ok (.if_icmp .ge 24, 3) := dg_at gg117 29 rfl
theorem dX8_takes_49 : decode cX8_takes 49 = .ok (.aload_n 0, 1) := dg_at gg117 30 rfl
theorem dX8_takes_50 : decode cX8_takes 50 = .ok (.getfield 20, 3) := dg_at gg117 31 rfl
theorem dX8_takes_53 : decode cX8_takes 53 = .ok (.iload_n 1, 1) := dg_at gg117 32 rfl
theorem dX8_takes_54 : decode cX8_takes 54 = .ok (.aload_n 0, 1) := dg_at gg117 33 rfl
theorem dX8_takes_55 : decode cX8_takes 55 = .ok (.getfield 20, 3) := dg_at gg117 34 rfl
theorem dX8_takes_58 : decode cX8_takes 58 = .ok (.bipush 30, 2) := dg_at gg117 35 rfl
theorem dX8_takes_60 : decode cX8_takes 60 = .ok (.iload_n 1, 1) := dg_at gg117 36 rfl
theorem dX8_takes_61 : decode cX8_takes 61 = .ok (.iadd, 1) := dg_at gg117 37 rfl
theorem dX8_takes_62 : decode cX8_takes 62 = .ok (.iaload, 1) := dg_at gg117 38 rfl
theorem dX8_takes_63 : decode cX8_takes 63 = .ok (.iastore, 1) := dg_at gg117 39 rfl
theorem dX8_takes_64 : decode cX8_takes 64 = .ok (.iinc 1 1, 3) := dg_at gg117 40 rfl
theorem dX8_takes_67 : decode cX8_takes 67 = .ok (.goto (-24), 3) := dg_at gg117 41 rfl
theorem dX8_takes_70 : decode cX8_takes 70 = .ok (.iconst 0, 1) := dg_at gg117 42 rfl
theorem dX8_takes_71 : decode cX8_takes 71 = .ok (.istore_n 1, 1) := dg_at gg117 43 rfl
theorem dX8_takes_72 : decode cX8_takes 72 = .ok (.iload_n 1, 1) := dg_at gg117 44 rfl
theorem dX8_takes_73 : decode cX8_takes 73 = .ok (.bipush 6, 2) := dg_at gg117 45 rfl
theorem dX8_takes_75 : decode cX8_takes 75 = .ok (.if_icmp .ge 25, 3) := dg_at gg117 46 rfl
theorem dX8_takes_78 : decode cX8_takes 78 = .ok (.aload_n 0, 1) := dg_at gg117 47 rfl
theorem dX8_takes_79 : decode cX8_takes 79 = .ok (.getfield 23, 3) := dg_at gg117 48 rfl
theorem dX8_takes_82 : decode cX8_takes 82 = .ok (.iload_n 1, 1) := dg_at gg117 49 rfl
theorem dX8_takes_83 : decode cX8_takes 83 = .ok (.aload_n 0, 1) := dg_at gg117 50 rfl
theorem dX8_takes_84 : decode cX8_takes 84 = .ok (.getfield 20, 3) := dg_at gg117 51 rfl
theorem dX8_takes_87 : decode cX8_takes 87 = .ok (.iconst 5, 1) := dg_at gg117 52 rfl
theorem dX8_takes_88 : decode cX8_takes 88 = .ok (.iload_n 1, 1) := dg_at gg117 53 rfl
theorem dX8_takes_89 : decode cX8_takes 89 = .ok (.imul, 1) := dg_at gg117 54 rfl
theorem dX8_takes_90 : decode cX8_takes 90 = .ok (.iconst 1, 1) := dg_at gg117 55 rfl
theorem dX8_takes_91 : decode cX8_takes 91 = .ok (.iadd, 1) := dg_at gg117 56 rfl
theorem dX8_takes_92 : decode cX8_takes 92 = .ok (.iaload, 1) := dg_at gg117 57 rfl
theorem dX8_takes_93 : decode cX8_takes 93 = .ok (.iastore, 1) := dg_at gg117 58 rfl
theorem dX8_takes_94 : decode cX8_takes 94 = .ok (.iinc 1 1, 3) := dg_at gg117 59 rfl
def gl118 : List (Nat × Instr × Nat) := [(97, .goto (-25), 3), (100, .iconst 0, 1), (101, .istore_n 1, 1), (102, .iload_n 1, 1), (103, .iconst 4, 1), (104, .if_icmp .ge 16, 3), (107, .aload_n 0, 1), (108, .getfield 26, 3), (111, .iload_n 1, 1), (112, .lconst 0, 1), (113, .lastore, 1), (114, .iinc 1 1, 3), (117, .goto (-15), 3), (120, .aload_n 0, 1), (121, .iconst 0, 1), (122, .putfield 86, 3), (125, .aload_n 0, 1), (126, .iconst 0, 1), (127, .putfield 89, 3), (130, .aload_n 0, 1), (131, .iconst 0, 1), (132, .putfield 92, 3), (135, .aload_n 0, 1), (136, .iconst 0, 1), (137, .putfield 95, 3), (140, .return_, 1)]
set_option maxRecDepth 100000 in
theorem gg118 : gl118.all (fun x => decide (decode cX8_takes x.1 = .ok (x.2.1, x.2.2))) = true := by decide +kernel
theorem dX8_takes_97 : decode cX8_takes 97 = .ok (.goto (-25), 3) := dg_at gg118 0 rfl
theorem dX8_takes_100 : decode cX8_takes 100 = .ok (.iconst 0, 1) := dg_at gg118 1 rfl
theorem dX8_takes_101 : decode cX8_takes 101 = .ok (.istore_n 1, 1) := dg_at gg118 2 rfl
theorem dX8_takes_102 : decode cX8_takes 102 = .ok (.iload_n 1, 1) := dg_at gg118 3 rfl
theorem dX8_takes_103 : decode cX8_takes 103 = .ok (.iconst 4, 1) := dg_at gg118 4 rfl
theorem dX8_takes_104 : decode cX8_takes 104 = .ok (.if_icmp .ge 16, 3) := dg_at gg118 5 rfl
theorem dX8_takes_107 : decode cX8_takes 107 = .ok (.aload_n 0, 1) := dg_at gg118 6 rfl
theorem dX8_takes_108 : decode cX8_takes 108 = .ok (.getfield 26, 3) := dg_at gg118 7 rfl
theorem dX8_takes_111 : decode cX8_takes 111 = .ok (.iload_n 1, 1) := dg_at gg118 8 rfl
theorem dX8_takes_112 : decode cX8_takes 112 = .ok (.lconst 0, 1) := dg_at gg118 9 rfl
theorem dX8_takes_113 : decode cX8_takes 113 = .ok (.lastore, 1) := dg_at gg118 10 rfl
theorem dX8_takes_114 : decode cX8_takes 114 = .ok (.iinc 1 1, 3) := dg_at gg118 11 rfl
theorem dX8_takes_117 : decode cX8_takes 117 = .ok (.goto (-15), 3) := dg_at gg118 12 rfl
theorem dX8_takes_120 : decode cX8_takes 120 = .ok (.aload_n 0, 1) := dg_at gg118 13 rfl
theorem dX8_takes_121 : decode cX8_takes 121 = .ok (.iconst 0, 1) := dg_at gg118 14 rfl
theorem dX8_takes_122 : decode cX8_takes 122 = .ok (.putfield 86, 3) := dg_at gg118 15 rfl
theorem dX8_takes_125 : decode cX8_takes 125 = .ok (.aload_n 0, 1) := dg_at gg118 16 rfl
theorem dX8_takes_126 : decode cX8_takes 126 = .ok (.iconst 0, 1) := dg_at gg118 17 rfl
theorem dX8_takes_127 : decode cX8_takes 127 = .ok (.putfield 89, 3) := dg_at gg118 18 rfl
theorem dX8_takes_130 : decode cX8_takes 130 = .ok (.aload_n 0, 1) := dg_at gg118 19 rfl
theorem dX8_takes_131 : decode cX8_takes 131 = .ok (.iconst 0, 1) := dg_at gg118 20 rfl
theorem dX8_takes_132 : decode cX8_takes 132 = .ok (.putfield 92, 3) := dg_at gg118 21 rfl
theorem dX8_takes_135 : decode cX8_takes 135 = .ok (.aload_n 0, 1) := dg_at gg118 22 rfl
theorem dX8_takes_136 : decode cX8_takes 136 = .ok (.iconst 0, 1) := dg_at gg118 23 rfl
theorem dX8_takes_137 : decode cX8_takes 137 = .ok (.putfield 95, 3) := dg_at gg118 24 rfl
theorem dX8_takes_140 : decode cX8_takes 140 = .ok (.return_, 1) := dg_at gg118 25 rfl
def gl119 : List (Nat × Instr × Nat) := [(0, .aload_n 0, 1), (1, .iconst 0, 1), (2, .putfield 61, 3), (5, .aload_n 0, 1), (6, .invokevirtual 45, 3), (9, .aload_n 0, 1), (10, .getfield 61, 3), (13, .aload_n 0, 1), (14, .getfield 57, 3), (17, .if_icmp .ge 20, 3), (20, .aload_n 0, 1), (21, .getfield 61, 3), (24, .istore_n 1, 1), (25, .aload_n 0, 1), (26, .invokevirtual 98, 3), (29, .ifCond .ne 5, 3), (32, .iload_n 1, 1), (33, .ireturn, 1), (34, .goto (-25), 3), (37, .bipush (-4), 2), (39, .ireturn, 1)]
set_option maxRecDepth 100000 in
theorem gg119 : gl119.all (fun x => decide (decode cX8_fault x.1 = .ok (x.2.1, x.2.2))) = true := by decide +kernel
theorem dX8_fault_0 : decode cX8_fault 0 = .ok (.aload_n 0, 1) := dg_at gg119 0 rfl
theorem dX8_fault_1 : decode cX8_fault 1 = .ok (.iconst 0, 1) := dg_at gg119 1 rfl
theorem dX8_fault_2 : decode cX8_fault 2 = .ok (.putfield 61, 3) := dg_at gg119 2 rfl
theorem dX8_fault_5 : decode cX8_fault 5 = .ok (.aload_n 0, 1) := dg_at gg119 3 rfl
theorem dX8_fault_6 : decode cX8_fault 6 = .ok (.invokevirtual 45, 3) := dg_at gg119 4 rfl
theorem dX8_fault_9 : decode cX8_fault 9 = .ok (.aload_n 0, 1) := dg_at gg119 5 rfl
theorem dX8_fault_10 : decode cX8_fault 10 = .ok (.getfield 61, 3) := dg_at gg119 6 rfl
theorem dX8_fault_13 : decode cX8_fault 13 = .ok (.aload_n 0, 1) := dg_at gg119 7 rfl
theorem dX8_fault_14 : decode cX8_fault 14 = .ok (.getfield 57, 3) := dg_at gg119 8 rfl
theorem dX8_fault_17 : decode cX8_fault 17 = .ok (.if_icmp .ge 20, 3) := dg_at gg119 9 rfl
theorem dX8_fault_20 : decode cX8_fault 20 = .ok (.aload_n 0, 1) := dg_at gg119 10 rfl
theorem dX8_fault_21 : decode cX8_fault 21 = .ok (.getfield 61, 3) := dg_at gg119 11 rfl
theorem dX8_fault_24 : decode cX8_fault 24 = .ok (.istore_n 1, 1) := dg_at gg119 12 rfl
theorem dX8_fault_25 : decode cX8_fault 25 = .ok (.aload_n 0, 1) := dg_at gg119 13 rfl
theorem dX8_fault_26 : decode cX8_fault 26 = .ok (.invokevirtual 98, 3) := dg_at gg119 14 rfl
theorem dX8_fault_29 : decode cX8_fault 29 = .ok (.ifCond .ne 5, 3) := dg_at gg119 15 rfl
theorem dX8_fault_32 : decode cX8_fault 32 = .ok (.iload_n 1, 1) := dg_at gg119 16 rfl
theorem dX8_fault_33 : decode cX8_fault 33 = .ok (.ireturn, 1) := dg_at gg119 17 rfl
theorem dX8_fault_34 : decode cX8_fault 34 = .ok (.goto (-25), 3) := dg_at gg119 18 rfl
theorem dX8_fault_37 : decode cX8_fault 37 = .ok (.bipush (-4), 2) := dg_at gg119 19 rfl
theorem dX8_fault_39 : decode cX8_fault 39 = .ok (.ireturn, 1) := dg_at gg119 20 rfl
def gl120 : List (Nat × Instr × Nat) := [(0, .aload_n 0, 1), (1, .invokevirtual 102, 3), (4, .bipush (-4), 2), (6, .if_icmp .ne 12, 3), (9, .aload_n 0, 1), (10, .getfield 17, 3), (13, .iconst 1, 1), (14, .iaload, 1), (15, .ifCond .ne 6, 3), (18, .bipush (-2), 2), (20, .ireturn, 1), (21, .aload_n 0, 1), (22, .invokevirtual 48, 3), (25, .aload_n 0, 1), (26, .getfield 17, 3), (29, .iconst 0, 1), (30, .iaload, 1), (31, .ireturn, 1)]
set_option maxRecDepth 100000 in
theorem gg120 : gl120.all (fun x => decide (decode cX8_lay x.1 = .ok (x.2.1, x.2.2))) = true := by decide +kernel
theorem dX8_lay_0 : decode cX8_lay 0 = .ok (.aload_n 0, 1) := dg_at gg120 0 rfl
theorem dX8_lay_1 : decode cX8_lay 1 = .ok (.invokevirtual 102, 3) := dg_at gg120 1 rfl
theorem dX8_lay_4 : decode cX8_lay 4 = .ok (.bipush (-4), 2) := dg_at gg120 2 rfl
theorem dX8_lay_6 : decode cX8_lay 6 = .ok (.if_icmp .ne 12, 3) := dg_at gg120 3 rfl
theorem dX8_lay_9 : decode cX8_lay 9 = .ok (.aload_n 0, 1) := dg_at gg120 4 rfl
theorem dX8_lay_10 : decode cX8_lay 10 = .ok (.getfield 17, 3) := dg_at gg120 5 rfl
theorem dX8_lay_13 : decode cX8_lay 13 = .ok (.iconst 1, 1) := dg_at gg120 6 rfl
theorem dX8_lay_14 : decode cX8_lay 14 = .ok (.iaload, 1) := dg_at gg120 7 rfl
theorem dX8_lay_15 : decode cX8_lay 15 = .ok (.ifCond .ne 6, 3) := dg_at gg120 8 rfl
theorem dX8_lay_18 : decode cX8_lay 18 = .ok (.bipush (-2), 2) := dg_at gg120 9 rfl
theorem dX8_lay_20 : decode cX8_lay 20 = .ok (.ireturn, 1) := dg_at gg120 10 rfl
theorem dX8_lay_21 : decode cX8_lay 21 = .ok (.aload_n 0, 1) := dg_at gg120 11 rfl
theorem dX8_lay_22 : decode cX8_lay 22 = .ok (.invokevirtual 48, 3) := dg_at gg120 12 rfl
theorem dX8_lay_25 : decode cX8_lay 25 = .ok (.aload_n 0, 1) := dg_at gg120 13 rfl
theorem dX8_lay_26 : decode cX8_lay 26 = .ok (.getfield 17, 3) := dg_at gg120 14 rfl
theorem dX8_lay_29 : decode cX8_lay 29 = .ok (.iconst 0, 1) := dg_at gg120 15 rfl
theorem dX8_lay_30 : decode cX8_lay 30 = .ok (.iaload, 1) := dg_at gg120 16 rfl
theorem dX8_lay_31 : decode cX8_lay 31 = .ok (.ireturn, 1) := dg_at gg120 17 rfl
def gl121 : List (Nat × Instr × Nat) := [(0, .iload_n 1, 1), (1, .i2l, 1), (2, .lconst 0, 1), (3, .aload_n 0, 1), (4, .getfield 17, 3), (7, .iconst 0, 1), (8, .iaload, 1), (9, .iconst 1, 1), (10, .isub, 1), (11, .i2l, 1), (12, .invokestatic 53, 3), (15, .ireturn, 1)]
set_option maxRecDepth 100000 in
theorem gg121 : gl121.all (fun x => decide (decode cX8_isAct x.1 = .ok (x.2.1, x.2.2))) = true := by decide +kernel
theorem dX8_isAct_0 : decode cX8_isAct 0 = .ok (.iload_n 1, 1) := dg_at gg121 0 rfl
theorem dX8_isAct_1 : decode cX8_isAct 1 = .ok (.i2l, 1) := dg_at gg121 1 rfl
theorem dX8_isAct_2 : decode cX8_isAct 2 = .ok (.lconst 0, 1) := dg_at gg121 2 rfl
theorem dX8_isAct_3 : decode cX8_isAct 3 = .ok (.aload_n 0, 1) := dg_at gg121 3 rfl
theorem dX8_isAct_4 : decode cX8_isAct 4 = .ok (.getfield 17, 3) := dg_at gg121 4 rfl
theorem dX8_isAct_7 : decode cX8_isAct 7 = .ok (.iconst 0, 1) := dg_at gg121 5 rfl
theorem dX8_isAct_8 : decode cX8_isAct 8 = .ok (.iaload, 1) := dg_at gg121 6 rfl
theorem dX8_isAct_9 : decode cX8_isAct 9 = .ok (.iconst 1, 1) := dg_at gg121 7 rfl
theorem dX8_isAct_10 : decode cX8_isAct 10 = .ok (.isub, 1) := dg_at gg121 8 rfl
theorem dX8_isAct_11 : decode cX8_isAct 11 = .ok (.i2l, 1) := dg_at gg121 9 rfl
theorem dX8_isAct_12 : decode cX8_isAct 12 = .ok (.invokestatic 53, 3) := dg_at gg121 10 rfl
theorem dX8_isAct_15 : decode cX8_isAct 15 = .ok (.ireturn, 1) := dg_at gg121 11 rfl
def gl122 : List (Nat × Instr × Nat) := [(0, .lload_n 0, 1), (1, .lconst 0, 1), (2, .ldc2_w 105, 3), (5, .invokestatic 53, 3), (8, .ireturn, 1)]
set_option maxRecDepth 100000 in
theorem gg122 : gl122.all (fun x => decide (decode cX8_isMinute x.1 = .ok (x.2.1, x.2.2))) = true := by decide +kernel
theorem dX8_isMinute_0 : decode cX8_isMinute 0 = .ok (.lload_n 0, 1) := dg_at gg122 0 rfl
theorem dX8_isMinute_1 : decode cX8_isMinute 1 = .ok (.lconst 0, 1) := dg_at gg122 1 rfl
theorem dX8_isMinute_2 : decode cX8_isMinute 2 = .ok (.ldc2_w 105, 3) := dg_at gg122 2 rfl
theorem dX8_isMinute_5 : decode cX8_isMinute 5 = .ok (.invokestatic 53, 3) := dg_at gg122 3 rfl
theorem dX8_isMinute_8 : decode cX8_isMinute 8 = .ok (.ireturn, 1) := dg_at gg122 4 rfl
def gl123 : List (Nat × Instr × Nat) := [(0, .aload_n 0, 1), (1, .iload_n 1, 1), (2, .invokevirtual 107, 3), (5, .ifCond .eq 15, 3), (8, .iload_n 2, 1), (9, .i2l, 1), (10, .lconst 0, 1), (11, .ldc2_w 110, 3), (14, .invokestatic 53, 3), (17, .ifCond .ne 7, 3), (20, .iconst (-1), 1), (21, .goto 27, 3), (24, .iload_n 2, 1), (25, .iconst 1, 1), (26, .if_icmp .ne 12, 3), (29, .aload_n 0, 1), (30, .getfield 23, 3), (33, .iload_n 1, 1), (34, .iaload, 1), (35, .goto 13, 3), (38, .aload_n 0, 1), (39, .getfield 20, 3), (42, .iconst 5, 1), (43, .iload_n 1, 1), (44, .imul, 1), (45, .iload_n 2, 1), (46, .iadd, 1), (47, .iaload, 1), (48, .ireturn, 1)]
set_option maxRecDepth 100000 in
theorem gg123 : gl123.all (fun x => decide (decode cX8_act x.1 = .ok (x.2.1, x.2.2))) = true := by decide +kernel
theorem dX8_act_0 : decode cX8_act 0 = .ok (.aload_n 0, 1) := dg_at gg123 0 rfl
theorem dX8_act_1 : decode cX8_act 1 = .ok (.iload_n 1, 1) := dg_at gg123 1 rfl
theorem dX8_act_2 : decode cX8_act 2 = .ok (.invokevirtual 107, 3) := dg_at gg123 2 rfl
theorem dX8_act_5 : decode cX8_act 5 = .ok (.ifCond .eq 15, 3) := dg_at gg123 3 rfl
theorem dX8_act_8 : decode cX8_act 8 = .ok (.iload_n 2, 1) := dg_at gg123 4 rfl
theorem dX8_act_9 : decode cX8_act 9 = .ok (.i2l, 1) := dg_at gg123 5 rfl
theorem dX8_act_10 : decode cX8_act 10 = .ok (.lconst 0, 1) := dg_at gg123 6 rfl
theorem dX8_act_11 : decode cX8_act 11 = .ok (.ldc2_w 110, 3) := dg_at gg123 7 rfl
theorem dX8_act_14 : decode cX8_act 14 = .ok (.invokestatic 53, 3) := dg_at gg123 8 rfl
theorem dX8_act_17 : decode cX8_act 17 = .ok (.ifCond .ne 7, 3) := dg_at gg123 9 rfl
theorem dX8_act_20 : decode cX8_act 20 = .ok (.iconst (-1), 1) := dg_at gg123 10 rfl
theorem dX8_act_21 : decode cX8_act 21 = .ok (.goto 27, 3) := dg_at gg123 11 rfl
theorem dX8_act_24 : decode cX8_act 24 = .ok (.iload_n 2, 1) := dg_at gg123 12 rfl
theorem dX8_act_25 : decode cX8_act 25 = .ok (.iconst 1, 1) := dg_at gg123 13 rfl
theorem dX8_act_26 : decode cX8_act 26 = .ok (.if_icmp .ne 12, 3) := dg_at gg123 14 rfl
theorem dX8_act_29 : decode cX8_act 29 = .ok (.aload_n 0, 1) := dg_at gg123 15 rfl
theorem dX8_act_30 : decode cX8_act 30 = .ok (.getfield 23, 3) := dg_at gg123 16 rfl
theorem dX8_act_33 : decode cX8_act 33 = .ok (.iload_n 1, 1) := dg_at gg123 17 rfl
theorem dX8_act_34 : decode cX8_act 34 = .ok (.iaload, 1) := dg_at gg123 18 rfl
theorem dX8_act_35 : decode cX8_act 35 = .ok (.goto 13, 3) := dg_at gg123 19 rfl
theorem dX8_act_38 : decode cX8_act 38 = .ok (.aload_n 0, 1) := dg_at gg123 20 rfl
theorem dX8_act_39 : decode cX8_act 39 = .ok (.getfield 20, 3) := dg_at gg123 21 rfl
theorem dX8_act_42 : decode cX8_act 42 = .ok (.iconst 5, 1) := dg_at gg123 22 rfl
theorem dX8_act_43 : decode cX8_act 43 = .ok (.iload_n 1, 1) := dg_at gg123 23 rfl
theorem dX8_act_44 : decode cX8_act 44 = .ok (.imul, 1) := dg_at gg123 24 rfl
theorem dX8_act_45 : decode cX8_act 45 = .ok (.iload_n 2, 1) := dg_at gg123 25 rfl
theorem dX8_act_46 : decode cX8_act 46 = .ok (.iadd, 1) := dg_at gg123 26 rfl
theorem dX8_act_47 : decode cX8_act 47 = .ok (.iaload, 1) := dg_at gg123 27 rfl
theorem dX8_act_48 : decode cX8_act 48 = .ok (.ireturn, 1) := dg_at gg123 28 rfl
def gl124 : List (Nat × Instr × Nat) := [(0, .iload_n 1, 1), (1, .i2l, 1), (2, .lconst 0, 1), (3, .ldc2_w 112, 3), (6, .invokestatic 53, 3), (9, .ifCond .ne 5, 3), (12, .iconst (-1), 1), (13, .ireturn, 1), (14, .aload_n 0, 1), (15, .getfield 26, 3), (18, .iconst 1, 1), (19, .laload, 1), (20, .l2i, 1), (21, .istore_n 2, 1), (22, .aload_n 0, 1), (23, .getfield 26, 3), (26, .iconst 1, 1), (27, .iload_n 1, 1), (28, .i2l, 1), (29, .lastore, 1), (30, .iload_n 2, 1), (31, .ireturn, 1)]
set_option maxRecDepth 100000 in
theorem gg124 : gl124.all (fun x => decide (decode cX8_year x.1 = .ok (x.2.1, x.2.2))) = true := by decide +kernel
theorem dX8_year_0 : decode cX8_year 0 = .ok (.iload_n 1, 1) := dg_at gg124 0 rfl
theorem dX8_year_1 : decode cX8_year 1 = .ok (.i2l, 1) := dg_at gg124 1 rfl
theorem dX8_year_2 : decode cX8_year 2 = .ok (.lconst 0, 1) := dg_at gg124 2 rfl
theorem dX8_year_3 : decode cX8_year 3 = .ok (.ldc2_w 112, 3) := dg_at gg124 3 rfl
theorem dX8_year_6 : decode cX8_year 6 = .ok (.invokestatic 53, 3) := dg_at gg124 4 rfl
theorem dX8_year_9 : decode cX8_year 9 = .ok (.ifCond .ne 5, 3) := dg_at gg124 5 rfl
theorem dX8_year_12 : decode cX8_year 12 = .ok (.iconst (-1), 1) := dg_at gg124 6 rfl
theorem dX8_year_13 : decode cX8_year 13 = .ok (.ireturn, 1) := dg_at gg124 7 rfl
theorem dX8_year_14 : decode cX8_year 14 = .ok (.aload_n 0, 1) := dg_at gg124 8 rfl
theorem dX8_year_15 : decode cX8_year 15 = .ok (.getfield 26, 3) := dg_at gg124 9 rfl
theorem dX8_year_18 : decode cX8_year 18 = .ok (.iconst 1, 1) := dg_at gg124 10 rfl
theorem dX8_year_19 : decode cX8_year 19 = .ok (.laload, 1) := dg_at gg124 11 rfl
theorem dX8_year_20 : decode cX8_year 20 = .ok (.l2i, 1) := dg_at gg124 12 rfl
theorem dX8_year_21 : decode cX8_year 21 = .ok (.istore_n 2, 1) := dg_at gg124 13 rfl
theorem dX8_year_22 : decode cX8_year 22 = .ok (.aload_n 0, 1) := dg_at gg124 14 rfl
theorem dX8_year_23 : decode cX8_year 23 = .ok (.getfield 26, 3) := dg_at gg124 15 rfl
theorem dX8_year_26 : decode cX8_year 26 = .ok (.iconst 1, 1) := dg_at gg124 16 rfl
theorem dX8_year_27 : decode cX8_year 27 = .ok (.iload_n 1, 1) := dg_at gg124 17 rfl
theorem dX8_year_28 : decode cX8_year 28 = .ok (.i2l, 1) := dg_at gg124 18 rfl
theorem dX8_year_29 : decode cX8_year 29 = .ok (.lastore, 1) := dg_at gg124 19 rfl
theorem dX8_year_30 : decode cX8_year 30 = .ok (.iload_n 2, 1) := dg_at gg124 20 rfl
theorem dX8_year_31 : decode cX8_year 31 = .ok (.ireturn, 1) := dg_at gg124 21 rfl
def gl125 : List (Nat × Instr × Nat) := [(0, .aload_n 0, 1), (1, .getfield 13, 3), (4, .iconst 1, 1), (5, .iaload, 1), (6, .aload_n 0, 1), (7, .getfield 13, 3), (10, .iconst 3, 1), (11, .iaload, 1), (12, .imul, 1), (13, .i2l, 1), (14, .lstore_n 3, 1), (15, .aload_n 0, 1), (16, .getfield 13, 3), (19, .iconst 0, 1), (20, .iaload, 1), (21, .aload_n 0, 1), (22, .getfield 13, 3), (25, .iconst 3, 1), (26, .iaload, 1), (27, .imul, 1), (28, .i2l, 1), (29, .lstore 5, 2), (31, .aload_n 0, 1), (32, .getfield 13, 3), (35, .iconst 0, 1), (36, .iaload, 1), (37, .aload_n 0, 1), (38, .getfield 13, 3), (41, .iconst 2, 1), (42, .iaload, 1), (43, .imul, 1), (44, .i2l, 1), (45, .lstore 7, 2), (47, .lload_n 1, 1), (48, .aload_n 0, 1), (49, .getfield 13, 3), (52, .iconst 4, 1), (53, .iaload, 1), (54, .i2l, 1), (55, .lsub, 1), (56, .aload_n 0, 1), (57, .getfield 13, 3), (60, .iconst 5, 1), (61, .iaload, 1), (62, .i2l, 1), (63, .aload_n 0, 1), (64, .getfield 26, 3), (67, .iconst 1, 1), (68, .laload, 1), (69, .lmul, 1), (70, .lsub, 1), (71, .lload_n 3, 1), (72, .lmul, 1), (73, .lload 5, 2), (75, .lrem, 1), (76, .lstore 9, 2), (78, .lload 9, 2), (80, .lconst 0, 1), (81, .lcmp, 1), (82, .ifCond .ge 11, 3)]
set_option maxRecDepth 100000 in
theorem gg125 : gl125.all (fun x => decide (decode cX8_ruler x.1 = .ok (x.2.1, x.2.2))) = true := by decide +kernel
theorem dX8_ruler_0 : decode cX8_ruler 0 = .ok (.aload_n 0, 1) := dg_at gg125 0 rfl
theorem dX8_ruler_1 : decode cX8_ruler 1 = .ok (.getfield 13, 3) := dg_at gg125 1 rfl
theorem dX8_ruler_4 : decode cX8_ruler 4 = .ok (.iconst 1, 1) := dg_at gg125 2 rfl
theorem dX8_ruler_5 : decode cX8_ruler 5 = .ok (.iaload, 1) := dg_at gg125 3 rfl
theorem dX8_ruler_6 : decode cX8_ruler 6 = .ok (.aload_n 0, 1) := dg_at gg125 4 rfl
theorem dX8_ruler_7 : decode cX8_ruler 7 = .ok (.getfield 13, 3) := dg_at gg125 5 rfl
theorem dX8_ruler_10 : decode cX8_ruler 10 = .ok (.iconst 3, 1) := dg_at gg125 6 rfl
theorem dX8_ruler_11 : decode cX8_ruler 11 = .ok (.iaload, 1) := dg_at gg125 7 rfl
theorem dX8_ruler_12 : decode cX8_ruler 12 = .ok (.imul, 1) := dg_at gg125 8 rfl
theorem dX8_ruler_13 : decode cX8_ruler 13 = .ok (.i2l, 1) := dg_at gg125 9 rfl
theorem dX8_ruler_14 : decode cX8_ruler 14 = .ok (.lstore_n 3, 1) := dg_at gg125 10 rfl
theorem dX8_ruler_15 : decode cX8_ruler 15 = .ok (.aload_n 0, 1) := dg_at gg125 11 rfl
theorem dX8_ruler_16 : decode cX8_ruler 16 = .ok (.getfield 13, 3) := dg_at gg125 12 rfl
theorem dX8_ruler_19 : decode cX8_ruler 19 = .ok (.iconst 0, 1) := dg_at gg125 13 rfl
theorem dX8_ruler_20 : decode cX8_ruler 20 = .ok (.iaload, 1) := dg_at gg125 14 rfl
theorem dX8_ruler_21 : decode cX8_ruler 21 = .ok (.aload_n 0, 1) := dg_at gg125 15 rfl
theorem dX8_ruler_22 : decode cX8_ruler 22 = .ok (.getfield 13, 3) := dg_at gg125 16 rfl
theorem dX8_ruler_25 : decode cX8_ruler 25 = .ok (.iconst 3, 1) := dg_at gg125 17 rfl
theorem dX8_ruler_26 : decode cX8_ruler 26 = .ok (.iaload, 1) := dg_at gg125 18 rfl
theorem dX8_ruler_27 : decode cX8_ruler 27 = .ok (.imul, 1) := dg_at gg125 19 rfl
theorem dX8_ruler_28 : decode cX8_ruler 28 = .ok (.i2l, 1) := dg_at gg125 20 rfl
theorem dX8_ruler_29 : decode cX8_ruler 29 = .ok (.lstore 5, 2) := dg_at gg125 21 rfl
theorem dX8_ruler_31 : decode cX8_ruler 31 = .ok (.aload_n 0, 1) := dg_at gg125 22 rfl
theorem dX8_ruler_32 : decode cX8_ruler 32 = .ok (.getfield 13, 3) := dg_at gg125 23 rfl
theorem dX8_ruler_35 : decode cX8_ruler 35 = .ok (.iconst 0, 1) := dg_at gg125 24 rfl
theorem dX8_ruler_36 : decode cX8_ruler 36 = .ok (.iaload, 1) := dg_at gg125 25 rfl
theorem dX8_ruler_37 : decode cX8_ruler 37 = .ok (.aload_n 0, 1) := dg_at gg125 26 rfl
theorem dX8_ruler_38 : decode cX8_ruler 38 = .ok (.getfield 13, 3) := dg_at gg125 27 rfl
theorem dX8_ruler_41 : decode cX8_ruler 41 = .ok (.iconst 2, 1) := dg_at gg125 28 rfl
theorem dX8_ruler_42 : decode cX8_ruler 42 = .ok (.iaload, 1) := dg_at gg125 29 rfl
theorem dX8_ruler_43 : decode cX8_ruler 43 = .ok (.imul, 1) := dg_at gg125 30 rfl
theorem dX8_ruler_44 : decode cX8_ruler 44 = .ok (.i2l, 1) := dg_at gg125 31 rfl
theorem dX8_ruler_45 : decode cX8_ruler 45 = .ok (.lstore 7, 2) := dg_at gg125 32 rfl
theorem dX8_ruler_47 : decode cX8_ruler 47 = .ok (.lload_n 1, 1) := dg_at gg125 33 rfl
theorem dX8_ruler_48 : decode cX8_ruler 48 = .ok (.aload_n 0, 1) := dg_at gg125 34 rfl
theorem dX8_ruler_49 : decode cX8_ruler 49 = .ok (.getfield 13, 3) := dg_at gg125 35 rfl
theorem dX8_ruler_52 : decode cX8_ruler 52 = .ok (.iconst 4, 1) := dg_at gg125 36 rfl
theorem dX8_ruler_53 : decode cX8_ruler 53 = .ok (.iaload, 1) := dg_at gg125 37 rfl
theorem dX8_ruler_54 : decode cX8_ruler 54 = .ok (.i2l, 1) := dg_at gg125 38 rfl
theorem dX8_ruler_55 : decode cX8_ruler 55 = .ok (.lsub, 1) := dg_at gg125 39 rfl
theorem dX8_ruler_56 : decode cX8_ruler 56 = .ok (.aload_n 0, 1) := dg_at gg125 40 rfl
theorem dX8_ruler_57 : decode cX8_ruler 57 = .ok (.getfield 13, 3) := dg_at gg125 41 rfl
theorem dX8_ruler_60 : decode cX8_ruler 60 = .ok (.iconst 5, 1) := dg_at gg125 42 rfl
theorem dX8_ruler_61 : decode cX8_ruler 61 = .ok (.iaload, 1) := dg_at gg125 43 rfl
theorem dX8_ruler_62 : decode cX8_ruler 62 = .ok (.i2l, 1) := dg_at gg125 44 rfl
theorem dX8_ruler_63 : decode cX8_ruler 63 = .ok (.aload_n 0, 1) := dg_at gg125 45 rfl
theorem dX8_ruler_64 : decode cX8_ruler 64 = .ok (.getfield 26, 3) := dg_at gg125 46 rfl
theorem dX8_ruler_67 : decode cX8_ruler 67 = .ok (.iconst 1, 1) := dg_at gg125 47 rfl
theorem dX8_ruler_68 : decode cX8_ruler 68 = .ok (.laload, 1) := dg_at gg125 48 rfl
theorem dX8_ruler_69 : decode cX8_ruler 69 = .ok (.lmul, 1) := dg_at gg125 49 rfl
theorem dX8_ruler_70 : decode cX8_ruler 70 = .ok (.lsub, 1) := dg_at gg125 50 rfl
theorem dX8_ruler_71 : decode cX8_ruler 71 = .ok (.lload_n 3, 1) := dg_at gg125 51 rfl
theorem dX8_ruler_72 : decode cX8_ruler 72 = .ok (.lmul, 1) := dg_at gg125 52 rfl
theorem dX8_ruler_73 : decode cX8_ruler 73 = .ok (.lload 5, 2) := dg_at gg125 53 rfl
theorem dX8_ruler_75 : decode cX8_ruler 75 = .ok (.lrem, 1) := dg_at gg125 54 rfl
theorem dX8_ruler_76 : decode cX8_ruler 76 = .ok (.lstore 9, 2) := dg_at gg125 55 rfl
theorem dX8_ruler_78 : decode cX8_ruler 78 = .ok (.lload 9, 2) := dg_at gg125 56 rfl
theorem dX8_ruler_80 : decode cX8_ruler 80 = .ok (.lconst 0, 1) := dg_at gg125 57 rfl
theorem dX8_ruler_81 : decode cX8_ruler 81 = .ok (.lcmp, 1) := dg_at gg125 58 rfl
theorem dX8_ruler_82 : decode cX8_ruler 82 = .ok (.ifCond .ge 11, 3) := dg_at gg125 59 rfl
def gl126 : List (Nat × Instr × Nat) := [(85, .lload 9, 2), (87, .lload 5, 2), (89, .ladd, 1), (90, .goto 5, 3), (93, .lload 9, 2), (95, .lstore 9, 2), (97, .lload 9, 2), (99, .lconst 0, 1), (100, .lcmp, 1), (101, .ifCond .eq 31, 3), (104, .lload 5, 2), (106, .lload 9, 2), (108, .lsub, 1), (109, .lload_n 3, 1), (110, .lcmp, 1), (111, .ifCond .lt 21, 3), (114, .lload 9, 2), (116, .lload 7, 2), (118, .lcmp, 1), (119, .ifCond .gt 15, 3), (122, .lload 7, 2), (124, .lload 9, 2), (126, .lsub, 1), (127, .lload_n 3, 1), (128, .lcmp, 1), (129, .ifCond .ge 5, 3), (132, .iconst 2, 1), (133, .ireturn, 1), (134, .lload 9, 2), (136, .lload 7, 2), (138, .lcmp, 1), (139, .ifCond .ge 7, 3), (142, .iconst 0, 1), (143, .goto 4, 3), (146, .iconst 1, 1), (147, .ireturn, 1)]
set_option maxRecDepth 100000 in
theorem gg126 : gl126.all (fun x => decide (decode cX8_ruler x.1 = .ok (x.2.1, x.2.2))) = true := by decide +kernel
theorem dX8_ruler_85 : decode cX8_ruler 85 = .ok (.lload 9, 2) := dg_at gg126 0 rfl
theorem dX8_ruler_87 : decode cX8_ruler 87 = .ok (.lload 5, 2) := dg_at gg126 1 rfl
theorem dX8_ruler_89 : decode cX8_ruler 89 = .ok (.ladd, 1) := dg_at gg126 2 rfl
theorem dX8_ruler_90 : decode cX8_ruler 90 = .ok (.goto 5, 3) := dg_at gg126 3 rfl
theorem dX8_ruler_93 : decode cX8_ruler 93 = .ok (.lload 9, 2) := dg_at gg126 4 rfl
theorem dX8_ruler_95 : decode cX8_ruler 95 = .ok (.lstore 9, 2) := dg_at gg126 5 rfl
theorem dX8_ruler_97 : decode cX8_ruler 97 = .ok (.lload 9, 2) := dg_at gg126 6 rfl
theorem dX8_ruler_99 : decode cX8_ruler 99 = .ok (.lconst 0, 1) := dg_at gg126 7 rfl
theorem dX8_ruler_100 : decode cX8_ruler 100 = .ok (.lcmp, 1) := dg_at gg126 8 rfl
theorem dX8_ruler_101 : decode cX8_ruler 101 = .ok (.ifCond .eq 31, 3) := dg_at gg126 9 rfl
theorem dX8_ruler_104 : decode cX8_ruler 104 = .ok (.lload 5, 2) := dg_at gg126 10 rfl
theorem dX8_ruler_106 : decode cX8_ruler 106 = .ok (.lload 9, 2) := dg_at gg126 11 rfl
theorem dX8_ruler_108 : decode cX8_ruler 108 = .ok (.lsub, 1) := dg_at gg126 12 rfl
theorem dX8_ruler_109 : decode cX8_ruler 109 = .ok (.lload_n 3, 1) := dg_at gg126 13 rfl
theorem dX8_ruler_110 : decode cX8_ruler 110 = .ok (.lcmp, 1) := dg_at gg126 14 rfl
theorem dX8_ruler_111 : decode cX8_ruler 111 = .ok (.ifCond .lt 21, 3) := dg_at gg126 15 rfl
theorem dX8_ruler_114 : decode cX8_ruler 114 = .ok (.lload 9, 2) := dg_at gg126 16 rfl
theorem dX8_ruler_116 : decode cX8_ruler 116 = .ok (.lload 7, 2) := dg_at gg126 17 rfl
theorem dX8_ruler_118 : decode cX8_ruler 118 = .ok (.lcmp, 1) := dg_at gg126 18 rfl
theorem dX8_ruler_119 : decode cX8_ruler 119 = .ok (.ifCond .gt 15, 3) := dg_at gg126 19 rfl
theorem dX8_ruler_122 : decode cX8_ruler 122 = .ok (.lload 7, 2) := dg_at gg126 20 rfl
theorem dX8_ruler_124 : decode cX8_ruler 124 = .ok (.lload 9, 2) := dg_at gg126 21 rfl
theorem dX8_ruler_126 : decode cX8_ruler 126 = .ok (.lsub, 1) := dg_at gg126 22 rfl
theorem dX8_ruler_127 : decode cX8_ruler 127 = .ok (.lload_n 3, 1) := dg_at gg126 23 rfl
theorem dX8_ruler_128 : decode cX8_ruler 128 = .ok (.lcmp, 1) := dg_at gg126 24 rfl
theorem dX8_ruler_129 : decode cX8_ruler 129 = .ok (.ifCond .ge 5, 3) := dg_at gg126 25 rfl
theorem dX8_ruler_132 : decode cX8_ruler 132 = .ok (.iconst 2, 1) := dg_at gg126 26 rfl
theorem dX8_ruler_133 : decode cX8_ruler 133 = .ok (.ireturn, 1) := dg_at gg126 27 rfl
theorem dX8_ruler_134 : decode cX8_ruler 134 = .ok (.lload 9, 2) := dg_at gg126 28 rfl
theorem dX8_ruler_136 : decode cX8_ruler 136 = .ok (.lload 7, 2) := dg_at gg126 29 rfl
theorem dX8_ruler_138 : decode cX8_ruler 138 = .ok (.lcmp, 1) := dg_at gg126 30 rfl
theorem dX8_ruler_139 : decode cX8_ruler 139 = .ok (.ifCond .ge 7, 3) := dg_at gg126 31 rfl
theorem dX8_ruler_142 : decode cX8_ruler 142 = .ok (.iconst 0, 1) := dg_at gg126 32 rfl
theorem dX8_ruler_143 : decode cX8_ruler 143 = .ok (.goto 4, 3) := dg_at gg126 33 rfl
theorem dX8_ruler_146 : decode cX8_ruler 146 = .ok (.iconst 1, 1) := dg_at gg126 34 rfl
theorem dX8_ruler_147 : decode cX8_ruler 147 = .ok (.ireturn, 1) := dg_at gg126 35 rfl
def gl127 : List (Nat × Instr × Nat) := [(0, .lload_n 1, 1), (1, .invokestatic 114, 3), (4, .ifCond .eq 11, 3), (7, .aload_n 0, 1), (8, .lload_n 1, 1), (9, .invokevirtual 118, 3), (12, .goto 4, 3), (15, .iconst (-1), 1), (16, .ireturn, 1)]
set_option maxRecDepth 100000 in
theorem gg127 : gl127.all (fun x => decide (decode cX8_rules x.1 = .ok (x.2.1, x.2.2))) = true := by decide +kernel
theorem dX8_rules_0 : decode cX8_rules 0 = .ok (.lload_n 1, 1) := dg_at gg127 0 rfl
theorem dX8_rules_1 : decode cX8_rules 1 = .ok (.invokestatic 114, 3) := dg_at gg127 1 rfl
theorem dX8_rules_4 : decode cX8_rules 4 = .ok (.ifCond .eq 11, 3) := dg_at gg127 2 rfl
theorem dX8_rules_7 : decode cX8_rules 7 = .ok (.aload_n 0, 1) := dg_at gg127 3 rfl
theorem dX8_rules_8 : decode cX8_rules 8 = .ok (.lload_n 1, 1) := dg_at gg127 4 rfl
theorem dX8_rules_9 : decode cX8_rules 9 = .ok (.invokevirtual 118, 3) := dg_at gg127 5 rfl
theorem dX8_rules_12 : decode cX8_rules 12 = .ok (.goto 4, 3) := dg_at gg127 6 rfl
theorem dX8_rules_15 : decode cX8_rules 15 = .ok (.iconst (-1), 1) := dg_at gg127 7 rfl
theorem dX8_rules_16 : decode cX8_rules 16 = .ok (.ireturn, 1) := dg_at gg127 8 rfl
def gl128 : List (Nat × Instr × Nat) := [(0, .iconst 0, 1), (1, .istore 5, 2), (3, .iconst 0, 1), (4, .istore 6, 2), (6, .iload 6, 2), (8, .iload_n 3, 1), (9, .if_icmp .ge 33, 3), (12, .iload 5, 2), (14, .aload_n 0, 1), (15, .lload_n 1, 1), (16, .iload 6, 2), (18, .i2l, 1), (19, .ladd, 1), (20, .invokevirtual 118, 3), (23, .iload 4, 2), (25, .if_icmp .ne 7, 3), (28, .iconst 1, 1), (29, .goto 4, 3), (32, .iconst 0, 1), (33, .iadd, 1), (34, .istore 5, 2), (36, .iinc 6 1, 3), (39, .goto (-33), 3), (42, .iload 5, 2), (44, .ireturn, 1)]
set_option maxRecDepth 100000 in
theorem gg128 : gl128.all (fun x => decide (decode cX8_counted x.1 = .ok (x.2.1, x.2.2))) = true := by decide +kernel
theorem dX8_counted_0 : decode cX8_counted 0 = .ok (.iconst 0, 1) := dg_at gg128 0 rfl
theorem dX8_counted_1 : decode cX8_counted 1 = .ok (.istore 5, 2) := dg_at gg128 1 rfl
theorem dX8_counted_3 : decode cX8_counted 3 = .ok (.iconst 0, 1) := dg_at gg128 2 rfl
theorem dX8_counted_4 : decode cX8_counted 4 = .ok (.istore 6, 2) := dg_at gg128 3 rfl
theorem dX8_counted_6 : decode cX8_counted 6 = .ok (.iload 6, 2) := dg_at gg128 4 rfl
theorem dX8_counted_8 : decode cX8_counted 8 = .ok (.iload_n 3, 1) := dg_at gg128 5 rfl
theorem dX8_counted_9 : decode cX8_counted 9 = .ok (.if_icmp .ge 33, 3) := dg_at gg128 6 rfl
theorem dX8_counted_12 : decode cX8_counted 12 = .ok (.iload 5, 2) := dg_at gg128 7 rfl
theorem dX8_counted_14 : decode cX8_counted 14 = .ok (.aload_n 0, 1) := dg_at gg128 8 rfl
theorem dX8_counted_15 : decode cX8_counted 15 = .ok (.lload_n 1, 1) := dg_at gg128 9 rfl
theorem dX8_counted_16 : decode cX8_counted 16 = .ok (.iload 6, 2) := dg_at gg128 10 rfl
theorem dX8_counted_18 : decode cX8_counted 18 = .ok (.i2l, 1) := dg_at gg128 11 rfl
theorem dX8_counted_19 : decode cX8_counted 19 = .ok (.ladd, 1) := dg_at gg128 12 rfl
theorem dX8_counted_20 : decode cX8_counted 20 = .ok (.invokevirtual 118, 3) := dg_at gg128 13 rfl
theorem dX8_counted_23 : decode cX8_counted 23 = .ok (.iload 4, 2) := dg_at gg128 14 rfl
theorem dX8_counted_25 : decode cX8_counted 25 = .ok (.if_icmp .ne 7, 3) := dg_at gg128 15 rfl
theorem dX8_counted_28 : decode cX8_counted 28 = .ok (.iconst 1, 1) := dg_at gg128 16 rfl
theorem dX8_counted_29 : decode cX8_counted 29 = .ok (.goto 4, 3) := dg_at gg128 17 rfl
theorem dX8_counted_32 : decode cX8_counted 32 = .ok (.iconst 0, 1) := dg_at gg128 18 rfl
theorem dX8_counted_33 : decode cX8_counted 33 = .ok (.iadd, 1) := dg_at gg128 19 rfl
theorem dX8_counted_34 : decode cX8_counted 34 = .ok (.istore 5, 2) := dg_at gg128 20 rfl
theorem dX8_counted_36 : decode cX8_counted 36 = .ok (.iinc 6 1, 3) := dg_at gg128 21 rfl
theorem dX8_counted_39 : decode cX8_counted 39 = .ok (.goto (-33), 3) := dg_at gg128 22 rfl
theorem dX8_counted_42 : decode cX8_counted 42 = .ok (.iload 5, 2) := dg_at gg128 23 rfl
theorem dX8_counted_44 : decode cX8_counted 44 = .ok (.ireturn, 1) := dg_at gg128 24 rfl
def gl129 : List (Nat × Instr × Nat) := [(0, .lload_n 1, 1), (1, .invokestatic 114, 3), (4, .ifCond .eq 39, 3), (7, .iload_n 3, 1), (8, .i2l, 1), (9, .lconst 0, 1), (10, .ldc2_w 122, 3), (13, .invokestatic 53, 3), (16, .ifCond .eq 27, 3), (19, .iload 4, 2), (21, .i2l, 1), (22, .lconst 0, 1), (23, .ldc2_w 124, 3), (26, .invokestatic 53, 3), (29, .ifCond .eq 14, 3), (32, .aload_n 0, 1), (33, .lload_n 1, 1), (34, .iload_n 3, 1), (35, .iload 4, 2), (37, .invokevirtual 126, 3), (40, .goto 4, 3), (43, .iconst (-1), 1), (44, .ireturn, 1)]
set_option maxRecDepth 100000 in
theorem gg129 : gl129.all (fun x => decide (decode cX8_minutes x.1 = .ok (x.2.1, x.2.2))) = true := by decide +kernel
theorem dX8_minutes_0 : decode cX8_minutes 0 = .ok (.lload_n 1, 1) := dg_at gg129 0 rfl
theorem dX8_minutes_1 : decode cX8_minutes 1 = .ok (.invokestatic 114, 3) := dg_at gg129 1 rfl
theorem dX8_minutes_4 : decode cX8_minutes 4 = .ok (.ifCond .eq 39, 3) := dg_at gg129 2 rfl
theorem dX8_minutes_7 : decode cX8_minutes 7 = .ok (.iload_n 3, 1) := dg_at gg129 3 rfl
theorem dX8_minutes_8 : decode cX8_minutes 8 = .ok (.i2l, 1) := dg_at gg129 4 rfl
theorem dX8_minutes_9 : decode cX8_minutes 9 = .ok (.lconst 0, 1) := dg_at gg129 5 rfl
theorem dX8_minutes_10 : decode cX8_minutes 10 = .ok (.ldc2_w 122, 3) := dg_at gg129 6 rfl
theorem dX8_minutes_13 : decode cX8_minutes 13 = .ok (.invokestatic 53, 3) := dg_at gg129 7 rfl
theorem dX8_minutes_16 : decode cX8_minutes 16 = .ok (.ifCond .eq 27, 3) := dg_at gg129 8 rfl
theorem dX8_minutes_19 : decode cX8_minutes 19 = .ok (.iload 4, 2) := dg_at gg129 9 rfl
theorem dX8_minutes_21 : decode cX8_minutes 21 = .ok (.i2l, 1) := dg_at gg129 10 rfl
theorem dX8_minutes_22 : decode cX8_minutes 22 = .ok (.lconst 0, 1) := dg_at gg129 11 rfl
theorem dX8_minutes_23 : decode cX8_minutes 23 = .ok (.ldc2_w 124, 3) := dg_at gg129 12 rfl
theorem dX8_minutes_26 : decode cX8_minutes 26 = .ok (.invokestatic 53, 3) := dg_at gg129 13 rfl
theorem dX8_minutes_29 : decode cX8_minutes 29 = .ok (.ifCond .eq 14, 3) := dg_at gg129 14 rfl
theorem dX8_minutes_32 : decode cX8_minutes 32 = .ok (.aload_n 0, 1) := dg_at gg129 15 rfl
theorem dX8_minutes_33 : decode cX8_minutes 33 = .ok (.lload_n 1, 1) := dg_at gg129 16 rfl
theorem dX8_minutes_34 : decode cX8_minutes 34 = .ok (.iload_n 3, 1) := dg_at gg129 17 rfl
theorem dX8_minutes_35 : decode cX8_minutes 35 = .ok (.iload 4, 2) := dg_at gg129 18 rfl
theorem dX8_minutes_37 : decode cX8_minutes 37 = .ok (.invokevirtual 126, 3) := dg_at gg129 19 rfl
theorem dX8_minutes_40 : decode cX8_minutes 40 = .ok (.goto 4, 3) := dg_at gg129 20 rfl
theorem dX8_minutes_43 : decode cX8_minutes 43 = .ok (.iconst (-1), 1) := dg_at gg129 21 rfl
theorem dX8_minutes_44 : decode cX8_minutes 44 = .ok (.ireturn, 1) := dg_at gg129 22 rfl
def gl130 : List (Nat × Instr × Nat) := [(0, .lload_n 1, 1), (1, .invokestatic 114, 3), (4, .ifCond .eq 15, 3), (7, .iload_n 3, 1), (8, .i2l, 1), (9, .lconst 0, 1), (10, .ldc2_w 124, 3), (13, .invokestatic 53, 3), (16, .ifCond .ne 7, 3), (19, .ldc2_w 130, 3), (22, .lreturn, 1), (23, .lload_n 1, 1), (24, .lstore 4, 2), (26, .lload 4, 2), (28, .lload_n 1, 1), (29, .ldc2_w 132, 3), (32, .ladd, 1), (33, .lcmp, 1), (34, .ifCond .gt 25, 3), (37, .aload_n 0, 1), (38, .lload 4, 2), (40, .invokevirtual 118, 3), (43, .iload_n 3, 1), (44, .if_icmp .ne 6, 3), (47, .lload 4, 2), (49, .lreturn, 1), (50, .lload 4, 2), (52, .lconst 1, 1), (53, .ladd, 1), (54, .lstore 4, 2), (56, .goto (-30), 3), (59, .ldc2_w 134, 3), (62, .lreturn, 1)]
set_option maxRecDepth 100000 in
theorem gg130 : gl130.all (fun x => decide (decode cX8_next x.1 = .ok (x.2.1, x.2.2))) = true := by decide +kernel
theorem dX8_next_0 : decode cX8_next 0 = .ok (.lload_n 1, 1) := dg_at gg130 0 rfl
theorem dX8_next_1 : decode cX8_next 1 = .ok (.invokestatic 114, 3) := dg_at gg130 1 rfl
theorem dX8_next_4 : decode cX8_next 4 = .ok (.ifCond .eq 15, 3) := dg_at gg130 2 rfl
theorem dX8_next_7 : decode cX8_next 7 = .ok (.iload_n 3, 1) := dg_at gg130 3 rfl
theorem dX8_next_8 : decode cX8_next 8 = .ok (.i2l, 1) := dg_at gg130 4 rfl
theorem dX8_next_9 : decode cX8_next 9 = .ok (.lconst 0, 1) := dg_at gg130 5 rfl
theorem dX8_next_10 : decode cX8_next 10 = .ok (.ldc2_w 124, 3) := dg_at gg130 6 rfl
theorem dX8_next_13 : decode cX8_next 13 = .ok (.invokestatic 53, 3) := dg_at gg130 7 rfl
theorem dX8_next_16 : decode cX8_next 16 = .ok (.ifCond .ne 7, 3) := dg_at gg130 8 rfl
theorem dX8_next_19 : decode cX8_next 19 = .ok (.ldc2_w 130, 3) := dg_at gg130 9 rfl
theorem dX8_next_22 : decode cX8_next 22 = .ok (.lreturn, 1) := dg_at gg130 10 rfl
theorem dX8_next_23 : decode cX8_next 23 = .ok (.lload_n 1, 1) := dg_at gg130 11 rfl
theorem dX8_next_24 : decode cX8_next 24 = .ok (.lstore 4, 2) := dg_at gg130 12 rfl
theorem dX8_next_26 : decode cX8_next 26 = .ok (.lload 4, 2) := dg_at gg130 13 rfl
theorem dX8_next_28 : decode cX8_next 28 = .ok (.lload_n 1, 1) := dg_at gg130 14 rfl
theorem dX8_next_29 : decode cX8_next 29 = .ok (.ldc2_w 132, 3) := dg_at gg130 15 rfl
theorem dX8_next_32 : decode cX8_next 32 = .ok (.ladd, 1) := dg_at gg130 16 rfl
theorem dX8_next_33 : decode cX8_next 33 = .ok (.lcmp, 1) := dg_at gg130 17 rfl
theorem dX8_next_34 : decode cX8_next 34 = .ok (.ifCond .gt 25, 3) := dg_at gg130 18 rfl
theorem dX8_next_37 : decode cX8_next 37 = .ok (.aload_n 0, 1) := dg_at gg130 19 rfl
theorem dX8_next_38 : decode cX8_next 38 = .ok (.lload 4, 2) := dg_at gg130 20 rfl
theorem dX8_next_40 : decode cX8_next 40 = .ok (.invokevirtual 118, 3) := dg_at gg130 21 rfl
theorem dX8_next_43 : decode cX8_next 43 = .ok (.iload_n 3, 1) := dg_at gg130 22 rfl
theorem dX8_next_44 : decode cX8_next 44 = .ok (.if_icmp .ne 6, 3) := dg_at gg130 23 rfl
theorem dX8_next_47 : decode cX8_next 47 = .ok (.lload 4, 2) := dg_at gg130 24 rfl
theorem dX8_next_49 : decode cX8_next 49 = .ok (.lreturn, 1) := dg_at gg130 25 rfl
theorem dX8_next_50 : decode cX8_next 50 = .ok (.lload 4, 2) := dg_at gg130 26 rfl
theorem dX8_next_52 : decode cX8_next 52 = .ok (.lconst 1, 1) := dg_at gg130 27 rfl
theorem dX8_next_53 : decode cX8_next 53 = .ok (.ladd, 1) := dg_at gg130 28 rfl
theorem dX8_next_54 : decode cX8_next 54 = .ok (.lstore 4, 2) := dg_at gg130 29 rfl
theorem dX8_next_56 : decode cX8_next 56 = .ok (.goto (-30), 3) := dg_at gg130 30 rfl
theorem dX8_next_59 : decode cX8_next 59 = .ok (.ldc2_w 134, 3) := dg_at gg130 31 rfl
theorem dX8_next_62 : decode cX8_next 62 = .ok (.lreturn, 1) := dg_at gg130 32 rfl
def gl131 : List (Nat × Instr × Nat) := [(0, .aload_n 0, 1), (1, .lload_n 2, 1), (2, .invokevirtual 118, 3), (5, .istore 4, 2), (7, .iload 4, 2), (9, .iconst 2, 1), (10, .if_icmp .ge 22, 3), (13, .aload_n 0, 1), (14, .getfield 23, 3), (17, .iload_n 1, 1), (18, .iaload, 1), (19, .iload 4, 2), (21, .ishr, 1), (22, .iconst 1, 1), (23, .iand, 1), (24, .iconst 1, 1), (25, .if_icmp .ne 7, 3), (28, .iconst 1, 1), (29, .goto 4, 3), (32, .iconst 0, 1), (33, .ireturn, 1)]
set_option maxRecDepth 100000 in
theorem gg131 : gl131.all (fun x => decide (decode cX8_isKings x.1 = .ok (x.2.1, x.2.2))) = true := by decide +kernel
theorem dX8_isKings_0 : decode cX8_isKings 0 = .ok (.aload_n 0, 1) := dg_at gg131 0 rfl
theorem dX8_isKings_1 : decode cX8_isKings 1 = .ok (.lload_n 2, 1) := dg_at gg131 1 rfl
theorem dX8_isKings_2 : decode cX8_isKings 2 = .ok (.invokevirtual 118, 3) := dg_at gg131 2 rfl
theorem dX8_isKings_5 : decode cX8_isKings 5 = .ok (.istore 4, 2) := dg_at gg131 3 rfl
theorem dX8_isKings_7 : decode cX8_isKings 7 = .ok (.iload 4, 2) := dg_at gg131 4 rfl
theorem dX8_isKings_9 : decode cX8_isKings 9 = .ok (.iconst 2, 1) := dg_at gg131 5 rfl
theorem dX8_isKings_10 : decode cX8_isKings 10 = .ok (.if_icmp .ge 22, 3) := dg_at gg131 6 rfl
theorem dX8_isKings_13 : decode cX8_isKings 13 = .ok (.aload_n 0, 1) := dg_at gg131 7 rfl
theorem dX8_isKings_14 : decode cX8_isKings 14 = .ok (.getfield 23, 3) := dg_at gg131 8 rfl
theorem dX8_isKings_17 : decode cX8_isKings 17 = .ok (.iload_n 1, 1) := dg_at gg131 9 rfl
theorem dX8_isKings_18 : decode cX8_isKings 18 = .ok (.iaload, 1) := dg_at gg131 10 rfl
theorem dX8_isKings_19 : decode cX8_isKings 19 = .ok (.iload 4, 2) := dg_at gg131 11 rfl
theorem dX8_isKings_21 : decode cX8_isKings 21 = .ok (.ishr, 1) := dg_at gg131 12 rfl
theorem dX8_isKings_22 : decode cX8_isKings 22 = .ok (.iconst 1, 1) := dg_at gg131 13 rfl
theorem dX8_isKings_23 : decode cX8_isKings 23 = .ok (.iand, 1) := dg_at gg131 14 rfl
theorem dX8_isKings_24 : decode cX8_isKings 24 = .ok (.iconst 1, 1) := dg_at gg131 15 rfl
theorem dX8_isKings_25 : decode cX8_isKings 25 = .ok (.if_icmp .ne 7, 3) := dg_at gg131 16 rfl
theorem dX8_isKings_28 : decode cX8_isKings 28 = .ok (.iconst 1, 1) := dg_at gg131 17 rfl
theorem dX8_isKings_29 : decode cX8_isKings 29 = .ok (.goto 4, 3) := dg_at gg131 18 rfl
theorem dX8_isKings_32 : decode cX8_isKings 32 = .ok (.iconst 0, 1) := dg_at gg131 19 rfl
theorem dX8_isKings_33 : decode cX8_isKings 33 = .ok (.ireturn, 1) := dg_at gg131 20 rfl
def gl132 : List (Nat × Instr × Nat) := [(0, .aload_n 0, 1), (1, .getfield 20, 3), (4, .iconst 5, 1), (5, .iload_n 1, 1), (6, .imul, 1), (7, .iconst 0, 1), (8, .iadd, 1), (9, .iaload, 1), (10, .istore 4, 2), (12, .iload 4, 2), (14, .iconst 3, 1), (15, .if_icmp .ne 28, 3), (18, .aload_n 0, 1), (19, .getfield 23, 3), (22, .iload_n 1, 1), (23, .iaload, 1), (24, .iconst 3, 1), (25, .if_icmp .ne 16, 3), (28, .aload_n 0, 1), (29, .lload_n 2, 1), (30, .invokevirtual 118, 3), (33, .iconst 2, 1), (34, .if_icmp .ge 7, 3), (37, .iconst 1, 1), (38, .goto 4, 3), (41, .iconst 0, 1), (42, .ireturn, 1), (43, .iload 4, 2), (45, .iconst 4, 1), (46, .if_icmp .ne 27, 3), (49, .aload_n 0, 1), (50, .getfield 23, 3), (53, .iload_n 1, 1), (54, .iaload, 1), (55, .ifCond .le 16, 3), (58, .aload_n 0, 1), (59, .lload_n 2, 1), (60, .invokevirtual 118, 3), (63, .iconst 2, 1), (64, .if_icmp .ne 7, 3), (67, .iconst 1, 1), (68, .goto 4, 3), (71, .iconst 0, 1), (72, .ireturn, 1), (73, .iconst 1, 1), (74, .istore 5, 2), (76, .iconst 0, 1), (77, .istore 6, 2), (79, .iload 6, 2), (81, .iload 4, 2), (83, .iconst 1, 1), (84, .if_icmp .ne 16, 3), (87, .aload_n 0, 1), (88, .getfield 20, 3), (91, .iconst 5, 1), (92, .iload_n 1, 1), (93, .imul, 1), (94, .iconst 2, 1), (95, .iadd, 1), (96, .iaload, 1)]
set_option maxRecDepth 100000 in
theorem gg132 : gl132.all (fun x => decide (decode cX8_isLawful x.1 = .ok (x.2.1, x.2.2))) = true := by decide +kernel
theorem dX8_isLawful_0 : decode cX8_isLawful 0 = .ok (.aload_n 0, 1) := dg_at gg132 0 rfl
theorem dX8_isLawful_1 : decode cX8_isLawful 1 = .ok (.getfield 20, 3) := dg_at gg132 1 rfl
theorem dX8_isLawful_4 : decode cX8_isLawful 4 = .ok (.iconst 5, 1) := dg_at gg132 2 rfl
theorem dX8_isLawful_5 : decode cX8_isLawful 5 = .ok (.iload_n 1, 1) := dg_at gg132 3 rfl
theorem dX8_isLawful_6 : decode cX8_isLawful 6 = .ok (.imul, 1) := dg_at gg132 4 rfl
theorem dX8_isLawful_7 : decode cX8_isLawful 7 = .ok (.iconst 0, 1) := dg_at gg132 5 rfl
theorem dX8_isLawful_8 : decode cX8_isLawful 8 = .ok (.iadd, 1) := dg_at gg132 6 rfl
theorem dX8_isLawful_9 : decode cX8_isLawful 9 = .ok (.iaload, 1) := dg_at gg132 7 rfl
theorem dX8_isLawful_10 : decode cX8_isLawful 10 = .ok (.istore 4, 2) := dg_at gg132 8 rfl
theorem dX8_isLawful_12 : decode cX8_isLawful 12 = .ok (.iload 4, 2) := dg_at gg132 9 rfl
theorem dX8_isLawful_14 : decode cX8_isLawful 14 = .ok (.iconst 3, 1) := dg_at gg132 10 rfl
theorem dX8_isLawful_15 : decode cX8_isLawful 15 = .ok (.if_icmp .ne 28, 3) := dg_at gg132 11 rfl
theorem dX8_isLawful_18 : decode cX8_isLawful 18 = .ok (.aload_n 0, 1) := dg_at gg132 12 rfl
theorem dX8_isLawful_19 : decode cX8_isLawful 19 = .ok (.getfield 23, 3) := dg_at gg132 13 rfl
theorem dX8_isLawful_22 : decode cX8_isLawful 22 = .ok (.iload_n 1, 1) := dg_at gg132 14 rfl
theorem dX8_isLawful_23 : decode cX8_isLawful 23 = .ok (.iaload, 1) := dg_at gg132 15 rfl
theorem dX8_isLawful_24 : decode cX8_isLawful 24 = .ok (.iconst 3, 1) := dg_at gg132 16 rfl
theorem dX8_isLawful_25 : decode cX8_isLawful 25 = .ok (.if_icmp .ne 16, 3) := dg_at gg132 17 rfl
theorem dX8_isLawful_28 : decode cX8_isLawful 28 = .ok (.aload_n 0, 1) := dg_at gg132 18 rfl
theorem dX8_isLawful_29 : decode cX8_isLawful 29 = .ok (.lload_n 2, 1) := dg_at gg132 19 rfl
theorem dX8_isLawful_30 : decode cX8_isLawful 30 = .ok (.invokevirtual 118, 3) := dg_at gg132 20 rfl
theorem dX8_isLawful_33 : decode cX8_isLawful 33 = .ok (.iconst 2, 1) := dg_at gg132 21 rfl
theorem dX8_isLawful_34 : decode cX8_isLawful 34 = .ok (.if_icmp .ge 7, 3) := dg_at gg132 22 rfl
theorem dX8_isLawful_37 : decode cX8_isLawful 37 = .ok (.iconst 1, 1) := dg_at gg132 23 rfl
theorem dX8_isLawful_38 : decode cX8_isLawful 38 = .ok (.goto 4, 3) := dg_at gg132 24 rfl
theorem dX8_isLawful_41 : decode cX8_isLawful 41 = .ok (.iconst 0, 1) := dg_at gg132 25 rfl
theorem dX8_isLawful_42 : decode cX8_isLawful 42 = .ok (.ireturn, 1) := dg_at gg132 26 rfl
theorem dX8_isLawful_43 : decode cX8_isLawful 43 = .ok (.iload 4, 2) := dg_at gg132 27 rfl
theorem dX8_isLawful_45 : decode cX8_isLawful 45 = .ok (.iconst 4, 1) := dg_at gg132 28 rfl
theorem dX8_isLawful_46 : decode cX8_isLawful 46 = .ok (.if_icmp .ne 27, 3) := dg_at gg132 29 rfl
theorem dX8_isLawful_49 : decode cX8_isLawful 49 = .ok (.aload_n 0, 1) := dg_at gg132 30 rfl
theorem dX8_isLawful_50 : decode cX8_isLawful 50 = .ok (.getfield 23, 3) := dg_at gg132 31 rfl
theorem dX8_isLawful_53 : decode cX8_isLawful 53 = .ok (.iload_n 1, 1) := dg_at gg132 32 rfl
theorem dX8_isLawful_54 : decode cX8_isLawful 54 = .ok (.iaload, 1) := dg_at gg132 33 rfl
theorem dX8_isLawful_55 : decode cX8_isLawful 55 = .ok (.ifCond .le 16, 3) := dg_at gg132 34 rfl
theorem dX8_isLawful_58 : decode cX8_isLawful 58 = .ok (.aload_n 0, 1) := dg_at gg132 35 rfl
theorem dX8_isLawful_59 : decode cX8_isLawful 59 = .ok (.lload_n 2, 1) := dg_at gg132 36 rfl
theorem dX8_isLawful_60 : decode cX8_isLawful 60 = .ok (.invokevirtual 118, 3) := dg_at gg132 37 rfl
theorem dX8_isLawful_63 : decode cX8_isLawful 63 = .ok (.iconst 2, 1) := dg_at gg132 38 rfl
theorem dX8_isLawful_64 : decode cX8_isLawful 64 = .ok (.if_icmp .ne 7, 3) := dg_at gg132 39 rfl
theorem dX8_isLawful_67 : decode cX8_isLawful 67 = .ok (.iconst 1, 1) := dg_at gg132 40 rfl
theorem dX8_isLawful_68 : decode cX8_isLawful 68 = .ok (.goto 4, 3) := dg_at gg132 41 rfl
theorem dX8_isLawful_71 : decode cX8_isLawful 71 = .ok (.iconst 0, 1) := dg_at gg132 42 rfl
theorem dX8_isLawful_72 : decode cX8_isLawful 72 = .ok (.ireturn, 1) := dg_at gg132 43 rfl
theorem dX8_isLawful_73 : decode cX8_isLawful 73 = .ok (.iconst 1, 1) := dg_at gg132 44 rfl
theorem dX8_isLawful_74 : decode cX8_isLawful 74 = .ok (.istore 5, 2) := dg_at gg132 45 rfl
theorem dX8_isLawful_76 : decode cX8_isLawful 76 = .ok (.iconst 0, 1) := dg_at gg132 46 rfl
theorem dX8_isLawful_77 : decode cX8_isLawful 77 = .ok (.istore 6, 2) := dg_at gg132 47 rfl
theorem dX8_isLawful_79 : decode cX8_isLawful 79 = .ok (.iload 6, 2) := dg_at gg132 48 rfl
theorem dX8_isLawful_81 : decode cX8_isLawful 81 = .ok (.iload 4, 2) := dg_at gg132 49 rfl
theorem dX8_isLawful_83 : decode cX8_isLawful 83 = .ok (.iconst 1, 1) := dg_at gg132 50 rfl
theorem dX8_isLawful_84 : decode cX8_isLawful 84 = .ok (.if_icmp .ne 16, 3) := dg_at gg132 51 rfl
theorem dX8_isLawful_87 : decode cX8_isLawful 87 = .ok (.aload_n 0, 1) := dg_at gg132 52 rfl
theorem dX8_isLawful_88 : decode cX8_isLawful 88 = .ok (.getfield 20, 3) := dg_at gg132 53 rfl
theorem dX8_isLawful_91 : decode cX8_isLawful 91 = .ok (.iconst 5, 1) := dg_at gg132 54 rfl
theorem dX8_isLawful_92 : decode cX8_isLawful 92 = .ok (.iload_n 1, 1) := dg_at gg132 55 rfl
theorem dX8_isLawful_93 : decode cX8_isLawful 93 = .ok (.imul, 1) := dg_at gg132 56 rfl
theorem dX8_isLawful_94 : decode cX8_isLawful 94 = .ok (.iconst 2, 1) := dg_at gg132 57 rfl
theorem dX8_isLawful_95 : decode cX8_isLawful 95 = .ok (.iadd, 1) := dg_at gg132 58 rfl
theorem dX8_isLawful_96 : decode cX8_isLawful 96 = .ok (.iaload, 1) := dg_at gg132 59 rfl
def gl133 : List (Nat × Instr × Nat) := [(97, .goto 4, 3), (100, .iconst 1, 1), (101, .if_icmp .ge 26, 3), (104, .iload 5, 2), (106, .ifCond .eq 21, 3), (109, .aload_n 0, 1), (110, .iload_n 1, 1), (111, .lload_n 2, 1), (112, .iload 6, 2), (114, .i2l, 1), (115, .ladd, 1), (116, .invokevirtual 136, 3), (119, .istore 5, 2), (121, .iinc 6 1, 3), (124, .goto (-45), 3), (127, .iload 5, 2), (129, .ireturn, 1)]
set_option maxRecDepth 100000 in
theorem gg133 : gl133.all (fun x => decide (decode cX8_isLawful x.1 = .ok (x.2.1, x.2.2))) = true := by decide +kernel
theorem dX8_isLawful_97 : decode cX8_isLawful 97 = .ok (.goto 4, 3) := dg_at gg133 0 rfl
theorem dX8_isLawful_100 : decode cX8_isLawful 100 = .ok (.iconst 1, 1) := dg_at gg133 1 rfl
theorem dX8_isLawful_101 : decode cX8_isLawful 101 = .ok (.if_icmp .ge 26, 3) := dg_at gg133 2 rfl
theorem dX8_isLawful_104 : decode cX8_isLawful 104 = .ok (.iload 5, 2) := dg_at gg133 3 rfl
theorem dX8_isLawful_106 : decode cX8_isLawful 106 = .ok (.ifCond .eq 21, 3) := dg_at gg133 4 rfl
theorem dX8_isLawful_109 : decode cX8_isLawful 109 = .ok (.aload_n 0, 1) := dg_at gg133 5 rfl
theorem dX8_isLawful_110 : decode cX8_isLawful 110 = .ok (.iload_n 1, 1) := dg_at gg133 6 rfl
theorem dX8_isLawful_111 : decode cX8_isLawful 111 = .ok (.lload_n 2, 1) := dg_at gg133 7 rfl
theorem dX8_isLawful_112 : decode cX8_isLawful 112 = .ok (.iload 6, 2) := dg_at gg133 8 rfl
theorem dX8_isLawful_114 : decode cX8_isLawful 114 = .ok (.i2l, 1) := dg_at gg133 9 rfl
theorem dX8_isLawful_115 : decode cX8_isLawful 115 = .ok (.ladd, 1) := dg_at gg133 10 rfl
theorem dX8_isLawful_116 : decode cX8_isLawful 116 = .ok (.invokevirtual 136, 3) := dg_at gg133 11 rfl
theorem dX8_isLawful_119 : decode cX8_isLawful 119 = .ok (.istore 5, 2) := dg_at gg133 12 rfl
theorem dX8_isLawful_121 : decode cX8_isLawful 121 = .ok (.iinc 6 1, 3) := dg_at gg133 13 rfl
theorem dX8_isLawful_124 : decode cX8_isLawful 124 = .ok (.goto (-45), 3) := dg_at gg133 14 rfl
theorem dX8_isLawful_127 : decode cX8_isLawful 127 = .ok (.iload 5, 2) := dg_at gg133 15 rfl
theorem dX8_isLawful_129 : decode cX8_isLawful 129 = .ok (.ireturn, 1) := dg_at gg133 16 rfl
def gl134 : List (Nat × Instr × Nat) := [(0, .aload_n 0, 1), (1, .iload_n 1, 1), (2, .invokevirtual 107, 3), (5, .ifCond .eq 10, 3), (8, .lload_n 2, 1), (9, .invokestatic 114, 3), (12, .ifCond .ne 7, 3), (15, .iconst (-1), 1), (16, .goto 17, 3), (19, .aload_n 0, 1), (20, .iload_n 1, 1), (21, .lload_n 2, 1), (22, .invokevirtual 140, 3), (25, .ifCond .eq 7, 3), (28, .iconst 1, 1), (29, .goto 4, 3), (32, .iconst 0, 1), (33, .ireturn, 1)]
set_option maxRecDepth 100000 in
theorem gg134 : gl134.all (fun x => decide (decode cX8_lawful x.1 = .ok (x.2.1, x.2.2))) = true := by decide +kernel
theorem dX8_lawful_0 : decode cX8_lawful 0 = .ok (.aload_n 0, 1) := dg_at gg134 0 rfl
theorem dX8_lawful_1 : decode cX8_lawful 1 = .ok (.iload_n 1, 1) := dg_at gg134 1 rfl
theorem dX8_lawful_2 : decode cX8_lawful 2 = .ok (.invokevirtual 107, 3) := dg_at gg134 2 rfl
theorem dX8_lawful_5 : decode cX8_lawful 5 = .ok (.ifCond .eq 10, 3) := dg_at gg134 3 rfl
theorem dX8_lawful_8 : decode cX8_lawful 8 = .ok (.lload_n 2, 1) := dg_at gg134 4 rfl
theorem dX8_lawful_9 : decode cX8_lawful 9 = .ok (.invokestatic 114, 3) := dg_at gg134 5 rfl
theorem dX8_lawful_12 : decode cX8_lawful 12 = .ok (.ifCond .ne 7, 3) := dg_at gg134 6 rfl
theorem dX8_lawful_15 : decode cX8_lawful 15 = .ok (.iconst (-1), 1) := dg_at gg134 7 rfl
theorem dX8_lawful_16 : decode cX8_lawful 16 = .ok (.goto 17, 3) := dg_at gg134 8 rfl
theorem dX8_lawful_19 : decode cX8_lawful 19 = .ok (.aload_n 0, 1) := dg_at gg134 9 rfl
theorem dX8_lawful_20 : decode cX8_lawful 20 = .ok (.iload_n 1, 1) := dg_at gg134 10 rfl
theorem dX8_lawful_21 : decode cX8_lawful 21 = .ok (.lload_n 2, 1) := dg_at gg134 11 rfl
theorem dX8_lawful_22 : decode cX8_lawful 22 = .ok (.invokevirtual 140, 3) := dg_at gg134 12 rfl
theorem dX8_lawful_25 : decode cX8_lawful 25 = .ok (.ifCond .eq 7, 3) := dg_at gg134 13 rfl
theorem dX8_lawful_28 : decode cX8_lawful 28 = .ok (.iconst 1, 1) := dg_at gg134 14 rfl
theorem dX8_lawful_29 : decode cX8_lawful 29 = .ok (.goto 4, 3) := dg_at gg134 15 rfl
theorem dX8_lawful_32 : decode cX8_lawful 32 = .ok (.iconst 0, 1) := dg_at gg134 16 rfl
theorem dX8_lawful_33 : decode cX8_lawful 33 = .ok (.ireturn, 1) := dg_at gg134 17 rfl
def gl135 : List (Nat × Instr × Nat) := [(0, .aload_n 0, 1), (1, .getfield 20, 3), (4, .iconst 5, 1), (5, .iload_n 1, 1), (6, .imul, 1), (7, .iconst 0, 1), (8, .iadd, 1), (9, .iaload, 1), (10, .istore_n 2, 1), (11, .iload_n 2, 1), (12, .iconst 1, 1), (13, .if_icmp .eq 8, 3), (16, .iload_n 2, 1), (17, .iconst 2, 1), (18, .if_icmp .ne 16, 3), (21, .aload_n 0, 1), (22, .getfield 20, 3), (25, .iconst 5, 1), (26, .iload_n 1, 1), (27, .imul, 1), (28, .iconst 2, 1), (29, .iadd, 1), (30, .iaload, 1), (31, .goto 4, 3), (34, .iconst 1, 1), (35, .ireturn, 1)]
set_option maxRecDepth 100000 in
theorem gg135 : gl135.all (fun x => decide (decode cX8_lasts x.1 = .ok (x.2.1, x.2.2))) = true := by decide +kernel
theorem dX8_lasts_0 : decode cX8_lasts 0 = .ok (.aload_n 0, 1) := dg_at gg135 0 rfl
theorem dX8_lasts_1 : decode cX8_lasts 1 = .ok (.getfield 20, 3) := dg_at gg135 1 rfl
theorem dX8_lasts_4 : decode cX8_lasts 4 = .ok (.iconst 5, 1) := dg_at gg135 2 rfl
theorem dX8_lasts_5 : decode cX8_lasts 5 = .ok (.iload_n 1, 1) := dg_at gg135 3 rfl
theorem dX8_lasts_6 : decode cX8_lasts 6 = .ok (.imul, 1) := dg_at gg135 4 rfl
theorem dX8_lasts_7 : decode cX8_lasts 7 = .ok (.iconst 0, 1) := dg_at gg135 5 rfl
theorem dX8_lasts_8 : decode cX8_lasts 8 = .ok (.iadd, 1) := dg_at gg135 6 rfl
theorem dX8_lasts_9 : decode cX8_lasts 9 = .ok (.iaload, 1) := dg_at gg135 7 rfl
theorem dX8_lasts_10 : decode cX8_lasts 10 = .ok (.istore_n 2, 1) := dg_at gg135 8 rfl
theorem dX8_lasts_11 : decode cX8_lasts 11 = .ok (.iload_n 2, 1) := dg_at gg135 9 rfl
theorem dX8_lasts_12 : decode cX8_lasts 12 = .ok (.iconst 1, 1) := dg_at gg135 10 rfl
theorem dX8_lasts_13 : decode cX8_lasts 13 = .ok (.if_icmp .eq 8, 3) := dg_at gg135 11 rfl
theorem dX8_lasts_16 : decode cX8_lasts 16 = .ok (.iload_n 2, 1) := dg_at gg135 12 rfl
theorem dX8_lasts_17 : decode cX8_lasts 17 = .ok (.iconst 2, 1) := dg_at gg135 13 rfl
theorem dX8_lasts_18 : decode cX8_lasts 18 = .ok (.if_icmp .ne 16, 3) := dg_at gg135 14 rfl
theorem dX8_lasts_21 : decode cX8_lasts 21 = .ok (.aload_n 0, 1) := dg_at gg135 15 rfl
theorem dX8_lasts_22 : decode cX8_lasts 22 = .ok (.getfield 20, 3) := dg_at gg135 16 rfl
theorem dX8_lasts_25 : decode cX8_lasts 25 = .ok (.iconst 5, 1) := dg_at gg135 17 rfl
theorem dX8_lasts_26 : decode cX8_lasts 26 = .ok (.iload_n 1, 1) := dg_at gg135 18 rfl
theorem dX8_lasts_27 : decode cX8_lasts 27 = .ok (.imul, 1) := dg_at gg135 19 rfl
theorem dX8_lasts_28 : decode cX8_lasts 28 = .ok (.iconst 2, 1) := dg_at gg135 20 rfl
theorem dX8_lasts_29 : decode cX8_lasts 29 = .ok (.iadd, 1) := dg_at gg135 21 rfl
theorem dX8_lasts_30 : decode cX8_lasts 30 = .ok (.iaload, 1) := dg_at gg135 22 rfl
theorem dX8_lasts_31 : decode cX8_lasts 31 = .ok (.goto 4, 3) := dg_at gg135 23 rfl
theorem dX8_lasts_34 : decode cX8_lasts 34 = .ok (.iconst 1, 1) := dg_at gg135 24 rfl
theorem dX8_lasts_35 : decode cX8_lasts 35 = .ok (.ireturn, 1) := dg_at gg135 25 rfl
def gl136 : List (Nat × Instr × Nat) := [(0, .aload_n 0, 1), (1, .iload_n 1, 1), (2, .invokevirtual 107, 3), (5, .ifCond .ne 5, 3), (8, .iconst (-1), 1), (9, .ireturn, 1), (10, .aload_n 0, 1), (11, .getfield 89, 3), (14, .bipush 8, 2), (16, .if_icmp .ne 6, 3), (19, .bipush (-3), 2), (21, .ireturn, 1), (22, .aload_n 0, 1), (23, .getfield 33, 3), (26, .aload_n 0, 1), (27, .getfield 89, 3), (30, .iload_n 1, 1), (31, .iastore, 1), (32, .aload_n 0, 1), (33, .dup, 1), (34, .getfield 89, 3), (37, .iconst 1, 1), (38, .iadd, 1), (39, .putfield 89, 3), (42, .aload_n 0, 1), (43, .getfield 89, 3), (46, .ireturn, 1)]
set_option maxRecDepth 100000 in
theorem gg136 : gl136.all (fun x => decide (decode cX8_tell x.1 = .ok (x.2.1, x.2.2))) = true := by decide +kernel
theorem dX8_tell_0 : decode cX8_tell 0 = .ok (.aload_n 0, 1) := dg_at gg136 0 rfl
theorem dX8_tell_1 : decode cX8_tell 1 = .ok (.iload_n 1, 1) := dg_at gg136 1 rfl
theorem dX8_tell_2 : decode cX8_tell 2 = .ok (.invokevirtual 107, 3) := dg_at gg136 2 rfl
theorem dX8_tell_5 : decode cX8_tell 5 = .ok (.ifCond .ne 5, 3) := dg_at gg136 3 rfl
theorem dX8_tell_8 : decode cX8_tell 8 = .ok (.iconst (-1), 1) := dg_at gg136 4 rfl
theorem dX8_tell_9 : decode cX8_tell 9 = .ok (.ireturn, 1) := dg_at gg136 5 rfl
theorem dX8_tell_10 : decode cX8_tell 10 = .ok (.aload_n 0, 1) := dg_at gg136 6 rfl
theorem dX8_tell_11 : decode cX8_tell 11 = .ok (.getfield 89, 3) := dg_at gg136 7 rfl
theorem dX8_tell_14 : decode cX8_tell 14 = .ok (.bipush 8, 2) := dg_at gg136 8 rfl
theorem dX8_tell_16 : decode cX8_tell 16 = .ok (.if_icmp .ne 6, 3) := dg_at gg136 9 rfl
theorem dX8_tell_19 : decode cX8_tell 19 = .ok (.bipush (-3), 2) := dg_at gg136 10 rfl
theorem dX8_tell_21 : decode cX8_tell 21 = .ok (.ireturn, 1) := dg_at gg136 11 rfl
theorem dX8_tell_22 : decode cX8_tell 22 = .ok (.aload_n 0, 1) := dg_at gg136 12 rfl
theorem dX8_tell_23 : decode cX8_tell 23 = .ok (.getfield 33, 3) := dg_at gg136 13 rfl
theorem dX8_tell_26 : decode cX8_tell 26 = .ok (.aload_n 0, 1) := dg_at gg136 14 rfl
theorem dX8_tell_27 : decode cX8_tell 27 = .ok (.getfield 89, 3) := dg_at gg136 15 rfl
theorem dX8_tell_30 : decode cX8_tell 30 = .ok (.iload_n 1, 1) := dg_at gg136 16 rfl
theorem dX8_tell_31 : decode cX8_tell 31 = .ok (.iastore, 1) := dg_at gg136 17 rfl
theorem dX8_tell_32 : decode cX8_tell 32 = .ok (.aload_n 0, 1) := dg_at gg136 18 rfl
theorem dX8_tell_33 : decode cX8_tell 33 = .ok (.dup, 1) := dg_at gg136 19 rfl
theorem dX8_tell_34 : decode cX8_tell 34 = .ok (.getfield 89, 3) := dg_at gg136 20 rfl
theorem dX8_tell_37 : decode cX8_tell 37 = .ok (.iconst 1, 1) := dg_at gg136 21 rfl
theorem dX8_tell_38 : decode cX8_tell 38 = .ok (.iadd, 1) := dg_at gg136 22 rfl
theorem dX8_tell_39 : decode cX8_tell 39 = .ok (.putfield 89, 3) := dg_at gg136 23 rfl
theorem dX8_tell_42 : decode cX8_tell 42 = .ok (.aload_n 0, 1) := dg_at gg136 24 rfl
theorem dX8_tell_43 : decode cX8_tell 43 = .ok (.getfield 89, 3) := dg_at gg136 25 rfl
theorem dX8_tell_46 : decode cX8_tell 46 = .ok (.ireturn, 1) := dg_at gg136 26 rfl
def gl137 : List (Nat × Instr × Nat) := [(0, .aload_n 0, 1), (1, .getfield 89, 3), (4, .istore_n 1, 1), (5, .aload_n 0, 1), (6, .iconst 0, 1), (7, .putfield 89, 3), (10, .iload_n 1, 1), (11, .ireturn, 1)]
set_option maxRecDepth 100000 in
theorem gg137 : gl137.all (fun x => decide (decode cX8_noRow x.1 = .ok (x.2.1, x.2.2))) = true := by decide +kernel
theorem dX8_noRow_0 : decode cX8_noRow 0 = .ok (.aload_n 0, 1) := dg_at gg137 0 rfl
theorem dX8_noRow_1 : decode cX8_noRow 1 = .ok (.getfield 89, 3) := dg_at gg137 1 rfl
theorem dX8_noRow_4 : decode cX8_noRow 4 = .ok (.istore_n 1, 1) := dg_at gg137 2 rfl
theorem dX8_noRow_5 : decode cX8_noRow 5 = .ok (.aload_n 0, 1) := dg_at gg137 3 rfl
theorem dX8_noRow_6 : decode cX8_noRow 6 = .ok (.iconst 0, 1) := dg_at gg137 4 rfl
theorem dX8_noRow_7 : decode cX8_noRow 7 = .ok (.putfield 89, 3) := dg_at gg137 5 rfl
theorem dX8_noRow_10 : decode cX8_noRow 10 = .ok (.iload_n 1, 1) := dg_at gg137 6 rfl
theorem dX8_noRow_11 : decode cX8_noRow 11 = .ok (.ireturn, 1) := dg_at gg137 7 rfl
def gl138 : List (Nat × Instr × Nat) := [(0, .lload_n 1, 1), (1, .invokestatic 114, 3), (4, .ifCond .eq 21, 3), (7, .iload_n 3, 1), (8, .i2l, 1), (9, .ldc2_w 130, 3), (12, .aload_n 0, 1), (13, .getfield 89, 3), (16, .iconst 1, 1), (17, .isub, 1), (18, .i2l, 1), (19, .invokestatic 53, 3), (22, .ifCond .ne 7, 3), (25, .ldc2_w 130, 3), (28, .lreturn, 1), (29, .lload_n 1, 1), (30, .lstore 4, 2), (32, .iconst 0, 1), (33, .istore 6, 2), (35, .iload 6, 2), (37, .aload_n 0, 1), (38, .getfield 89, 3), (41, .if_icmp .ge 88, 3), (44, .lload 4, 2), (46, .ldc2_w 143, 3), (49, .ladd, 1), (50, .lstore 7, 2), (52, .lload 4, 2), (54, .lload 7, 2), (56, .lcmp, 1), (57, .ifCond .gt 28, 3), (60, .aload_n 0, 1), (61, .aload_n 0, 1), (62, .getfield 33, 3), (65, .iload 6, 2), (67, .iaload, 1), (68, .lload 4, 2), (70, .invokevirtual 140, 3), (73, .ifCond .ne 12, 3), (76, .lload 4, 2), (78, .lconst 1, 1), (79, .ladd, 1), (80, .lstore 4, 2), (82, .goto (-30), 3), (85, .lload 4, 2), (87, .lload 7, 2), (89, .lcmp, 1), (90, .ifCond .le 7, 3), (93, .ldc2_w 134, 3), (96, .lreturn, 1), (97, .aload_n 0, 1), (98, .getfield 36, 3), (101, .iload 6, 2), (103, .lload 4, 2), (105, .lastore, 1), (106, .lload 4, 2), (108, .aload_n 0, 1), (109, .aload_n 0, 1), (110, .getfield 33, 3), (113, .iload 6, 2)]
set_option maxRecDepth 100000 in
theorem gg138 : gl138.all (fun x => decide (decode cX8_soon x.1 = .ok (x.2.1, x.2.2))) = true := by decide +kernel
theorem dX8_soon_0 : decode cX8_soon 0 = .ok (.lload_n 1, 1) := dg_at gg138 0 rfl
theorem dX8_soon_1 : decode cX8_soon 1 = .ok (.invokestatic 114, 3) := dg_at gg138 1 rfl
theorem dX8_soon_4 : decode cX8_soon 4 = .ok (.ifCond .eq 21, 3) := dg_at gg138 2 rfl
theorem dX8_soon_7 : decode cX8_soon 7 = .ok (.iload_n 3, 1) := dg_at gg138 3 rfl
theorem dX8_soon_8 : decode cX8_soon 8 = .ok (.i2l, 1) := dg_at gg138 4 rfl
theorem dX8_soon_9 : decode cX8_soon 9 = .ok (.ldc2_w 130, 3) := dg_at gg138 5 rfl
theorem dX8_soon_12 : decode cX8_soon 12 = .ok (.aload_n 0, 1) := dg_at gg138 6 rfl
theorem dX8_soon_13 : decode cX8_soon 13 = .ok (.getfield 89, 3) := dg_at gg138 7 rfl
theorem dX8_soon_16 : decode cX8_soon 16 = .ok (.iconst 1, 1) := dg_at gg138 8 rfl
theorem dX8_soon_17 : decode cX8_soon 17 = .ok (.isub, 1) := dg_at gg138 9 rfl
theorem dX8_soon_18 : decode cX8_soon 18 = .ok (.i2l, 1) := dg_at gg138 10 rfl
theorem dX8_soon_19 : decode cX8_soon 19 = .ok (.invokestatic 53, 3) := dg_at gg138 11 rfl
theorem dX8_soon_22 : decode cX8_soon 22 = .ok (.ifCond .ne 7, 3) := dg_at gg138 12 rfl
theorem dX8_soon_25 : decode cX8_soon 25 = .ok (.ldc2_w 130, 3) := dg_at gg138 13 rfl
theorem dX8_soon_28 : decode cX8_soon 28 = .ok (.lreturn, 1) := dg_at gg138 14 rfl
theorem dX8_soon_29 : decode cX8_soon 29 = .ok (.lload_n 1, 1) := dg_at gg138 15 rfl
theorem dX8_soon_30 : decode cX8_soon 30 = .ok (.lstore 4, 2) := dg_at gg138 16 rfl
theorem dX8_soon_32 : decode cX8_soon 32 = .ok (.iconst 0, 1) := dg_at gg138 17 rfl
theorem dX8_soon_33 : decode cX8_soon 33 = .ok (.istore 6, 2) := dg_at gg138 18 rfl
theorem dX8_soon_35 : decode cX8_soon 35 = .ok (.iload 6, 2) := dg_at gg138 19 rfl
theorem dX8_soon_37 : decode cX8_soon 37 = .ok (.aload_n 0, 1) := dg_at gg138 20 rfl
theorem dX8_soon_38 : decode cX8_soon 38 = .ok (.getfield 89, 3) := dg_at gg138 21 rfl
theorem dX8_soon_41 : decode cX8_soon 41 = .ok (.if_icmp .ge 88, 3) := dg_at gg138 22 rfl
theorem dX8_soon_44 : decode cX8_soon 44 = .ok (.lload 4, 2) := dg_at gg138 23 rfl
theorem dX8_soon_46 : decode cX8_soon 46 = .ok (.ldc2_w 143, 3) := dg_at gg138 24 rfl
theorem dX8_soon_49 : decode cX8_soon 49 = .ok (.ladd, 1) := dg_at gg138 25 rfl
theorem dX8_soon_50 : decode cX8_soon 50 = .ok (.lstore 7, 2) := dg_at gg138 26 rfl
theorem dX8_soon_52 : decode cX8_soon 52 = .ok (.lload 4, 2) := dg_at gg138 27 rfl
theorem dX8_soon_54 : decode cX8_soon 54 = .ok (.lload 7, 2) := dg_at gg138 28 rfl
theorem dX8_soon_56 : decode cX8_soon 56 = .ok (.lcmp, 1) := dg_at gg138 29 rfl
theorem dX8_soon_57 : decode cX8_soon 57 = .ok (.ifCond .gt 28, 3) := dg_at gg138 30 rfl
theorem dX8_soon_60 : decode cX8_soon 60 = .ok (.aload_n 0, 1) := dg_at gg138 31 rfl
theorem dX8_soon_61 : decode cX8_soon 61 = .ok (.aload_n 0, 1) := dg_at gg138 32 rfl
theorem dX8_soon_62 : decode cX8_soon 62 = .ok (.getfield 33, 3) := dg_at gg138 33 rfl
theorem dX8_soon_65 : decode cX8_soon 65 = .ok (.iload 6, 2) := dg_at gg138 34 rfl
theorem dX8_soon_67 : decode cX8_soon 67 = .ok (.iaload, 1) := dg_at gg138 35 rfl
theorem dX8_soon_68 : decode cX8_soon 68 = .ok (.lload 4, 2) := dg_at gg138 36 rfl
theorem dX8_soon_70 : decode cX8_soon 70 = .ok (.invokevirtual 140, 3) := dg_at gg138 37 rfl
theorem dX8_soon_73 : decode cX8_soon 73 = .ok (.ifCond .ne 12, 3) := dg_at gg138 38 rfl
theorem dX8_soon_76 : decode cX8_soon 76 = .ok (.lload 4, 2) := dg_at gg138 39 rfl
theorem dX8_soon_78 : decode cX8_soon 78 = .ok (.lconst 1, 1) := dg_at gg138 40 rfl
theorem dX8_soon_79 : decode cX8_soon 79 = .ok (.ladd, 1) := dg_at gg138 41 rfl
theorem dX8_soon_80 : decode cX8_soon 80 = .ok (.lstore 4, 2) := dg_at gg138 42 rfl
theorem dX8_soon_82 : decode cX8_soon 82 = .ok (.goto (-30), 3) := dg_at gg138 43 rfl
theorem dX8_soon_85 : decode cX8_soon 85 = .ok (.lload 4, 2) := dg_at gg138 44 rfl
theorem dX8_soon_87 : decode cX8_soon 87 = .ok (.lload 7, 2) := dg_at gg138 45 rfl
theorem dX8_soon_89 : decode cX8_soon 89 = .ok (.lcmp, 1) := dg_at gg138 46 rfl
theorem dX8_soon_90 : decode cX8_soon 90 = .ok (.ifCond .le 7, 3) := dg_at gg138 47 rfl
theorem dX8_soon_93 : decode cX8_soon 93 = .ok (.ldc2_w 134, 3) := dg_at gg138 48 rfl
theorem dX8_soon_96 : decode cX8_soon 96 = .ok (.lreturn, 1) := dg_at gg138 49 rfl
theorem dX8_soon_97 : decode cX8_soon 97 = .ok (.aload_n 0, 1) := dg_at gg138 50 rfl
theorem dX8_soon_98 : decode cX8_soon 98 = .ok (.getfield 36, 3) := dg_at gg138 51 rfl
theorem dX8_soon_101 : decode cX8_soon 101 = .ok (.iload 6, 2) := dg_at gg138 52 rfl
theorem dX8_soon_103 : decode cX8_soon 103 = .ok (.lload 4, 2) := dg_at gg138 53 rfl
theorem dX8_soon_105 : decode cX8_soon 105 = .ok (.lastore, 1) := dg_at gg138 54 rfl
theorem dX8_soon_106 : decode cX8_soon 106 = .ok (.lload 4, 2) := dg_at gg138 55 rfl
theorem dX8_soon_108 : decode cX8_soon 108 = .ok (.aload_n 0, 1) := dg_at gg138 56 rfl
theorem dX8_soon_109 : decode cX8_soon 109 = .ok (.aload_n 0, 1) := dg_at gg138 57 rfl
theorem dX8_soon_110 : decode cX8_soon 110 = .ok (.getfield 33, 3) := dg_at gg138 58 rfl
theorem dX8_soon_113 : decode cX8_soon 113 = .ok (.iload 6, 2) := dg_at gg138 59 rfl
def gl139 : List (Nat × Instr × Nat) := [(115, .iaload, 1), (116, .invokevirtual 145, 3), (119, .i2l, 1), (120, .ladd, 1), (121, .lstore 4, 2), (123, .iinc 6 1, 3), (126, .goto (-91), 3), (129, .iload_n 3, 1), (130, .ifCond .ge 8, 3), (133, .lload 4, 2), (135, .goto 9, 3), (138, .aload_n 0, 1), (139, .getfield 36, 3), (142, .iload_n 3, 1), (143, .laload, 1), (144, .lreturn, 1)]
set_option maxRecDepth 100000 in
theorem gg139 : gl139.all (fun x => decide (decode cX8_soon x.1 = .ok (x.2.1, x.2.2))) = true := by decide +kernel
theorem dX8_soon_115 : decode cX8_soon 115 = .ok (.iaload, 1) := dg_at gg139 0 rfl
theorem dX8_soon_116 : decode cX8_soon 116 = .ok (.invokevirtual 145, 3) := dg_at gg139 1 rfl
theorem dX8_soon_119 : decode cX8_soon 119 = .ok (.i2l, 1) := dg_at gg139 2 rfl
theorem dX8_soon_120 : decode cX8_soon 120 = .ok (.ladd, 1) := dg_at gg139 3 rfl
theorem dX8_soon_121 : decode cX8_soon 121 = .ok (.lstore 4, 2) := dg_at gg139 4 rfl
theorem dX8_soon_123 : decode cX8_soon 123 = .ok (.iinc 6 1, 3) := dg_at gg139 5 rfl
theorem dX8_soon_126 : decode cX8_soon 126 = .ok (.goto (-91), 3) := dg_at gg139 6 rfl
theorem dX8_soon_129 : decode cX8_soon 129 = .ok (.iload_n 3, 1) := dg_at gg139 7 rfl
theorem dX8_soon_130 : decode cX8_soon 130 = .ok (.ifCond .ge 8, 3) := dg_at gg139 8 rfl
theorem dX8_soon_133 : decode cX8_soon 133 = .ok (.lload 4, 2) := dg_at gg139 9 rfl
theorem dX8_soon_135 : decode cX8_soon 135 = .ok (.goto 9, 3) := dg_at gg139 10 rfl
theorem dX8_soon_138 : decode cX8_soon 138 = .ok (.aload_n 0, 1) := dg_at gg139 11 rfl
theorem dX8_soon_139 : decode cX8_soon 139 = .ok (.getfield 36, 3) := dg_at gg139 12 rfl
theorem dX8_soon_142 : decode cX8_soon 142 = .ok (.iload_n 3, 1) := dg_at gg139 13 rfl
theorem dX8_soon_143 : decode cX8_soon 143 = .ok (.laload, 1) := dg_at gg139 14 rfl
theorem dX8_soon_144 : decode cX8_soon 144 = .ok (.lreturn, 1) := dg_at gg139 15 rfl
def gl140 : List (Nat × Instr × Nat) := [(0, .aload_n 0, 1), (1, .getfield 86, 3), (4, .bipush 8, 2), (6, .if_icmp .ne 45, 3), (9, .iconst 0, 1), (10, .istore 4, 2), (12, .iload 4, 2), (14, .bipush 21, 2), (16, .if_icmp .ge 25, 3), (19, .aload_n 0, 1), (20, .getfield 30, 3), (23, .iload 4, 2), (25, .aload_n 0, 1), (26, .getfield 30, 3), (29, .iload 4, 2), (31, .iconst 3, 1), (32, .iadd, 1), (33, .iaload, 1), (34, .iastore, 1), (35, .iinc 4 1, 3), (38, .goto (-26), 3), (41, .aload_n 0, 1), (42, .dup, 1), (43, .getfield 86, 3), (46, .iconst 1, 1), (47, .isub, 1), (48, .putfield 86, 3), (51, .aload_n 0, 1), (52, .getfield 30, 3), (55, .iconst 3, 1), (56, .aload_n 0, 1), (57, .getfield 86, 3), (60, .imul, 1), (61, .iload_n 1, 1), (62, .iastore, 1), (63, .aload_n 0, 1), (64, .getfield 30, 3), (67, .iconst 3, 1), (68, .aload_n 0, 1), (69, .getfield 86, 3), (72, .imul, 1), (73, .iconst 1, 1), (74, .iadd, 1), (75, .iload_n 2, 1), (76, .iastore, 1), (77, .aload_n 0, 1), (78, .getfield 30, 3), (81, .iconst 3, 1), (82, .aload_n 0, 1), (83, .getfield 86, 3), (86, .imul, 1), (87, .iconst 2, 1), (88, .iadd, 1), (89, .iload_n 3, 1), (90, .iastore, 1), (91, .aload_n 0, 1), (92, .dup, 1), (93, .getfield 86, 3), (96, .iconst 1, 1), (97, .iadd, 1)]
set_option maxRecDepth 100000 in
theorem gg140 : gl140.all (fun x => decide (decode cX8_known x.1 = .ok (x.2.1, x.2.2))) = true := by decide +kernel
theorem dX8_known_0 : decode cX8_known 0 = .ok (.aload_n 0, 1) := dg_at gg140 0 rfl
theorem dX8_known_1 : decode cX8_known 1 = .ok (.getfield 86, 3) := dg_at gg140 1 rfl
theorem dX8_known_4 : decode cX8_known 4 = .ok (.bipush 8, 2) := dg_at gg140 2 rfl
theorem dX8_known_6 : decode cX8_known 6 = .ok (.if_icmp .ne 45, 3) := dg_at gg140 3 rfl
theorem dX8_known_9 : decode cX8_known 9 = .ok (.iconst 0, 1) := dg_at gg140 4 rfl
theorem dX8_known_10 : decode cX8_known 10 = .ok (.istore 4, 2) := dg_at gg140 5 rfl
theorem dX8_known_12 : decode cX8_known 12 = .ok (.iload 4, 2) := dg_at gg140 6 rfl
theorem dX8_known_14 : decode cX8_known 14 = .ok (.bipush 21, 2) := dg_at gg140 7 rfl
theorem dX8_known_16 : decode cX8_known 16 = .ok (.if_icmp .ge 25, 3) := dg_at gg140 8 rfl
theorem dX8_known_19 : decode cX8_known 19 = .ok (.aload_n 0, 1) := dg_at gg140 9 rfl
theorem dX8_known_20 : decode cX8_known 20 = .ok (.getfield 30, 3) := dg_at gg140 10 rfl
theorem dX8_known_23 : decode cX8_known 23 = .ok (.iload 4, 2) := dg_at gg140 11 rfl
theorem dX8_known_25 : decode cX8_known 25 = .ok (.aload_n 0, 1) := dg_at gg140 12 rfl
theorem dX8_known_26 : decode cX8_known 26 = .ok (.getfield 30, 3) := dg_at gg140 13 rfl
theorem dX8_known_29 : decode cX8_known 29 = .ok (.iload 4, 2) := dg_at gg140 14 rfl
theorem dX8_known_31 : decode cX8_known 31 = .ok (.iconst 3, 1) := dg_at gg140 15 rfl
theorem dX8_known_32 : decode cX8_known 32 = .ok (.iadd, 1) := dg_at gg140 16 rfl
theorem dX8_known_33 : decode cX8_known 33 = .ok (.iaload, 1) := dg_at gg140 17 rfl
theorem dX8_known_34 : decode cX8_known 34 = .ok (.iastore, 1) := dg_at gg140 18 rfl
theorem dX8_known_35 : decode cX8_known 35 = .ok (.iinc 4 1, 3) := dg_at gg140 19 rfl
theorem dX8_known_38 : decode cX8_known 38 = .ok (.goto (-26), 3) := dg_at gg140 20 rfl
theorem dX8_known_41 : decode cX8_known 41 = .ok (.aload_n 0, 1) := dg_at gg140 21 rfl
theorem dX8_known_42 : decode cX8_known 42 = .ok (.dup, 1) := dg_at gg140 22 rfl
theorem dX8_known_43 : decode cX8_known 43 = .ok (.getfield 86, 3) := dg_at gg140 23 rfl
theorem dX8_known_46 : decode cX8_known 46 = .ok (.iconst 1, 1) := dg_at gg140 24 rfl
theorem dX8_known_47 : decode cX8_known 47 = .ok (.isub, 1) := dg_at gg140 25 rfl
theorem dX8_known_48 : decode cX8_known 48 = .ok (.putfield 86, 3) := dg_at gg140 26 rfl
theorem dX8_known_51 : decode cX8_known 51 = .ok (.aload_n 0, 1) := dg_at gg140 27 rfl
theorem dX8_known_52 : decode cX8_known 52 = .ok (.getfield 30, 3) := dg_at gg140 28 rfl
theorem dX8_known_55 : decode cX8_known 55 = .ok (.iconst 3, 1) := dg_at gg140 29 rfl
theorem dX8_known_56 : decode cX8_known 56 = .ok (.aload_n 0, 1) := dg_at gg140 30 rfl
theorem dX8_known_57 : decode cX8_known 57 = .ok (.getfield 86, 3) := dg_at gg140 31 rfl
theorem dX8_known_60 : decode cX8_known 60 = .ok (.imul, 1) := dg_at gg140 32 rfl
theorem dX8_known_61 : decode cX8_known 61 = .ok (.iload_n 1, 1) := dg_at gg140 33 rfl
theorem dX8_known_62 : decode cX8_known 62 = .ok (.iastore, 1) := dg_at gg140 34 rfl
theorem dX8_known_63 : decode cX8_known 63 = .ok (.aload_n 0, 1) := dg_at gg140 35 rfl
theorem dX8_known_64 : decode cX8_known 64 = .ok (.getfield 30, 3) := dg_at gg140 36 rfl
theorem dX8_known_67 : decode cX8_known 67 = .ok (.iconst 3, 1) := dg_at gg140 37 rfl
theorem dX8_known_68 : decode cX8_known 68 = .ok (.aload_n 0, 1) := dg_at gg140 38 rfl
theorem dX8_known_69 : decode cX8_known 69 = .ok (.getfield 86, 3) := dg_at gg140 39 rfl
theorem dX8_known_72 : decode cX8_known 72 = .ok (.imul, 1) := dg_at gg140 40 rfl
theorem dX8_known_73 : decode cX8_known 73 = .ok (.iconst 1, 1) := dg_at gg140 41 rfl
theorem dX8_known_74 : decode cX8_known 74 = .ok (.iadd, 1) := dg_at gg140 42 rfl
theorem dX8_known_75 : decode cX8_known 75 = .ok (.iload_n 2, 1) := dg_at gg140 43 rfl
theorem dX8_known_76 : decode cX8_known 76 = .ok (.iastore, 1) := dg_at gg140 44 rfl
theorem dX8_known_77 : decode cX8_known 77 = .ok (.aload_n 0, 1) := dg_at gg140 45 rfl
theorem dX8_known_78 : decode cX8_known 78 = .ok (.getfield 30, 3) := dg_at gg140 46 rfl
theorem dX8_known_81 : decode cX8_known 81 = .ok (.iconst 3, 1) := dg_at gg140 47 rfl
theorem dX8_known_82 : decode cX8_known 82 = .ok (.aload_n 0, 1) := dg_at gg140 48 rfl
theorem dX8_known_83 : decode cX8_known 83 = .ok (.getfield 86, 3) := dg_at gg140 49 rfl
theorem dX8_known_86 : decode cX8_known 86 = .ok (.imul, 1) := dg_at gg140 50 rfl
theorem dX8_known_87 : decode cX8_known 87 = .ok (.iconst 2, 1) := dg_at gg140 51 rfl
theorem dX8_known_88 : decode cX8_known 88 = .ok (.iadd, 1) := dg_at gg140 52 rfl
theorem dX8_known_89 : decode cX8_known 89 = .ok (.iload_n 3, 1) := dg_at gg140 53 rfl
theorem dX8_known_90 : decode cX8_known 90 = .ok (.iastore, 1) := dg_at gg140 54 rfl
theorem dX8_known_91 : decode cX8_known 91 = .ok (.aload_n 0, 1) := dg_at gg140 55 rfl
theorem dX8_known_92 : decode cX8_known 92 = .ok (.dup, 1) := dg_at gg140 56 rfl
theorem dX8_known_93 : decode cX8_known 93 = .ok (.getfield 86, 3) := dg_at gg140 57 rfl
theorem dX8_known_96 : decode cX8_known 96 = .ok (.iconst 1, 1) := dg_at gg140 58 rfl
theorem dX8_known_97 : decode cX8_known 97 = .ok (.iadd, 1) := dg_at gg140 59 rfl
def gl141 : List (Nat × Instr × Nat) := [(98, .putfield 86, 3), (101, .return_, 1)]
set_option maxRecDepth 100000 in
theorem gg141 : gl141.all (fun x => decide (decode cX8_known x.1 = .ok (x.2.1, x.2.2))) = true := by decide +kernel
theorem dX8_known_98 : decode cX8_known 98 = .ok (.putfield 86, 3) := dg_at gg141 0 rfl
theorem dX8_known_101 : decode cX8_known 101 = .ok (.return_, 1) := dg_at gg141 1 rfl
def gl142 : List (Nat × Instr × Nat) := [(0, .iload_n 1, 1), (1, .i2l, 1), (2, .lconst 1, 1), (3, .ldc2_w 148, 3), (6, .invokestatic 53, 3), (9, .ifCond .ne 7, 3), (12, .ldc2_w 130, 3), (15, .lreturn, 1), (16, .aload_n 0, 1), (17, .getfield 26, 3), (20, .iconst 0, 1), (21, .dup2, 1), (22, .laload, 1), (23, .iload_n 1, 1), (24, .i2l, 1), (25, .ladd, 1), (26, .lastore, 1), (27, .aload_n 0, 1), (28, .iconst 0, 1), (29, .iload_n 1, 1), (30, .iconst 0, 1), (31, .invokevirtual 150, 3), (34, .aload_n 0, 1), (35, .getfield 26, 3), (38, .iconst 0, 1), (39, .laload, 1), (40, .lreturn, 1)]
set_option maxRecDepth 100000 in
theorem gg142 : gl142.all (fun x => decide (decode cX8_pass x.1 = .ok (x.2.1, x.2.2))) = true := by decide +kernel
theorem dX8_pass_0 : decode cX8_pass 0 = .ok (.iload_n 1, 1) := dg_at gg142 0 rfl
theorem dX8_pass_1 : decode cX8_pass 1 = .ok (.i2l, 1) := dg_at gg142 1 rfl
theorem dX8_pass_2 : decode cX8_pass 2 = .ok (.lconst 1, 1) := dg_at gg142 2 rfl
theorem dX8_pass_3 : decode cX8_pass 3 = .ok (.ldc2_w 148, 3) := dg_at gg142 3 rfl
theorem dX8_pass_6 : decode cX8_pass 6 = .ok (.invokestatic 53, 3) := dg_at gg142 4 rfl
theorem dX8_pass_9 : decode cX8_pass 9 = .ok (.ifCond .ne 7, 3) := dg_at gg142 5 rfl
theorem dX8_pass_12 : decode cX8_pass 12 = .ok (.ldc2_w 130, 3) := dg_at gg142 6 rfl
theorem dX8_pass_15 : decode cX8_pass 15 = .ok (.lreturn, 1) := dg_at gg142 7 rfl
theorem dX8_pass_16 : decode cX8_pass 16 = .ok (.aload_n 0, 1) := dg_at gg142 8 rfl
theorem dX8_pass_17 : decode cX8_pass 17 = .ok (.getfield 26, 3) := dg_at gg142 9 rfl
theorem dX8_pass_20 : decode cX8_pass 20 = .ok (.iconst 0, 1) := dg_at gg142 10 rfl
theorem dX8_pass_21 : decode cX8_pass 21 = .ok (.dup2, 1) := dg_at gg142 11 rfl
theorem dX8_pass_22 : decode cX8_pass 22 = .ok (.laload, 1) := dg_at gg142 12 rfl
theorem dX8_pass_23 : decode cX8_pass 23 = .ok (.iload_n 1, 1) := dg_at gg142 13 rfl
theorem dX8_pass_24 : decode cX8_pass 24 = .ok (.i2l, 1) := dg_at gg142 14 rfl
theorem dX8_pass_25 : decode cX8_pass 25 = .ok (.ladd, 1) := dg_at gg142 15 rfl
theorem dX8_pass_26 : decode cX8_pass 26 = .ok (.lastore, 1) := dg_at gg142 16 rfl
theorem dX8_pass_27 : decode cX8_pass 27 = .ok (.aload_n 0, 1) := dg_at gg142 17 rfl
theorem dX8_pass_28 : decode cX8_pass 28 = .ok (.iconst 0, 1) := dg_at gg142 18 rfl
theorem dX8_pass_29 : decode cX8_pass 29 = .ok (.iload_n 1, 1) := dg_at gg142 19 rfl
theorem dX8_pass_30 : decode cX8_pass 30 = .ok (.iconst 0, 1) := dg_at gg142 20 rfl
theorem dX8_pass_31 : decode cX8_pass 31 = .ok (.invokevirtual 150, 3) := dg_at gg142 21 rfl
theorem dX8_pass_34 : decode cX8_pass 34 = .ok (.aload_n 0, 1) := dg_at gg142 22 rfl
theorem dX8_pass_35 : decode cX8_pass 35 = .ok (.getfield 26, 3) := dg_at gg142 23 rfl
theorem dX8_pass_38 : decode cX8_pass 38 = .ok (.iconst 0, 1) := dg_at gg142 24 rfl
theorem dX8_pass_39 : decode cX8_pass 39 = .ok (.laload, 1) := dg_at gg142 25 rfl
theorem dX8_pass_40 : decode cX8_pass 40 = .ok (.lreturn, 1) := dg_at gg142 26 rfl

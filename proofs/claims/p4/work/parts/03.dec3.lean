def gl143 : List (Nat × Instr × Nat) := [(0, .aload_n 0, 1), (1, .iload_n 1, 1), (2, .invokevirtual 107, 3), (5, .ifCond .ne 7, 3), (8, .ldc2_w 130, 3), (11, .lreturn, 1), (12, .aload_n 0, 1), (13, .iload_n 1, 1), (14, .aload_n 0, 1), (15, .getfield 26, 3), (18, .iconst 0, 1), (19, .laload, 1), (20, .invokevirtual 140, 3), (23, .ifCond .ne 7, 3), (26, .ldc2_w 154, 3), (29, .lreturn, 1), (30, .aload_n 0, 1), (31, .getfield 26, 3), (34, .iconst 0, 1), (35, .dup2, 1), (36, .laload, 1), (37, .aload_n 0, 1), (38, .iload_n 1, 1), (39, .invokevirtual 145, 3), (42, .i2l, 1), (43, .ladd, 1), (44, .lastore, 1), (45, .aload_n 0, 1), (46, .getfield 26, 3), (49, .iconst 2, 1), (50, .dup2, 1), (51, .laload, 1), (52, .aload_n 0, 1), (53, .getfield 20, 3), (56, .iconst 5, 1), (57, .iload_n 1, 1), (58, .imul, 1), (59, .iconst 3, 1), (60, .iadd, 1), (61, .iaload, 1), (62, .bipush 50, 2), (64, .isub, 1), (65, .i2l, 1), (66, .ladd, 1), (67, .lastore, 1), (68, .aload_n 0, 1), (69, .getfield 26, 3), (72, .iconst 3, 1), (73, .dup2, 1), (74, .laload, 1), (75, .aload_n 0, 1), (76, .getfield 20, 3), (79, .iconst 5, 1), (80, .iload_n 1, 1), (81, .imul, 1), (82, .iconst 4, 1), (83, .iadd, 1), (84, .iaload, 1), (85, .bipush 50, 2), (87, .isub, 1)]
set_option maxRecDepth 100000 in
theorem gg143 : gl143.all (fun x => decide (decode cX8_doAct x.1 = .ok (x.2.1, x.2.2))) = true := by decide +kernel
theorem dX8_doAct_0 : decode cX8_doAct 0 = .ok (.aload_n 0, 1) := dg_at gg143 0 rfl
theorem dX8_doAct_1 : decode cX8_doAct 1 = .ok (.iload_n 1, 1) := dg_at gg143 1 rfl
theorem dX8_doAct_2 : decode cX8_doAct 2 = .ok (.invokevirtual 107, 3) := dg_at gg143 2 rfl
theorem dX8_doAct_5 : decode cX8_doAct 5 = .ok (.ifCond .ne 7, 3) := dg_at gg143 3 rfl
theorem dX8_doAct_8 : decode cX8_doAct 8 = .ok (.ldc2_w 130, 3) := dg_at gg143 4 rfl
theorem dX8_doAct_11 : decode cX8_doAct 11 = .ok (.lreturn, 1) := dg_at gg143 5 rfl
theorem dX8_doAct_12 : decode cX8_doAct 12 = .ok (.aload_n 0, 1) := dg_at gg143 6 rfl
theorem dX8_doAct_13 : decode cX8_doAct 13 = .ok (.iload_n 1, 1) := dg_at gg143 7 rfl
theorem dX8_doAct_14 : decode cX8_doAct 14 = .ok (.aload_n 0, 1) := dg_at gg143 8 rfl
theorem dX8_doAct_15 : decode cX8_doAct 15 = .ok (.getfield 26, 3) := dg_at gg143 9 rfl
theorem dX8_doAct_18 : decode cX8_doAct 18 = .ok (.iconst 0, 1) := dg_at gg143 10 rfl
theorem dX8_doAct_19 : decode cX8_doAct 19 = .ok (.laload, 1) := dg_at gg143 11 rfl
theorem dX8_doAct_20 : decode cX8_doAct 20 = .ok (.invokevirtual 140, 3) := dg_at gg143 12 rfl
theorem dX8_doAct_23 : decode cX8_doAct 23 = .ok (.ifCond .ne 7, 3) := dg_at gg143 13 rfl
theorem dX8_doAct_26 : decode cX8_doAct 26 = .ok (.ldc2_w 154, 3) := dg_at gg143 14 rfl
theorem dX8_doAct_29 : decode cX8_doAct 29 = .ok (.lreturn, 1) := dg_at gg143 15 rfl
theorem dX8_doAct_30 : decode cX8_doAct 30 = .ok (.aload_n 0, 1) := dg_at gg143 16 rfl
theorem dX8_doAct_31 : decode cX8_doAct 31 = .ok (.getfield 26, 3) := dg_at gg143 17 rfl
theorem dX8_doAct_34 : decode cX8_doAct 34 = .ok (.iconst 0, 1) := dg_at gg143 18 rfl
theorem dX8_doAct_35 : decode cX8_doAct 35 = .ok (.dup2, 1) := dg_at gg143 19 rfl
theorem dX8_doAct_36 : decode cX8_doAct 36 = .ok (.laload, 1) := dg_at gg143 20 rfl
theorem dX8_doAct_37 : decode cX8_doAct 37 = .ok (.aload_n 0, 1) := dg_at gg143 21 rfl
theorem dX8_doAct_38 : decode cX8_doAct 38 = .ok (.iload_n 1, 1) := dg_at gg143 22 rfl
theorem dX8_doAct_39 : decode cX8_doAct 39 = .ok (.invokevirtual 145, 3) := dg_at gg143 23 rfl
theorem dX8_doAct_42 : decode cX8_doAct 42 = .ok (.i2l, 1) := dg_at gg143 24 rfl
theorem dX8_doAct_43 : decode cX8_doAct 43 = .ok (.ladd, 1) := dg_at gg143 25 rfl
theorem dX8_doAct_44 : decode cX8_doAct 44 = .ok (.lastore, 1) := dg_at gg143 26 rfl
theorem dX8_doAct_45 : decode cX8_doAct 45 = .ok (.aload_n 0, 1) := dg_at gg143 27 rfl
theorem dX8_doAct_46 : decode cX8_doAct 46 = .ok (.getfield 26, 3) := dg_at gg143 28 rfl
theorem dX8_doAct_49 : decode cX8_doAct 49 = .ok (.iconst 2, 1) := dg_at gg143 29 rfl
theorem dX8_doAct_50 : decode cX8_doAct 50 = .ok (.dup2, 1) := dg_at gg143 30 rfl
theorem dX8_doAct_51 : decode cX8_doAct 51 = .ok (.laload, 1) := dg_at gg143 31 rfl
theorem dX8_doAct_52 : decode cX8_doAct 52 = .ok (.aload_n 0, 1) := dg_at gg143 32 rfl
theorem dX8_doAct_53 : decode cX8_doAct 53 = .ok (.getfield 20, 3) := dg_at gg143 33 rfl
theorem dX8_doAct_56 : decode cX8_doAct 56 = .ok (.iconst 5, 1) := dg_at gg143 34 rfl
theorem dX8_doAct_57 : decode cX8_doAct 57 = .ok (.iload_n 1, 1) := dg_at gg143 35 rfl
theorem dX8_doAct_58 : decode cX8_doAct 58 = .ok (.imul, 1) := dg_at gg143 36 rfl
theorem dX8_doAct_59 : decode cX8_doAct 59 = .ok (.iconst 3, 1) := dg_at gg143 37 rfl
theorem dX8_doAct_60 : decode cX8_doAct 60 = .ok (.iadd, 1) := dg_at gg143 38 rfl
theorem dX8_doAct_61 : decode cX8_doAct 61 = .ok (.iaload, 1) := dg_at gg143 39 rfl
theorem dX8_doAct_62 : decode cX8_doAct 62 = .ok (.bipush 50, 2) := dg_at gg143 40 rfl
theorem dX8_doAct_64 : decode cX8_doAct 64 = .ok (.isub, 1) := dg_at gg143 41 rfl
theorem dX8_doAct_65 : decode cX8_doAct 65 = .ok (.i2l, 1) := dg_at gg143 42 rfl
theorem dX8_doAct_66 : decode cX8_doAct 66 = .ok (.ladd, 1) := dg_at gg143 43 rfl
theorem dX8_doAct_67 : decode cX8_doAct 67 = .ok (.lastore, 1) := dg_at gg143 44 rfl
theorem dX8_doAct_68 : decode cX8_doAct 68 = .ok (.aload_n 0, 1) := dg_at gg143 45 rfl
theorem dX8_doAct_69 : decode cX8_doAct 69 = .ok (.getfield 26, 3) := dg_at gg143 46 rfl
theorem dX8_doAct_72 : decode cX8_doAct 72 = .ok (.iconst 3, 1) := dg_at gg143 47 rfl
theorem dX8_doAct_73 : decode cX8_doAct 73 = .ok (.dup2, 1) := dg_at gg143 48 rfl
theorem dX8_doAct_74 : decode cX8_doAct 74 = .ok (.laload, 1) := dg_at gg143 49 rfl
theorem dX8_doAct_75 : decode cX8_doAct 75 = .ok (.aload_n 0, 1) := dg_at gg143 50 rfl
theorem dX8_doAct_76 : decode cX8_doAct 76 = .ok (.getfield 20, 3) := dg_at gg143 51 rfl
theorem dX8_doAct_79 : decode cX8_doAct 79 = .ok (.iconst 5, 1) := dg_at gg143 52 rfl
theorem dX8_doAct_80 : decode cX8_doAct 80 = .ok (.iload_n 1, 1) := dg_at gg143 53 rfl
theorem dX8_doAct_81 : decode cX8_doAct 81 = .ok (.imul, 1) := dg_at gg143 54 rfl
theorem dX8_doAct_82 : decode cX8_doAct 82 = .ok (.iconst 4, 1) := dg_at gg143 55 rfl
theorem dX8_doAct_83 : decode cX8_doAct 83 = .ok (.iadd, 1) := dg_at gg143 56 rfl
theorem dX8_doAct_84 : decode cX8_doAct 84 = .ok (.iaload, 1) := dg_at gg143 57 rfl
theorem dX8_doAct_85 : decode cX8_doAct 85 = .ok (.bipush 50, 2) := dg_at gg143 58 rfl
theorem dX8_doAct_87 : decode cX8_doAct 87 = .ok (.isub, 1) := dg_at gg143 59 rfl
def gl144 : List (Nat × Instr × Nat) := [(88, .i2l, 1), (89, .ladd, 1), (90, .lastore, 1), (91, .aload_n 0, 1), (92, .iconst 1, 1), (93, .iload_n 1, 1), (94, .iconst 0, 1), (95, .invokevirtual 150, 3), (98, .aload_n 0, 1), (99, .getfield 26, 3), (102, .iconst 0, 1), (103, .laload, 1), (104, .lreturn, 1)]
set_option maxRecDepth 100000 in
theorem gg144 : gl144.all (fun x => decide (decode cX8_doAct x.1 = .ok (x.2.1, x.2.2))) = true := by decide +kernel
theorem dX8_doAct_88 : decode cX8_doAct 88 = .ok (.i2l, 1) := dg_at gg144 0 rfl
theorem dX8_doAct_89 : decode cX8_doAct 89 = .ok (.ladd, 1) := dg_at gg144 1 rfl
theorem dX8_doAct_90 : decode cX8_doAct 90 = .ok (.lastore, 1) := dg_at gg144 2 rfl
theorem dX8_doAct_91 : decode cX8_doAct 91 = .ok (.aload_n 0, 1) := dg_at gg144 3 rfl
theorem dX8_doAct_92 : decode cX8_doAct 92 = .ok (.iconst 1, 1) := dg_at gg144 4 rfl
theorem dX8_doAct_93 : decode cX8_doAct 93 = .ok (.iload_n 1, 1) := dg_at gg144 5 rfl
theorem dX8_doAct_94 : decode cX8_doAct 94 = .ok (.iconst 0, 1) := dg_at gg144 6 rfl
theorem dX8_doAct_95 : decode cX8_doAct 95 = .ok (.invokevirtual 150, 3) := dg_at gg144 7 rfl
theorem dX8_doAct_98 : decode cX8_doAct 98 = .ok (.aload_n 0, 1) := dg_at gg144 8 rfl
theorem dX8_doAct_99 : decode cX8_doAct 99 = .ok (.getfield 26, 3) := dg_at gg144 9 rfl
theorem dX8_doAct_102 : decode cX8_doAct 102 = .ok (.iconst 0, 1) := dg_at gg144 10 rfl
theorem dX8_doAct_103 : decode cX8_doAct 103 = .ok (.laload, 1) := dg_at gg144 11 rfl
theorem dX8_doAct_104 : decode cX8_doAct 104 = .ok (.lreturn, 1) := dg_at gg144 12 rfl
def gl145 : List (Nat × Instr × Nat) := [(0, .aload_n 0, 1), (1, .iload_n 1, 1), (2, .invokevirtual 107, 3), (5, .ifCond .eq 13, 3), (8, .iload_n 2, 1), (9, .i2l, 1), (10, .lconst 0, 1), (11, .lconst 1, 1), (12, .invokestatic 53, 3), (15, .ifCond .ne 5, 3), (18, .iconst (-1), 1), (19, .ireturn, 1), (20, .aload_n 0, 1), (21, .getfield 23, 3), (24, .iload_n 1, 1), (25, .iaload, 1), (26, .iload_n 2, 1), (27, .ishr, 1), (28, .iconst 1, 1), (29, .iand, 1), (30, .istore 4, 2), (32, .aload_n 0, 1), (33, .iconst 2, 1), (34, .iload_n 1, 1), (35, .aload_n 0, 1), (36, .getfield 23, 3), (39, .iload_n 1, 1), (40, .iaload, 1), (41, .invokevirtual 150, 3), (44, .aload_n 0, 1), (45, .getfield 23, 3), (48, .iload_n 1, 1), (49, .iload_n 3, 1), (50, .ifCond .eq 16, 3), (53, .aload_n 0, 1), (54, .getfield 23, 3), (57, .iload_n 1, 1), (58, .iaload, 1), (59, .iconst 1, 1), (60, .iload_n 2, 1), (61, .ishl, 1), (62, .ior, 1), (63, .goto 15, 3), (66, .aload_n 0, 1), (67, .getfield 23, 3), (70, .iload_n 1, 1), (71, .iaload, 1), (72, .iconst 1, 1), (73, .iload_n 2, 1), (74, .ishl, 1), (75, .iconst (-1), 1), (76, .ixor, 1), (77, .iand, 1), (78, .iastore, 1), (79, .iload 4, 2), (81, .ireturn, 1)]
set_option maxRecDepth 100000 in
theorem gg145 : gl145.all (fun x => decide (decode cX8_allow x.1 = .ok (x.2.1, x.2.2))) = true := by decide +kernel
theorem dX8_allow_0 : decode cX8_allow 0 = .ok (.aload_n 0, 1) := dg_at gg145 0 rfl
theorem dX8_allow_1 : decode cX8_allow 1 = .ok (.iload_n 1, 1) := dg_at gg145 1 rfl
theorem dX8_allow_2 : decode cX8_allow 2 = .ok (.invokevirtual 107, 3) := dg_at gg145 2 rfl
theorem dX8_allow_5 : decode cX8_allow 5 = .ok (.ifCond .eq 13, 3) := dg_at gg145 3 rfl
theorem dX8_allow_8 : decode cX8_allow 8 = .ok (.iload_n 2, 1) := dg_at gg145 4 rfl
theorem dX8_allow_9 : decode cX8_allow 9 = .ok (.i2l, 1) := dg_at gg145 5 rfl
theorem dX8_allow_10 : decode cX8_allow 10 = .ok (.lconst 0, 1) := dg_at gg145 6 rfl
theorem dX8_allow_11 : decode cX8_allow 11 = .ok (.lconst 1, 1) := dg_at gg145 7 rfl
theorem dX8_allow_12 : decode cX8_allow 12 = .ok (.invokestatic 53, 3) := dg_at gg145 8 rfl
theorem dX8_allow_15 : decode cX8_allow 15 = .ok (.ifCond .ne 5, 3) := dg_at gg145 9 rfl
theorem dX8_allow_18 : decode cX8_allow 18 = .ok (.iconst (-1), 1) := dg_at gg145 10 rfl
theorem dX8_allow_19 : decode cX8_allow 19 = .ok (.ireturn, 1) := dg_at gg145 11 rfl
theorem dX8_allow_20 : decode cX8_allow 20 = .ok (.aload_n 0, 1) := dg_at gg145 12 rfl
theorem dX8_allow_21 : decode cX8_allow 21 = .ok (.getfield 23, 3) := dg_at gg145 13 rfl
theorem dX8_allow_24 : decode cX8_allow 24 = .ok (.iload_n 1, 1) := dg_at gg145 14 rfl
theorem dX8_allow_25 : decode cX8_allow 25 = .ok (.iaload, 1) := dg_at gg145 15 rfl
theorem dX8_allow_26 : decode cX8_allow 26 = .ok (.iload_n 2, 1) := dg_at gg145 16 rfl
theorem dX8_allow_27 : decode cX8_allow 27 = .ok (.ishr, 1) := dg_at gg145 17 rfl
theorem dX8_allow_28 : decode cX8_allow 28 = .ok (.iconst 1, 1) := dg_at gg145 18 rfl
theorem dX8_allow_29 : decode cX8_allow 29 = .ok (.iand, 1) := dg_at gg145 19 rfl
theorem dX8_allow_30 : decode cX8_allow 30 = .ok (.istore 4, 2) := dg_at gg145 20 rfl
theorem dX8_allow_32 : decode cX8_allow 32 = .ok (.aload_n 0, 1) := dg_at gg145 21 rfl
theorem dX8_allow_33 : decode cX8_allow 33 = .ok (.iconst 2, 1) := dg_at gg145 22 rfl
theorem dX8_allow_34 : decode cX8_allow 34 = .ok (.iload_n 1, 1) := dg_at gg145 23 rfl
theorem dX8_allow_35 : decode cX8_allow 35 = .ok (.aload_n 0, 1) := dg_at gg145 24 rfl
theorem dX8_allow_36 : decode cX8_allow 36 = .ok (.getfield 23, 3) := dg_at gg145 25 rfl
theorem dX8_allow_39 : decode cX8_allow 39 = .ok (.iload_n 1, 1) := dg_at gg145 26 rfl
theorem dX8_allow_40 : decode cX8_allow 40 = .ok (.iaload, 1) := dg_at gg145 27 rfl
theorem dX8_allow_41 : decode cX8_allow 41 = .ok (.invokevirtual 150, 3) := dg_at gg145 28 rfl
theorem dX8_allow_44 : decode cX8_allow 44 = .ok (.aload_n 0, 1) := dg_at gg145 29 rfl
theorem dX8_allow_45 : decode cX8_allow 45 = .ok (.getfield 23, 3) := dg_at gg145 30 rfl
theorem dX8_allow_48 : decode cX8_allow 48 = .ok (.iload_n 1, 1) := dg_at gg145 31 rfl
theorem dX8_allow_49 : decode cX8_allow 49 = .ok (.iload_n 3, 1) := dg_at gg145 32 rfl
theorem dX8_allow_50 : decode cX8_allow 50 = .ok (.ifCond .eq 16, 3) := dg_at gg145 33 rfl
theorem dX8_allow_53 : decode cX8_allow 53 = .ok (.aload_n 0, 1) := dg_at gg145 34 rfl
theorem dX8_allow_54 : decode cX8_allow 54 = .ok (.getfield 23, 3) := dg_at gg145 35 rfl
theorem dX8_allow_57 : decode cX8_allow 57 = .ok (.iload_n 1, 1) := dg_at gg145 36 rfl
theorem dX8_allow_58 : decode cX8_allow 58 = .ok (.iaload, 1) := dg_at gg145 37 rfl
theorem dX8_allow_59 : decode cX8_allow 59 = .ok (.iconst 1, 1) := dg_at gg145 38 rfl
theorem dX8_allow_60 : decode cX8_allow 60 = .ok (.iload_n 2, 1) := dg_at gg145 39 rfl
theorem dX8_allow_61 : decode cX8_allow 61 = .ok (.ishl, 1) := dg_at gg145 40 rfl
theorem dX8_allow_62 : decode cX8_allow 62 = .ok (.ior, 1) := dg_at gg145 41 rfl
theorem dX8_allow_63 : decode cX8_allow 63 = .ok (.goto 15, 3) := dg_at gg145 42 rfl
theorem dX8_allow_66 : decode cX8_allow 66 = .ok (.aload_n 0, 1) := dg_at gg145 43 rfl
theorem dX8_allow_67 : decode cX8_allow 67 = .ok (.getfield 23, 3) := dg_at gg145 44 rfl
theorem dX8_allow_70 : decode cX8_allow 70 = .ok (.iload_n 1, 1) := dg_at gg145 45 rfl
theorem dX8_allow_71 : decode cX8_allow 71 = .ok (.iaload, 1) := dg_at gg145 46 rfl
theorem dX8_allow_72 : decode cX8_allow 72 = .ok (.iconst 1, 1) := dg_at gg145 47 rfl
theorem dX8_allow_73 : decode cX8_allow 73 = .ok (.iload_n 2, 1) := dg_at gg145 48 rfl
theorem dX8_allow_74 : decode cX8_allow 74 = .ok (.ishl, 1) := dg_at gg145 49 rfl
theorem dX8_allow_75 : decode cX8_allow 75 = .ok (.iconst (-1), 1) := dg_at gg145 50 rfl
theorem dX8_allow_76 : decode cX8_allow 76 = .ok (.ixor, 1) := dg_at gg145 51 rfl
theorem dX8_allow_77 : decode cX8_allow 77 = .ok (.iand, 1) := dg_at gg145 52 rfl
theorem dX8_allow_78 : decode cX8_allow 78 = .ok (.iastore, 1) := dg_at gg145 53 rfl
theorem dX8_allow_79 : decode cX8_allow 79 = .ok (.iload 4, 2) := dg_at gg145 54 rfl
theorem dX8_allow_81 : decode cX8_allow 81 = .ok (.ireturn, 1) := dg_at gg145 55 rfl
def gl146 : List (Nat × Instr × Nat) := [(0, .aload_n 0, 1), (1, .getfield 86, 3), (4, .ifCond .ne 6, 3), (7, .bipush (-2), 2), (9, .ireturn, 1), (10, .aload_n 0, 1), (11, .dup, 1), (12, .getfield 86, 3), (15, .iconst 1, 1), (16, .isub, 1), (17, .putfield 86, 3), (20, .aload_n 0, 1), (21, .getfield 30, 3), (24, .iconst 3, 1), (25, .aload_n 0, 1), (26, .getfield 86, 3), (29, .imul, 1), (30, .iconst 1, 1), (31, .iadd, 1), (32, .iaload, 1), (33, .istore_n 1, 1), (34, .aload_n 0, 1), (35, .getfield 30, 3), (38, .iconst 3, 1), (39, .aload_n 0, 1), (40, .getfield 86, 3), (43, .imul, 1), (44, .iaload, 1), (45, .ifCond .ne 17, 3), (48, .aload_n 0, 1), (49, .getfield 26, 3), (52, .iconst 0, 1), (53, .dup2, 1), (54, .laload, 1), (55, .iload_n 1, 1), (56, .i2l, 1), (57, .lsub, 1), (58, .lastore, 1), (59, .goto 101, 3), (62, .aload_n 0, 1), (63, .getfield 30, 3), (66, .iconst 3, 1), (67, .aload_n 0, 1), (68, .getfield 86, 3), (71, .imul, 1), (72, .iaload, 1), (73, .iconst 1, 1), (74, .if_icmp .ne 67, 3), (77, .aload_n 0, 1), (78, .getfield 26, 3), (81, .iconst 0, 1), (82, .dup2, 1), (83, .laload, 1), (84, .aload_n 0, 1), (85, .iload_n 1, 1), (86, .invokevirtual 145, 3), (89, .i2l, 1), (90, .lsub, 1), (91, .lastore, 1), (92, .aload_n 0, 1)]
set_option maxRecDepth 100000 in
theorem gg146 : gl146.all (fun x => decide (decode cX8_undo x.1 = .ok (x.2.1, x.2.2))) = true := by decide +kernel
theorem dX8_undo_0 : decode cX8_undo 0 = .ok (.aload_n 0, 1) := dg_at gg146 0 rfl
theorem dX8_undo_1 : decode cX8_undo 1 = .ok (.getfield 86, 3) := dg_at gg146 1 rfl
theorem dX8_undo_4 : decode cX8_undo 4 = .ok (.ifCond .ne 6, 3) := dg_at gg146 2 rfl
theorem dX8_undo_7 : decode cX8_undo 7 = .ok (.bipush (-2), 2) := dg_at gg146 3 rfl
theorem dX8_undo_9 : decode cX8_undo 9 = .ok (.ireturn, 1) := dg_at gg146 4 rfl
theorem dX8_undo_10 : decode cX8_undo 10 = .ok (.aload_n 0, 1) := dg_at gg146 5 rfl
theorem dX8_undo_11 : decode cX8_undo 11 = .ok (.dup, 1) := dg_at gg146 6 rfl
theorem dX8_undo_12 : decode cX8_undo 12 = .ok (.getfield 86, 3) := dg_at gg146 7 rfl
theorem dX8_undo_15 : decode cX8_undo 15 = .ok (.iconst 1, 1) := dg_at gg146 8 rfl
theorem dX8_undo_16 : decode cX8_undo 16 = .ok (.isub, 1) := dg_at gg146 9 rfl
theorem dX8_undo_17 : decode cX8_undo 17 = .ok (.putfield 86, 3) := dg_at gg146 10 rfl
theorem dX8_undo_20 : decode cX8_undo 20 = .ok (.aload_n 0, 1) := dg_at gg146 11 rfl
theorem dX8_undo_21 : decode cX8_undo 21 = .ok (.getfield 30, 3) := dg_at gg146 12 rfl
theorem dX8_undo_24 : decode cX8_undo 24 = .ok (.iconst 3, 1) := dg_at gg146 13 rfl
theorem dX8_undo_25 : decode cX8_undo 25 = .ok (.aload_n 0, 1) := dg_at gg146 14 rfl
theorem dX8_undo_26 : decode cX8_undo 26 = .ok (.getfield 86, 3) := dg_at gg146 15 rfl
theorem dX8_undo_29 : decode cX8_undo 29 = .ok (.imul, 1) := dg_at gg146 16 rfl
theorem dX8_undo_30 : decode cX8_undo 30 = .ok (.iconst 1, 1) := dg_at gg146 17 rfl
theorem dX8_undo_31 : decode cX8_undo 31 = .ok (.iadd, 1) := dg_at gg146 18 rfl
theorem dX8_undo_32 : decode cX8_undo 32 = .ok (.iaload, 1) := dg_at gg146 19 rfl
theorem dX8_undo_33 : decode cX8_undo 33 = .ok (.istore_n 1, 1) := dg_at gg146 20 rfl
theorem dX8_undo_34 : decode cX8_undo 34 = .ok (.aload_n 0, 1) := dg_at gg146 21 rfl
theorem dX8_undo_35 : decode cX8_undo 35 = .ok (.getfield 30, 3) := dg_at gg146 22 rfl
theorem dX8_undo_38 : decode cX8_undo 38 = .ok (.iconst 3, 1) := dg_at gg146 23 rfl
theorem dX8_undo_39 : decode cX8_undo 39 = .ok (.aload_n 0, 1) := dg_at gg146 24 rfl
theorem dX8_undo_40 : decode cX8_undo 40 = .ok (.getfield 86, 3) := dg_at gg146 25 rfl
theorem dX8_undo_43 : decode cX8_undo 43 = .ok (.imul, 1) := dg_at gg146 26 rfl
theorem dX8_undo_44 : decode cX8_undo 44 = .ok (.iaload, 1) := dg_at gg146 27 rfl
theorem dX8_undo_45 : decode cX8_undo 45 = .ok (.ifCond .ne 17, 3) := dg_at gg146 28 rfl
theorem dX8_undo_48 : decode cX8_undo 48 = .ok (.aload_n 0, 1) := dg_at gg146 29 rfl
theorem dX8_undo_49 : decode cX8_undo 49 = .ok (.getfield 26, 3) := dg_at gg146 30 rfl
theorem dX8_undo_52 : decode cX8_undo 52 = .ok (.iconst 0, 1) := dg_at gg146 31 rfl
theorem dX8_undo_53 : decode cX8_undo 53 = .ok (.dup2, 1) := dg_at gg146 32 rfl
theorem dX8_undo_54 : decode cX8_undo 54 = .ok (.laload, 1) := dg_at gg146 33 rfl
theorem dX8_undo_55 : decode cX8_undo 55 = .ok (.iload_n 1, 1) := dg_at gg146 34 rfl
theorem dX8_undo_56 : decode cX8_undo 56 = .ok (.i2l, 1) := dg_at gg146 35 rfl
theorem dX8_undo_57 : decode cX8_undo 57 = .ok (.lsub, 1) := dg_at gg146 36 rfl
theorem dX8_undo_58 : decode cX8_undo 58 = .ok (.lastore, 1) := dg_at gg146 37 rfl
theorem dX8_undo_59 : decode cX8_undo 59 = .ok (.goto 101, 3) := dg_at gg146 38 rfl
theorem dX8_undo_62 : decode cX8_undo 62 = .ok (.aload_n 0, 1) := dg_at gg146 39 rfl
theorem dX8_undo_63 : decode cX8_undo 63 = .ok (.getfield 30, 3) := dg_at gg146 40 rfl
theorem dX8_undo_66 : decode cX8_undo 66 = .ok (.iconst 3, 1) := dg_at gg146 41 rfl
theorem dX8_undo_67 : decode cX8_undo 67 = .ok (.aload_n 0, 1) := dg_at gg146 42 rfl
theorem dX8_undo_68 : decode cX8_undo 68 = .ok (.getfield 86, 3) := dg_at gg146 43 rfl
theorem dX8_undo_71 : decode cX8_undo 71 = .ok (.imul, 1) := dg_at gg146 44 rfl
theorem dX8_undo_72 : decode cX8_undo 72 = .ok (.iaload, 1) := dg_at gg146 45 rfl
theorem dX8_undo_73 : decode cX8_undo 73 = .ok (.iconst 1, 1) := dg_at gg146 46 rfl
theorem dX8_undo_74 : decode cX8_undo 74 = .ok (.if_icmp .ne 67, 3) := dg_at gg146 47 rfl
theorem dX8_undo_77 : decode cX8_undo 77 = .ok (.aload_n 0, 1) := dg_at gg146 48 rfl
theorem dX8_undo_78 : decode cX8_undo 78 = .ok (.getfield 26, 3) := dg_at gg146 49 rfl
theorem dX8_undo_81 : decode cX8_undo 81 = .ok (.iconst 0, 1) := dg_at gg146 50 rfl
theorem dX8_undo_82 : decode cX8_undo 82 = .ok (.dup2, 1) := dg_at gg146 51 rfl
theorem dX8_undo_83 : decode cX8_undo 83 = .ok (.laload, 1) := dg_at gg146 52 rfl
theorem dX8_undo_84 : decode cX8_undo 84 = .ok (.aload_n 0, 1) := dg_at gg146 53 rfl
theorem dX8_undo_85 : decode cX8_undo 85 = .ok (.iload_n 1, 1) := dg_at gg146 54 rfl
theorem dX8_undo_86 : decode cX8_undo 86 = .ok (.invokevirtual 145, 3) := dg_at gg146 55 rfl
theorem dX8_undo_89 : decode cX8_undo 89 = .ok (.i2l, 1) := dg_at gg146 56 rfl
theorem dX8_undo_90 : decode cX8_undo 90 = .ok (.lsub, 1) := dg_at gg146 57 rfl
theorem dX8_undo_91 : decode cX8_undo 91 = .ok (.lastore, 1) := dg_at gg146 58 rfl
theorem dX8_undo_92 : decode cX8_undo 92 = .ok (.aload_n 0, 1) := dg_at gg146 59 rfl
def gl147 : List (Nat × Instr × Nat) := [(93, .getfield 26, 3), (96, .iconst 2, 1), (97, .dup2, 1), (98, .laload, 1), (99, .aload_n 0, 1), (100, .getfield 20, 3), (103, .iconst 5, 1), (104, .iload_n 1, 1), (105, .imul, 1), (106, .iconst 3, 1), (107, .iadd, 1), (108, .iaload, 1), (109, .bipush 50, 2), (111, .isub, 1), (112, .i2l, 1), (113, .lsub, 1), (114, .lastore, 1), (115, .aload_n 0, 1), (116, .getfield 26, 3), (119, .iconst 3, 1), (120, .dup2, 1), (121, .laload, 1), (122, .aload_n 0, 1), (123, .getfield 20, 3), (126, .iconst 5, 1), (127, .iload_n 1, 1), (128, .imul, 1), (129, .iconst 4, 1), (130, .iadd, 1), (131, .iaload, 1), (132, .bipush 50, 2), (134, .isub, 1), (135, .i2l, 1), (136, .lsub, 1), (137, .lastore, 1), (138, .goto 22, 3), (141, .aload_n 0, 1), (142, .getfield 23, 3), (145, .iload_n 1, 1), (146, .aload_n 0, 1), (147, .getfield 30, 3), (150, .iconst 3, 1), (151, .aload_n 0, 1), (152, .getfield 86, 3), (155, .imul, 1), (156, .iconst 2, 1), (157, .iadd, 1), (158, .iaload, 1), (159, .iastore, 1), (160, .aload_n 0, 1), (161, .getfield 86, 3), (164, .ireturn, 1)]
set_option maxRecDepth 100000 in
theorem gg147 : gl147.all (fun x => decide (decode cX8_undo x.1 = .ok (x.2.1, x.2.2))) = true := by decide +kernel
theorem dX8_undo_93 : decode cX8_undo 93 = .ok (.getfield 26, 3) := dg_at gg147 0 rfl
theorem dX8_undo_96 : decode cX8_undo 96 = .ok (.iconst 2, 1) := dg_at gg147 1 rfl
theorem dX8_undo_97 : decode cX8_undo 97 = .ok (.dup2, 1) := dg_at gg147 2 rfl
theorem dX8_undo_98 : decode cX8_undo 98 = .ok (.laload, 1) := dg_at gg147 3 rfl
theorem dX8_undo_99 : decode cX8_undo 99 = .ok (.aload_n 0, 1) := dg_at gg147 4 rfl
theorem dX8_undo_100 : decode cX8_undo 100 = .ok (.getfield 20, 3) := dg_at gg147 5 rfl
theorem dX8_undo_103 : decode cX8_undo 103 = .ok (.iconst 5, 1) := dg_at gg147 6 rfl
theorem dX8_undo_104 : decode cX8_undo 104 = .ok (.iload_n 1, 1) := dg_at gg147 7 rfl
theorem dX8_undo_105 : decode cX8_undo 105 = .ok (.imul, 1) := dg_at gg147 8 rfl
theorem dX8_undo_106 : decode cX8_undo 106 = .ok (.iconst 3, 1) := dg_at gg147 9 rfl
theorem dX8_undo_107 : decode cX8_undo 107 = .ok (.iadd, 1) := dg_at gg147 10 rfl
theorem dX8_undo_108 : decode cX8_undo 108 = .ok (.iaload, 1) := dg_at gg147 11 rfl
theorem dX8_undo_109 : decode cX8_undo 109 = .ok (.bipush 50, 2) := dg_at gg147 12 rfl
theorem dX8_undo_111 : decode cX8_undo 111 = .ok (.isub, 1) := dg_at gg147 13 rfl
theorem dX8_undo_112 : decode cX8_undo 112 = .ok (.i2l, 1) := dg_at gg147 14 rfl
theorem dX8_undo_113 : decode cX8_undo 113 = .ok (.lsub, 1) := dg_at gg147 15 rfl
theorem dX8_undo_114 : decode cX8_undo 114 = .ok (.lastore, 1) := dg_at gg147 16 rfl
theorem dX8_undo_115 : decode cX8_undo 115 = .ok (.aload_n 0, 1) := dg_at gg147 17 rfl
theorem dX8_undo_116 : decode cX8_undo 116 = .ok (.getfield 26, 3) := dg_at gg147 18 rfl
theorem dX8_undo_119 : decode cX8_undo 119 = .ok (.iconst 3, 1) := dg_at gg147 19 rfl
theorem dX8_undo_120 : decode cX8_undo 120 = .ok (.dup2, 1) := dg_at gg147 20 rfl
theorem dX8_undo_121 : decode cX8_undo 121 = .ok (.laload, 1) := dg_at gg147 21 rfl
theorem dX8_undo_122 : decode cX8_undo 122 = .ok (.aload_n 0, 1) := dg_at gg147 22 rfl
theorem dX8_undo_123 : decode cX8_undo 123 = .ok (.getfield 20, 3) := dg_at gg147 23 rfl
theorem dX8_undo_126 : decode cX8_undo 126 = .ok (.iconst 5, 1) := dg_at gg147 24 rfl
theorem dX8_undo_127 : decode cX8_undo 127 = .ok (.iload_n 1, 1) := dg_at gg147 25 rfl
theorem dX8_undo_128 : decode cX8_undo 128 = .ok (.imul, 1) := dg_at gg147 26 rfl
theorem dX8_undo_129 : decode cX8_undo 129 = .ok (.iconst 4, 1) := dg_at gg147 27 rfl
theorem dX8_undo_130 : decode cX8_undo 130 = .ok (.iadd, 1) := dg_at gg147 28 rfl
theorem dX8_undo_131 : decode cX8_undo 131 = .ok (.iaload, 1) := dg_at gg147 29 rfl
theorem dX8_undo_132 : decode cX8_undo 132 = .ok (.bipush 50, 2) := dg_at gg147 30 rfl
theorem dX8_undo_134 : decode cX8_undo 134 = .ok (.isub, 1) := dg_at gg147 31 rfl
theorem dX8_undo_135 : decode cX8_undo 135 = .ok (.i2l, 1) := dg_at gg147 32 rfl
theorem dX8_undo_136 : decode cX8_undo 136 = .ok (.lsub, 1) := dg_at gg147 33 rfl
theorem dX8_undo_137 : decode cX8_undo 137 = .ok (.lastore, 1) := dg_at gg147 34 rfl
theorem dX8_undo_138 : decode cX8_undo 138 = .ok (.goto 22, 3) := dg_at gg147 35 rfl
theorem dX8_undo_141 : decode cX8_undo 141 = .ok (.aload_n 0, 1) := dg_at gg147 36 rfl
theorem dX8_undo_142 : decode cX8_undo 142 = .ok (.getfield 23, 3) := dg_at gg147 37 rfl
theorem dX8_undo_145 : decode cX8_undo 145 = .ok (.iload_n 1, 1) := dg_at gg147 38 rfl
theorem dX8_undo_146 : decode cX8_undo 146 = .ok (.aload_n 0, 1) := dg_at gg147 39 rfl
theorem dX8_undo_147 : decode cX8_undo 147 = .ok (.getfield 30, 3) := dg_at gg147 40 rfl
theorem dX8_undo_150 : decode cX8_undo 150 = .ok (.iconst 3, 1) := dg_at gg147 41 rfl
theorem dX8_undo_151 : decode cX8_undo 151 = .ok (.aload_n 0, 1) := dg_at gg147 42 rfl
theorem dX8_undo_152 : decode cX8_undo 152 = .ok (.getfield 86, 3) := dg_at gg147 43 rfl
theorem dX8_undo_155 : decode cX8_undo 155 = .ok (.imul, 1) := dg_at gg147 44 rfl
theorem dX8_undo_156 : decode cX8_undo 156 = .ok (.iconst 2, 1) := dg_at gg147 45 rfl
theorem dX8_undo_157 : decode cX8_undo 157 = .ok (.iadd, 1) := dg_at gg147 46 rfl
theorem dX8_undo_158 : decode cX8_undo 158 = .ok (.iaload, 1) := dg_at gg147 47 rfl
theorem dX8_undo_159 : decode cX8_undo 159 = .ok (.iastore, 1) := dg_at gg147 48 rfl
theorem dX8_undo_160 : decode cX8_undo 160 = .ok (.aload_n 0, 1) := dg_at gg147 49 rfl
theorem dX8_undo_161 : decode cX8_undo 161 = .ok (.getfield 86, 3) := dg_at gg147 50 rfl
theorem dX8_undo_164 : decode cX8_undo 164 = .ok (.ireturn, 1) := dg_at gg147 51 rfl
def gl148 : List (Nat × Instr × Nat) := [(0, .aload_n 0, 1), (1, .getfield 20, 3), (4, .iconst 5, 1), (5, .iload_n 1, 1), (6, .imul, 1), (7, .iconst 3, 1), (8, .iadd, 1), (9, .iload_n 2, 1), (10, .iadd, 1), (11, .iaload, 1), (12, .bipush 50, 2), (14, .isub, 1), (15, .ireturn, 1)]
set_option maxRecDepth 100000 in
theorem gg148 : gl148.all (fun x => decide (decode cX8_worth x.1 = .ok (x.2.1, x.2.2))) = true := by decide +kernel
theorem dX8_worth_0 : decode cX8_worth 0 = .ok (.aload_n 0, 1) := dg_at gg148 0 rfl
theorem dX8_worth_1 : decode cX8_worth 1 = .ok (.getfield 20, 3) := dg_at gg148 1 rfl
theorem dX8_worth_4 : decode cX8_worth 4 = .ok (.iconst 5, 1) := dg_at gg148 2 rfl
theorem dX8_worth_5 : decode cX8_worth 5 = .ok (.iload_n 1, 1) := dg_at gg148 3 rfl
theorem dX8_worth_6 : decode cX8_worth 6 = .ok (.imul, 1) := dg_at gg148 4 rfl
theorem dX8_worth_7 : decode cX8_worth 7 = .ok (.iconst 3, 1) := dg_at gg148 5 rfl
theorem dX8_worth_8 : decode cX8_worth 8 = .ok (.iadd, 1) := dg_at gg148 6 rfl
theorem dX8_worth_9 : decode cX8_worth 9 = .ok (.iload_n 2, 1) := dg_at gg148 7 rfl
theorem dX8_worth_10 : decode cX8_worth 10 = .ok (.iadd, 1) := dg_at gg148 8 rfl
theorem dX8_worth_11 : decode cX8_worth 11 = .ok (.iaload, 1) := dg_at gg148 9 rfl
theorem dX8_worth_12 : decode cX8_worth 12 = .ok (.bipush 50, 2) := dg_at gg148 10 rfl
theorem dX8_worth_14 : decode cX8_worth 14 = .ok (.isub, 1) := dg_at gg148 11 rfl
theorem dX8_worth_15 : decode cX8_worth 15 = .ok (.ireturn, 1) := dg_at gg148 12 rfl
def gl149 : List (Nat × Instr × Nat) := [(0, .iconst 0, 1), (1, .istore 4, 2), (3, .iconst 0, 1), (4, .istore 5, 2), (6, .iload 5, 2), (8, .aload_n 0, 1), (9, .getfield 17, 3), (12, .iconst 0, 1), (13, .iaload, 1), (14, .if_icmp .ge 73, 3), (17, .aload_n 0, 1), (18, .getfield 23, 3), (21, .iload 5, 2), (23, .iaload, 1), (24, .istore 6, 2), (26, .iload 5, 2), (28, .iload_n 2, 1), (29, .if_icmp .ne 10, 3), (32, .iload 6, 2), (34, .iconst 2, 1), (35, .iand, 1), (36, .goto 5, 3), (39, .iload 6, 2), (41, .istore 6, 2), (43, .iload 5, 2), (45, .iload_n 3, 1), (46, .if_icmp .ne 10, 3), (49, .iload 6, 2), (51, .iconst 1, 1), (52, .iand, 1), (53, .goto 5, 3), (56, .iload 6, 2), (58, .istore 6, 2), (60, .iload 4, 2), (62, .iload 6, 2), (64, .ifCond .ne 7, 3), (67, .iconst 0, 1), (68, .goto 10, 3), (71, .aload_n 0, 1), (72, .iload 5, 2), (74, .iload_n 1, 1), (75, .invokevirtual 156, 3), (78, .iadd, 1), (79, .istore 4, 2), (81, .iinc 5 1, 3), (84, .goto (-78), 3), (87, .iload 4, 2), (89, .ireturn, 1)]
set_option maxRecDepth 100000 in
theorem gg149 : gl149.all (fun x => decide (decode cX8_gains x.1 = .ok (x.2.1, x.2.2))) = true := by decide +kernel
theorem dX8_gains_0 : decode cX8_gains 0 = .ok (.iconst 0, 1) := dg_at gg149 0 rfl
theorem dX8_gains_1 : decode cX8_gains 1 = .ok (.istore 4, 2) := dg_at gg149 1 rfl
theorem dX8_gains_3 : decode cX8_gains 3 = .ok (.iconst 0, 1) := dg_at gg149 2 rfl
theorem dX8_gains_4 : decode cX8_gains 4 = .ok (.istore 5, 2) := dg_at gg149 3 rfl
theorem dX8_gains_6 : decode cX8_gains 6 = .ok (.iload 5, 2) := dg_at gg149 4 rfl
theorem dX8_gains_8 : decode cX8_gains 8 = .ok (.aload_n 0, 1) := dg_at gg149 5 rfl
theorem dX8_gains_9 : decode cX8_gains 9 = .ok (.getfield 17, 3) := dg_at gg149 6 rfl
theorem dX8_gains_12 : decode cX8_gains 12 = .ok (.iconst 0, 1) := dg_at gg149 7 rfl
theorem dX8_gains_13 : decode cX8_gains 13 = .ok (.iaload, 1) := dg_at gg149 8 rfl
theorem dX8_gains_14 : decode cX8_gains 14 = .ok (.if_icmp .ge 73, 3) := dg_at gg149 9 rfl
theorem dX8_gains_17 : decode cX8_gains 17 = .ok (.aload_n 0, 1) := dg_at gg149 10 rfl
theorem dX8_gains_18 : decode cX8_gains 18 = .ok (.getfield 23, 3) := dg_at gg149 11 rfl
theorem dX8_gains_21 : decode cX8_gains 21 = .ok (.iload 5, 2) := dg_at gg149 12 rfl
theorem dX8_gains_23 : decode cX8_gains 23 = .ok (.iaload, 1) := dg_at gg149 13 rfl
theorem dX8_gains_24 : decode cX8_gains 24 = .ok (.istore 6, 2) := dg_at gg149 14 rfl
theorem dX8_gains_26 : decode cX8_gains 26 = .ok (.iload 5, 2) := dg_at gg149 15 rfl
theorem dX8_gains_28 : decode cX8_gains 28 = .ok (.iload_n 2, 1) := dg_at gg149 16 rfl
theorem dX8_gains_29 : decode cX8_gains 29 = .ok (.if_icmp .ne 10, 3) := dg_at gg149 17 rfl
theorem dX8_gains_32 : decode cX8_gains 32 = .ok (.iload 6, 2) := dg_at gg149 18 rfl
theorem dX8_gains_34 : decode cX8_gains 34 = .ok (.iconst 2, 1) := dg_at gg149 19 rfl
theorem dX8_gains_35 : decode cX8_gains 35 = .ok (.iand, 1) := dg_at gg149 20 rfl
theorem dX8_gains_36 : decode cX8_gains 36 = .ok (.goto 5, 3) := dg_at gg149 21 rfl
theorem dX8_gains_39 : decode cX8_gains 39 = .ok (.iload 6, 2) := dg_at gg149 22 rfl
theorem dX8_gains_41 : decode cX8_gains 41 = .ok (.istore 6, 2) := dg_at gg149 23 rfl
theorem dX8_gains_43 : decode cX8_gains 43 = .ok (.iload 5, 2) := dg_at gg149 24 rfl
theorem dX8_gains_45 : decode cX8_gains 45 = .ok (.iload_n 3, 1) := dg_at gg149 25 rfl
theorem dX8_gains_46 : decode cX8_gains 46 = .ok (.if_icmp .ne 10, 3) := dg_at gg149 26 rfl
theorem dX8_gains_49 : decode cX8_gains 49 = .ok (.iload 6, 2) := dg_at gg149 27 rfl
theorem dX8_gains_51 : decode cX8_gains 51 = .ok (.iconst 1, 1) := dg_at gg149 28 rfl
theorem dX8_gains_52 : decode cX8_gains 52 = .ok (.iand, 1) := dg_at gg149 29 rfl
theorem dX8_gains_53 : decode cX8_gains 53 = .ok (.goto 5, 3) := dg_at gg149 30 rfl
theorem dX8_gains_56 : decode cX8_gains 56 = .ok (.iload 6, 2) := dg_at gg149 31 rfl
theorem dX8_gains_58 : decode cX8_gains 58 = .ok (.istore 6, 2) := dg_at gg149 32 rfl
theorem dX8_gains_60 : decode cX8_gains 60 = .ok (.iload 4, 2) := dg_at gg149 33 rfl
theorem dX8_gains_62 : decode cX8_gains 62 = .ok (.iload 6, 2) := dg_at gg149 34 rfl
theorem dX8_gains_64 : decode cX8_gains 64 = .ok (.ifCond .ne 7, 3) := dg_at gg149 35 rfl
theorem dX8_gains_67 : decode cX8_gains 67 = .ok (.iconst 0, 1) := dg_at gg149 36 rfl
theorem dX8_gains_68 : decode cX8_gains 68 = .ok (.goto 10, 3) := dg_at gg149 37 rfl
theorem dX8_gains_71 : decode cX8_gains 71 = .ok (.aload_n 0, 1) := dg_at gg149 38 rfl
theorem dX8_gains_72 : decode cX8_gains 72 = .ok (.iload 5, 2) := dg_at gg149 39 rfl
theorem dX8_gains_74 : decode cX8_gains 74 = .ok (.iload_n 1, 1) := dg_at gg149 40 rfl
theorem dX8_gains_75 : decode cX8_gains 75 = .ok (.invokevirtual 156, 3) := dg_at gg149 41 rfl
theorem dX8_gains_78 : decode cX8_gains 78 = .ok (.iadd, 1) := dg_at gg149 42 rfl
theorem dX8_gains_79 : decode cX8_gains 79 = .ok (.istore 4, 2) := dg_at gg149 43 rfl
theorem dX8_gains_81 : decode cX8_gains 81 = .ok (.iinc 5 1, 3) := dg_at gg149 44 rfl
theorem dX8_gains_84 : decode cX8_gains 84 = .ok (.goto (-78), 3) := dg_at gg149 45 rfl
theorem dX8_gains_87 : decode cX8_gains 87 = .ok (.iload 4, 2) := dg_at gg149 46 rfl
theorem dX8_gains_89 : decode cX8_gains 89 = .ok (.ireturn, 1) := dg_at gg149 47 rfl
def gl150 : List (Nat × Instr × Nat) := [(0, .iload_n 1, 1), (1, .i2l, 1), (2, .lconst 0, 1), (3, .lconst 1, 1), (4, .invokestatic 53, 3), (7, .ifCond .eq 17, 3), (10, .aload_n 0, 1), (11, .iload_n 1, 1), (12, .iconst (-1), 1), (13, .iconst (-1), 1), (14, .invokevirtual 160, 3), (17, .sipush 1000, 3), (20, .iadd, 1), (21, .goto 4, 3), (24, .iconst (-1), 1), (25, .ireturn, 1)]
set_option maxRecDepth 100000 in
theorem gg150 : gl150.all (fun x => decide (decode cX8_gain x.1 = .ok (x.2.1, x.2.2))) = true := by decide +kernel
theorem dX8_gain_0 : decode cX8_gain 0 = .ok (.iload_n 1, 1) := dg_at gg150 0 rfl
theorem dX8_gain_1 : decode cX8_gain 1 = .ok (.i2l, 1) := dg_at gg150 1 rfl
theorem dX8_gain_2 : decode cX8_gain 2 = .ok (.lconst 0, 1) := dg_at gg150 2 rfl
theorem dX8_gain_3 : decode cX8_gain 3 = .ok (.lconst 1, 1) := dg_at gg150 3 rfl
theorem dX8_gain_4 : decode cX8_gain 4 = .ok (.invokestatic 53, 3) := dg_at gg150 4 rfl
theorem dX8_gain_7 : decode cX8_gain 7 = .ok (.ifCond .eq 17, 3) := dg_at gg150 5 rfl
theorem dX8_gain_10 : decode cX8_gain 10 = .ok (.aload_n 0, 1) := dg_at gg150 6 rfl
theorem dX8_gain_11 : decode cX8_gain 11 = .ok (.iload_n 1, 1) := dg_at gg150 7 rfl
theorem dX8_gain_12 : decode cX8_gain 12 = .ok (.iconst (-1), 1) := dg_at gg150 8 rfl
theorem dX8_gain_13 : decode cX8_gain 13 = .ok (.iconst (-1), 1) := dg_at gg150 9 rfl
theorem dX8_gain_14 : decode cX8_gain 14 = .ok (.invokevirtual 160, 3) := dg_at gg150 10 rfl
theorem dX8_gain_17 : decode cX8_gain 17 = .ok (.sipush 1000, 3) := dg_at gg150 11 rfl
theorem dX8_gain_20 : decode cX8_gain 20 = .ok (.iadd, 1) := dg_at gg150 12 rfl
theorem dX8_gain_21 : decode cX8_gain 21 = .ok (.goto 4, 3) := dg_at gg150 13 rfl
theorem dX8_gain_24 : decode cX8_gain 24 = .ok (.iconst (-1), 1) := dg_at gg150 14 rfl
theorem dX8_gain_25 : decode cX8_gain 25 = .ok (.ireturn, 1) := dg_at gg150 15 rfl
def gl151 : List (Nat × Instr × Nat) := [(0, .iload_n 1, 1), (1, .i2l, 1), (2, .ldc2_w 130, 3), (5, .aload_n 0, 1), (6, .getfield 17, 3), (9, .iconst 0, 1), (10, .iaload, 1), (11, .iconst 1, 1), (12, .isub, 1), (13, .i2l, 1), (14, .invokestatic 53, 3), (17, .ifCond .eq 47, 3), (20, .iload_n 2, 1), (21, .i2l, 1), (22, .ldc2_w 130, 3), (25, .aload_n 0, 1), (26, .getfield 17, 3), (29, .iconst 0, 1), (30, .iaload, 1), (31, .iconst 1, 1), (32, .isub, 1), (33, .i2l, 1), (34, .invokestatic 53, 3), (37, .ifCond .eq 27, 3), (40, .iload_n 3, 1), (41, .i2l, 1), (42, .lconst 0, 1), (43, .lconst 1, 1), (44, .invokestatic 53, 3), (47, .ifCond .eq 17, 3), (50, .aload_n 0, 1), (51, .iload_n 3, 1), (52, .iload_n 1, 1), (53, .iload_n 2, 1), (54, .invokevirtual 160, 3), (57, .sipush 1000, 3), (60, .iadd, 1), (61, .goto 4, 3), (64, .iconst (-1), 1), (65, .ireturn, 1)]
set_option maxRecDepth 100000 in
theorem gg151 : gl151.all (fun x => decide (decode cX8_forbid x.1 = .ok (x.2.1, x.2.2))) = true := by decide +kernel
theorem dX8_forbid_0 : decode cX8_forbid 0 = .ok (.iload_n 1, 1) := dg_at gg151 0 rfl
theorem dX8_forbid_1 : decode cX8_forbid 1 = .ok (.i2l, 1) := dg_at gg151 1 rfl
theorem dX8_forbid_2 : decode cX8_forbid 2 = .ok (.ldc2_w 130, 3) := dg_at gg151 2 rfl
theorem dX8_forbid_5 : decode cX8_forbid 5 = .ok (.aload_n 0, 1) := dg_at gg151 3 rfl
theorem dX8_forbid_6 : decode cX8_forbid 6 = .ok (.getfield 17, 3) := dg_at gg151 4 rfl
theorem dX8_forbid_9 : decode cX8_forbid 9 = .ok (.iconst 0, 1) := dg_at gg151 5 rfl
theorem dX8_forbid_10 : decode cX8_forbid 10 = .ok (.iaload, 1) := dg_at gg151 6 rfl
theorem dX8_forbid_11 : decode cX8_forbid 11 = .ok (.iconst 1, 1) := dg_at gg151 7 rfl
theorem dX8_forbid_12 : decode cX8_forbid 12 = .ok (.isub, 1) := dg_at gg151 8 rfl
theorem dX8_forbid_13 : decode cX8_forbid 13 = .ok (.i2l, 1) := dg_at gg151 9 rfl
theorem dX8_forbid_14 : decode cX8_forbid 14 = .ok (.invokestatic 53, 3) := dg_at gg151 10 rfl
theorem dX8_forbid_17 : decode cX8_forbid 17 = .ok (.ifCond .eq 47, 3) := dg_at gg151 11 rfl
theorem dX8_forbid_20 : decode cX8_forbid 20 = .ok (.iload_n 2, 1) := dg_at gg151 12 rfl
theorem dX8_forbid_21 : decode cX8_forbid 21 = .ok (.i2l, 1) := dg_at gg151 13 rfl
theorem dX8_forbid_22 : decode cX8_forbid 22 = .ok (.ldc2_w 130, 3) := dg_at gg151 14 rfl
theorem dX8_forbid_25 : decode cX8_forbid 25 = .ok (.aload_n 0, 1) := dg_at gg151 15 rfl
theorem dX8_forbid_26 : decode cX8_forbid 26 = .ok (.getfield 17, 3) := dg_at gg151 16 rfl
theorem dX8_forbid_29 : decode cX8_forbid 29 = .ok (.iconst 0, 1) := dg_at gg151 17 rfl
theorem dX8_forbid_30 : decode cX8_forbid 30 = .ok (.iaload, 1) := dg_at gg151 18 rfl
theorem dX8_forbid_31 : decode cX8_forbid 31 = .ok (.iconst 1, 1) := dg_at gg151 19 rfl
theorem dX8_forbid_32 : decode cX8_forbid 32 = .ok (.isub, 1) := dg_at gg151 20 rfl
theorem dX8_forbid_33 : decode cX8_forbid 33 = .ok (.i2l, 1) := dg_at gg151 21 rfl
theorem dX8_forbid_34 : decode cX8_forbid 34 = .ok (.invokestatic 53, 3) := dg_at gg151 22 rfl
theorem dX8_forbid_37 : decode cX8_forbid 37 = .ok (.ifCond .eq 27, 3) := dg_at gg151 23 rfl
theorem dX8_forbid_40 : decode cX8_forbid 40 = .ok (.iload_n 3, 1) := dg_at gg151 24 rfl
theorem dX8_forbid_41 : decode cX8_forbid 41 = .ok (.i2l, 1) := dg_at gg151 25 rfl
theorem dX8_forbid_42 : decode cX8_forbid 42 = .ok (.lconst 0, 1) := dg_at gg151 26 rfl
theorem dX8_forbid_43 : decode cX8_forbid 43 = .ok (.lconst 1, 1) := dg_at gg151 27 rfl
theorem dX8_forbid_44 : decode cX8_forbid 44 = .ok (.invokestatic 53, 3) := dg_at gg151 28 rfl
theorem dX8_forbid_47 : decode cX8_forbid 47 = .ok (.ifCond .eq 17, 3) := dg_at gg151 29 rfl
theorem dX8_forbid_50 : decode cX8_forbid 50 = .ok (.aload_n 0, 1) := dg_at gg151 30 rfl
theorem dX8_forbid_51 : decode cX8_forbid 51 = .ok (.iload_n 3, 1) := dg_at gg151 31 rfl
theorem dX8_forbid_52 : decode cX8_forbid 52 = .ok (.iload_n 1, 1) := dg_at gg151 32 rfl
theorem dX8_forbid_53 : decode cX8_forbid 53 = .ok (.iload_n 2, 1) := dg_at gg151 33 rfl
theorem dX8_forbid_54 : decode cX8_forbid 54 = .ok (.invokevirtual 160, 3) := dg_at gg151 34 rfl
theorem dX8_forbid_57 : decode cX8_forbid 57 = .ok (.sipush 1000, 3) := dg_at gg151 35 rfl
theorem dX8_forbid_60 : decode cX8_forbid 60 = .ok (.iadd, 1) := dg_at gg151 36 rfl
theorem dX8_forbid_61 : decode cX8_forbid 61 = .ok (.goto 4, 3) := dg_at gg151 37 rfl
theorem dX8_forbid_64 : decode cX8_forbid 64 = .ok (.iconst (-1), 1) := dg_at gg151 38 rfl
theorem dX8_forbid_65 : decode cX8_forbid 65 = .ok (.ireturn, 1) := dg_at gg151 39 rfl
def gl152 : List (Nat × Instr × Nat) := [(0, .iconst 1, 1), (1, .istore_n 3, 1), (2, .iconst (-1), 1), (3, .istore 4, 2), (5, .iload 4, 2), (7, .aload_n 0, 1), (8, .getfield 17, 3), (11, .iconst 0, 1), (12, .iaload, 1), (13, .if_icmp .ge 55, 3), (16, .iload_n 3, 1), (17, .ifCond .eq 43, 3), (20, .aload_n 0, 1), (21, .iconst 0, 1), (22, .iload 4, 2), (24, .iload_n 2, 1), (25, .invokevirtual 160, 3), (28, .aload_n 0, 1), (29, .iconst 0, 1), (30, .iload_n 1, 1), (31, .iload_n 2, 1), (32, .invokevirtual 160, 3), (35, .if_icmp .gt 25, 3), (38, .aload_n 0, 1), (39, .iconst 1, 1), (40, .iload_n 1, 1), (41, .iload 4, 2), (43, .invokevirtual 160, 3), (46, .aload_n 0, 1), (47, .iconst 1, 1), (48, .iload_n 1, 1), (49, .iload_n 2, 1), (50, .invokevirtual 160, 3), (53, .if_icmp .gt 7, 3), (56, .iconst 1, 1), (57, .goto 4, 3), (60, .iconst 0, 1), (61, .istore_n 3, 1), (62, .iinc 4 1, 3), (65, .goto (-60), 3), (68, .iload_n 3, 1), (69, .ireturn, 1)]
set_option maxRecDepth 100000 in
theorem gg152 : gl152.all (fun x => decide (decode cX8_isRest x.1 = .ok (x.2.1, x.2.2))) = true := by decide +kernel
theorem dX8_isRest_0 : decode cX8_isRest 0 = .ok (.iconst 1, 1) := dg_at gg152 0 rfl
theorem dX8_isRest_1 : decode cX8_isRest 1 = .ok (.istore_n 3, 1) := dg_at gg152 1 rfl
theorem dX8_isRest_2 : decode cX8_isRest 2 = .ok (.iconst (-1), 1) := dg_at gg152 2 rfl
theorem dX8_isRest_3 : decode cX8_isRest 3 = .ok (.istore 4, 2) := dg_at gg152 3 rfl
theorem dX8_isRest_5 : decode cX8_isRest 5 = .ok (.iload 4, 2) := dg_at gg152 4 rfl
theorem dX8_isRest_7 : decode cX8_isRest 7 = .ok (.aload_n 0, 1) := dg_at gg152 5 rfl
theorem dX8_isRest_8 : decode cX8_isRest 8 = .ok (.getfield 17, 3) := dg_at gg152 6 rfl
theorem dX8_isRest_11 : decode cX8_isRest 11 = .ok (.iconst 0, 1) := dg_at gg152 7 rfl
theorem dX8_isRest_12 : decode cX8_isRest 12 = .ok (.iaload, 1) := dg_at gg152 8 rfl
theorem dX8_isRest_13 : decode cX8_isRest 13 = .ok (.if_icmp .ge 55, 3) := dg_at gg152 9 rfl
theorem dX8_isRest_16 : decode cX8_isRest 16 = .ok (.iload_n 3, 1) := dg_at gg152 10 rfl
theorem dX8_isRest_17 : decode cX8_isRest 17 = .ok (.ifCond .eq 43, 3) := dg_at gg152 11 rfl
theorem dX8_isRest_20 : decode cX8_isRest 20 = .ok (.aload_n 0, 1) := dg_at gg152 12 rfl
theorem dX8_isRest_21 : decode cX8_isRest 21 = .ok (.iconst 0, 1) := dg_at gg152 13 rfl
theorem dX8_isRest_22 : decode cX8_isRest 22 = .ok (.iload 4, 2) := dg_at gg152 14 rfl
theorem dX8_isRest_24 : decode cX8_isRest 24 = .ok (.iload_n 2, 1) := dg_at gg152 15 rfl
theorem dX8_isRest_25 : decode cX8_isRest 25 = .ok (.invokevirtual 160, 3) := dg_at gg152 16 rfl
theorem dX8_isRest_28 : decode cX8_isRest 28 = .ok (.aload_n 0, 1) := dg_at gg152 17 rfl
theorem dX8_isRest_29 : decode cX8_isRest 29 = .ok (.iconst 0, 1) := dg_at gg152 18 rfl
theorem dX8_isRest_30 : decode cX8_isRest 30 = .ok (.iload_n 1, 1) := dg_at gg152 19 rfl
theorem dX8_isRest_31 : decode cX8_isRest 31 = .ok (.iload_n 2, 1) := dg_at gg152 20 rfl
theorem dX8_isRest_32 : decode cX8_isRest 32 = .ok (.invokevirtual 160, 3) := dg_at gg152 21 rfl
theorem dX8_isRest_35 : decode cX8_isRest 35 = .ok (.if_icmp .gt 25, 3) := dg_at gg152 22 rfl
theorem dX8_isRest_38 : decode cX8_isRest 38 = .ok (.aload_n 0, 1) := dg_at gg152 23 rfl
theorem dX8_isRest_39 : decode cX8_isRest 39 = .ok (.iconst 1, 1) := dg_at gg152 24 rfl
theorem dX8_isRest_40 : decode cX8_isRest 40 = .ok (.iload_n 1, 1) := dg_at gg152 25 rfl
theorem dX8_isRest_41 : decode cX8_isRest 41 = .ok (.iload 4, 2) := dg_at gg152 26 rfl
theorem dX8_isRest_43 : decode cX8_isRest 43 = .ok (.invokevirtual 160, 3) := dg_at gg152 27 rfl
theorem dX8_isRest_46 : decode cX8_isRest 46 = .ok (.aload_n 0, 1) := dg_at gg152 28 rfl
theorem dX8_isRest_47 : decode cX8_isRest 47 = .ok (.iconst 1, 1) := dg_at gg152 29 rfl
theorem dX8_isRest_48 : decode cX8_isRest 48 = .ok (.iload_n 1, 1) := dg_at gg152 30 rfl
theorem dX8_isRest_49 : decode cX8_isRest 49 = .ok (.iload_n 2, 1) := dg_at gg152 31 rfl
theorem dX8_isRest_50 : decode cX8_isRest 50 = .ok (.invokevirtual 160, 3) := dg_at gg152 32 rfl
theorem dX8_isRest_53 : decode cX8_isRest 53 = .ok (.if_icmp .gt 7, 3) := dg_at gg152 33 rfl
theorem dX8_isRest_56 : decode cX8_isRest 56 = .ok (.iconst 1, 1) := dg_at gg152 34 rfl
theorem dX8_isRest_57 : decode cX8_isRest 57 = .ok (.goto 4, 3) := dg_at gg152 35 rfl
theorem dX8_isRest_60 : decode cX8_isRest 60 = .ok (.iconst 0, 1) := dg_at gg152 36 rfl
theorem dX8_isRest_61 : decode cX8_isRest 61 = .ok (.istore_n 3, 1) := dg_at gg152 37 rfl
theorem dX8_isRest_62 : decode cX8_isRest 62 = .ok (.iinc 4 1, 3) := dg_at gg152 38 rfl
theorem dX8_isRest_65 : decode cX8_isRest 65 = .ok (.goto (-60), 3) := dg_at gg152 39 rfl
theorem dX8_isRest_68 : decode cX8_isRest 68 = .ok (.iload_n 3, 1) := dg_at gg152 40 rfl
theorem dX8_isRest_69 : decode cX8_isRest 69 = .ok (.ireturn, 1) := dg_at gg152 41 rfl
def gl153 : List (Nat × Instr × Nat) := [(0, .iload_n 1, 1), (1, .i2l, 1), (2, .lconst 0, 1), (3, .ldc2_w 124, 3), (6, .invokestatic 53, 3), (9, .ifCond .ne 5, 3), (12, .iconst (-1), 1), (13, .ireturn, 1), (14, .iconst 0, 1), (15, .istore_n 2, 1), (16, .iconst (-1), 1), (17, .istore_n 3, 1), (18, .iload_n 3, 1), (19, .aload_n 0, 1), (20, .getfield 17, 3), (23, .iconst 0, 1), (24, .iaload, 1), (25, .if_icmp .ge 72, 3), (28, .iconst (-1), 1), (29, .istore 4, 2), (31, .iload 4, 2), (33, .aload_n 0, 1), (34, .getfield 17, 3), (37, .iconst 0, 1), (38, .iaload, 1), (39, .if_icmp .ge 52, 3), (42, .aload_n 0, 1), (43, .iload_n 3, 1), (44, .iload 4, 2), (46, .invokevirtual 164, 3), (49, .ifCond .eq 36, 3), (52, .iinc 2 1, 3), (55, .iload_n 1, 1), (56, .ifCond .le 29, 3), (59, .iload_n 1, 1), (60, .iconst 1, 1), (61, .if_icmp .ne 7, 3), (64, .iload_n 3, 1), (65, .goto 5, 3), (68, .iload 4, 2), (70, .istore 5, 2), (72, .iload 5, 2), (74, .ifCond .ge 8, 3), (77, .bipush (-4), 2), (79, .goto 5, 3), (82, .iload 5, 2), (84, .ireturn, 1), (85, .iinc 4 1, 3), (88, .goto (-57), 3), (91, .iinc 3 1, 3), (94, .goto (-76), 3), (97, .iload_n 1, 1), (98, .ifCond .ne 7, 3), (101, .iload_n 2, 1), (102, .goto 5, 3), (105, .bipush (-4), 2), (107, .ireturn, 1)]
set_option maxRecDepth 100000 in
theorem gg153 : gl153.all (fun x => decide (decode cX8_rests x.1 = .ok (x.2.1, x.2.2))) = true := by decide +kernel
theorem dX8_rests_0 : decode cX8_rests 0 = .ok (.iload_n 1, 1) := dg_at gg153 0 rfl
theorem dX8_rests_1 : decode cX8_rests 1 = .ok (.i2l, 1) := dg_at gg153 1 rfl
theorem dX8_rests_2 : decode cX8_rests 2 = .ok (.lconst 0, 1) := dg_at gg153 2 rfl
theorem dX8_rests_3 : decode cX8_rests 3 = .ok (.ldc2_w 124, 3) := dg_at gg153 3 rfl
theorem dX8_rests_6 : decode cX8_rests 6 = .ok (.invokestatic 53, 3) := dg_at gg153 4 rfl
theorem dX8_rests_9 : decode cX8_rests 9 = .ok (.ifCond .ne 5, 3) := dg_at gg153 5 rfl
theorem dX8_rests_12 : decode cX8_rests 12 = .ok (.iconst (-1), 1) := dg_at gg153 6 rfl
theorem dX8_rests_13 : decode cX8_rests 13 = .ok (.ireturn, 1) := dg_at gg153 7 rfl
theorem dX8_rests_14 : decode cX8_rests 14 = .ok (.iconst 0, 1) := dg_at gg153 8 rfl
theorem dX8_rests_15 : decode cX8_rests 15 = .ok (.istore_n 2, 1) := dg_at gg153 9 rfl
theorem dX8_rests_16 : decode cX8_rests 16 = .ok (.iconst (-1), 1) := dg_at gg153 10 rfl
theorem dX8_rests_17 : decode cX8_rests 17 = .ok (.istore_n 3, 1) := dg_at gg153 11 rfl
theorem dX8_rests_18 : decode cX8_rests 18 = .ok (.iload_n 3, 1) := dg_at gg153 12 rfl
theorem dX8_rests_19 : decode cX8_rests 19 = .ok (.aload_n 0, 1) := dg_at gg153 13 rfl
theorem dX8_rests_20 : decode cX8_rests 20 = .ok (.getfield 17, 3) := dg_at gg153 14 rfl
theorem dX8_rests_23 : decode cX8_rests 23 = .ok (.iconst 0, 1) := dg_at gg153 15 rfl
theorem dX8_rests_24 : decode cX8_rests 24 = .ok (.iaload, 1) := dg_at gg153 16 rfl
theorem dX8_rests_25 : decode cX8_rests 25 = .ok (.if_icmp .ge 72, 3) := dg_at gg153 17 rfl
theorem dX8_rests_28 : decode cX8_rests 28 = .ok (.iconst (-1), 1) := dg_at gg153 18 rfl
theorem dX8_rests_29 : decode cX8_rests 29 = .ok (.istore 4, 2) := dg_at gg153 19 rfl
theorem dX8_rests_31 : decode cX8_rests 31 = .ok (.iload 4, 2) := dg_at gg153 20 rfl
theorem dX8_rests_33 : decode cX8_rests 33 = .ok (.aload_n 0, 1) := dg_at gg153 21 rfl
theorem dX8_rests_34 : decode cX8_rests 34 = .ok (.getfield 17, 3) := dg_at gg153 22 rfl
theorem dX8_rests_37 : decode cX8_rests 37 = .ok (.iconst 0, 1) := dg_at gg153 23 rfl
theorem dX8_rests_38 : decode cX8_rests 38 = .ok (.iaload, 1) := dg_at gg153 24 rfl
theorem dX8_rests_39 : decode cX8_rests 39 = .ok (.if_icmp .ge 52, 3) := dg_at gg153 25 rfl
theorem dX8_rests_42 : decode cX8_rests 42 = .ok (.aload_n 0, 1) := dg_at gg153 26 rfl
theorem dX8_rests_43 : decode cX8_rests 43 = .ok (.iload_n 3, 1) := dg_at gg153 27 rfl
theorem dX8_rests_44 : decode cX8_rests 44 = .ok (.iload 4, 2) := dg_at gg153 28 rfl
theorem dX8_rests_46 : decode cX8_rests 46 = .ok (.invokevirtual 164, 3) := dg_at gg153 29 rfl
theorem dX8_rests_49 : decode cX8_rests 49 = .ok (.ifCond .eq 36, 3) := dg_at gg153 30 rfl
theorem dX8_rests_52 : decode cX8_rests 52 = .ok (.iinc 2 1, 3) := dg_at gg153 31 rfl
theorem dX8_rests_55 : decode cX8_rests 55 = .ok (.iload_n 1, 1) := dg_at gg153 32 rfl
theorem dX8_rests_56 : decode cX8_rests 56 = .ok (.ifCond .le 29, 3) := dg_at gg153 33 rfl
theorem dX8_rests_59 : decode cX8_rests 59 = .ok (.iload_n 1, 1) := dg_at gg153 34 rfl
theorem dX8_rests_60 : decode cX8_rests 60 = .ok (.iconst 1, 1) := dg_at gg153 35 rfl
theorem dX8_rests_61 : decode cX8_rests 61 = .ok (.if_icmp .ne 7, 3) := dg_at gg153 36 rfl
theorem dX8_rests_64 : decode cX8_rests 64 = .ok (.iload_n 3, 1) := dg_at gg153 37 rfl
theorem dX8_rests_65 : decode cX8_rests 65 = .ok (.goto 5, 3) := dg_at gg153 38 rfl
theorem dX8_rests_68 : decode cX8_rests 68 = .ok (.iload 4, 2) := dg_at gg153 39 rfl
theorem dX8_rests_70 : decode cX8_rests 70 = .ok (.istore 5, 2) := dg_at gg153 40 rfl
theorem dX8_rests_72 : decode cX8_rests 72 = .ok (.iload 5, 2) := dg_at gg153 41 rfl
theorem dX8_rests_74 : decode cX8_rests 74 = .ok (.ifCond .ge 8, 3) := dg_at gg153 42 rfl
theorem dX8_rests_77 : decode cX8_rests 77 = .ok (.bipush (-4), 2) := dg_at gg153 43 rfl
theorem dX8_rests_79 : decode cX8_rests 79 = .ok (.goto 5, 3) := dg_at gg153 44 rfl
theorem dX8_rests_82 : decode cX8_rests 82 = .ok (.iload 5, 2) := dg_at gg153 45 rfl
theorem dX8_rests_84 : decode cX8_rests 84 = .ok (.ireturn, 1) := dg_at gg153 46 rfl
theorem dX8_rests_85 : decode cX8_rests 85 = .ok (.iinc 4 1, 3) := dg_at gg153 47 rfl
theorem dX8_rests_88 : decode cX8_rests 88 = .ok (.goto (-57), 3) := dg_at gg153 48 rfl
theorem dX8_rests_91 : decode cX8_rests 91 = .ok (.iinc 3 1, 3) := dg_at gg153 49 rfl
theorem dX8_rests_94 : decode cX8_rests 94 = .ok (.goto (-76), 3) := dg_at gg153 50 rfl
theorem dX8_rests_97 : decode cX8_rests 97 = .ok (.iload_n 1, 1) := dg_at gg153 51 rfl
theorem dX8_rests_98 : decode cX8_rests 98 = .ok (.ifCond .ne 7, 3) := dg_at gg153 52 rfl
theorem dX8_rests_101 : decode cX8_rests 101 = .ok (.iload_n 2, 1) := dg_at gg153 53 rfl
theorem dX8_rests_102 : decode cX8_rests 102 = .ok (.goto 5, 3) := dg_at gg153 54 rfl
theorem dX8_rests_105 : decode cX8_rests 105 = .ok (.bipush (-4), 2) := dg_at gg153 55 rfl
theorem dX8_rests_107 : decode cX8_rests 107 = .ok (.ireturn, 1) := dg_at gg153 56 rfl
def gl154 : List (Nat × Instr × Nat) := [(0, .iconst 1, 1), (1, .istore_n 2, 1), (2, .iconst 0, 1), (3, .istore_n 3, 1), (4, .iload_n 3, 1), (5, .aload_n 0, 1), (6, .getfield 17, 3), (9, .iconst 0, 1), (10, .iaload, 1), (11, .if_icmp .ge 45, 3), (14, .iload_n 2, 1), (15, .ifCond .eq 33, 3), (18, .iload_n 1, 1), (19, .iload_n 3, 1), (20, .ishr, 1), (21, .iconst 1, 1), (22, .iand, 1), (23, .ifCond .eq 21, 3), (26, .aload_n 0, 1), (27, .iload_n 3, 1), (28, .iconst 0, 1), (29, .invokevirtual 156, 3), (32, .ifCond .lt 16, 3), (35, .aload_n 0, 1), (36, .iload_n 3, 1), (37, .iconst 1, 1), (38, .invokevirtual 156, 3), (41, .ifCond .lt 7, 3), (44, .iconst 1, 1), (45, .goto 4, 3), (48, .iconst 0, 1), (49, .istore_n 2, 1), (50, .iinc 3 1, 3), (53, .goto (-49), 3), (56, .iload_n 2, 1), (57, .ireturn, 1)]
set_option maxRecDepth 100000 in
theorem gg154 : gl154.all (fun x => decide (decode cX8_isFirm x.1 = .ok (x.2.1, x.2.2))) = true := by decide +kernel
theorem dX8_isFirm_0 : decode cX8_isFirm 0 = .ok (.iconst 1, 1) := dg_at gg154 0 rfl
theorem dX8_isFirm_1 : decode cX8_isFirm 1 = .ok (.istore_n 2, 1) := dg_at gg154 1 rfl
theorem dX8_isFirm_2 : decode cX8_isFirm 2 = .ok (.iconst 0, 1) := dg_at gg154 2 rfl
theorem dX8_isFirm_3 : decode cX8_isFirm 3 = .ok (.istore_n 3, 1) := dg_at gg154 3 rfl
theorem dX8_isFirm_4 : decode cX8_isFirm 4 = .ok (.iload_n 3, 1) := dg_at gg154 4 rfl
theorem dX8_isFirm_5 : decode cX8_isFirm 5 = .ok (.aload_n 0, 1) := dg_at gg154 5 rfl
theorem dX8_isFirm_6 : decode cX8_isFirm 6 = .ok (.getfield 17, 3) := dg_at gg154 6 rfl
theorem dX8_isFirm_9 : decode cX8_isFirm 9 = .ok (.iconst 0, 1) := dg_at gg154 7 rfl
theorem dX8_isFirm_10 : decode cX8_isFirm 10 = .ok (.iaload, 1) := dg_at gg154 8 rfl
theorem dX8_isFirm_11 : decode cX8_isFirm 11 = .ok (.if_icmp .ge 45, 3) := dg_at gg154 9 rfl
theorem dX8_isFirm_14 : decode cX8_isFirm 14 = .ok (.iload_n 2, 1) := dg_at gg154 10 rfl
theorem dX8_isFirm_15 : decode cX8_isFirm 15 = .ok (.ifCond .eq 33, 3) := dg_at gg154 11 rfl
theorem dX8_isFirm_18 : decode cX8_isFirm 18 = .ok (.iload_n 1, 1) := dg_at gg154 12 rfl
theorem dX8_isFirm_19 : decode cX8_isFirm 19 = .ok (.iload_n 3, 1) := dg_at gg154 13 rfl
theorem dX8_isFirm_20 : decode cX8_isFirm 20 = .ok (.ishr, 1) := dg_at gg154 14 rfl
theorem dX8_isFirm_21 : decode cX8_isFirm 21 = .ok (.iconst 1, 1) := dg_at gg154 15 rfl
theorem dX8_isFirm_22 : decode cX8_isFirm 22 = .ok (.iand, 1) := dg_at gg154 16 rfl
theorem dX8_isFirm_23 : decode cX8_isFirm 23 = .ok (.ifCond .eq 21, 3) := dg_at gg154 17 rfl
theorem dX8_isFirm_26 : decode cX8_isFirm 26 = .ok (.aload_n 0, 1) := dg_at gg154 18 rfl
theorem dX8_isFirm_27 : decode cX8_isFirm 27 = .ok (.iload_n 3, 1) := dg_at gg154 19 rfl
theorem dX8_isFirm_28 : decode cX8_isFirm 28 = .ok (.iconst 0, 1) := dg_at gg154 20 rfl
theorem dX8_isFirm_29 : decode cX8_isFirm 29 = .ok (.invokevirtual 156, 3) := dg_at gg154 21 rfl
theorem dX8_isFirm_32 : decode cX8_isFirm 32 = .ok (.ifCond .lt 16, 3) := dg_at gg154 22 rfl
theorem dX8_isFirm_35 : decode cX8_isFirm 35 = .ok (.aload_n 0, 1) := dg_at gg154 23 rfl
theorem dX8_isFirm_36 : decode cX8_isFirm 36 = .ok (.iload_n 3, 1) := dg_at gg154 24 rfl
theorem dX8_isFirm_37 : decode cX8_isFirm 37 = .ok (.iconst 1, 1) := dg_at gg154 25 rfl
theorem dX8_isFirm_38 : decode cX8_isFirm 38 = .ok (.invokevirtual 156, 3) := dg_at gg154 26 rfl
theorem dX8_isFirm_41 : decode cX8_isFirm 41 = .ok (.ifCond .lt 7, 3) := dg_at gg154 27 rfl
theorem dX8_isFirm_44 : decode cX8_isFirm 44 = .ok (.iconst 1, 1) := dg_at gg154 28 rfl
theorem dX8_isFirm_45 : decode cX8_isFirm 45 = .ok (.goto 4, 3) := dg_at gg154 29 rfl
theorem dX8_isFirm_48 : decode cX8_isFirm 48 = .ok (.iconst 0, 1) := dg_at gg154 30 rfl
theorem dX8_isFirm_49 : decode cX8_isFirm 49 = .ok (.istore_n 2, 1) := dg_at gg154 31 rfl
theorem dX8_isFirm_50 : decode cX8_isFirm 50 = .ok (.iinc 3 1, 3) := dg_at gg154 32 rfl
theorem dX8_isFirm_53 : decode cX8_isFirm 53 = .ok (.goto (-49), 3) := dg_at gg154 33 rfl
theorem dX8_isFirm_56 : decode cX8_isFirm 56 = .ok (.iload_n 2, 1) := dg_at gg154 34 rfl
theorem dX8_isFirm_57 : decode cX8_isFirm 57 = .ok (.ireturn, 1) := dg_at gg154 35 rfl
def gl155 : List (Nat × Instr × Nat) := [(0, .iload_n 1, 1), (1, .i2l, 1), (2, .lconst 0, 1), (3, .iconst 1, 1), (4, .aload_n 0, 1), (5, .getfield 17, 3), (8, .iconst 0, 1), (9, .iaload, 1), (10, .ishl, 1), (11, .iconst 1, 1), (12, .isub, 1), (13, .i2l, 1), (14, .invokestatic 53, 3), (17, .ireturn, 1)]
set_option maxRecDepth 100000 in
theorem gg155 : gl155.all (fun x => decide (decode cX8_isSet x.1 = .ok (x.2.1, x.2.2))) = true := by decide +kernel
theorem dX8_isSet_0 : decode cX8_isSet 0 = .ok (.iload_n 1, 1) := dg_at gg155 0 rfl
theorem dX8_isSet_1 : decode cX8_isSet 1 = .ok (.i2l, 1) := dg_at gg155 1 rfl
theorem dX8_isSet_2 : decode cX8_isSet 2 = .ok (.lconst 0, 1) := dg_at gg155 2 rfl
theorem dX8_isSet_3 : decode cX8_isSet 3 = .ok (.iconst 1, 1) := dg_at gg155 3 rfl
theorem dX8_isSet_4 : decode cX8_isSet 4 = .ok (.aload_n 0, 1) := dg_at gg155 4 rfl
theorem dX8_isSet_5 : decode cX8_isSet 5 = .ok (.getfield 17, 3) := dg_at gg155 5 rfl
theorem dX8_isSet_8 : decode cX8_isSet 8 = .ok (.iconst 0, 1) := dg_at gg155 6 rfl
theorem dX8_isSet_9 : decode cX8_isSet 9 = .ok (.iaload, 1) := dg_at gg155 7 rfl
theorem dX8_isSet_10 : decode cX8_isSet 10 = .ok (.ishl, 1) := dg_at gg155 8 rfl
theorem dX8_isSet_11 : decode cX8_isSet 11 = .ok (.iconst 1, 1) := dg_at gg155 9 rfl
theorem dX8_isSet_12 : decode cX8_isSet 12 = .ok (.isub, 1) := dg_at gg155 10 rfl
theorem dX8_isSet_13 : decode cX8_isSet 13 = .ok (.i2l, 1) := dg_at gg155 11 rfl
theorem dX8_isSet_14 : decode cX8_isSet 14 = .ok (.invokestatic 53, 3) := dg_at gg155 12 rfl
theorem dX8_isSet_17 : decode cX8_isSet 17 = .ok (.ireturn, 1) := dg_at gg155 13 rfl
def gl156 : List (Nat × Instr × Nat) := [(0, .aload_n 0, 1), (1, .iload_n 1, 1), (2, .invokevirtual 168, 3), (5, .ifCond .ne 7, 3), (8, .iconst (-1), 1), (9, .goto 16, 3), (12, .aload_n 0, 1), (13, .iload_n 1, 1), (14, .invokevirtual 171, 3), (17, .ifCond .eq 7, 3), (20, .iconst 1, 1), (21, .goto 4, 3), (24, .iconst 0, 1), (25, .ireturn, 1)]
set_option maxRecDepth 100000 in
theorem gg156 : gl156.all (fun x => decide (decode cX8_firm x.1 = .ok (x.2.1, x.2.2))) = true := by decide +kernel
theorem dX8_firm_0 : decode cX8_firm 0 = .ok (.aload_n 0, 1) := dg_at gg156 0 rfl
theorem dX8_firm_1 : decode cX8_firm 1 = .ok (.iload_n 1, 1) := dg_at gg156 1 rfl
theorem dX8_firm_2 : decode cX8_firm 2 = .ok (.invokevirtual 168, 3) := dg_at gg156 2 rfl
theorem dX8_firm_5 : decode cX8_firm 5 = .ok (.ifCond .ne 7, 3) := dg_at gg156 3 rfl
theorem dX8_firm_8 : decode cX8_firm 8 = .ok (.iconst (-1), 1) := dg_at gg156 4 rfl
theorem dX8_firm_9 : decode cX8_firm 9 = .ok (.goto 16, 3) := dg_at gg156 5 rfl
theorem dX8_firm_12 : decode cX8_firm 12 = .ok (.aload_n 0, 1) := dg_at gg156 6 rfl
theorem dX8_firm_13 : decode cX8_firm 13 = .ok (.iload_n 1, 1) := dg_at gg156 7 rfl
theorem dX8_firm_14 : decode cX8_firm 14 = .ok (.invokevirtual 171, 3) := dg_at gg156 8 rfl
theorem dX8_firm_17 : decode cX8_firm 17 = .ok (.ifCond .eq 7, 3) := dg_at gg156 9 rfl
theorem dX8_firm_20 : decode cX8_firm 20 = .ok (.iconst 1, 1) := dg_at gg156 10 rfl
theorem dX8_firm_21 : decode cX8_firm 21 = .ok (.goto 4, 3) := dg_at gg156 11 rfl
theorem dX8_firm_24 : decode cX8_firm 24 = .ok (.iconst 0, 1) := dg_at gg156 12 rfl
theorem dX8_firm_25 : decode cX8_firm 25 = .ok (.ireturn, 1) := dg_at gg156 13 rfl
def gl157 : List (Nat × Instr × Nat) := [(0, .iconst 0, 1), (1, .istore_n 2, 1), (2, .iconst 0, 1), (3, .istore_n 3, 1), (4, .iload_n 3, 1), (5, .aload_n 0, 1), (6, .getfield 17, 3), (9, .iconst 0, 1), (10, .iaload, 1), (11, .if_icmp .ge 47, 3), (14, .iload_n 2, 1), (15, .iload_n 1, 1), (16, .iload_n 3, 1), (17, .ishr, 1), (18, .iconst 1, 1), (19, .iand, 1), (20, .iconst 1, 1), (21, .if_icmp .eq 12, 3), (24, .aload_n 0, 1), (25, .getfield 23, 3), (28, .iload_n 3, 1), (29, .iaload, 1), (30, .ifCond .le 19, 3), (33, .aload_n 0, 1), (34, .iload_n 3, 1), (35, .iconst 0, 1), (36, .invokevirtual 156, 3), (39, .aload_n 0, 1), (40, .iload_n 3, 1), (41, .iconst 1, 1), (42, .invokevirtual 156, 3), (45, .iadd, 1), (46, .goto 4, 3), (49, .iconst 0, 1), (50, .iadd, 1), (51, .istore_n 2, 1), (52, .iinc 3 1, 3), (55, .goto (-51), 3), (58, .iload_n 2, 1), (59, .ireturn, 1)]
set_option maxRecDepth 100000 in
theorem gg157 : gl157.all (fun x => decide (decode cX8_together x.1 = .ok (x.2.1, x.2.2))) = true := by decide +kernel
theorem dX8_together_0 : decode cX8_together 0 = .ok (.iconst 0, 1) := dg_at gg157 0 rfl
theorem dX8_together_1 : decode cX8_together 1 = .ok (.istore_n 2, 1) := dg_at gg157 1 rfl
theorem dX8_together_2 : decode cX8_together 2 = .ok (.iconst 0, 1) := dg_at gg157 2 rfl
theorem dX8_together_3 : decode cX8_together 3 = .ok (.istore_n 3, 1) := dg_at gg157 3 rfl
theorem dX8_together_4 : decode cX8_together 4 = .ok (.iload_n 3, 1) := dg_at gg157 4 rfl
theorem dX8_together_5 : decode cX8_together 5 = .ok (.aload_n 0, 1) := dg_at gg157 5 rfl
theorem dX8_together_6 : decode cX8_together 6 = .ok (.getfield 17, 3) := dg_at gg157 6 rfl
theorem dX8_together_9 : decode cX8_together 9 = .ok (.iconst 0, 1) := dg_at gg157 7 rfl
theorem dX8_together_10 : decode cX8_together 10 = .ok (.iaload, 1) := dg_at gg157 8 rfl
theorem dX8_together_11 : decode cX8_together 11 = .ok (.if_icmp .ge 47, 3) := dg_at gg157 9 rfl
theorem dX8_together_14 : decode cX8_together 14 = .ok (.iload_n 2, 1) := dg_at gg157 10 rfl
theorem dX8_together_15 : decode cX8_together 15 = .ok (.iload_n 1, 1) := dg_at gg157 11 rfl
theorem dX8_together_16 : decode cX8_together 16 = .ok (.iload_n 3, 1) := dg_at gg157 12 rfl
theorem dX8_together_17 : decode cX8_together 17 = .ok (.ishr, 1) := dg_at gg157 13 rfl
theorem dX8_together_18 : decode cX8_together 18 = .ok (.iconst 1, 1) := dg_at gg157 14 rfl
theorem dX8_together_19 : decode cX8_together 19 = .ok (.iand, 1) := dg_at gg157 15 rfl
theorem dX8_together_20 : decode cX8_together 20 = .ok (.iconst 1, 1) := dg_at gg157 16 rfl
theorem dX8_together_21 : decode cX8_together 21 = .ok (.if_icmp .eq 12, 3) := dg_at gg157 17 rfl
theorem dX8_together_24 : decode cX8_together 24 = .ok (.aload_n 0, 1) := dg_at gg157 18 rfl
theorem dX8_together_25 : decode cX8_together 25 = .ok (.getfield 23, 3) := dg_at gg157 19 rfl
theorem dX8_together_28 : decode cX8_together 28 = .ok (.iload_n 3, 1) := dg_at gg157 20 rfl
theorem dX8_together_29 : decode cX8_together 29 = .ok (.iaload, 1) := dg_at gg157 21 rfl
theorem dX8_together_30 : decode cX8_together 30 = .ok (.ifCond .le 19, 3) := dg_at gg157 22 rfl
theorem dX8_together_33 : decode cX8_together 33 = .ok (.aload_n 0, 1) := dg_at gg157 23 rfl
theorem dX8_together_34 : decode cX8_together 34 = .ok (.iload_n 3, 1) := dg_at gg157 24 rfl
theorem dX8_together_35 : decode cX8_together 35 = .ok (.iconst 0, 1) := dg_at gg157 25 rfl
theorem dX8_together_36 : decode cX8_together 36 = .ok (.invokevirtual 156, 3) := dg_at gg157 26 rfl
theorem dX8_together_39 : decode cX8_together 39 = .ok (.aload_n 0, 1) := dg_at gg157 27 rfl
theorem dX8_together_40 : decode cX8_together 40 = .ok (.iload_n 3, 1) := dg_at gg157 28 rfl
theorem dX8_together_41 : decode cX8_together 41 = .ok (.iconst 1, 1) := dg_at gg157 29 rfl
theorem dX8_together_42 : decode cX8_together 42 = .ok (.invokevirtual 156, 3) := dg_at gg157 30 rfl
theorem dX8_together_45 : decode cX8_together 45 = .ok (.iadd, 1) := dg_at gg157 31 rfl
theorem dX8_together_46 : decode cX8_together 46 = .ok (.goto 4, 3) := dg_at gg157 32 rfl
theorem dX8_together_49 : decode cX8_together 49 = .ok (.iconst 0, 1) := dg_at gg157 33 rfl
theorem dX8_together_50 : decode cX8_together 50 = .ok (.iadd, 1) := dg_at gg157 34 rfl
theorem dX8_together_51 : decode cX8_together 51 = .ok (.istore_n 2, 1) := dg_at gg157 35 rfl
theorem dX8_together_52 : decode cX8_together 52 = .ok (.iinc 3 1, 3) := dg_at gg157 36 rfl
theorem dX8_together_55 : decode cX8_together 55 = .ok (.goto (-51), 3) := dg_at gg157 37 rfl
theorem dX8_together_58 : decode cX8_together 58 = .ok (.iload_n 2, 1) := dg_at gg157 38 rfl
theorem dX8_together_59 : decode cX8_together 59 = .ok (.ireturn, 1) := dg_at gg157 39 rfl
def gl158 : List (Nat × Instr × Nat) := [(0, .iload_n 1, 1), (1, .i2l, 1), (2, .lconst 0, 1), (3, .lconst 1, 1), (4, .invokestatic 53, 3), (7, .ifCond .ne 5, 3), (10, .iconst (-1), 1), (11, .ireturn, 1), (12, .iconst 0, 1), (13, .istore_n 2, 1), (14, .aload_n 0, 1), (15, .iconst 0, 1), (16, .invokevirtual 174, 3), (19, .istore_n 3, 1), (20, .iconst 1, 1), (21, .istore 4, 2), (23, .iload 4, 2), (25, .iconst 1, 1), (26, .aload_n 0, 1), (27, .getfield 17, 3), (30, .iconst 0, 1), (31, .iaload, 1), (32, .ishl, 1), (33, .if_icmp .ge 38, 3), (36, .aload_n 0, 1), (37, .iload 4, 2), (39, .invokevirtual 171, 3), (42, .ifCond .eq 23, 3), (45, .aload_n 0, 1), (46, .iload 4, 2), (48, .invokevirtual 174, 3), (51, .iload_n 3, 1), (52, .if_icmp .le 13, 3), (55, .iload 4, 2), (57, .istore_n 2, 1), (58, .aload_n 0, 1), (59, .iload 4, 2), (61, .invokevirtual 174, 3), (64, .istore_n 3, 1), (65, .iinc 4 1, 3), (68, .goto (-45), 3), (71, .iload_n 1, 1), (72, .ifCond .ne 7, 3), (75, .iload_n 2, 1), (76, .goto 8, 3), (79, .iload_n 3, 1), (80, .sipush 2000, 3), (83, .iadd, 1), (84, .ireturn, 1)]
set_option maxRecDepth 100000 in
theorem gg158 : gl158.all (fun x => decide (decode cX8_treaty x.1 = .ok (x.2.1, x.2.2))) = true := by decide +kernel
theorem dX8_treaty_0 : decode cX8_treaty 0 = .ok (.iload_n 1, 1) := dg_at gg158 0 rfl
theorem dX8_treaty_1 : decode cX8_treaty 1 = .ok (.i2l, 1) := dg_at gg158 1 rfl
theorem dX8_treaty_2 : decode cX8_treaty 2 = .ok (.lconst 0, 1) := dg_at gg158 2 rfl
theorem dX8_treaty_3 : decode cX8_treaty 3 = .ok (.lconst 1, 1) := dg_at gg158 3 rfl
theorem dX8_treaty_4 : decode cX8_treaty 4 = .ok (.invokestatic 53, 3) := dg_at gg158 4 rfl
theorem dX8_treaty_7 : decode cX8_treaty 7 = .ok (.ifCond .ne 5, 3) := dg_at gg158 5 rfl
theorem dX8_treaty_10 : decode cX8_treaty 10 = .ok (.iconst (-1), 1) := dg_at gg158 6 rfl
theorem dX8_treaty_11 : decode cX8_treaty 11 = .ok (.ireturn, 1) := dg_at gg158 7 rfl
theorem dX8_treaty_12 : decode cX8_treaty 12 = .ok (.iconst 0, 1) := dg_at gg158 8 rfl
theorem dX8_treaty_13 : decode cX8_treaty 13 = .ok (.istore_n 2, 1) := dg_at gg158 9 rfl
theorem dX8_treaty_14 : decode cX8_treaty 14 = .ok (.aload_n 0, 1) := dg_at gg158 10 rfl
theorem dX8_treaty_15 : decode cX8_treaty 15 = .ok (.iconst 0, 1) := dg_at gg158 11 rfl
theorem dX8_treaty_16 : decode cX8_treaty 16 = .ok (.invokevirtual 174, 3) := dg_at gg158 12 rfl
theorem dX8_treaty_19 : decode cX8_treaty 19 = .ok (.istore_n 3, 1) := dg_at gg158 13 rfl
theorem dX8_treaty_20 : decode cX8_treaty 20 = .ok (.iconst 1, 1) := dg_at gg158 14 rfl
theorem dX8_treaty_21 : decode cX8_treaty 21 = .ok (.istore 4, 2) := dg_at gg158 15 rfl
theorem dX8_treaty_23 : decode cX8_treaty 23 = .ok (.iload 4, 2) := dg_at gg158 16 rfl
theorem dX8_treaty_25 : decode cX8_treaty 25 = .ok (.iconst 1, 1) := dg_at gg158 17 rfl
theorem dX8_treaty_26 : decode cX8_treaty 26 = .ok (.aload_n 0, 1) := dg_at gg158 18 rfl
theorem dX8_treaty_27 : decode cX8_treaty 27 = .ok (.getfield 17, 3) := dg_at gg158 19 rfl
theorem dX8_treaty_30 : decode cX8_treaty 30 = .ok (.iconst 0, 1) := dg_at gg158 20 rfl
theorem dX8_treaty_31 : decode cX8_treaty 31 = .ok (.iaload, 1) := dg_at gg158 21 rfl
theorem dX8_treaty_32 : decode cX8_treaty 32 = .ok (.ishl, 1) := dg_at gg158 22 rfl
theorem dX8_treaty_33 : decode cX8_treaty 33 = .ok (.if_icmp .ge 38, 3) := dg_at gg158 23 rfl
theorem dX8_treaty_36 : decode cX8_treaty 36 = .ok (.aload_n 0, 1) := dg_at gg158 24 rfl
theorem dX8_treaty_37 : decode cX8_treaty 37 = .ok (.iload 4, 2) := dg_at gg158 25 rfl
theorem dX8_treaty_39 : decode cX8_treaty 39 = .ok (.invokevirtual 171, 3) := dg_at gg158 26 rfl
theorem dX8_treaty_42 : decode cX8_treaty 42 = .ok (.ifCond .eq 23, 3) := dg_at gg158 27 rfl
theorem dX8_treaty_45 : decode cX8_treaty 45 = .ok (.aload_n 0, 1) := dg_at gg158 28 rfl
theorem dX8_treaty_46 : decode cX8_treaty 46 = .ok (.iload 4, 2) := dg_at gg158 29 rfl
theorem dX8_treaty_48 : decode cX8_treaty 48 = .ok (.invokevirtual 174, 3) := dg_at gg158 30 rfl
theorem dX8_treaty_51 : decode cX8_treaty 51 = .ok (.iload_n 3, 1) := dg_at gg158 31 rfl
theorem dX8_treaty_52 : decode cX8_treaty 52 = .ok (.if_icmp .le 13, 3) := dg_at gg158 32 rfl
theorem dX8_treaty_55 : decode cX8_treaty 55 = .ok (.iload 4, 2) := dg_at gg158 33 rfl
theorem dX8_treaty_57 : decode cX8_treaty 57 = .ok (.istore_n 2, 1) := dg_at gg158 34 rfl
theorem dX8_treaty_58 : decode cX8_treaty 58 = .ok (.aload_n 0, 1) := dg_at gg158 35 rfl
theorem dX8_treaty_59 : decode cX8_treaty 59 = .ok (.iload 4, 2) := dg_at gg158 36 rfl
theorem dX8_treaty_61 : decode cX8_treaty 61 = .ok (.invokevirtual 174, 3) := dg_at gg158 37 rfl
theorem dX8_treaty_64 : decode cX8_treaty 64 = .ok (.istore_n 3, 1) := dg_at gg158 38 rfl
theorem dX8_treaty_65 : decode cX8_treaty 65 = .ok (.iinc 4 1, 3) := dg_at gg158 39 rfl
theorem dX8_treaty_68 : decode cX8_treaty 68 = .ok (.goto (-45), 3) := dg_at gg158 40 rfl
theorem dX8_treaty_71 : decode cX8_treaty 71 = .ok (.iload_n 1, 1) := dg_at gg158 41 rfl
theorem dX8_treaty_72 : decode cX8_treaty 72 = .ok (.ifCond .ne 7, 3) := dg_at gg158 42 rfl
theorem dX8_treaty_75 : decode cX8_treaty 75 = .ok (.iload_n 2, 1) := dg_at gg158 43 rfl
theorem dX8_treaty_76 : decode cX8_treaty 76 = .ok (.goto 8, 3) := dg_at gg158 44 rfl
theorem dX8_treaty_79 : decode cX8_treaty 79 = .ok (.iload_n 3, 1) := dg_at gg158 45 rfl
theorem dX8_treaty_80 : decode cX8_treaty 80 = .ok (.sipush 2000, 3) := dg_at gg158 46 rfl
theorem dX8_treaty_83 : decode cX8_treaty 83 = .ok (.iadd, 1) := dg_at gg158 47 rfl
theorem dX8_treaty_84 : decode cX8_treaty 84 = .ok (.ireturn, 1) := dg_at gg158 48 rfl
def gl159 : List (Nat × Instr × Nat) := [(0, .aload_n 0, 1), (1, .iload_n 1, 1), (2, .invokevirtual 107, 3), (5, .ifCond .eq 23, 3), (8, .aload_n 0, 1), (9, .iload_n 2, 1), (10, .invokevirtual 107, 3), (13, .ifCond .eq 15, 3), (16, .iload_n 1, 1), (17, .iload_n 2, 1), (18, .if_icmp .eq 10, 3), (21, .lload_n 3, 1), (22, .invokestatic 114, 3), (25, .ifCond .ne 7, 3), (28, .ldc2_w 130, 3), (31, .lreturn, 1), (32, .lload_n 3, 1), (33, .lstore 5, 2), (35, .lload 5, 2), (37, .lload_n 3, 1), (38, .ldc2_w 143, 3), (41, .ladd, 1), (42, .lcmp, 1), (43, .ifCond .gt 35, 3), (46, .aload_n 0, 1), (47, .iload_n 1, 1), (48, .lload 5, 2), (50, .invokevirtual 140, 3), (53, .ifCond .eq 16, 3), (56, .aload_n 0, 1), (57, .iload_n 2, 1), (58, .lload 5, 2), (60, .invokevirtual 140, 3), (63, .ifCond .eq 6, 3), (66, .lload 5, 2), (68, .lreturn, 1), (69, .lload 5, 2), (71, .lconst 1, 1), (72, .ladd, 1), (73, .lstore 5, 2), (75, .goto (-40), 3), (78, .ldc2_w 134, 3), (81, .lreturn, 1)]
set_option maxRecDepth 100000 in
theorem gg159 : gl159.all (fun x => decide (decode cX8_bargain x.1 = .ok (x.2.1, x.2.2))) = true := by decide +kernel
theorem dX8_bargain_0 : decode cX8_bargain 0 = .ok (.aload_n 0, 1) := dg_at gg159 0 rfl
theorem dX8_bargain_1 : decode cX8_bargain 1 = .ok (.iload_n 1, 1) := dg_at gg159 1 rfl
theorem dX8_bargain_2 : decode cX8_bargain 2 = .ok (.invokevirtual 107, 3) := dg_at gg159 2 rfl
theorem dX8_bargain_5 : decode cX8_bargain 5 = .ok (.ifCond .eq 23, 3) := dg_at gg159 3 rfl
theorem dX8_bargain_8 : decode cX8_bargain 8 = .ok (.aload_n 0, 1) := dg_at gg159 4 rfl
theorem dX8_bargain_9 : decode cX8_bargain 9 = .ok (.iload_n 2, 1) := dg_at gg159 5 rfl
theorem dX8_bargain_10 : decode cX8_bargain 10 = .ok (.invokevirtual 107, 3) := dg_at gg159 6 rfl
theorem dX8_bargain_13 : decode cX8_bargain 13 = .ok (.ifCond .eq 15, 3) := dg_at gg159 7 rfl
theorem dX8_bargain_16 : decode cX8_bargain 16 = .ok (.iload_n 1, 1) := dg_at gg159 8 rfl
theorem dX8_bargain_17 : decode cX8_bargain 17 = .ok (.iload_n 2, 1) := dg_at gg159 9 rfl
theorem dX8_bargain_18 : decode cX8_bargain 18 = .ok (.if_icmp .eq 10, 3) := dg_at gg159 10 rfl
theorem dX8_bargain_21 : decode cX8_bargain 21 = .ok (.lload_n 3, 1) := dg_at gg159 11 rfl
theorem dX8_bargain_22 : decode cX8_bargain 22 = .ok (.invokestatic 114, 3) := dg_at gg159 12 rfl
theorem dX8_bargain_25 : decode cX8_bargain 25 = .ok (.ifCond .ne 7, 3) := dg_at gg159 13 rfl
theorem dX8_bargain_28 : decode cX8_bargain 28 = .ok (.ldc2_w 130, 3) := dg_at gg159 14 rfl
theorem dX8_bargain_31 : decode cX8_bargain 31 = .ok (.lreturn, 1) := dg_at gg159 15 rfl
theorem dX8_bargain_32 : decode cX8_bargain 32 = .ok (.lload_n 3, 1) := dg_at gg159 16 rfl
theorem dX8_bargain_33 : decode cX8_bargain 33 = .ok (.lstore 5, 2) := dg_at gg159 17 rfl
theorem dX8_bargain_35 : decode cX8_bargain 35 = .ok (.lload 5, 2) := dg_at gg159 18 rfl
theorem dX8_bargain_37 : decode cX8_bargain 37 = .ok (.lload_n 3, 1) := dg_at gg159 19 rfl
theorem dX8_bargain_38 : decode cX8_bargain 38 = .ok (.ldc2_w 143, 3) := dg_at gg159 20 rfl
theorem dX8_bargain_41 : decode cX8_bargain 41 = .ok (.ladd, 1) := dg_at gg159 21 rfl
theorem dX8_bargain_42 : decode cX8_bargain 42 = .ok (.lcmp, 1) := dg_at gg159 22 rfl
theorem dX8_bargain_43 : decode cX8_bargain 43 = .ok (.ifCond .gt 35, 3) := dg_at gg159 23 rfl
theorem dX8_bargain_46 : decode cX8_bargain 46 = .ok (.aload_n 0, 1) := dg_at gg159 24 rfl
theorem dX8_bargain_47 : decode cX8_bargain 47 = .ok (.iload_n 1, 1) := dg_at gg159 25 rfl
theorem dX8_bargain_48 : decode cX8_bargain 48 = .ok (.lload 5, 2) := dg_at gg159 26 rfl
theorem dX8_bargain_50 : decode cX8_bargain 50 = .ok (.invokevirtual 140, 3) := dg_at gg159 27 rfl
theorem dX8_bargain_53 : decode cX8_bargain 53 = .ok (.ifCond .eq 16, 3) := dg_at gg159 28 rfl
theorem dX8_bargain_56 : decode cX8_bargain 56 = .ok (.aload_n 0, 1) := dg_at gg159 29 rfl
theorem dX8_bargain_57 : decode cX8_bargain 57 = .ok (.iload_n 2, 1) := dg_at gg159 30 rfl
theorem dX8_bargain_58 : decode cX8_bargain 58 = .ok (.lload 5, 2) := dg_at gg159 31 rfl
theorem dX8_bargain_60 : decode cX8_bargain 60 = .ok (.invokevirtual 140, 3) := dg_at gg159 32 rfl
theorem dX8_bargain_63 : decode cX8_bargain 63 = .ok (.ifCond .eq 6, 3) := dg_at gg159 33 rfl
theorem dX8_bargain_66 : decode cX8_bargain 66 = .ok (.lload 5, 2) := dg_at gg159 34 rfl
theorem dX8_bargain_68 : decode cX8_bargain 68 = .ok (.lreturn, 1) := dg_at gg159 35 rfl
theorem dX8_bargain_69 : decode cX8_bargain 69 = .ok (.lload 5, 2) := dg_at gg159 36 rfl
theorem dX8_bargain_71 : decode cX8_bargain 71 = .ok (.lconst 1, 1) := dg_at gg159 37 rfl
theorem dX8_bargain_72 : decode cX8_bargain 72 = .ok (.ladd, 1) := dg_at gg159 38 rfl
theorem dX8_bargain_73 : decode cX8_bargain 73 = .ok (.lstore 5, 2) := dg_at gg159 39 rfl
theorem dX8_bargain_75 : decode cX8_bargain 75 = .ok (.goto (-40), 3) := dg_at gg159 40 rfl
theorem dX8_bargain_78 : decode cX8_bargain 78 = .ok (.ldc2_w 134, 3) := dg_at gg159 41 rfl
theorem dX8_bargain_81 : decode cX8_bargain 81 = .ok (.lreturn, 1) := dg_at gg159 42 rfl
def gl160 : List (Nat × Instr × Nat) := [(0, .iload_n 1, 1), (1, .i2l, 1), (2, .lconst 0, 1), (3, .ldc2_w 177, 3), (6, .invokestatic 53, 3), (9, .ifCond .eq 15, 3), (12, .iload_n 2, 1), (13, .i2l, 1), (14, .lconst 0, 1), (15, .ldc2_w 124, 3), (18, .invokestatic 53, 3), (21, .ifCond .ne 5, 3), (24, .iconst (-1), 1), (25, .ireturn, 1), (26, .aload_n 0, 1), (27, .getfield 92, 3), (30, .bipush 10, 2), (32, .if_icmp .ne 6, 3), (35, .bipush (-3), 2), (37, .ireturn, 1), (38, .aload_n 0, 1), (39, .getfield 39, 3), (42, .iconst 2, 1), (43, .aload_n 0, 1), (44, .getfield 92, 3), (47, .imul, 1), (48, .iload_n 1, 1), (49, .iastore, 1), (50, .aload_n 0, 1), (51, .getfield 39, 3), (54, .iconst 2, 1), (55, .aload_n 0, 1), (56, .getfield 92, 3), (59, .imul, 1), (60, .iconst 1, 1), (61, .iadd, 1), (62, .iload_n 2, 1), (63, .iastore, 1), (64, .aload_n 0, 1), (65, .dup, 1), (66, .getfield 92, 3), (69, .iconst 1, 1), (70, .iadd, 1), (71, .putfield 92, 3), (74, .aload_n 0, 1), (75, .getfield 92, 3), (78, .ireturn, 1)]
set_option maxRecDepth 100000 in
theorem gg160 : gl160.all (fun x => decide (decode cX8_line x.1 = .ok (x.2.1, x.2.2))) = true := by decide +kernel
theorem dX8_line_0 : decode cX8_line 0 = .ok (.iload_n 1, 1) := dg_at gg160 0 rfl
theorem dX8_line_1 : decode cX8_line 1 = .ok (.i2l, 1) := dg_at gg160 1 rfl
theorem dX8_line_2 : decode cX8_line 2 = .ok (.lconst 0, 1) := dg_at gg160 2 rfl
theorem dX8_line_3 : decode cX8_line 3 = .ok (.ldc2_w 177, 3) := dg_at gg160 3 rfl
theorem dX8_line_6 : decode cX8_line 6 = .ok (.invokestatic 53, 3) := dg_at gg160 4 rfl
theorem dX8_line_9 : decode cX8_line 9 = .ok (.ifCond .eq 15, 3) := dg_at gg160 5 rfl
theorem dX8_line_12 : decode cX8_line 12 = .ok (.iload_n 2, 1) := dg_at gg160 6 rfl
theorem dX8_line_13 : decode cX8_line 13 = .ok (.i2l, 1) := dg_at gg160 7 rfl
theorem dX8_line_14 : decode cX8_line 14 = .ok (.lconst 0, 1) := dg_at gg160 8 rfl
theorem dX8_line_15 : decode cX8_line 15 = .ok (.ldc2_w 124, 3) := dg_at gg160 9 rfl
theorem dX8_line_18 : decode cX8_line 18 = .ok (.invokestatic 53, 3) := dg_at gg160 10 rfl
theorem dX8_line_21 : decode cX8_line 21 = .ok (.ifCond .ne 5, 3) := dg_at gg160 11 rfl
theorem dX8_line_24 : decode cX8_line 24 = .ok (.iconst (-1), 1) := dg_at gg160 12 rfl
theorem dX8_line_25 : decode cX8_line 25 = .ok (.ireturn, 1) := dg_at gg160 13 rfl
theorem dX8_line_26 : decode cX8_line 26 = .ok (.aload_n 0, 1) := dg_at gg160 14 rfl
theorem dX8_line_27 : decode cX8_line 27 = .ok (.getfield 92, 3) := dg_at gg160 15 rfl
theorem dX8_line_30 : decode cX8_line 30 = .ok (.bipush 10, 2) := dg_at gg160 16 rfl
theorem dX8_line_32 : decode cX8_line 32 = .ok (.if_icmp .ne 6, 3) := dg_at gg160 17 rfl
theorem dX8_line_35 : decode cX8_line 35 = .ok (.bipush (-3), 2) := dg_at gg160 18 rfl
theorem dX8_line_37 : decode cX8_line 37 = .ok (.ireturn, 1) := dg_at gg160 19 rfl
theorem dX8_line_38 : decode cX8_line 38 = .ok (.aload_n 0, 1) := dg_at gg160 20 rfl
theorem dX8_line_39 : decode cX8_line 39 = .ok (.getfield 39, 3) := dg_at gg160 21 rfl
theorem dX8_line_42 : decode cX8_line 42 = .ok (.iconst 2, 1) := dg_at gg160 22 rfl
theorem dX8_line_43 : decode cX8_line 43 = .ok (.aload_n 0, 1) := dg_at gg160 23 rfl
theorem dX8_line_44 : decode cX8_line 44 = .ok (.getfield 92, 3) := dg_at gg160 24 rfl
theorem dX8_line_47 : decode cX8_line 47 = .ok (.imul, 1) := dg_at gg160 25 rfl
theorem dX8_line_48 : decode cX8_line 48 = .ok (.iload_n 1, 1) := dg_at gg160 26 rfl
theorem dX8_line_49 : decode cX8_line 49 = .ok (.iastore, 1) := dg_at gg160 27 rfl
theorem dX8_line_50 : decode cX8_line 50 = .ok (.aload_n 0, 1) := dg_at gg160 28 rfl
theorem dX8_line_51 : decode cX8_line 51 = .ok (.getfield 39, 3) := dg_at gg160 29 rfl
theorem dX8_line_54 : decode cX8_line 54 = .ok (.iconst 2, 1) := dg_at gg160 30 rfl
theorem dX8_line_55 : decode cX8_line 55 = .ok (.aload_n 0, 1) := dg_at gg160 31 rfl
theorem dX8_line_56 : decode cX8_line 56 = .ok (.getfield 92, 3) := dg_at gg160 32 rfl
theorem dX8_line_59 : decode cX8_line 59 = .ok (.imul, 1) := dg_at gg160 33 rfl
theorem dX8_line_60 : decode cX8_line 60 = .ok (.iconst 1, 1) := dg_at gg160 34 rfl
theorem dX8_line_61 : decode cX8_line 61 = .ok (.iadd, 1) := dg_at gg160 35 rfl
theorem dX8_line_62 : decode cX8_line 62 = .ok (.iload_n 2, 1) := dg_at gg160 36 rfl
theorem dX8_line_63 : decode cX8_line 63 = .ok (.iastore, 1) := dg_at gg160 37 rfl
theorem dX8_line_64 : decode cX8_line 64 = .ok (.aload_n 0, 1) := dg_at gg160 38 rfl
theorem dX8_line_65 : decode cX8_line 65 = .ok (.dup, 1) := dg_at gg160 39 rfl
theorem dX8_line_66 : decode cX8_line 66 = .ok (.getfield 92, 3) := dg_at gg160 40 rfl
theorem dX8_line_69 : decode cX8_line 69 = .ok (.iconst 1, 1) := dg_at gg160 41 rfl
theorem dX8_line_70 : decode cX8_line 70 = .ok (.iadd, 1) := dg_at gg160 42 rfl
theorem dX8_line_71 : decode cX8_line 71 = .ok (.putfield 92, 3) := dg_at gg160 43 rfl
theorem dX8_line_74 : decode cX8_line 74 = .ok (.aload_n 0, 1) := dg_at gg160 44 rfl
theorem dX8_line_75 : decode cX8_line 75 = .ok (.getfield 92, 3) := dg_at gg160 45 rfl
theorem dX8_line_78 : decode cX8_line 78 = .ok (.ireturn, 1) := dg_at gg160 46 rfl
def gl161 : List (Nat × Instr × Nat) := [(0, .aload_n 0, 1), (1, .getfield 92, 3), (4, .istore_n 1, 1), (5, .aload_n 0, 1), (6, .iconst 0, 1), (7, .putfield 92, 3), (10, .iload_n 1, 1), (11, .ireturn, 1)]
set_option maxRecDepth 100000 in
theorem gg161 : gl161.all (fun x => decide (decode cX8_noTable x.1 = .ok (x.2.1, x.2.2))) = true := by decide +kernel
theorem dX8_noTable_0 : decode cX8_noTable 0 = .ok (.aload_n 0, 1) := dg_at gg161 0 rfl
theorem dX8_noTable_1 : decode cX8_noTable 1 = .ok (.getfield 92, 3) := dg_at gg161 1 rfl
theorem dX8_noTable_4 : decode cX8_noTable 4 = .ok (.istore_n 1, 1) := dg_at gg161 2 rfl
theorem dX8_noTable_5 : decode cX8_noTable 5 = .ok (.aload_n 0, 1) := dg_at gg161 3 rfl
theorem dX8_noTable_6 : decode cX8_noTable 6 = .ok (.iconst 0, 1) := dg_at gg161 4 rfl
theorem dX8_noTable_7 : decode cX8_noTable 7 = .ok (.putfield 92, 3) := dg_at gg161 5 rfl
theorem dX8_noTable_10 : decode cX8_noTable 10 = .ok (.iload_n 1, 1) := dg_at gg161 6 rfl
theorem dX8_noTable_11 : decode cX8_noTable 11 = .ok (.ireturn, 1) := dg_at gg161 7 rfl
def gl162 : List (Nat × Instr × Nat) := [(0, .iconst 0, 1), (1, .istore_n 1, 1), (2, .iconst 0, 1), (3, .istore_n 2, 1), (4, .iload_n 2, 1), (5, .aload_n 0, 1), (6, .getfield 92, 3), (9, .if_icmp .ge 45, 3), (12, .iload_n 1, 1), (13, .aload_n 0, 1), (14, .aload_n 0, 1), (15, .getfield 39, 3), (18, .iconst 2, 1), (19, .iload_n 2, 1), (20, .imul, 1), (21, .iaload, 1), (22, .i2l, 1), (23, .invokevirtual 118, 3), (26, .aload_n 0, 1), (27, .getfield 39, 3), (30, .iconst 2, 1), (31, .iload_n 2, 1), (32, .imul, 1), (33, .iconst 1, 1), (34, .iadd, 1), (35, .iaload, 1), (36, .if_icmp .ne 7, 3), (39, .iconst 0, 1), (40, .goto 6, 3), (43, .iconst 1, 1), (44, .iload_n 2, 1), (45, .ishl, 1), (46, .ior, 1), (47, .istore_n 1, 1), (48, .iinc 2 1, 3), (51, .goto (-47), 3), (54, .iload_n 1, 1), (55, .ireturn, 1)]
set_option maxRecDepth 100000 in
theorem gg162 : gl162.all (fun x => decide (decode cX8_forged x.1 = .ok (x.2.1, x.2.2))) = true := by decide +kernel
theorem dX8_forged_0 : decode cX8_forged 0 = .ok (.iconst 0, 1) := dg_at gg162 0 rfl
theorem dX8_forged_1 : decode cX8_forged 1 = .ok (.istore_n 1, 1) := dg_at gg162 1 rfl
theorem dX8_forged_2 : decode cX8_forged 2 = .ok (.iconst 0, 1) := dg_at gg162 2 rfl
theorem dX8_forged_3 : decode cX8_forged 3 = .ok (.istore_n 2, 1) := dg_at gg162 3 rfl
theorem dX8_forged_4 : decode cX8_forged 4 = .ok (.iload_n 2, 1) := dg_at gg162 4 rfl
theorem dX8_forged_5 : decode cX8_forged 5 = .ok (.aload_n 0, 1) := dg_at gg162 5 rfl
theorem dX8_forged_6 : decode cX8_forged 6 = .ok (.getfield 92, 3) := dg_at gg162 6 rfl
theorem dX8_forged_9 : decode cX8_forged 9 = .ok (.if_icmp .ge 45, 3) := dg_at gg162 7 rfl
theorem dX8_forged_12 : decode cX8_forged 12 = .ok (.iload_n 1, 1) := dg_at gg162 8 rfl
theorem dX8_forged_13 : decode cX8_forged 13 = .ok (.aload_n 0, 1) := dg_at gg162 9 rfl
theorem dX8_forged_14 : decode cX8_forged 14 = .ok (.aload_n 0, 1) := dg_at gg162 10 rfl
theorem dX8_forged_15 : decode cX8_forged 15 = .ok (.getfield 39, 3) := dg_at gg162 11 rfl
theorem dX8_forged_18 : decode cX8_forged 18 = .ok (.iconst 2, 1) := dg_at gg162 12 rfl
theorem dX8_forged_19 : decode cX8_forged 19 = .ok (.iload_n 2, 1) := dg_at gg162 13 rfl
theorem dX8_forged_20 : decode cX8_forged 20 = .ok (.imul, 1) := dg_at gg162 14 rfl
theorem dX8_forged_21 : decode cX8_forged 21 = .ok (.iaload, 1) := dg_at gg162 15 rfl
theorem dX8_forged_22 : decode cX8_forged 22 = .ok (.i2l, 1) := dg_at gg162 16 rfl
theorem dX8_forged_23 : decode cX8_forged 23 = .ok (.invokevirtual 118, 3) := dg_at gg162 17 rfl
theorem dX8_forged_26 : decode cX8_forged 26 = .ok (.aload_n 0, 1) := dg_at gg162 18 rfl
theorem dX8_forged_27 : decode cX8_forged 27 = .ok (.getfield 39, 3) := dg_at gg162 19 rfl
theorem dX8_forged_30 : decode cX8_forged 30 = .ok (.iconst 2, 1) := dg_at gg162 20 rfl
theorem dX8_forged_31 : decode cX8_forged 31 = .ok (.iload_n 2, 1) := dg_at gg162 21 rfl
theorem dX8_forged_32 : decode cX8_forged 32 = .ok (.imul, 1) := dg_at gg162 22 rfl
theorem dX8_forged_33 : decode cX8_forged 33 = .ok (.iconst 1, 1) := dg_at gg162 23 rfl
theorem dX8_forged_34 : decode cX8_forged 34 = .ok (.iadd, 1) := dg_at gg162 24 rfl
theorem dX8_forged_35 : decode cX8_forged 35 = .ok (.iaload, 1) := dg_at gg162 25 rfl
theorem dX8_forged_36 : decode cX8_forged 36 = .ok (.if_icmp .ne 7, 3) := dg_at gg162 26 rfl
theorem dX8_forged_39 : decode cX8_forged 39 = .ok (.iconst 0, 1) := dg_at gg162 27 rfl
theorem dX8_forged_40 : decode cX8_forged 40 = .ok (.goto 6, 3) := dg_at gg162 28 rfl
theorem dX8_forged_43 : decode cX8_forged 43 = .ok (.iconst 1, 1) := dg_at gg162 29 rfl
theorem dX8_forged_44 : decode cX8_forged 44 = .ok (.iload_n 2, 1) := dg_at gg162 30 rfl
theorem dX8_forged_45 : decode cX8_forged 45 = .ok (.ishl, 1) := dg_at gg162 31 rfl
theorem dX8_forged_46 : decode cX8_forged 46 = .ok (.ior, 1) := dg_at gg162 32 rfl
theorem dX8_forged_47 : decode cX8_forged 47 = .ok (.istore_n 1, 1) := dg_at gg162 33 rfl
theorem dX8_forged_48 : decode cX8_forged 48 = .ok (.iinc 2 1, 3) := dg_at gg162 34 rfl
theorem dX8_forged_51 : decode cX8_forged 51 = .ok (.goto (-47), 3) := dg_at gg162 35 rfl
theorem dX8_forged_54 : decode cX8_forged 54 = .ok (.iload_n 1, 1) := dg_at gg162 36 rfl
theorem dX8_forged_55 : decode cX8_forged 55 = .ok (.ireturn, 1) := dg_at gg162 37 rfl
def gl163 : List (Nat × Instr × Nat) := [(0, .iconst 0, 1), (1, .istore_n 2, 1), (2, .iconst 0, 1), (3, .istore_n 3, 1), (4, .iload_n 3, 1), (5, .aload_n 0, 1), (6, .getfield 92, 3), (9, .if_icmp .ge 60, 3), (12, .aload_n 0, 1), (13, .getfield 39, 3), (16, .iconst 2, 1), (17, .iload_n 3, 1), (18, .imul, 1), (19, .iaload, 1), (20, .iload_n 1, 1), (21, .iadd, 1), (22, .i2l, 1), (23, .lstore 4, 2), (25, .iload_n 2, 1), (26, .aload_n 0, 1), (27, .lload 4, 2), (29, .lconst 0, 1), (30, .lcmp, 1), (31, .ifCond .ge 7, 3), (34, .lconst 0, 1), (35, .goto 5, 3), (38, .lload 4, 2), (40, .invokevirtual 118, 3), (43, .aload_n 0, 1), (44, .getfield 39, 3), (47, .iconst 2, 1), (48, .iload_n 3, 1), (49, .imul, 1), (50, .iconst 1, 1), (51, .iadd, 1), (52, .iaload, 1), (53, .if_icmp .ne 7, 3), (56, .iconst 1, 1), (57, .goto 4, 3), (60, .iconst 0, 1), (61, .iadd, 1), (62, .istore_n 2, 1), (63, .iinc 3 1, 3), (66, .goto (-62), 3), (69, .iload_n 2, 1), (70, .ireturn, 1)]
set_option maxRecDepth 100000 in
theorem gg163 : gl163.all (fun x => decide (decode cX8_so x.1 = .ok (x.2.1, x.2.2))) = true := by decide +kernel
theorem dX8_so_0 : decode cX8_so 0 = .ok (.iconst 0, 1) := dg_at gg163 0 rfl
theorem dX8_so_1 : decode cX8_so 1 = .ok (.istore_n 2, 1) := dg_at gg163 1 rfl
theorem dX8_so_2 : decode cX8_so 2 = .ok (.iconst 0, 1) := dg_at gg163 2 rfl
theorem dX8_so_3 : decode cX8_so 3 = .ok (.istore_n 3, 1) := dg_at gg163 3 rfl
theorem dX8_so_4 : decode cX8_so 4 = .ok (.iload_n 3, 1) := dg_at gg163 4 rfl
theorem dX8_so_5 : decode cX8_so 5 = .ok (.aload_n 0, 1) := dg_at gg163 5 rfl
theorem dX8_so_6 : decode cX8_so 6 = .ok (.getfield 92, 3) := dg_at gg163 6 rfl
theorem dX8_so_9 : decode cX8_so 9 = .ok (.if_icmp .ge 60, 3) := dg_at gg163 7 rfl
theorem dX8_so_12 : decode cX8_so 12 = .ok (.aload_n 0, 1) := dg_at gg163 8 rfl
theorem dX8_so_13 : decode cX8_so 13 = .ok (.getfield 39, 3) := dg_at gg163 9 rfl
theorem dX8_so_16 : decode cX8_so 16 = .ok (.iconst 2, 1) := dg_at gg163 10 rfl
theorem dX8_so_17 : decode cX8_so 17 = .ok (.iload_n 3, 1) := dg_at gg163 11 rfl
theorem dX8_so_18 : decode cX8_so 18 = .ok (.imul, 1) := dg_at gg163 12 rfl
theorem dX8_so_19 : decode cX8_so 19 = .ok (.iaload, 1) := dg_at gg163 13 rfl
theorem dX8_so_20 : decode cX8_so 20 = .ok (.iload_n 1, 1) := dg_at gg163 14 rfl
theorem dX8_so_21 : decode cX8_so 21 = .ok (.iadd, 1) := dg_at gg163 15 rfl
theorem dX8_so_22 : decode cX8_so 22 = .ok (.i2l, 1) := dg_at gg163 16 rfl
theorem dX8_so_23 : decode cX8_so 23 = .ok (.lstore 4, 2) := dg_at gg163 17 rfl
theorem dX8_so_25 : decode cX8_so 25 = .ok (.iload_n 2, 1) := dg_at gg163 18 rfl
theorem dX8_so_26 : decode cX8_so 26 = .ok (.aload_n 0, 1) := dg_at gg163 19 rfl
theorem dX8_so_27 : decode cX8_so 27 = .ok (.lload 4, 2) := dg_at gg163 20 rfl
theorem dX8_so_29 : decode cX8_so 29 = .ok (.lconst 0, 1) := dg_at gg163 21 rfl
theorem dX8_so_30 : decode cX8_so 30 = .ok (.lcmp, 1) := dg_at gg163 22 rfl
theorem dX8_so_31 : decode cX8_so 31 = .ok (.ifCond .ge 7, 3) := dg_at gg163 23 rfl
theorem dX8_so_34 : decode cX8_so 34 = .ok (.lconst 0, 1) := dg_at gg163 24 rfl
theorem dX8_so_35 : decode cX8_so 35 = .ok (.goto 5, 3) := dg_at gg163 25 rfl
theorem dX8_so_38 : decode cX8_so 38 = .ok (.lload 4, 2) := dg_at gg163 26 rfl
theorem dX8_so_40 : decode cX8_so 40 = .ok (.invokevirtual 118, 3) := dg_at gg163 27 rfl
theorem dX8_so_43 : decode cX8_so 43 = .ok (.aload_n 0, 1) := dg_at gg163 28 rfl
theorem dX8_so_44 : decode cX8_so 44 = .ok (.getfield 39, 3) := dg_at gg163 29 rfl
theorem dX8_so_47 : decode cX8_so 47 = .ok (.iconst 2, 1) := dg_at gg163 30 rfl
theorem dX8_so_48 : decode cX8_so 48 = .ok (.iload_n 3, 1) := dg_at gg163 31 rfl
theorem dX8_so_49 : decode cX8_so 49 = .ok (.imul, 1) := dg_at gg163 32 rfl
theorem dX8_so_50 : decode cX8_so 50 = .ok (.iconst 1, 1) := dg_at gg163 33 rfl
theorem dX8_so_51 : decode cX8_so 51 = .ok (.iadd, 1) := dg_at gg163 34 rfl
theorem dX8_so_52 : decode cX8_so 52 = .ok (.iaload, 1) := dg_at gg163 35 rfl
theorem dX8_so_53 : decode cX8_so 53 = .ok (.if_icmp .ne 7, 3) := dg_at gg163 36 rfl
theorem dX8_so_56 : decode cX8_so 56 = .ok (.iconst 1, 1) := dg_at gg163 37 rfl
theorem dX8_so_57 : decode cX8_so 57 = .ok (.goto 4, 3) := dg_at gg163 38 rfl
theorem dX8_so_60 : decode cX8_so 60 = .ok (.iconst 0, 1) := dg_at gg163 39 rfl
theorem dX8_so_61 : decode cX8_so 61 = .ok (.iadd, 1) := dg_at gg163 40 rfl
theorem dX8_so_62 : decode cX8_so 62 = .ok (.istore_n 2, 1) := dg_at gg163 41 rfl
theorem dX8_so_63 : decode cX8_so 63 = .ok (.iinc 3 1, 3) := dg_at gg163 42 rfl
theorem dX8_so_66 : decode cX8_so 66 = .ok (.goto (-62), 3) := dg_at gg163 43 rfl
theorem dX8_so_69 : decode cX8_so 69 = .ok (.iload_n 2, 1) := dg_at gg163 44 rfl
theorem dX8_so_70 : decode cX8_so 70 = .ok (.ireturn, 1) := dg_at gg163 45 rfl
def gl164 : List (Nat × Instr × Nat) := [(0, .iload_n 1, 1), (1, .i2l, 1), (2, .lconst 0, 1), (3, .lconst 1, 1), (4, .invokestatic 53, 3), (7, .ifCond .ne 5, 3), (10, .iconst (-1), 1), (11, .ireturn, 1), (12, .aload_n 0, 1), (13, .iconst 0, 1), (14, .invokevirtual 179, 3), (17, .istore_n 2, 1), (18, .aload_n 0, 1), (19, .iconst 0, 1), (20, .putfield 182, 3), (23, .iconst 1, 1), (24, .istore_n 3, 1), (25, .iload_n 3, 1), (26, .bipush 30, 2), (28, .if_icmp .gt 68, 3), (31, .iconst (-1), 1), (32, .istore 4, 2), (34, .iload 4, 2), (36, .iconst 2, 1), (37, .if_icmp .ge 53, 3), (40, .aload_n 0, 1), (41, .iload 4, 2), (43, .iload_n 3, 1), (44, .imul, 1), (45, .invokevirtual 179, 3), (48, .istore 5, 2), (50, .aload_n 0, 1), (51, .iload 5, 2), (53, .iload_n 2, 1), (54, .if_icmp .le 10, 3), (57, .iload 4, 2), (59, .iload_n 3, 1), (60, .imul, 1), (61, .goto 7, 3), (64, .aload_n 0, 1), (65, .getfield 182, 3), (68, .putfield 182, 3), (71, .iload 5, 2), (73, .iload_n 2, 1), (74, .if_icmp .le 8, 3), (77, .iload 5, 2), (79, .goto 4, 3), (82, .iload_n 2, 1), (83, .istore_n 2, 1), (84, .iinc 4 2, 3), (87, .goto (-53), 3), (90, .iinc 3 1, 3), (93, .goto (-68), 3), (96, .iload_n 1, 1), (97, .ifCond .ne 7, 3), (100, .iload_n 2, 1), (101, .goto 10, 3), (104, .aload_n 0, 1), (105, .getfield 182, 3), (108, .bipush 30, 2)]
set_option maxRecDepth 100000 in
theorem gg164 : gl164.all (fun x => decide (decode cX8_shift x.1 = .ok (x.2.1, x.2.2))) = true := by decide +kernel
theorem dX8_shift_0 : decode cX8_shift 0 = .ok (.iload_n 1, 1) := dg_at gg164 0 rfl
theorem dX8_shift_1 : decode cX8_shift 1 = .ok (.i2l, 1) := dg_at gg164 1 rfl
theorem dX8_shift_2 : decode cX8_shift 2 = .ok (.lconst 0, 1) := dg_at gg164 2 rfl
theorem dX8_shift_3 : decode cX8_shift 3 = .ok (.lconst 1, 1) := dg_at gg164 3 rfl
theorem dX8_shift_4 : decode cX8_shift 4 = .ok (.invokestatic 53, 3) := dg_at gg164 4 rfl
theorem dX8_shift_7 : decode cX8_shift 7 = .ok (.ifCond .ne 5, 3) := dg_at gg164 5 rfl
theorem dX8_shift_10 : decode cX8_shift 10 = .ok (.iconst (-1), 1) := dg_at gg164 6 rfl
theorem dX8_shift_11 : decode cX8_shift 11 = .ok (.ireturn, 1) := dg_at gg164 7 rfl
theorem dX8_shift_12 : decode cX8_shift 12 = .ok (.aload_n 0, 1) := dg_at gg164 8 rfl
theorem dX8_shift_13 : decode cX8_shift 13 = .ok (.iconst 0, 1) := dg_at gg164 9 rfl
theorem dX8_shift_14 : decode cX8_shift 14 = .ok (.invokevirtual 179, 3) := dg_at gg164 10 rfl
theorem dX8_shift_17 : decode cX8_shift 17 = .ok (.istore_n 2, 1) := dg_at gg164 11 rfl
theorem dX8_shift_18 : decode cX8_shift 18 = .ok (.aload_n 0, 1) := dg_at gg164 12 rfl
theorem dX8_shift_19 : decode cX8_shift 19 = .ok (.iconst 0, 1) := dg_at gg164 13 rfl
theorem dX8_shift_20 : decode cX8_shift 20 = .ok (.putfield 182, 3) := dg_at gg164 14 rfl
theorem dX8_shift_23 : decode cX8_shift 23 = .ok (.iconst 1, 1) := dg_at gg164 15 rfl
theorem dX8_shift_24 : decode cX8_shift 24 = .ok (.istore_n 3, 1) := dg_at gg164 16 rfl
theorem dX8_shift_25 : decode cX8_shift 25 = .ok (.iload_n 3, 1) := dg_at gg164 17 rfl
theorem dX8_shift_26 : decode cX8_shift 26 = .ok (.bipush 30, 2) := dg_at gg164 18 rfl
theorem dX8_shift_28 : decode cX8_shift 28 = .ok (.if_icmp .gt 68, 3) := dg_at gg164 19 rfl
theorem dX8_shift_31 : decode cX8_shift 31 = .ok (.iconst (-1), 1) := dg_at gg164 20 rfl
theorem dX8_shift_32 : decode cX8_shift 32 = .ok (.istore 4, 2) := dg_at gg164 21 rfl
theorem dX8_shift_34 : decode cX8_shift 34 = .ok (.iload 4, 2) := dg_at gg164 22 rfl
theorem dX8_shift_36 : decode cX8_shift 36 = .ok (.iconst 2, 1) := dg_at gg164 23 rfl
theorem dX8_shift_37 : decode cX8_shift 37 = .ok (.if_icmp .ge 53, 3) := dg_at gg164 24 rfl
theorem dX8_shift_40 : decode cX8_shift 40 = .ok (.aload_n 0, 1) := dg_at gg164 25 rfl
theorem dX8_shift_41 : decode cX8_shift 41 = .ok (.iload 4, 2) := dg_at gg164 26 rfl
theorem dX8_shift_43 : decode cX8_shift 43 = .ok (.iload_n 3, 1) := dg_at gg164 27 rfl
theorem dX8_shift_44 : decode cX8_shift 44 = .ok (.imul, 1) := dg_at gg164 28 rfl
theorem dX8_shift_45 : decode cX8_shift 45 = .ok (.invokevirtual 179, 3) := dg_at gg164 29 rfl
theorem dX8_shift_48 : decode cX8_shift 48 = .ok (.istore 5, 2) := dg_at gg164 30 rfl
theorem dX8_shift_50 : decode cX8_shift 50 = .ok (.aload_n 0, 1) := dg_at gg164 31 rfl
theorem dX8_shift_51 : decode cX8_shift 51 = .ok (.iload 5, 2) := dg_at gg164 32 rfl
theorem dX8_shift_53 : decode cX8_shift 53 = .ok (.iload_n 2, 1) := dg_at gg164 33 rfl
theorem dX8_shift_54 : decode cX8_shift 54 = .ok (.if_icmp .le 10, 3) := dg_at gg164 34 rfl
theorem dX8_shift_57 : decode cX8_shift 57 = .ok (.iload 4, 2) := dg_at gg164 35 rfl
theorem dX8_shift_59 : decode cX8_shift 59 = .ok (.iload_n 3, 1) := dg_at gg164 36 rfl
theorem dX8_shift_60 : decode cX8_shift 60 = .ok (.imul, 1) := dg_at gg164 37 rfl
theorem dX8_shift_61 : decode cX8_shift 61 = .ok (.goto 7, 3) := dg_at gg164 38 rfl
theorem dX8_shift_64 : decode cX8_shift 64 = .ok (.aload_n 0, 1) := dg_at gg164 39 rfl
theorem dX8_shift_65 : decode cX8_shift 65 = .ok (.getfield 182, 3) := dg_at gg164 40 rfl
theorem dX8_shift_68 : decode cX8_shift 68 = .ok (.putfield 182, 3) := dg_at gg164 41 rfl
theorem dX8_shift_71 : decode cX8_shift 71 = .ok (.iload 5, 2) := dg_at gg164 42 rfl
theorem dX8_shift_73 : decode cX8_shift 73 = .ok (.iload_n 2, 1) := dg_at gg164 43 rfl
theorem dX8_shift_74 : decode cX8_shift 74 = .ok (.if_icmp .le 8, 3) := dg_at gg164 44 rfl
theorem dX8_shift_77 : decode cX8_shift 77 = .ok (.iload 5, 2) := dg_at gg164 45 rfl
theorem dX8_shift_79 : decode cX8_shift 79 = .ok (.goto 4, 3) := dg_at gg164 46 rfl
theorem dX8_shift_82 : decode cX8_shift 82 = .ok (.iload_n 2, 1) := dg_at gg164 47 rfl
theorem dX8_shift_83 : decode cX8_shift 83 = .ok (.istore_n 2, 1) := dg_at gg164 48 rfl
theorem dX8_shift_84 : decode cX8_shift 84 = .ok (.iinc 4 2, 3) := dg_at gg164 49 rfl
theorem dX8_shift_87 : decode cX8_shift 87 = .ok (.goto (-53), 3) := dg_at gg164 50 rfl
theorem dX8_shift_90 : decode cX8_shift 90 = .ok (.iinc 3 1, 3) := dg_at gg164 51 rfl
theorem dX8_shift_93 : decode cX8_shift 93 = .ok (.goto (-68), 3) := dg_at gg164 52 rfl
theorem dX8_shift_96 : decode cX8_shift 96 = .ok (.iload_n 1, 1) := dg_at gg164 53 rfl
theorem dX8_shift_97 : decode cX8_shift 97 = .ok (.ifCond .ne 7, 3) := dg_at gg164 54 rfl
theorem dX8_shift_100 : decode cX8_shift 100 = .ok (.iload_n 2, 1) := dg_at gg164 55 rfl
theorem dX8_shift_101 : decode cX8_shift 101 = .ok (.goto 10, 3) := dg_at gg164 56 rfl
theorem dX8_shift_104 : decode cX8_shift 104 = .ok (.aload_n 0, 1) := dg_at gg164 57 rfl
theorem dX8_shift_105 : decode cX8_shift 105 = .ok (.getfield 182, 3) := dg_at gg164 58 rfl
theorem dX8_shift_108 : decode cX8_shift 108 = .ok (.bipush 30, 2) := dg_at gg164 59 rfl
def gl165 : List (Nat × Instr × Nat) := [(110, .iadd, 1), (111, .ireturn, 1)]
set_option maxRecDepth 100000 in
theorem gg165 : gl165.all (fun x => decide (decode cX8_shift x.1 = .ok (x.2.1, x.2.2))) = true := by decide +kernel
theorem dX8_shift_110 : decode cX8_shift 110 = .ok (.iadd, 1) := dg_at gg165 0 rfl
theorem dX8_shift_111 : decode cX8_shift 111 = .ok (.ireturn, 1) := dg_at gg165 1 rfl
def gl166 : List (Nat × Instr × Nat) := [(0, .lload_n 1, 1), (1, .invokestatic 114, 3), (4, .ifCond .eq 37, 3), (7, .iload_n 3, 1), (8, .i2l, 1), (9, .lconst 1, 1), (10, .ldc2_w 185, 3), (13, .invokestatic 53, 3), (16, .ifCond .eq 25, 3), (19, .iload 4, 2), (21, .i2l, 1), (22, .lconst 0, 1), (23, .lconst 1, 1), (24, .invokestatic 53, 3), (27, .ifCond .eq 14, 3), (30, .iload 5, 2), (32, .i2l, 1), (33, .lconst 0, 1), (34, .lconst 1, 1), (35, .invokestatic 53, 3), (38, .ifCond .ne 5, 3), (41, .iconst (-1), 1), (42, .ireturn, 1), (43, .aload_n 0, 1), (44, .lload_n 1, 1), (45, .iload_n 3, 1), (46, .iload 4, 2), (48, .invokevirtual 126, 3), (51, .istore 6, 2), (53, .iload 6, 2), (55, .aload_n 0, 1), (56, .lload_n 1, 1), (57, .iload_n 3, 1), (58, .iconst 1, 1), (59, .iload 4, 2), (61, .isub, 1), (62, .invokevirtual 126, 3), (65, .iadd, 1), (66, .istore 7, 2), (68, .iload 7, 2), (70, .ifCond .ne 6, 3), (73, .bipush (-4), 2), (75, .ireturn, 1), (76, .iload 6, 2), (78, .istore 8, 2), (80, .iload 7, 2), (82, .istore 9, 2), (84, .iload 9, 2), (86, .ifCond .eq 21, 3), (89, .iload 8, 2), (91, .iload 9, 2), (93, .irem, 1), (94, .istore 10, 2), (96, .iload 9, 2), (98, .istore 8, 2), (100, .iload 10, 2), (102, .istore 9, 2), (104, .goto (-20), 3), (107, .iload 5, 2), (109, .ifCond .ne 11, 3)]
set_option maxRecDepth 100000 in
theorem gg166 : gl166.all (fun x => decide (decode cX8_wreck x.1 = .ok (x.2.1, x.2.2))) = true := by decide +kernel
theorem dX8_wreck_0 : decode cX8_wreck 0 = .ok (.lload_n 1, 1) := dg_at gg166 0 rfl
theorem dX8_wreck_1 : decode cX8_wreck 1 = .ok (.invokestatic 114, 3) := dg_at gg166 1 rfl
theorem dX8_wreck_4 : decode cX8_wreck 4 = .ok (.ifCond .eq 37, 3) := dg_at gg166 2 rfl
theorem dX8_wreck_7 : decode cX8_wreck 7 = .ok (.iload_n 3, 1) := dg_at gg166 3 rfl
theorem dX8_wreck_8 : decode cX8_wreck 8 = .ok (.i2l, 1) := dg_at gg166 4 rfl
theorem dX8_wreck_9 : decode cX8_wreck 9 = .ok (.lconst 1, 1) := dg_at gg166 5 rfl
theorem dX8_wreck_10 : decode cX8_wreck 10 = .ok (.ldc2_w 185, 3) := dg_at gg166 6 rfl
theorem dX8_wreck_13 : decode cX8_wreck 13 = .ok (.invokestatic 53, 3) := dg_at gg166 7 rfl
theorem dX8_wreck_16 : decode cX8_wreck 16 = .ok (.ifCond .eq 25, 3) := dg_at gg166 8 rfl
theorem dX8_wreck_19 : decode cX8_wreck 19 = .ok (.iload 4, 2) := dg_at gg166 9 rfl
theorem dX8_wreck_21 : decode cX8_wreck 21 = .ok (.i2l, 1) := dg_at gg166 10 rfl
theorem dX8_wreck_22 : decode cX8_wreck 22 = .ok (.lconst 0, 1) := dg_at gg166 11 rfl
theorem dX8_wreck_23 : decode cX8_wreck 23 = .ok (.lconst 1, 1) := dg_at gg166 12 rfl
theorem dX8_wreck_24 : decode cX8_wreck 24 = .ok (.invokestatic 53, 3) := dg_at gg166 13 rfl
theorem dX8_wreck_27 : decode cX8_wreck 27 = .ok (.ifCond .eq 14, 3) := dg_at gg166 14 rfl
theorem dX8_wreck_30 : decode cX8_wreck 30 = .ok (.iload 5, 2) := dg_at gg166 15 rfl
theorem dX8_wreck_32 : decode cX8_wreck 32 = .ok (.i2l, 1) := dg_at gg166 16 rfl
theorem dX8_wreck_33 : decode cX8_wreck 33 = .ok (.lconst 0, 1) := dg_at gg166 17 rfl
theorem dX8_wreck_34 : decode cX8_wreck 34 = .ok (.lconst 1, 1) := dg_at gg166 18 rfl
theorem dX8_wreck_35 : decode cX8_wreck 35 = .ok (.invokestatic 53, 3) := dg_at gg166 19 rfl
theorem dX8_wreck_38 : decode cX8_wreck 38 = .ok (.ifCond .ne 5, 3) := dg_at gg166 20 rfl
theorem dX8_wreck_41 : decode cX8_wreck 41 = .ok (.iconst (-1), 1) := dg_at gg166 21 rfl
theorem dX8_wreck_42 : decode cX8_wreck 42 = .ok (.ireturn, 1) := dg_at gg166 22 rfl
theorem dX8_wreck_43 : decode cX8_wreck 43 = .ok (.aload_n 0, 1) := dg_at gg166 23 rfl
theorem dX8_wreck_44 : decode cX8_wreck 44 = .ok (.lload_n 1, 1) := dg_at gg166 24 rfl
theorem dX8_wreck_45 : decode cX8_wreck 45 = .ok (.iload_n 3, 1) := dg_at gg166 25 rfl
theorem dX8_wreck_46 : decode cX8_wreck 46 = .ok (.iload 4, 2) := dg_at gg166 26 rfl
theorem dX8_wreck_48 : decode cX8_wreck 48 = .ok (.invokevirtual 126, 3) := dg_at gg166 27 rfl
theorem dX8_wreck_51 : decode cX8_wreck 51 = .ok (.istore 6, 2) := dg_at gg166 28 rfl
theorem dX8_wreck_53 : decode cX8_wreck 53 = .ok (.iload 6, 2) := dg_at gg166 29 rfl
theorem dX8_wreck_55 : decode cX8_wreck 55 = .ok (.aload_n 0, 1) := dg_at gg166 30 rfl
theorem dX8_wreck_56 : decode cX8_wreck 56 = .ok (.lload_n 1, 1) := dg_at gg166 31 rfl
theorem dX8_wreck_57 : decode cX8_wreck 57 = .ok (.iload_n 3, 1) := dg_at gg166 32 rfl
theorem dX8_wreck_58 : decode cX8_wreck 58 = .ok (.iconst 1, 1) := dg_at gg166 33 rfl
theorem dX8_wreck_59 : decode cX8_wreck 59 = .ok (.iload 4, 2) := dg_at gg166 34 rfl
theorem dX8_wreck_61 : decode cX8_wreck 61 = .ok (.isub, 1) := dg_at gg166 35 rfl
theorem dX8_wreck_62 : decode cX8_wreck 62 = .ok (.invokevirtual 126, 3) := dg_at gg166 36 rfl
theorem dX8_wreck_65 : decode cX8_wreck 65 = .ok (.iadd, 1) := dg_at gg166 37 rfl
theorem dX8_wreck_66 : decode cX8_wreck 66 = .ok (.istore 7, 2) := dg_at gg166 38 rfl
theorem dX8_wreck_68 : decode cX8_wreck 68 = .ok (.iload 7, 2) := dg_at gg166 39 rfl
theorem dX8_wreck_70 : decode cX8_wreck 70 = .ok (.ifCond .ne 6, 3) := dg_at gg166 40 rfl
theorem dX8_wreck_73 : decode cX8_wreck 73 = .ok (.bipush (-4), 2) := dg_at gg166 41 rfl
theorem dX8_wreck_75 : decode cX8_wreck 75 = .ok (.ireturn, 1) := dg_at gg166 42 rfl
theorem dX8_wreck_76 : decode cX8_wreck 76 = .ok (.iload 6, 2) := dg_at gg166 43 rfl
theorem dX8_wreck_78 : decode cX8_wreck 78 = .ok (.istore 8, 2) := dg_at gg166 44 rfl
theorem dX8_wreck_80 : decode cX8_wreck 80 = .ok (.iload 7, 2) := dg_at gg166 45 rfl
theorem dX8_wreck_82 : decode cX8_wreck 82 = .ok (.istore 9, 2) := dg_at gg166 46 rfl
theorem dX8_wreck_84 : decode cX8_wreck 84 = .ok (.iload 9, 2) := dg_at gg166 47 rfl
theorem dX8_wreck_86 : decode cX8_wreck 86 = .ok (.ifCond .eq 21, 3) := dg_at gg166 48 rfl
theorem dX8_wreck_89 : decode cX8_wreck 89 = .ok (.iload 8, 2) := dg_at gg166 49 rfl
theorem dX8_wreck_91 : decode cX8_wreck 91 = .ok (.iload 9, 2) := dg_at gg166 50 rfl
theorem dX8_wreck_93 : decode cX8_wreck 93 = .ok (.irem, 1) := dg_at gg166 51 rfl
theorem dX8_wreck_94 : decode cX8_wreck 94 = .ok (.istore 10, 2) := dg_at gg166 52 rfl
theorem dX8_wreck_96 : decode cX8_wreck 96 = .ok (.iload 9, 2) := dg_at gg166 53 rfl
theorem dX8_wreck_98 : decode cX8_wreck 98 = .ok (.istore 8, 2) := dg_at gg166 54 rfl
theorem dX8_wreck_100 : decode cX8_wreck 100 = .ok (.iload 10, 2) := dg_at gg166 55 rfl
theorem dX8_wreck_102 : decode cX8_wreck 102 = .ok (.istore 9, 2) := dg_at gg166 56 rfl
theorem dX8_wreck_104 : decode cX8_wreck 104 = .ok (.goto (-20), 3) := dg_at gg166 57 rfl
theorem dX8_wreck_107 : decode cX8_wreck 107 = .ok (.iload 5, 2) := dg_at gg166 58 rfl
theorem dX8_wreck_109 : decode cX8_wreck 109 = .ok (.ifCond .ne 11, 3) := dg_at gg166 59 rfl
def gl167 : List (Nat × Instr × Nat) := [(112, .iload 6, 2), (114, .iload 8, 2), (116, .idiv, 1), (117, .goto 8, 3), (120, .iload 7, 2), (122, .iload 8, 2), (124, .idiv, 1), (125, .ireturn, 1)]
set_option maxRecDepth 100000 in
theorem gg167 : gl167.all (fun x => decide (decode cX8_wreck x.1 = .ok (x.2.1, x.2.2))) = true := by decide +kernel
theorem dX8_wreck_112 : decode cX8_wreck 112 = .ok (.iload 6, 2) := dg_at gg167 0 rfl
theorem dX8_wreck_114 : decode cX8_wreck 114 = .ok (.iload 8, 2) := dg_at gg167 1 rfl
theorem dX8_wreck_116 : decode cX8_wreck 116 = .ok (.idiv, 1) := dg_at gg167 2 rfl
theorem dX8_wreck_117 : decode cX8_wreck 117 = .ok (.goto 8, 3) := dg_at gg167 3 rfl
theorem dX8_wreck_120 : decode cX8_wreck 120 = .ok (.iload 7, 2) := dg_at gg167 4 rfl
theorem dX8_wreck_122 : decode cX8_wreck 122 = .ok (.iload 8, 2) := dg_at gg167 5 rfl
theorem dX8_wreck_124 : decode cX8_wreck 124 = .ok (.idiv, 1) := dg_at gg167 6 rfl
theorem dX8_wreck_125 : decode cX8_wreck 125 = .ok (.ireturn, 1) := dg_at gg167 7 rfl
def gl168 : List (Nat × Instr × Nat) := [(0, .iload_n 1, 1), (1, .i2l, 1), (2, .lconst 0, 1), (3, .ldc2_w 148, 3), (6, .invokestatic 53, 3), (9, .ifCond .eq 15, 3), (12, .iload_n 2, 1), (13, .i2l, 1), (14, .lconst 1, 1), (15, .ldc2_w 187, 3), (18, .invokestatic 53, 3), (21, .ifCond .ne 5, 3), (24, .iconst (-1), 1), (25, .ireturn, 1), (26, .iconst 0, 1), (27, .istore_n 3, 1), (28, .iconst 0, 1), (29, .istore 4, 2), (31, .iload 4, 2), (33, .iload_n 2, 1), (34, .if_icmp .ge 60, 3), (37, .ldc2_w 189, 3), (40, .iload_n 1, 1), (41, .i2l, 1), (42, .lmul, 1), (43, .ldc2_w 191, 3), (46, .iload 4, 2), (48, .i2l, 1), (49, .lmul, 1), (50, .ladd, 1), (51, .lconst 1, 1), (52, .ladd, 1), (53, .lstore 5, 2), (55, .iload_n 3, 1), (56, .aload_n 0, 1), (57, .iload 4, 2), (59, .aload_n 0, 1), (60, .getfield 17, 3), (63, .iconst 0, 1), (64, .iaload, 1), (65, .irem, 1), (66, .lload 5, 2), (68, .lload 5, 2), (70, .lmul, 1), (71, .ldc2_w 193, 3), (74, .lrem, 1), (75, .invokevirtual 140, 3), (78, .ifCond .eq 7, 3), (81, .iconst 1, 1), (82, .goto 4, 3), (85, .iconst 0, 1), (86, .iadd, 1), (87, .istore_n 3, 1), (88, .iinc 4 1, 3), (91, .goto (-60), 3), (94, .iload_n 3, 1), (95, .ireturn, 1)]
set_option maxRecDepth 100000 in
theorem gg168 : gl168.all (fun x => decide (decode cX8_drawn x.1 = .ok (x.2.1, x.2.2))) = true := by decide +kernel
theorem dX8_drawn_0 : decode cX8_drawn 0 = .ok (.iload_n 1, 1) := dg_at gg168 0 rfl
theorem dX8_drawn_1 : decode cX8_drawn 1 = .ok (.i2l, 1) := dg_at gg168 1 rfl
theorem dX8_drawn_2 : decode cX8_drawn 2 = .ok (.lconst 0, 1) := dg_at gg168 2 rfl
theorem dX8_drawn_3 : decode cX8_drawn 3 = .ok (.ldc2_w 148, 3) := dg_at gg168 3 rfl
theorem dX8_drawn_6 : decode cX8_drawn 6 = .ok (.invokestatic 53, 3) := dg_at gg168 4 rfl
theorem dX8_drawn_9 : decode cX8_drawn 9 = .ok (.ifCond .eq 15, 3) := dg_at gg168 5 rfl
theorem dX8_drawn_12 : decode cX8_drawn 12 = .ok (.iload_n 2, 1) := dg_at gg168 6 rfl
theorem dX8_drawn_13 : decode cX8_drawn 13 = .ok (.i2l, 1) := dg_at gg168 7 rfl
theorem dX8_drawn_14 : decode cX8_drawn 14 = .ok (.lconst 1, 1) := dg_at gg168 8 rfl
theorem dX8_drawn_15 : decode cX8_drawn 15 = .ok (.ldc2_w 187, 3) := dg_at gg168 9 rfl
theorem dX8_drawn_18 : decode cX8_drawn 18 = .ok (.invokestatic 53, 3) := dg_at gg168 10 rfl
theorem dX8_drawn_21 : decode cX8_drawn 21 = .ok (.ifCond .ne 5, 3) := dg_at gg168 11 rfl
theorem dX8_drawn_24 : decode cX8_drawn 24 = .ok (.iconst (-1), 1) := dg_at gg168 12 rfl
theorem dX8_drawn_25 : decode cX8_drawn 25 = .ok (.ireturn, 1) := dg_at gg168 13 rfl
theorem dX8_drawn_26 : decode cX8_drawn 26 = .ok (.iconst 0, 1) := dg_at gg168 14 rfl
theorem dX8_drawn_27 : decode cX8_drawn 27 = .ok (.istore_n 3, 1) := dg_at gg168 15 rfl
theorem dX8_drawn_28 : decode cX8_drawn 28 = .ok (.iconst 0, 1) := dg_at gg168 16 rfl
theorem dX8_drawn_29 : decode cX8_drawn 29 = .ok (.istore 4, 2) := dg_at gg168 17 rfl
theorem dX8_drawn_31 : decode cX8_drawn 31 = .ok (.iload 4, 2) := dg_at gg168 18 rfl
theorem dX8_drawn_33 : decode cX8_drawn 33 = .ok (.iload_n 2, 1) := dg_at gg168 19 rfl
theorem dX8_drawn_34 : decode cX8_drawn 34 = .ok (.if_icmp .ge 60, 3) := dg_at gg168 20 rfl
theorem dX8_drawn_37 : decode cX8_drawn 37 = .ok (.ldc2_w 189, 3) := dg_at gg168 21 rfl
theorem dX8_drawn_40 : decode cX8_drawn 40 = .ok (.iload_n 1, 1) := dg_at gg168 22 rfl
theorem dX8_drawn_41 : decode cX8_drawn 41 = .ok (.i2l, 1) := dg_at gg168 23 rfl
theorem dX8_drawn_42 : decode cX8_drawn 42 = .ok (.lmul, 1) := dg_at gg168 24 rfl
theorem dX8_drawn_43 : decode cX8_drawn 43 = .ok (.ldc2_w 191, 3) := dg_at gg168 25 rfl
theorem dX8_drawn_46 : decode cX8_drawn 46 = .ok (.iload 4, 2) := dg_at gg168 26 rfl
theorem dX8_drawn_48 : decode cX8_drawn 48 = .ok (.i2l, 1) := dg_at gg168 27 rfl
theorem dX8_drawn_49 : decode cX8_drawn 49 = .ok (.lmul, 1) := dg_at gg168 28 rfl
theorem dX8_drawn_50 : decode cX8_drawn 50 = .ok (.ladd, 1) := dg_at gg168 29 rfl
theorem dX8_drawn_51 : decode cX8_drawn 51 = .ok (.lconst 1, 1) := dg_at gg168 30 rfl
theorem dX8_drawn_52 : decode cX8_drawn 52 = .ok (.ladd, 1) := dg_at gg168 31 rfl
theorem dX8_drawn_53 : decode cX8_drawn 53 = .ok (.lstore 5, 2) := dg_at gg168 32 rfl
theorem dX8_drawn_55 : decode cX8_drawn 55 = .ok (.iload_n 3, 1) := dg_at gg168 33 rfl
theorem dX8_drawn_56 : decode cX8_drawn 56 = .ok (.aload_n 0, 1) := dg_at gg168 34 rfl
theorem dX8_drawn_57 : decode cX8_drawn 57 = .ok (.iload 4, 2) := dg_at gg168 35 rfl
theorem dX8_drawn_59 : decode cX8_drawn 59 = .ok (.aload_n 0, 1) := dg_at gg168 36 rfl
theorem dX8_drawn_60 : decode cX8_drawn 60 = .ok (.getfield 17, 3) := dg_at gg168 37 rfl
theorem dX8_drawn_63 : decode cX8_drawn 63 = .ok (.iconst 0, 1) := dg_at gg168 38 rfl
theorem dX8_drawn_64 : decode cX8_drawn 64 = .ok (.iaload, 1) := dg_at gg168 39 rfl
theorem dX8_drawn_65 : decode cX8_drawn 65 = .ok (.irem, 1) := dg_at gg168 40 rfl
theorem dX8_drawn_66 : decode cX8_drawn 66 = .ok (.lload 5, 2) := dg_at gg168 41 rfl
theorem dX8_drawn_68 : decode cX8_drawn 68 = .ok (.lload 5, 2) := dg_at gg168 42 rfl
theorem dX8_drawn_70 : decode cX8_drawn 70 = .ok (.lmul, 1) := dg_at gg168 43 rfl
theorem dX8_drawn_71 : decode cX8_drawn 71 = .ok (.ldc2_w 193, 3) := dg_at gg168 44 rfl
theorem dX8_drawn_74 : decode cX8_drawn 74 = .ok (.lrem, 1) := dg_at gg168 45 rfl
theorem dX8_drawn_75 : decode cX8_drawn 75 = .ok (.invokevirtual 140, 3) := dg_at gg168 46 rfl
theorem dX8_drawn_78 : decode cX8_drawn 78 = .ok (.ifCond .eq 7, 3) := dg_at gg168 47 rfl
theorem dX8_drawn_81 : decode cX8_drawn 81 = .ok (.iconst 1, 1) := dg_at gg168 48 rfl
theorem dX8_drawn_82 : decode cX8_drawn 82 = .ok (.goto 4, 3) := dg_at gg168 49 rfl
theorem dX8_drawn_85 : decode cX8_drawn 85 = .ok (.iconst 0, 1) := dg_at gg168 50 rfl
theorem dX8_drawn_86 : decode cX8_drawn 86 = .ok (.iadd, 1) := dg_at gg168 51 rfl
theorem dX8_drawn_87 : decode cX8_drawn 87 = .ok (.istore_n 3, 1) := dg_at gg168 52 rfl
theorem dX8_drawn_88 : decode cX8_drawn 88 = .ok (.iinc 4 1, 3) := dg_at gg168 53 rfl
theorem dX8_drawn_91 : decode cX8_drawn 91 = .ok (.goto (-60), 3) := dg_at gg168 54 rfl
theorem dX8_drawn_94 : decode cX8_drawn 94 = .ok (.iload_n 3, 1) := dg_at gg168 55 rfl
theorem dX8_drawn_95 : decode cX8_drawn 95 = .ok (.ireturn, 1) := dg_at gg168 56 rfl
def gl169 : List (Nat × Instr × Nat) := [(0, .iconst 0, 1), (1, .istore_n 3, 1), (2, .iload_n 3, 1), (3, .bipush 6, 2), (5, .if_icmp .ge 31, 3), (8, .aload_n 0, 1), (9, .getfield 23, 3), (12, .bipush 6, 2), (14, .iload_n 2, 1), (15, .imul, 1), (16, .iload_n 3, 1), (17, .iadd, 1), (18, .aload_n 0, 1), (19, .getfield 23, 3), (22, .bipush 6, 2), (24, .iload_n 1, 1), (25, .imul, 1), (26, .iload_n 3, 1), (27, .iadd, 1), (28, .iaload, 1), (29, .iastore, 1), (30, .iinc 3 1, 3), (33, .goto (-31), 3), (36, .iconst 0, 1), (37, .istore_n 3, 1), (38, .iload_n 3, 1), (39, .iconst 4, 1), (40, .if_icmp .ge 29, 3), (43, .aload_n 0, 1), (44, .getfield 26, 3), (47, .iconst 4, 1), (48, .iload_n 2, 1), (49, .imul, 1), (50, .iload_n 3, 1), (51, .iadd, 1), (52, .aload_n 0, 1), (53, .getfield 26, 3), (56, .iconst 4, 1), (57, .iload_n 1, 1), (58, .imul, 1), (59, .iload_n 3, 1), (60, .iadd, 1), (61, .laload, 1), (62, .lastore, 1), (63, .iinc 3 1, 3), (66, .goto (-28), 3), (69, .return_, 1)]
set_option maxRecDepth 100000 in
theorem gg169 : gl169.all (fun x => decide (decode cX8_copies x.1 = .ok (x.2.1, x.2.2))) = true := by decide +kernel
theorem dX8_copies_0 : decode cX8_copies 0 = .ok (.iconst 0, 1) := dg_at gg169 0 rfl
theorem dX8_copies_1 : decode cX8_copies 1 = .ok (.istore_n 3, 1) := dg_at gg169 1 rfl
theorem dX8_copies_2 : decode cX8_copies 2 = .ok (.iload_n 3, 1) := dg_at gg169 2 rfl
theorem dX8_copies_3 : decode cX8_copies 3 = .ok (.bipush 6, 2) := dg_at gg169 3 rfl
theorem dX8_copies_5 : decode cX8_copies 5 = .ok (.if_icmp .ge 31, 3) := dg_at gg169 4 rfl
theorem dX8_copies_8 : decode cX8_copies 8 = .ok (.aload_n 0, 1) := dg_at gg169 5 rfl
theorem dX8_copies_9 : decode cX8_copies 9 = .ok (.getfield 23, 3) := dg_at gg169 6 rfl
theorem dX8_copies_12 : decode cX8_copies 12 = .ok (.bipush 6, 2) := dg_at gg169 7 rfl
theorem dX8_copies_14 : decode cX8_copies 14 = .ok (.iload_n 2, 1) := dg_at gg169 8 rfl
theorem dX8_copies_15 : decode cX8_copies 15 = .ok (.imul, 1) := dg_at gg169 9 rfl
theorem dX8_copies_16 : decode cX8_copies 16 = .ok (.iload_n 3, 1) := dg_at gg169 10 rfl
theorem dX8_copies_17 : decode cX8_copies 17 = .ok (.iadd, 1) := dg_at gg169 11 rfl
theorem dX8_copies_18 : decode cX8_copies 18 = .ok (.aload_n 0, 1) := dg_at gg169 12 rfl
theorem dX8_copies_19 : decode cX8_copies 19 = .ok (.getfield 23, 3) := dg_at gg169 13 rfl
theorem dX8_copies_22 : decode cX8_copies 22 = .ok (.bipush 6, 2) := dg_at gg169 14 rfl
theorem dX8_copies_24 : decode cX8_copies 24 = .ok (.iload_n 1, 1) := dg_at gg169 15 rfl
theorem dX8_copies_25 : decode cX8_copies 25 = .ok (.imul, 1) := dg_at gg169 16 rfl
theorem dX8_copies_26 : decode cX8_copies 26 = .ok (.iload_n 3, 1) := dg_at gg169 17 rfl
theorem dX8_copies_27 : decode cX8_copies 27 = .ok (.iadd, 1) := dg_at gg169 18 rfl
theorem dX8_copies_28 : decode cX8_copies 28 = .ok (.iaload, 1) := dg_at gg169 19 rfl
theorem dX8_copies_29 : decode cX8_copies 29 = .ok (.iastore, 1) := dg_at gg169 20 rfl
theorem dX8_copies_30 : decode cX8_copies 30 = .ok (.iinc 3 1, 3) := dg_at gg169 21 rfl
theorem dX8_copies_33 : decode cX8_copies 33 = .ok (.goto (-31), 3) := dg_at gg169 22 rfl
theorem dX8_copies_36 : decode cX8_copies 36 = .ok (.iconst 0, 1) := dg_at gg169 23 rfl
theorem dX8_copies_37 : decode cX8_copies 37 = .ok (.istore_n 3, 1) := dg_at gg169 24 rfl
theorem dX8_copies_38 : decode cX8_copies 38 = .ok (.iload_n 3, 1) := dg_at gg169 25 rfl
theorem dX8_copies_39 : decode cX8_copies 39 = .ok (.iconst 4, 1) := dg_at gg169 26 rfl
theorem dX8_copies_40 : decode cX8_copies 40 = .ok (.if_icmp .ge 29, 3) := dg_at gg169 27 rfl
theorem dX8_copies_43 : decode cX8_copies 43 = .ok (.aload_n 0, 1) := dg_at gg169 28 rfl
theorem dX8_copies_44 : decode cX8_copies 44 = .ok (.getfield 26, 3) := dg_at gg169 29 rfl
theorem dX8_copies_47 : decode cX8_copies 47 = .ok (.iconst 4, 1) := dg_at gg169 30 rfl
theorem dX8_copies_48 : decode cX8_copies 48 = .ok (.iload_n 2, 1) := dg_at gg169 31 rfl
theorem dX8_copies_49 : decode cX8_copies 49 = .ok (.imul, 1) := dg_at gg169 32 rfl
theorem dX8_copies_50 : decode cX8_copies 50 = .ok (.iload_n 3, 1) := dg_at gg169 33 rfl
theorem dX8_copies_51 : decode cX8_copies 51 = .ok (.iadd, 1) := dg_at gg169 34 rfl
theorem dX8_copies_52 : decode cX8_copies 52 = .ok (.aload_n 0, 1) := dg_at gg169 35 rfl
theorem dX8_copies_53 : decode cX8_copies 53 = .ok (.getfield 26, 3) := dg_at gg169 36 rfl
theorem dX8_copies_56 : decode cX8_copies 56 = .ok (.iconst 4, 1) := dg_at gg169 37 rfl
theorem dX8_copies_57 : decode cX8_copies 57 = .ok (.iload_n 1, 1) := dg_at gg169 38 rfl
theorem dX8_copies_58 : decode cX8_copies 58 = .ok (.imul, 1) := dg_at gg169 39 rfl
theorem dX8_copies_59 : decode cX8_copies 59 = .ok (.iload_n 3, 1) := dg_at gg169 40 rfl
theorem dX8_copies_60 : decode cX8_copies 60 = .ok (.iadd, 1) := dg_at gg169 41 rfl
theorem dX8_copies_61 : decode cX8_copies 61 = .ok (.laload, 1) := dg_at gg169 42 rfl
theorem dX8_copies_62 : decode cX8_copies 62 = .ok (.lastore, 1) := dg_at gg169 43 rfl
theorem dX8_copies_63 : decode cX8_copies 63 = .ok (.iinc 3 1, 3) := dg_at gg169 44 rfl
theorem dX8_copies_66 : decode cX8_copies 66 = .ok (.goto (-28), 3) := dg_at gg169 45 rfl
theorem dX8_copies_69 : decode cX8_copies 69 = .ok (.return_, 1) := dg_at gg169 46 rfl
def gl170 : List (Nat × Instr × Nat) := [(0, .aload_n 0, 1), (1, .getfield 95, 3), (4, .iconst 2, 1), (5, .if_icmp .ne 6, 3), (8, .bipush (-3), 2), (10, .ireturn, 1), (11, .aload_n 0, 1), (12, .dup, 1), (13, .getfield 95, 3), (16, .iconst 1, 1), (17, .iadd, 1), (18, .putfield 95, 3), (21, .aload_n 0, 1), (22, .iconst 0, 1), (23, .aload_n 0, 1), (24, .getfield 95, 3), (27, .invokevirtual 195, 3), (30, .aload_n 0, 1), (31, .getfield 95, 3), (34, .ireturn, 1)]
set_option maxRecDepth 100000 in
theorem gg170 : gl170.all (fun x => decide (decode cX8_keep x.1 = .ok (x.2.1, x.2.2))) = true := by decide +kernel
theorem dX8_keep_0 : decode cX8_keep 0 = .ok (.aload_n 0, 1) := dg_at gg170 0 rfl
theorem dX8_keep_1 : decode cX8_keep 1 = .ok (.getfield 95, 3) := dg_at gg170 1 rfl
theorem dX8_keep_4 : decode cX8_keep 4 = .ok (.iconst 2, 1) := dg_at gg170 2 rfl
theorem dX8_keep_5 : decode cX8_keep 5 = .ok (.if_icmp .ne 6, 3) := dg_at gg170 3 rfl
theorem dX8_keep_8 : decode cX8_keep 8 = .ok (.bipush (-3), 2) := dg_at gg170 4 rfl
theorem dX8_keep_10 : decode cX8_keep 10 = .ok (.ireturn, 1) := dg_at gg170 5 rfl
theorem dX8_keep_11 : decode cX8_keep 11 = .ok (.aload_n 0, 1) := dg_at gg170 6 rfl
theorem dX8_keep_12 : decode cX8_keep 12 = .ok (.dup, 1) := dg_at gg170 7 rfl
theorem dX8_keep_13 : decode cX8_keep 13 = .ok (.getfield 95, 3) := dg_at gg170 8 rfl
theorem dX8_keep_16 : decode cX8_keep 16 = .ok (.iconst 1, 1) := dg_at gg170 9 rfl
theorem dX8_keep_17 : decode cX8_keep 17 = .ok (.iadd, 1) := dg_at gg170 10 rfl
theorem dX8_keep_18 : decode cX8_keep 18 = .ok (.putfield 95, 3) := dg_at gg170 11 rfl
theorem dX8_keep_21 : decode cX8_keep 21 = .ok (.aload_n 0, 1) := dg_at gg170 12 rfl
theorem dX8_keep_22 : decode cX8_keep 22 = .ok (.iconst 0, 1) := dg_at gg170 13 rfl
theorem dX8_keep_23 : decode cX8_keep 23 = .ok (.aload_n 0, 1) := dg_at gg170 14 rfl
theorem dX8_keep_24 : decode cX8_keep 24 = .ok (.getfield 95, 3) := dg_at gg170 15 rfl
theorem dX8_keep_27 : decode cX8_keep 27 = .ok (.invokevirtual 195, 3) := dg_at gg170 16 rfl
theorem dX8_keep_30 : decode cX8_keep 30 = .ok (.aload_n 0, 1) := dg_at gg170 17 rfl
theorem dX8_keep_31 : decode cX8_keep 31 = .ok (.getfield 95, 3) := dg_at gg170 18 rfl
theorem dX8_keep_34 : decode cX8_keep 34 = .ok (.ireturn, 1) := dg_at gg170 19 rfl
def gl171 : List (Nat × Instr × Nat) := [(0, .aload_n 0, 1), (1, .getfield 95, 3), (4, .ifCond .ne 6, 3), (7, .bipush (-2), 2), (9, .ireturn, 1), (10, .aload_n 0, 1), (11, .aload_n 0, 1), (12, .getfield 95, 3), (15, .iconst 0, 1), (16, .invokevirtual 195, 3), (19, .aload_n 0, 1), (20, .dup, 1), (21, .getfield 95, 3), (24, .iconst 1, 1), (25, .isub, 1), (26, .putfield 95, 3), (29, .aload_n 0, 1), (30, .iconst 0, 1), (31, .putfield 86, 3), (34, .aload_n 0, 1), (35, .getfield 95, 3), (38, .ireturn, 1)]
set_option maxRecDepth 100000 in
theorem gg171 : gl171.all (fun x => decide (decode cX8_back x.1 = .ok (x.2.1, x.2.2))) = true := by decide +kernel
theorem dX8_back_0 : decode cX8_back 0 = .ok (.aload_n 0, 1) := dg_at gg171 0 rfl
theorem dX8_back_1 : decode cX8_back 1 = .ok (.getfield 95, 3) := dg_at gg171 1 rfl
theorem dX8_back_4 : decode cX8_back 4 = .ok (.ifCond .ne 6, 3) := dg_at gg171 2 rfl
theorem dX8_back_7 : decode cX8_back 7 = .ok (.bipush (-2), 2) := dg_at gg171 3 rfl
theorem dX8_back_9 : decode cX8_back 9 = .ok (.ireturn, 1) := dg_at gg171 4 rfl
theorem dX8_back_10 : decode cX8_back 10 = .ok (.aload_n 0, 1) := dg_at gg171 5 rfl
theorem dX8_back_11 : decode cX8_back 11 = .ok (.aload_n 0, 1) := dg_at gg171 6 rfl
theorem dX8_back_12 : decode cX8_back 12 = .ok (.getfield 95, 3) := dg_at gg171 7 rfl
theorem dX8_back_15 : decode cX8_back 15 = .ok (.iconst 0, 1) := dg_at gg171 8 rfl
theorem dX8_back_16 : decode cX8_back 16 = .ok (.invokevirtual 195, 3) := dg_at gg171 9 rfl
theorem dX8_back_19 : decode cX8_back 19 = .ok (.aload_n 0, 1) := dg_at gg171 10 rfl
theorem dX8_back_20 : decode cX8_back 20 = .ok (.dup, 1) := dg_at gg171 11 rfl
theorem dX8_back_21 : decode cX8_back 21 = .ok (.getfield 95, 3) := dg_at gg171 12 rfl
theorem dX8_back_24 : decode cX8_back 24 = .ok (.iconst 1, 1) := dg_at gg171 13 rfl
theorem dX8_back_25 : decode cX8_back 25 = .ok (.isub, 1) := dg_at gg171 14 rfl
theorem dX8_back_26 : decode cX8_back 26 = .ok (.putfield 95, 3) := dg_at gg171 15 rfl
theorem dX8_back_29 : decode cX8_back 29 = .ok (.aload_n 0, 1) := dg_at gg171 16 rfl
theorem dX8_back_30 : decode cX8_back 30 = .ok (.iconst 0, 1) := dg_at gg171 17 rfl
theorem dX8_back_31 : decode cX8_back 31 = .ok (.putfield 86, 3) := dg_at gg171 18 rfl
theorem dX8_back_34 : decode cX8_back 34 = .ok (.aload_n 0, 1) := dg_at gg171 19 rfl
theorem dX8_back_35 : decode cX8_back 35 = .ok (.getfield 95, 3) := dg_at gg171 20 rfl
theorem dX8_back_38 : decode cX8_back 38 = .ok (.ireturn, 1) := dg_at gg171 21 rfl
def gl172 : List (Nat × Instr × Nat) := [(0, .iload_n 1, 1), (1, .tableswitch 113 0 8 #[51, 58, 63, 71, 76, 81, 86, 97, 108], 51), (52, .aload_n 0, 1), (53, .getfield 17, 3), (56, .iconst 0, 1), (57, .iaload, 1), (58, .ireturn, 1), (59, .aload_n 0, 1), (60, .getfield 57, 3), (63, .ireturn, 1), (64, .aload_n 0, 1), (65, .getfield 26, 3), (68, .iconst 1, 1), (69, .laload, 1), (70, .l2i, 1), (71, .ireturn, 1), (72, .aload_n 0, 1), (73, .getfield 89, 3), (76, .ireturn, 1), (77, .aload_n 0, 1), (78, .getfield 92, 3), (81, .ireturn, 1), (82, .aload_n 0, 1), (83, .getfield 86, 3), (86, .ireturn, 1), (87, .aload_n 0, 1), (88, .getfield 26, 3), (91, .iconst 2, 1), (92, .laload, 1), (93, .l2i, 1), (94, .ldc 199, 2), (96, .iadd, 1), (97, .ireturn, 1), (98, .aload_n 0, 1), (99, .getfield 26, 3), (102, .iconst 3, 1), (103, .laload, 1), (104, .l2i, 1), (105, .ldc 199, 2), (107, .iadd, 1), (108, .ireturn, 1), (109, .aload_n 0, 1), (110, .getfield 95, 3), (113, .ireturn, 1), (114, .iconst (-1), 1), (115, .ireturn, 1)]
set_option maxRecDepth 100000 in
theorem gg172 : gl172.all (fun x => decide (decode cX8_count x.1 = .ok (x.2.1, x.2.2))) = true := by decide +kernel
theorem dX8_count_0 : decode cX8_count 0 = .ok (.iload_n 1, 1) := dg_at gg172 0 rfl
theorem dX8_count_1 : decode cX8_count 1 = .ok (.tableswitch 113 0 8 #[51, 58, 63, 71, 76, 81, 86, 97, 108], 51) := dg_at gg172 1 rfl
theorem dX8_count_52 : decode cX8_count 52 = .ok (.aload_n 0, 1) := dg_at gg172 2 rfl
theorem dX8_count_53 : decode cX8_count 53 = .ok (.getfield 17, 3) := dg_at gg172 3 rfl
theorem dX8_count_56 : decode cX8_count 56 = .ok (.iconst 0, 1) := dg_at gg172 4 rfl
theorem dX8_count_57 : decode cX8_count 57 = .ok (.iaload, 1) := dg_at gg172 5 rfl
theorem dX8_count_58 : decode cX8_count 58 = .ok (.ireturn, 1) := dg_at gg172 6 rfl
theorem dX8_count_59 : decode cX8_count 59 = .ok (.aload_n 0, 1) := dg_at gg172 7 rfl
theorem dX8_count_60 : decode cX8_count 60 = .ok (.getfield 57, 3) := dg_at gg172 8 rfl
theorem dX8_count_63 : decode cX8_count 63 = .ok (.ireturn, 1) := dg_at gg172 9 rfl
theorem dX8_count_64 : decode cX8_count 64 = .ok (.aload_n 0, 1) := dg_at gg172 10 rfl
theorem dX8_count_65 : decode cX8_count 65 = .ok (.getfield 26, 3) := dg_at gg172 11 rfl
theorem dX8_count_68 : decode cX8_count 68 = .ok (.iconst 1, 1) := dg_at gg172 12 rfl
theorem dX8_count_69 : decode cX8_count 69 = .ok (.laload, 1) := dg_at gg172 13 rfl
theorem dX8_count_70 : decode cX8_count 70 = .ok (.l2i, 1) := dg_at gg172 14 rfl
theorem dX8_count_71 : decode cX8_count 71 = .ok (.ireturn, 1) := dg_at gg172 15 rfl
theorem dX8_count_72 : decode cX8_count 72 = .ok (.aload_n 0, 1) := dg_at gg172 16 rfl
theorem dX8_count_73 : decode cX8_count 73 = .ok (.getfield 89, 3) := dg_at gg172 17 rfl
theorem dX8_count_76 : decode cX8_count 76 = .ok (.ireturn, 1) := dg_at gg172 18 rfl
theorem dX8_count_77 : decode cX8_count 77 = .ok (.aload_n 0, 1) := dg_at gg172 19 rfl
theorem dX8_count_78 : decode cX8_count 78 = .ok (.getfield 92, 3) := dg_at gg172 20 rfl
theorem dX8_count_81 : decode cX8_count 81 = .ok (.ireturn, 1) := dg_at gg172 21 rfl
theorem dX8_count_82 : decode cX8_count 82 = .ok (.aload_n 0, 1) := dg_at gg172 22 rfl
theorem dX8_count_83 : decode cX8_count 83 = .ok (.getfield 86, 3) := dg_at gg172 23 rfl
theorem dX8_count_86 : decode cX8_count 86 = .ok (.ireturn, 1) := dg_at gg172 24 rfl
theorem dX8_count_87 : decode cX8_count 87 = .ok (.aload_n 0, 1) := dg_at gg172 25 rfl
theorem dX8_count_88 : decode cX8_count 88 = .ok (.getfield 26, 3) := dg_at gg172 26 rfl
theorem dX8_count_91 : decode cX8_count 91 = .ok (.iconst 2, 1) := dg_at gg172 27 rfl
theorem dX8_count_92 : decode cX8_count 92 = .ok (.laload, 1) := dg_at gg172 28 rfl
theorem dX8_count_93 : decode cX8_count 93 = .ok (.l2i, 1) := dg_at gg172 29 rfl
theorem dX8_count_94 : decode cX8_count 94 = .ok (.ldc 199, 2) := dg_at gg172 30 rfl
theorem dX8_count_96 : decode cX8_count 96 = .ok (.iadd, 1) := dg_at gg172 31 rfl
theorem dX8_count_97 : decode cX8_count 97 = .ok (.ireturn, 1) := dg_at gg172 32 rfl
theorem dX8_count_98 : decode cX8_count 98 = .ok (.aload_n 0, 1) := dg_at gg172 33 rfl
theorem dX8_count_99 : decode cX8_count 99 = .ok (.getfield 26, 3) := dg_at gg172 34 rfl
theorem dX8_count_102 : decode cX8_count 102 = .ok (.iconst 3, 1) := dg_at gg172 35 rfl
theorem dX8_count_103 : decode cX8_count 103 = .ok (.laload, 1) := dg_at gg172 36 rfl
theorem dX8_count_104 : decode cX8_count 104 = .ok (.l2i, 1) := dg_at gg172 37 rfl
theorem dX8_count_105 : decode cX8_count 105 = .ok (.ldc 199, 2) := dg_at gg172 38 rfl
theorem dX8_count_107 : decode cX8_count 107 = .ok (.iadd, 1) := dg_at gg172 39 rfl
theorem dX8_count_108 : decode cX8_count 108 = .ok (.ireturn, 1) := dg_at gg172 40 rfl
theorem dX8_count_109 : decode cX8_count 109 = .ok (.aload_n 0, 1) := dg_at gg172 41 rfl
theorem dX8_count_110 : decode cX8_count 110 = .ok (.getfield 95, 3) := dg_at gg172 42 rfl
theorem dX8_count_113 : decode cX8_count 113 = .ok (.ireturn, 1) := dg_at gg172 43 rfl
theorem dX8_count_114 : decode cX8_count 114 = .ok (.iconst (-1), 1) := dg_at gg172 44 rfl
theorem dX8_count_115 : decode cX8_count 115 = .ok (.ireturn, 1) := dg_at gg172 45 rfl
def gl173 : List (Nat × Instr × Nat) := [(0, .lload_n 0, 1), (1, .lload_n 2, 1), (2, .lrem, 1), (3, .lstore 4, 2), (5, .lload_n 0, 1), (6, .lload_n 2, 1), (7, .lxor, 1), (8, .lconst 0, 1), (9, .lcmp, 1), (10, .ifCond .ge 15, 3), (13, .lload 4, 2), (15, .lconst 0, 1), (16, .lcmp, 1), (17, .ifCond .eq 8, 3), (20, .lload 4, 2), (22, .lload_n 2, 1), (23, .ladd, 1), (24, .lreturn, 1), (25, .lload 4, 2), (27, .lreturn, 1)]
set_option maxRecDepth 100000 in
theorem gg173 : gl173.all (fun x => decide (decode cJ9_floorMod_f86c9 x.1 = .ok (x.2.1, x.2.2))) = true := by decide +kernel
theorem dJ9_floorMod_f86c9_0 : decode cJ9_floorMod_f86c9 0 = .ok (.lload_n 0, 1) := dg_at gg173 0 rfl
theorem dJ9_floorMod_f86c9_1 : decode cJ9_floorMod_f86c9 1 = .ok (.lload_n 2, 1) := dg_at gg173 1 rfl
theorem dJ9_floorMod_f86c9_2 : decode cJ9_floorMod_f86c9 2 = .ok (.lrem, 1) := dg_at gg173 2 rfl
theorem dJ9_floorMod_f86c9_3 : decode cJ9_floorMod_f86c9 3 = .ok (.lstore 4, 2) := dg_at gg173 3 rfl
theorem dJ9_floorMod_f86c9_5 : decode cJ9_floorMod_f86c9 5 = .ok (.lload_n 0, 1) := dg_at gg173 4 rfl
theorem dJ9_floorMod_f86c9_6 : decode cJ9_floorMod_f86c9 6 = .ok (.lload_n 2, 1) := dg_at gg173 5 rfl
theorem dJ9_floorMod_f86c9_7 : decode cJ9_floorMod_f86c9 7 = .ok (.lxor, 1) := dg_at gg173 6 rfl
theorem dJ9_floorMod_f86c9_8 : decode cJ9_floorMod_f86c9 8 = .ok (.lconst 0, 1) := dg_at gg173 7 rfl
theorem dJ9_floorMod_f86c9_9 : decode cJ9_floorMod_f86c9 9 = .ok (.lcmp, 1) := dg_at gg173 8 rfl
theorem dJ9_floorMod_f86c9_10 : decode cJ9_floorMod_f86c9 10 = .ok (.ifCond .ge 15, 3) := dg_at gg173 9 rfl
theorem dJ9_floorMod_f86c9_13 : decode cJ9_floorMod_f86c9 13 = .ok (.lload 4, 2) := dg_at gg173 10 rfl
theorem dJ9_floorMod_f86c9_15 : decode cJ9_floorMod_f86c9 15 = .ok (.lconst 0, 1) := dg_at gg173 11 rfl
theorem dJ9_floorMod_f86c9_16 : decode cJ9_floorMod_f86c9 16 = .ok (.lcmp, 1) := dg_at gg173 12 rfl
theorem dJ9_floorMod_f86c9_17 : decode cJ9_floorMod_f86c9 17 = .ok (.ifCond .eq 8, 3) := dg_at gg173 13 rfl
theorem dJ9_floorMod_f86c9_20 : decode cJ9_floorMod_f86c9 20 = .ok (.lload 4, 2) := dg_at gg173 14 rfl
theorem dJ9_floorMod_f86c9_22 : decode cJ9_floorMod_f86c9 22 = .ok (.lload_n 2, 1) := dg_at gg173 15 rfl
theorem dJ9_floorMod_f86c9_23 : decode cJ9_floorMod_f86c9 23 = .ok (.ladd, 1) := dg_at gg173 16 rfl
theorem dJ9_floorMod_f86c9_24 : decode cJ9_floorMod_f86c9 24 = .ok (.lreturn, 1) := dg_at gg173 17 rfl
theorem dJ9_floorMod_f86c9_25 : decode cJ9_floorMod_f86c9 25 = .ok (.lload 4, 2) := dg_at gg173 18 rfl
theorem dJ9_floorMod_f86c9_27 : decode cJ9_floorMod_f86c9 27 = .ok (.lreturn, 1) := dg_at gg173 19 rfl
def gl174 : List (Nat × Instr × Nat) := [(0, .iload_n 0, 1), (1, .iload_n 1, 1), (2, .if_icmp .lt 7, 3), (5, .iload_n 0, 1), (6, .goto 4, 3), (9, .iload_n 1, 1), (10, .ireturn, 1)]
set_option maxRecDepth 100000 in
theorem gg174 : gl174.all (fun x => decide (decode cJ9_max_7cf53 x.1 = .ok (x.2.1, x.2.2))) = true := by decide +kernel
theorem dJ9_max_7cf53_0 : decode cJ9_max_7cf53 0 = .ok (.iload_n 0, 1) := dg_at gg174 0 rfl
theorem dJ9_max_7cf53_1 : decode cJ9_max_7cf53 1 = .ok (.iload_n 1, 1) := dg_at gg174 1 rfl
theorem dJ9_max_7cf53_2 : decode cJ9_max_7cf53 2 = .ok (.if_icmp .lt 7, 3) := dg_at gg174 2 rfl
theorem dJ9_max_7cf53_5 : decode cJ9_max_7cf53 5 = .ok (.iload_n 0, 1) := dg_at gg174 3 rfl
theorem dJ9_max_7cf53_6 : decode cJ9_max_7cf53 6 = .ok (.goto 4, 3) := dg_at gg174 4 rfl
theorem dJ9_max_7cf53_9 : decode cJ9_max_7cf53 9 = .ok (.iload_n 1, 1) := dg_at gg174 5 rfl
theorem dJ9_max_7cf53_10 : decode cJ9_max_7cf53 10 = .ok (.ireturn, 1) := dg_at gg174 6 rfl
def gl175 : List (Nat × Instr × Nat) := [(0, .lload_n 0, 1), (1, .lload_n 2, 1), (2, .lcmp, 1), (3, .ifCond .lt 7, 3), (6, .lload_n 0, 1), (7, .goto 4, 3), (10, .lload_n 2, 1), (11, .lreturn, 1)]
set_option maxRecDepth 100000 in
theorem gg175 : gl175.all (fun x => decide (decode cJ9_max_f86c9 x.1 = .ok (x.2.1, x.2.2))) = true := by decide +kernel
theorem dJ9_max_f86c9_0 : decode cJ9_max_f86c9 0 = .ok (.lload_n 0, 1) := dg_at gg175 0 rfl
theorem dJ9_max_f86c9_1 : decode cJ9_max_f86c9 1 = .ok (.lload_n 2, 1) := dg_at gg175 1 rfl
theorem dJ9_max_f86c9_2 : decode cJ9_max_f86c9 2 = .ok (.lcmp, 1) := dg_at gg175 2 rfl
theorem dJ9_max_f86c9_3 : decode cJ9_max_f86c9 3 = .ok (.ifCond .lt 7, 3) := dg_at gg175 3 rfl
theorem dJ9_max_f86c9_6 : decode cJ9_max_f86c9 6 = .ok (.lload_n 0, 1) := dg_at gg175 4 rfl
theorem dJ9_max_f86c9_7 : decode cJ9_max_f86c9 7 = .ok (.goto 4, 3) := dg_at gg175 5 rfl
theorem dJ9_max_f86c9_10 : decode cJ9_max_f86c9 10 = .ok (.lload_n 2, 1) := dg_at gg175 6 rfl
theorem dJ9_max_f86c9_11 : decode cJ9_max_f86c9 11 = .ok (.lreturn, 1) := dg_at gg175 7 rfl
def gl176 : List (Nat × Instr × Nat) := [(0, .iload_n 0, 1), (1, .iload_n 1, 1), (2, .if_icmp .gt 7, 3), (5, .iload_n 0, 1), (6, .goto 4, 3), (9, .iload_n 1, 1), (10, .ireturn, 1)]
set_option maxRecDepth 100000 in
theorem gg176 : gl176.all (fun x => decide (decode cJ9_min_7cf53 x.1 = .ok (x.2.1, x.2.2))) = true := by decide +kernel
theorem dJ9_min_7cf53_0 : decode cJ9_min_7cf53 0 = .ok (.iload_n 0, 1) := dg_at gg176 0 rfl
theorem dJ9_min_7cf53_1 : decode cJ9_min_7cf53 1 = .ok (.iload_n 1, 1) := dg_at gg176 1 rfl
theorem dJ9_min_7cf53_2 : decode cJ9_min_7cf53 2 = .ok (.if_icmp .gt 7, 3) := dg_at gg176 2 rfl
theorem dJ9_min_7cf53_5 : decode cJ9_min_7cf53 5 = .ok (.iload_n 0, 1) := dg_at gg176 3 rfl
theorem dJ9_min_7cf53_6 : decode cJ9_min_7cf53 6 = .ok (.goto 4, 3) := dg_at gg176 4 rfl
theorem dJ9_min_7cf53_9 : decode cJ9_min_7cf53 9 = .ok (.iload_n 1, 1) := dg_at gg176 5 rfl
theorem dJ9_min_7cf53_10 : decode cJ9_min_7cf53 10 = .ok (.ireturn, 1) := dg_at gg176 6 rfl
def gl177 : List (Nat × Instr × Nat) := [(0, .new 7, 3), (3, .dup, 1), (4, .invokespecial 9, 3), (7, .astore_n 1, 1), (8, .new 10, 3), (11, .dup, 1), (12, .invokespecial 12, 3), (15, .astore_n 2, 1), (16, .iconst 0, 1), (17, .istore_n 3, 1), (18, .iload_n 3, 1), (19, .aload_n 0, 1), (20, .arraylength, 1), (21, .bipush 6, 2), (23, .isub, 1), (24, .if_icmp .gt 1240, 3), (27, .aload_n 0, 1), (28, .iload_n 3, 1), (29, .iaload, 1), (30, .bipush 31, 2), (32, .iand, 1), (33, .tableswitch 1225 0 31 #[143, 206, 219, 232, 245, 278, 301, 354, 427, 490, 553, 576, 589, 652, 675, 698, 757, 770, 793, 836, 859, 882, 905, 978, 1011, 1024, 1037, 1060, 1143, 1176, 1189, 1202], 143), (176, .aload_n 1, 1), (177, .aload_n 0, 1), (178, .iload_n 3, 1), (179, .iconst 1, 1), (180, .iadd, 1), (181, .iaload, 1), (182, .aload_n 0, 1), (183, .iload_n 3, 1), (184, .iconst 2, 1), (185, .iadd, 1), (186, .iaload, 1), (187, .i2l, 1), (188, .bipush 32, 2), (190, .lshl, 1), (191, .aload_n 0, 1), (192, .iload_n 3, 1), (193, .iconst 3, 1), (194, .iadd, 1), (195, .iaload, 1), (196, .i2l, 1), (197, .ldc2_w 13, 3), (200, .land, 1), (201, .lor, 1), (202, .invokevirtual 15, 3), (205, .pop, 1), (206, .aload_n 2, 1), (207, .aload_n 0, 1), (208, .iload_n 3, 1), (209, .iconst 1, 1), (210, .iadd, 1), (211, .iaload, 1), (212, .aload_n 0, 1), (213, .iload_n 3, 1), (214, .iconst 2, 1), (215, .iadd, 1), (216, .iaload, 1), (217, .i2l, 1), (218, .bipush 32, 2)]
set_option maxRecDepth 100000 in
theorem gg177 : gl177.all (fun x => decide (decode cL_law x.1 = .ok (x.2.1, x.2.2))) = true := by decide +kernel
theorem dL_law_0 : decode cL_law 0 = .ok (.new 7, 3) := dg_at gg177 0 rfl
theorem dL_law_3 : decode cL_law 3 = .ok (.dup, 1) := dg_at gg177 1 rfl
theorem dL_law_4 : decode cL_law 4 = .ok (.invokespecial 9, 3) := dg_at gg177 2 rfl
theorem dL_law_7 : decode cL_law 7 = .ok (.astore_n 1, 1) := dg_at gg177 3 rfl
theorem dL_law_8 : decode cL_law 8 = .ok (.new 10, 3) := dg_at gg177 4 rfl
theorem dL_law_11 : decode cL_law 11 = .ok (.dup, 1) := dg_at gg177 5 rfl
theorem dL_law_12 : decode cL_law 12 = .ok (.invokespecial 12, 3) := dg_at gg177 6 rfl
theorem dL_law_15 : decode cL_law 15 = .ok (.astore_n 2, 1) := dg_at gg177 7 rfl
theorem dL_law_16 : decode cL_law 16 = .ok (.iconst 0, 1) := dg_at gg177 8 rfl
theorem dL_law_17 : decode cL_law 17 = .ok (.istore_n 3, 1) := dg_at gg177 9 rfl
theorem dL_law_18 : decode cL_law 18 = .ok (.iload_n 3, 1) := dg_at gg177 10 rfl
theorem dL_law_19 : decode cL_law 19 = .ok (.aload_n 0, 1) := dg_at gg177 11 rfl
theorem dL_law_20 : decode cL_law 20 = .ok (.arraylength, 1) := dg_at gg177 12 rfl
theorem dL_law_21 : decode cL_law 21 = .ok (.bipush 6, 2) := dg_at gg177 13 rfl
theorem dL_law_23 : decode cL_law 23 = .ok (.isub, 1) := dg_at gg177 14 rfl
theorem dL_law_24 : decode cL_law 24 = .ok (.if_icmp .gt 1240, 3) := dg_at gg177 15 rfl
theorem dL_law_27 : decode cL_law 27 = .ok (.aload_n 0, 1) := dg_at gg177 16 rfl
theorem dL_law_28 : decode cL_law 28 = .ok (.iload_n 3, 1) := dg_at gg177 17 rfl
theorem dL_law_29 : decode cL_law 29 = .ok (.iaload, 1) := dg_at gg177 18 rfl
theorem dL_law_30 : decode cL_law 30 = .ok (.bipush 31, 2) := dg_at gg177 19 rfl
theorem dL_law_32 : decode cL_law 32 = .ok (.iand, 1) := dg_at gg177 20 rfl
theorem dL_law_33 : decode cL_law 33 = .ok (.tableswitch 1225 0 31 #[143, 206, 219, 232, 245, 278, 301, 354, 427, 490, 553, 576, 589, 652, 675, 698, 757, 770, 793, 836, 859, 882, 905, 978, 1011, 1024, 1037, 1060, 1143, 1176, 1189, 1202], 143) := dg_at gg177 21 rfl
theorem dL_law_176 : decode cL_law 176 = .ok (.aload_n 1, 1) := dg_at gg177 22 rfl
theorem dL_law_177 : decode cL_law 177 = .ok (.aload_n 0, 1) := dg_at gg177 23 rfl
theorem dL_law_178 : decode cL_law 178 = .ok (.iload_n 3, 1) := dg_at gg177 24 rfl
theorem dL_law_179 : decode cL_law 179 = .ok (.iconst 1, 1) := dg_at gg177 25 rfl
theorem dL_law_180 : decode cL_law 180 = .ok (.iadd, 1) := dg_at gg177 26 rfl
theorem dL_law_181 : decode cL_law 181 = .ok (.iaload, 1) := dg_at gg177 27 rfl
theorem dL_law_182 : decode cL_law 182 = .ok (.aload_n 0, 1) := dg_at gg177 28 rfl
theorem dL_law_183 : decode cL_law 183 = .ok (.iload_n 3, 1) := dg_at gg177 29 rfl
theorem dL_law_184 : decode cL_law 184 = .ok (.iconst 2, 1) := dg_at gg177 30 rfl
theorem dL_law_185 : decode cL_law 185 = .ok (.iadd, 1) := dg_at gg177 31 rfl
theorem dL_law_186 : decode cL_law 186 = .ok (.iaload, 1) := dg_at gg177 32 rfl
theorem dL_law_187 : decode cL_law 187 = .ok (.i2l, 1) := dg_at gg177 33 rfl
theorem dL_law_188 : decode cL_law 188 = .ok (.bipush 32, 2) := dg_at gg177 34 rfl
theorem dL_law_190 : decode cL_law 190 = .ok (.lshl, 1) := dg_at gg177 35 rfl
theorem dL_law_191 : decode cL_law 191 = .ok (.aload_n 0, 1) := dg_at gg177 36 rfl
theorem dL_law_192 : decode cL_law 192 = .ok (.iload_n 3, 1) := dg_at gg177 37 rfl
theorem dL_law_193 : decode cL_law 193 = .ok (.iconst 3, 1) := dg_at gg177 38 rfl
theorem dL_law_194 : decode cL_law 194 = .ok (.iadd, 1) := dg_at gg177 39 rfl
theorem dL_law_195 : decode cL_law 195 = .ok (.iaload, 1) := dg_at gg177 40 rfl
theorem dL_law_196 : decode cL_law 196 = .ok (.i2l, 1) := dg_at gg177 41 rfl
theorem dL_law_197 : decode cL_law 197 = .ok (.ldc2_w 13, 3) := dg_at gg177 42 rfl
theorem dL_law_200 : decode cL_law 200 = .ok (.land, 1) := dg_at gg177 43 rfl
theorem dL_law_201 : decode cL_law 201 = .ok (.lor, 1) := dg_at gg177 44 rfl
theorem dL_law_202 : decode cL_law 202 = .ok (.invokevirtual 15, 3) := dg_at gg177 45 rfl
theorem dL_law_205 : decode cL_law 205 = .ok (.pop, 1) := dg_at gg177 46 rfl
theorem dL_law_206 : decode cL_law 206 = .ok (.aload_n 2, 1) := dg_at gg177 47 rfl
theorem dL_law_207 : decode cL_law 207 = .ok (.aload_n 0, 1) := dg_at gg177 48 rfl
theorem dL_law_208 : decode cL_law 208 = .ok (.iload_n 3, 1) := dg_at gg177 49 rfl
theorem dL_law_209 : decode cL_law 209 = .ok (.iconst 1, 1) := dg_at gg177 50 rfl
theorem dL_law_210 : decode cL_law 210 = .ok (.iadd, 1) := dg_at gg177 51 rfl
theorem dL_law_211 : decode cL_law 211 = .ok (.iaload, 1) := dg_at gg177 52 rfl
theorem dL_law_212 : decode cL_law 212 = .ok (.aload_n 0, 1) := dg_at gg177 53 rfl
theorem dL_law_213 : decode cL_law 213 = .ok (.iload_n 3, 1) := dg_at gg177 54 rfl
theorem dL_law_214 : decode cL_law 214 = .ok (.iconst 2, 1) := dg_at gg177 55 rfl
theorem dL_law_215 : decode cL_law 215 = .ok (.iadd, 1) := dg_at gg177 56 rfl
theorem dL_law_216 : decode cL_law 216 = .ok (.iaload, 1) := dg_at gg177 57 rfl
theorem dL_law_217 : decode cL_law 217 = .ok (.i2l, 1) := dg_at gg177 58 rfl
theorem dL_law_218 : decode cL_law 218 = .ok (.bipush 32, 2) := dg_at gg177 59 rfl
def gl178 : List (Nat × Instr × Nat) := [(220, .lshl, 1), (221, .aload_n 0, 1), (222, .iload_n 3, 1), (223, .iconst 3, 1), (224, .iadd, 1), (225, .iaload, 1), (226, .i2l, 1), (227, .ldc2_w 13, 3), (230, .land, 1), (231, .lor, 1), (232, .invokevirtual 19, 3), (235, .pop, 1), (236, .goto 1022, 3), (239, .aload_n 1, 1), (240, .invokevirtual 20, 3), (243, .pop, 1), (244, .aload_n 2, 1), (245, .invokevirtual 24, 3), (248, .pop, 1), (249, .goto 1009, 3), (252, .aload_n 1, 1), (253, .invokevirtual 25, 3), (256, .aload_n 2, 1), (257, .invokevirtual 28, 3), (260, .if_icmp .eq 998, 3), (263, .iconst 0, 1), (264, .ireturn, 1), (265, .aload_n 1, 1), (266, .invokevirtual 29, 3), (269, .pop, 1), (270, .aload_n 2, 1), (271, .invokevirtual 32, 3), (274, .pop, 1), (275, .goto 983, 3), (278, .aload_n 1, 1), (279, .aload_n 0, 1), (280, .iload_n 3, 1), (281, .iconst 1, 1), (282, .iadd, 1), (283, .iaload, 1), (284, .aload_n 0, 1), (285, .iload_n 3, 1), (286, .iconst 2, 1), (287, .iadd, 1), (288, .iaload, 1), (289, .invokevirtual 33, 3), (292, .pop, 1), (293, .aload_n 2, 1), (294, .aload_n 0, 1), (295, .iload_n 3, 1), (296, .iconst 1, 1), (297, .iadd, 1), (298, .iaload, 1), (299, .aload_n 0, 1), (300, .iload_n 3, 1), (301, .iconst 2, 1), (302, .iadd, 1), (303, .iaload, 1), (304, .invokevirtual 37, 3), (307, .pop, 1)]
set_option maxRecDepth 100000 in
theorem gg178 : gl178.all (fun x => decide (decode cL_law x.1 = .ok (x.2.1, x.2.2))) = true := by decide +kernel
theorem dL_law_220 : decode cL_law 220 = .ok (.lshl, 1) := dg_at gg178 0 rfl
theorem dL_law_221 : decode cL_law 221 = .ok (.aload_n 0, 1) := dg_at gg178 1 rfl
theorem dL_law_222 : decode cL_law 222 = .ok (.iload_n 3, 1) := dg_at gg178 2 rfl
theorem dL_law_223 : decode cL_law 223 = .ok (.iconst 3, 1) := dg_at gg178 3 rfl
theorem dL_law_224 : decode cL_law 224 = .ok (.iadd, 1) := dg_at gg178 4 rfl
theorem dL_law_225 : decode cL_law 225 = .ok (.iaload, 1) := dg_at gg178 5 rfl
theorem dL_law_226 : decode cL_law 226 = .ok (.i2l, 1) := dg_at gg178 6 rfl
theorem dL_law_227 : decode cL_law 227 = .ok (.ldc2_w 13, 3) := dg_at gg178 7 rfl
theorem dL_law_230 : decode cL_law 230 = .ok (.land, 1) := dg_at gg178 8 rfl
theorem dL_law_231 : decode cL_law 231 = .ok (.lor, 1) := dg_at gg178 9 rfl
theorem dL_law_232 : decode cL_law 232 = .ok (.invokevirtual 19, 3) := dg_at gg178 10 rfl
theorem dL_law_235 : decode cL_law 235 = .ok (.pop, 1) := dg_at gg178 11 rfl
theorem dL_law_236 : decode cL_law 236 = .ok (.goto 1022, 3) := dg_at gg178 12 rfl
theorem dL_law_239 : decode cL_law 239 = .ok (.aload_n 1, 1) := dg_at gg178 13 rfl
theorem dL_law_240 : decode cL_law 240 = .ok (.invokevirtual 20, 3) := dg_at gg178 14 rfl
theorem dL_law_243 : decode cL_law 243 = .ok (.pop, 1) := dg_at gg178 15 rfl
theorem dL_law_244 : decode cL_law 244 = .ok (.aload_n 2, 1) := dg_at gg178 16 rfl
theorem dL_law_245 : decode cL_law 245 = .ok (.invokevirtual 24, 3) := dg_at gg178 17 rfl
theorem dL_law_248 : decode cL_law 248 = .ok (.pop, 1) := dg_at gg178 18 rfl
theorem dL_law_249 : decode cL_law 249 = .ok (.goto 1009, 3) := dg_at gg178 19 rfl
theorem dL_law_252 : decode cL_law 252 = .ok (.aload_n 1, 1) := dg_at gg178 20 rfl
theorem dL_law_253 : decode cL_law 253 = .ok (.invokevirtual 25, 3) := dg_at gg178 21 rfl
theorem dL_law_256 : decode cL_law 256 = .ok (.aload_n 2, 1) := dg_at gg178 22 rfl
theorem dL_law_257 : decode cL_law 257 = .ok (.invokevirtual 28, 3) := dg_at gg178 23 rfl
theorem dL_law_260 : decode cL_law 260 = .ok (.if_icmp .eq 998, 3) := dg_at gg178 24 rfl
theorem dL_law_263 : decode cL_law 263 = .ok (.iconst 0, 1) := dg_at gg178 25 rfl
theorem dL_law_264 : decode cL_law 264 = .ok (.ireturn, 1) := dg_at gg178 26 rfl
theorem dL_law_265 : decode cL_law 265 = .ok (.aload_n 1, 1) := dg_at gg178 27 rfl
theorem dL_law_266 : decode cL_law 266 = .ok (.invokevirtual 29, 3) := dg_at gg178 28 rfl
theorem dL_law_269 : decode cL_law 269 = .ok (.pop, 1) := dg_at gg178 29 rfl
theorem dL_law_270 : decode cL_law 270 = .ok (.aload_n 2, 1) := dg_at gg178 30 rfl
theorem dL_law_271 : decode cL_law 271 = .ok (.invokevirtual 32, 3) := dg_at gg178 31 rfl
theorem dL_law_274 : decode cL_law 274 = .ok (.pop, 1) := dg_at gg178 32 rfl
theorem dL_law_275 : decode cL_law 275 = .ok (.goto 983, 3) := dg_at gg178 33 rfl
theorem dL_law_278 : decode cL_law 278 = .ok (.aload_n 1, 1) := dg_at gg178 34 rfl
theorem dL_law_279 : decode cL_law 279 = .ok (.aload_n 0, 1) := dg_at gg178 35 rfl
theorem dL_law_280 : decode cL_law 280 = .ok (.iload_n 3, 1) := dg_at gg178 36 rfl
theorem dL_law_281 : decode cL_law 281 = .ok (.iconst 1, 1) := dg_at gg178 37 rfl
theorem dL_law_282 : decode cL_law 282 = .ok (.iadd, 1) := dg_at gg178 38 rfl
theorem dL_law_283 : decode cL_law 283 = .ok (.iaload, 1) := dg_at gg178 39 rfl
theorem dL_law_284 : decode cL_law 284 = .ok (.aload_n 0, 1) := dg_at gg178 40 rfl
theorem dL_law_285 : decode cL_law 285 = .ok (.iload_n 3, 1) := dg_at gg178 41 rfl
theorem dL_law_286 : decode cL_law 286 = .ok (.iconst 2, 1) := dg_at gg178 42 rfl
theorem dL_law_287 : decode cL_law 287 = .ok (.iadd, 1) := dg_at gg178 43 rfl
theorem dL_law_288 : decode cL_law 288 = .ok (.iaload, 1) := dg_at gg178 44 rfl
theorem dL_law_289 : decode cL_law 289 = .ok (.invokevirtual 33, 3) := dg_at gg178 45 rfl
theorem dL_law_292 : decode cL_law 292 = .ok (.pop, 1) := dg_at gg178 46 rfl
theorem dL_law_293 : decode cL_law 293 = .ok (.aload_n 2, 1) := dg_at gg178 47 rfl
theorem dL_law_294 : decode cL_law 294 = .ok (.aload_n 0, 1) := dg_at gg178 48 rfl
theorem dL_law_295 : decode cL_law 295 = .ok (.iload_n 3, 1) := dg_at gg178 49 rfl
theorem dL_law_296 : decode cL_law 296 = .ok (.iconst 1, 1) := dg_at gg178 50 rfl
theorem dL_law_297 : decode cL_law 297 = .ok (.iadd, 1) := dg_at gg178 51 rfl
theorem dL_law_298 : decode cL_law 298 = .ok (.iaload, 1) := dg_at gg178 52 rfl
theorem dL_law_299 : decode cL_law 299 = .ok (.aload_n 0, 1) := dg_at gg178 53 rfl
theorem dL_law_300 : decode cL_law 300 = .ok (.iload_n 3, 1) := dg_at gg178 54 rfl
theorem dL_law_301 : decode cL_law 301 = .ok (.iconst 2, 1) := dg_at gg178 55 rfl
theorem dL_law_302 : decode cL_law 302 = .ok (.iadd, 1) := dg_at gg178 56 rfl
theorem dL_law_303 : decode cL_law 303 = .ok (.iaload, 1) := dg_at gg178 57 rfl
theorem dL_law_304 : decode cL_law 304 = .ok (.invokevirtual 37, 3) := dg_at gg178 58 rfl
theorem dL_law_307 : decode cL_law 307 = .ok (.pop, 1) := dg_at gg178 59 rfl
def gl179 : List (Nat × Instr × Nat) := [(308, .goto 950, 3), (311, .aload_n 1, 1), (312, .aload_n 0, 1), (313, .iload_n 3, 1), (314, .iconst 1, 1), (315, .iadd, 1), (316, .iaload, 1), (317, .invokevirtual 38, 3), (320, .pop, 1), (321, .aload_n 2, 1), (322, .aload_n 0, 1), (323, .iload_n 3, 1), (324, .iconst 1, 1), (325, .iadd, 1), (326, .iaload, 1), (327, .invokevirtual 42, 3), (330, .pop, 1), (331, .goto 927, 3), (334, .aload_n 1, 1), (335, .aload_n 0, 1), (336, .iload_n 3, 1), (337, .iconst 1, 1), (338, .iadd, 1), (339, .iaload, 1), (340, .i2l, 1), (341, .bipush 32, 2), (343, .lshl, 1), (344, .aload_n 0, 1), (345, .iload_n 3, 1), (346, .iconst 2, 1), (347, .iadd, 1), (348, .iaload, 1), (349, .i2l, 1), (350, .ldc2_w 13, 3), (353, .land, 1), (354, .lor, 1), (355, .invokevirtual 43, 3), (358, .pop, 1), (359, .aload_n 2, 1), (360, .aload_n 0, 1), (361, .iload_n 3, 1), (362, .iconst 1, 1), (363, .iadd, 1), (364, .iaload, 1), (365, .i2l, 1), (366, .bipush 32, 2), (368, .lshl, 1), (369, .aload_n 0, 1), (370, .iload_n 3, 1), (371, .iconst 2, 1), (372, .iadd, 1), (373, .iaload, 1), (374, .i2l, 1), (375, .ldc2_w 13, 3), (378, .land, 1), (379, .lor, 1), (380, .invokevirtual 47, 3), (383, .pop, 1), (384, .goto 874, 3), (387, .aload_n 1, 1)]
set_option maxRecDepth 100000 in
theorem gg179 : gl179.all (fun x => decide (decode cL_law x.1 = .ok (x.2.1, x.2.2))) = true := by decide +kernel
theorem dL_law_308 : decode cL_law 308 = .ok (.goto 950, 3) := dg_at gg179 0 rfl
theorem dL_law_311 : decode cL_law 311 = .ok (.aload_n 1, 1) := dg_at gg179 1 rfl
theorem dL_law_312 : decode cL_law 312 = .ok (.aload_n 0, 1) := dg_at gg179 2 rfl
theorem dL_law_313 : decode cL_law 313 = .ok (.iload_n 3, 1) := dg_at gg179 3 rfl
theorem dL_law_314 : decode cL_law 314 = .ok (.iconst 1, 1) := dg_at gg179 4 rfl
theorem dL_law_315 : decode cL_law 315 = .ok (.iadd, 1) := dg_at gg179 5 rfl
theorem dL_law_316 : decode cL_law 316 = .ok (.iaload, 1) := dg_at gg179 6 rfl
theorem dL_law_317 : decode cL_law 317 = .ok (.invokevirtual 38, 3) := dg_at gg179 7 rfl
theorem dL_law_320 : decode cL_law 320 = .ok (.pop, 1) := dg_at gg179 8 rfl
theorem dL_law_321 : decode cL_law 321 = .ok (.aload_n 2, 1) := dg_at gg179 9 rfl
theorem dL_law_322 : decode cL_law 322 = .ok (.aload_n 0, 1) := dg_at gg179 10 rfl
theorem dL_law_323 : decode cL_law 323 = .ok (.iload_n 3, 1) := dg_at gg179 11 rfl
theorem dL_law_324 : decode cL_law 324 = .ok (.iconst 1, 1) := dg_at gg179 12 rfl
theorem dL_law_325 : decode cL_law 325 = .ok (.iadd, 1) := dg_at gg179 13 rfl
theorem dL_law_326 : decode cL_law 326 = .ok (.iaload, 1) := dg_at gg179 14 rfl
theorem dL_law_327 : decode cL_law 327 = .ok (.invokevirtual 42, 3) := dg_at gg179 15 rfl
theorem dL_law_330 : decode cL_law 330 = .ok (.pop, 1) := dg_at gg179 16 rfl
theorem dL_law_331 : decode cL_law 331 = .ok (.goto 927, 3) := dg_at gg179 17 rfl
theorem dL_law_334 : decode cL_law 334 = .ok (.aload_n 1, 1) := dg_at gg179 18 rfl
theorem dL_law_335 : decode cL_law 335 = .ok (.aload_n 0, 1) := dg_at gg179 19 rfl
theorem dL_law_336 : decode cL_law 336 = .ok (.iload_n 3, 1) := dg_at gg179 20 rfl
theorem dL_law_337 : decode cL_law 337 = .ok (.iconst 1, 1) := dg_at gg179 21 rfl
theorem dL_law_338 : decode cL_law 338 = .ok (.iadd, 1) := dg_at gg179 22 rfl
theorem dL_law_339 : decode cL_law 339 = .ok (.iaload, 1) := dg_at gg179 23 rfl
theorem dL_law_340 : decode cL_law 340 = .ok (.i2l, 1) := dg_at gg179 24 rfl
theorem dL_law_341 : decode cL_law 341 = .ok (.bipush 32, 2) := dg_at gg179 25 rfl
theorem dL_law_343 : decode cL_law 343 = .ok (.lshl, 1) := dg_at gg179 26 rfl
theorem dL_law_344 : decode cL_law 344 = .ok (.aload_n 0, 1) := dg_at gg179 27 rfl
theorem dL_law_345 : decode cL_law 345 = .ok (.iload_n 3, 1) := dg_at gg179 28 rfl
theorem dL_law_346 : decode cL_law 346 = .ok (.iconst 2, 1) := dg_at gg179 29 rfl
theorem dL_law_347 : decode cL_law 347 = .ok (.iadd, 1) := dg_at gg179 30 rfl
theorem dL_law_348 : decode cL_law 348 = .ok (.iaload, 1) := dg_at gg179 31 rfl
theorem dL_law_349 : decode cL_law 349 = .ok (.i2l, 1) := dg_at gg179 32 rfl
theorem dL_law_350 : decode cL_law 350 = .ok (.ldc2_w 13, 3) := dg_at gg179 33 rfl
theorem dL_law_353 : decode cL_law 353 = .ok (.land, 1) := dg_at gg179 34 rfl
theorem dL_law_354 : decode cL_law 354 = .ok (.lor, 1) := dg_at gg179 35 rfl
theorem dL_law_355 : decode cL_law 355 = .ok (.invokevirtual 43, 3) := dg_at gg179 36 rfl
theorem dL_law_358 : decode cL_law 358 = .ok (.pop, 1) := dg_at gg179 37 rfl
theorem dL_law_359 : decode cL_law 359 = .ok (.aload_n 2, 1) := dg_at gg179 38 rfl
theorem dL_law_360 : decode cL_law 360 = .ok (.aload_n 0, 1) := dg_at gg179 39 rfl
theorem dL_law_361 : decode cL_law 361 = .ok (.iload_n 3, 1) := dg_at gg179 40 rfl
theorem dL_law_362 : decode cL_law 362 = .ok (.iconst 1, 1) := dg_at gg179 41 rfl
theorem dL_law_363 : decode cL_law 363 = .ok (.iadd, 1) := dg_at gg179 42 rfl
theorem dL_law_364 : decode cL_law 364 = .ok (.iaload, 1) := dg_at gg179 43 rfl
theorem dL_law_365 : decode cL_law 365 = .ok (.i2l, 1) := dg_at gg179 44 rfl
theorem dL_law_366 : decode cL_law 366 = .ok (.bipush 32, 2) := dg_at gg179 45 rfl
theorem dL_law_368 : decode cL_law 368 = .ok (.lshl, 1) := dg_at gg179 46 rfl
theorem dL_law_369 : decode cL_law 369 = .ok (.aload_n 0, 1) := dg_at gg179 47 rfl
theorem dL_law_370 : decode cL_law 370 = .ok (.iload_n 3, 1) := dg_at gg179 48 rfl
theorem dL_law_371 : decode cL_law 371 = .ok (.iconst 2, 1) := dg_at gg179 49 rfl
theorem dL_law_372 : decode cL_law 372 = .ok (.iadd, 1) := dg_at gg179 50 rfl
theorem dL_law_373 : decode cL_law 373 = .ok (.iaload, 1) := dg_at gg179 51 rfl
theorem dL_law_374 : decode cL_law 374 = .ok (.i2l, 1) := dg_at gg179 52 rfl
theorem dL_law_375 : decode cL_law 375 = .ok (.ldc2_w 13, 3) := dg_at gg179 53 rfl
theorem dL_law_378 : decode cL_law 378 = .ok (.land, 1) := dg_at gg179 54 rfl
theorem dL_law_379 : decode cL_law 379 = .ok (.lor, 1) := dg_at gg179 55 rfl
theorem dL_law_380 : decode cL_law 380 = .ok (.invokevirtual 47, 3) := dg_at gg179 56 rfl
theorem dL_law_383 : decode cL_law 383 = .ok (.pop, 1) := dg_at gg179 57 rfl
theorem dL_law_384 : decode cL_law 384 = .ok (.goto 874, 3) := dg_at gg179 58 rfl
theorem dL_law_387 : decode cL_law 387 = .ok (.aload_n 1, 1) := dg_at gg179 59 rfl
def gl180 : List (Nat × Instr × Nat) := [(388, .aload_n 0, 1), (389, .iload_n 3, 1), (390, .iconst 1, 1), (391, .iadd, 1), (392, .iaload, 1), (393, .i2l, 1), (394, .bipush 32, 2), (396, .lshl, 1), (397, .aload_n 0, 1), (398, .iload_n 3, 1), (399, .iconst 2, 1), (400, .iadd, 1), (401, .iaload, 1), (402, .i2l, 1), (403, .ldc2_w 13, 3), (406, .land, 1), (407, .lor, 1), (408, .aload_n 0, 1), (409, .iload_n 3, 1), (410, .iconst 3, 1), (411, .iadd, 1), (412, .iaload, 1), (413, .aload_n 0, 1), (414, .iload_n 3, 1), (415, .iconst 4, 1), (416, .iadd, 1), (417, .iaload, 1), (418, .invokevirtual 48, 3), (421, .pop, 1), (422, .aload_n 2, 1), (423, .aload_n 0, 1), (424, .iload_n 3, 1), (425, .iconst 1, 1), (426, .iadd, 1), (427, .iaload, 1), (428, .i2l, 1), (429, .bipush 32, 2), (431, .lshl, 1), (432, .aload_n 0, 1), (433, .iload_n 3, 1), (434, .iconst 2, 1), (435, .iadd, 1), (436, .iaload, 1), (437, .i2l, 1), (438, .ldc2_w 13, 3), (441, .land, 1), (442, .lor, 1), (443, .aload_n 0, 1), (444, .iload_n 3, 1), (445, .iconst 3, 1), (446, .iadd, 1), (447, .iaload, 1), (448, .aload_n 0, 1), (449, .iload_n 3, 1), (450, .iconst 4, 1), (451, .iadd, 1), (452, .iaload, 1), (453, .invokevirtual 52, 3), (456, .pop, 1), (457, .goto 801, 3)]
set_option maxRecDepth 100000 in
theorem gg180 : gl180.all (fun x => decide (decode cL_law x.1 = .ok (x.2.1, x.2.2))) = true := by decide +kernel
theorem dL_law_388 : decode cL_law 388 = .ok (.aload_n 0, 1) := dg_at gg180 0 rfl
theorem dL_law_389 : decode cL_law 389 = .ok (.iload_n 3, 1) := dg_at gg180 1 rfl
theorem dL_law_390 : decode cL_law 390 = .ok (.iconst 1, 1) := dg_at gg180 2 rfl
theorem dL_law_391 : decode cL_law 391 = .ok (.iadd, 1) := dg_at gg180 3 rfl
theorem dL_law_392 : decode cL_law 392 = .ok (.iaload, 1) := dg_at gg180 4 rfl
theorem dL_law_393 : decode cL_law 393 = .ok (.i2l, 1) := dg_at gg180 5 rfl
theorem dL_law_394 : decode cL_law 394 = .ok (.bipush 32, 2) := dg_at gg180 6 rfl
theorem dL_law_396 : decode cL_law 396 = .ok (.lshl, 1) := dg_at gg180 7 rfl
theorem dL_law_397 : decode cL_law 397 = .ok (.aload_n 0, 1) := dg_at gg180 8 rfl
theorem dL_law_398 : decode cL_law 398 = .ok (.iload_n 3, 1) := dg_at gg180 9 rfl
theorem dL_law_399 : decode cL_law 399 = .ok (.iconst 2, 1) := dg_at gg180 10 rfl
theorem dL_law_400 : decode cL_law 400 = .ok (.iadd, 1) := dg_at gg180 11 rfl
theorem dL_law_401 : decode cL_law 401 = .ok (.iaload, 1) := dg_at gg180 12 rfl
theorem dL_law_402 : decode cL_law 402 = .ok (.i2l, 1) := dg_at gg180 13 rfl
theorem dL_law_403 : decode cL_law 403 = .ok (.ldc2_w 13, 3) := dg_at gg180 14 rfl
theorem dL_law_406 : decode cL_law 406 = .ok (.land, 1) := dg_at gg180 15 rfl
theorem dL_law_407 : decode cL_law 407 = .ok (.lor, 1) := dg_at gg180 16 rfl
theorem dL_law_408 : decode cL_law 408 = .ok (.aload_n 0, 1) := dg_at gg180 17 rfl
theorem dL_law_409 : decode cL_law 409 = .ok (.iload_n 3, 1) := dg_at gg180 18 rfl
theorem dL_law_410 : decode cL_law 410 = .ok (.iconst 3, 1) := dg_at gg180 19 rfl
theorem dL_law_411 : decode cL_law 411 = .ok (.iadd, 1) := dg_at gg180 20 rfl
theorem dL_law_412 : decode cL_law 412 = .ok (.iaload, 1) := dg_at gg180 21 rfl
theorem dL_law_413 : decode cL_law 413 = .ok (.aload_n 0, 1) := dg_at gg180 22 rfl
theorem dL_law_414 : decode cL_law 414 = .ok (.iload_n 3, 1) := dg_at gg180 23 rfl
theorem dL_law_415 : decode cL_law 415 = .ok (.iconst 4, 1) := dg_at gg180 24 rfl
theorem dL_law_416 : decode cL_law 416 = .ok (.iadd, 1) := dg_at gg180 25 rfl
theorem dL_law_417 : decode cL_law 417 = .ok (.iaload, 1) := dg_at gg180 26 rfl
theorem dL_law_418 : decode cL_law 418 = .ok (.invokevirtual 48, 3) := dg_at gg180 27 rfl
theorem dL_law_421 : decode cL_law 421 = .ok (.pop, 1) := dg_at gg180 28 rfl
theorem dL_law_422 : decode cL_law 422 = .ok (.aload_n 2, 1) := dg_at gg180 29 rfl
theorem dL_law_423 : decode cL_law 423 = .ok (.aload_n 0, 1) := dg_at gg180 30 rfl
theorem dL_law_424 : decode cL_law 424 = .ok (.iload_n 3, 1) := dg_at gg180 31 rfl
theorem dL_law_425 : decode cL_law 425 = .ok (.iconst 1, 1) := dg_at gg180 32 rfl
theorem dL_law_426 : decode cL_law 426 = .ok (.iadd, 1) := dg_at gg180 33 rfl
theorem dL_law_427 : decode cL_law 427 = .ok (.iaload, 1) := dg_at gg180 34 rfl
theorem dL_law_428 : decode cL_law 428 = .ok (.i2l, 1) := dg_at gg180 35 rfl
theorem dL_law_429 : decode cL_law 429 = .ok (.bipush 32, 2) := dg_at gg180 36 rfl
theorem dL_law_431 : decode cL_law 431 = .ok (.lshl, 1) := dg_at gg180 37 rfl
theorem dL_law_432 : decode cL_law 432 = .ok (.aload_n 0, 1) := dg_at gg180 38 rfl
theorem dL_law_433 : decode cL_law 433 = .ok (.iload_n 3, 1) := dg_at gg180 39 rfl
theorem dL_law_434 : decode cL_law 434 = .ok (.iconst 2, 1) := dg_at gg180 40 rfl
theorem dL_law_435 : decode cL_law 435 = .ok (.iadd, 1) := dg_at gg180 41 rfl
theorem dL_law_436 : decode cL_law 436 = .ok (.iaload, 1) := dg_at gg180 42 rfl
theorem dL_law_437 : decode cL_law 437 = .ok (.i2l, 1) := dg_at gg180 43 rfl
theorem dL_law_438 : decode cL_law 438 = .ok (.ldc2_w 13, 3) := dg_at gg180 44 rfl
theorem dL_law_441 : decode cL_law 441 = .ok (.land, 1) := dg_at gg180 45 rfl
theorem dL_law_442 : decode cL_law 442 = .ok (.lor, 1) := dg_at gg180 46 rfl
theorem dL_law_443 : decode cL_law 443 = .ok (.aload_n 0, 1) := dg_at gg180 47 rfl
theorem dL_law_444 : decode cL_law 444 = .ok (.iload_n 3, 1) := dg_at gg180 48 rfl
theorem dL_law_445 : decode cL_law 445 = .ok (.iconst 3, 1) := dg_at gg180 49 rfl
theorem dL_law_446 : decode cL_law 446 = .ok (.iadd, 1) := dg_at gg180 50 rfl
theorem dL_law_447 : decode cL_law 447 = .ok (.iaload, 1) := dg_at gg180 51 rfl
theorem dL_law_448 : decode cL_law 448 = .ok (.aload_n 0, 1) := dg_at gg180 52 rfl
theorem dL_law_449 : decode cL_law 449 = .ok (.iload_n 3, 1) := dg_at gg180 53 rfl
theorem dL_law_450 : decode cL_law 450 = .ok (.iconst 4, 1) := dg_at gg180 54 rfl
theorem dL_law_451 : decode cL_law 451 = .ok (.iadd, 1) := dg_at gg180 55 rfl
theorem dL_law_452 : decode cL_law 452 = .ok (.iaload, 1) := dg_at gg180 56 rfl
theorem dL_law_453 : decode cL_law 453 = .ok (.invokevirtual 52, 3) := dg_at gg180 57 rfl
theorem dL_law_456 : decode cL_law 456 = .ok (.pop, 1) := dg_at gg180 58 rfl
theorem dL_law_457 : decode cL_law 457 = .ok (.goto 801, 3) := dg_at gg180 59 rfl
def gl181 : List (Nat × Instr × Nat) := [(460, .aload_n 1, 1), (461, .aload_n 0, 1), (462, .iload_n 3, 1), (463, .iconst 1, 1), (464, .iadd, 1), (465, .iaload, 1), (466, .i2l, 1), (467, .bipush 32, 2), (469, .lshl, 1), (470, .aload_n 0, 1), (471, .iload_n 3, 1), (472, .iconst 2, 1), (473, .iadd, 1), (474, .iaload, 1), (475, .i2l, 1), (476, .ldc2_w 13, 3), (479, .land, 1), (480, .lor, 1), (481, .aload_n 0, 1), (482, .iload_n 3, 1), (483, .iconst 3, 1), (484, .iadd, 1), (485, .iaload, 1), (486, .invokevirtual 53, 3), (489, .pop2, 1), (490, .aload_n 2, 1), (491, .aload_n 0, 1), (492, .iload_n 3, 1), (493, .iconst 1, 1), (494, .iadd, 1), (495, .iaload, 1), (496, .i2l, 1), (497, .bipush 32, 2), (499, .lshl, 1), (500, .aload_n 0, 1), (501, .iload_n 3, 1), (502, .iconst 2, 1), (503, .iadd, 1), (504, .iaload, 1), (505, .i2l, 1), (506, .ldc2_w 13, 3), (509, .land, 1), (510, .lor, 1), (511, .aload_n 0, 1), (512, .iload_n 3, 1), (513, .iconst 3, 1), (514, .iadd, 1), (515, .iaload, 1), (516, .invokevirtual 57, 3), (519, .pop2, 1), (520, .goto 738, 3), (523, .aload_n 1, 1), (524, .aload_n 0, 1), (525, .iload_n 3, 1), (526, .iconst 1, 1), (527, .iadd, 1), (528, .iaload, 1), (529, .aload_n 0, 1), (530, .iload_n 3, 1), (531, .iconst 2, 1)]
set_option maxRecDepth 100000 in
theorem gg181 : gl181.all (fun x => decide (decode cL_law x.1 = .ok (x.2.1, x.2.2))) = true := by decide +kernel
theorem dL_law_460 : decode cL_law 460 = .ok (.aload_n 1, 1) := dg_at gg181 0 rfl
theorem dL_law_461 : decode cL_law 461 = .ok (.aload_n 0, 1) := dg_at gg181 1 rfl
theorem dL_law_462 : decode cL_law 462 = .ok (.iload_n 3, 1) := dg_at gg181 2 rfl
theorem dL_law_463 : decode cL_law 463 = .ok (.iconst 1, 1) := dg_at gg181 3 rfl
theorem dL_law_464 : decode cL_law 464 = .ok (.iadd, 1) := dg_at gg181 4 rfl
theorem dL_law_465 : decode cL_law 465 = .ok (.iaload, 1) := dg_at gg181 5 rfl
theorem dL_law_466 : decode cL_law 466 = .ok (.i2l, 1) := dg_at gg181 6 rfl
theorem dL_law_467 : decode cL_law 467 = .ok (.bipush 32, 2) := dg_at gg181 7 rfl
theorem dL_law_469 : decode cL_law 469 = .ok (.lshl, 1) := dg_at gg181 8 rfl
theorem dL_law_470 : decode cL_law 470 = .ok (.aload_n 0, 1) := dg_at gg181 9 rfl
theorem dL_law_471 : decode cL_law 471 = .ok (.iload_n 3, 1) := dg_at gg181 10 rfl
theorem dL_law_472 : decode cL_law 472 = .ok (.iconst 2, 1) := dg_at gg181 11 rfl
theorem dL_law_473 : decode cL_law 473 = .ok (.iadd, 1) := dg_at gg181 12 rfl
theorem dL_law_474 : decode cL_law 474 = .ok (.iaload, 1) := dg_at gg181 13 rfl
theorem dL_law_475 : decode cL_law 475 = .ok (.i2l, 1) := dg_at gg181 14 rfl
theorem dL_law_476 : decode cL_law 476 = .ok (.ldc2_w 13, 3) := dg_at gg181 15 rfl
theorem dL_law_479 : decode cL_law 479 = .ok (.land, 1) := dg_at gg181 16 rfl
theorem dL_law_480 : decode cL_law 480 = .ok (.lor, 1) := dg_at gg181 17 rfl
theorem dL_law_481 : decode cL_law 481 = .ok (.aload_n 0, 1) := dg_at gg181 18 rfl
theorem dL_law_482 : decode cL_law 482 = .ok (.iload_n 3, 1) := dg_at gg181 19 rfl
theorem dL_law_483 : decode cL_law 483 = .ok (.iconst 3, 1) := dg_at gg181 20 rfl
theorem dL_law_484 : decode cL_law 484 = .ok (.iadd, 1) := dg_at gg181 21 rfl
theorem dL_law_485 : decode cL_law 485 = .ok (.iaload, 1) := dg_at gg181 22 rfl
theorem dL_law_486 : decode cL_law 486 = .ok (.invokevirtual 53, 3) := dg_at gg181 23 rfl
theorem dL_law_489 : decode cL_law 489 = .ok (.pop2, 1) := dg_at gg181 24 rfl
theorem dL_law_490 : decode cL_law 490 = .ok (.aload_n 2, 1) := dg_at gg181 25 rfl
theorem dL_law_491 : decode cL_law 491 = .ok (.aload_n 0, 1) := dg_at gg181 26 rfl
theorem dL_law_492 : decode cL_law 492 = .ok (.iload_n 3, 1) := dg_at gg181 27 rfl
theorem dL_law_493 : decode cL_law 493 = .ok (.iconst 1, 1) := dg_at gg181 28 rfl
theorem dL_law_494 : decode cL_law 494 = .ok (.iadd, 1) := dg_at gg181 29 rfl
theorem dL_law_495 : decode cL_law 495 = .ok (.iaload, 1) := dg_at gg181 30 rfl
theorem dL_law_496 : decode cL_law 496 = .ok (.i2l, 1) := dg_at gg181 31 rfl
theorem dL_law_497 : decode cL_law 497 = .ok (.bipush 32, 2) := dg_at gg181 32 rfl
theorem dL_law_499 : decode cL_law 499 = .ok (.lshl, 1) := dg_at gg181 33 rfl
theorem dL_law_500 : decode cL_law 500 = .ok (.aload_n 0, 1) := dg_at gg181 34 rfl
theorem dL_law_501 : decode cL_law 501 = .ok (.iload_n 3, 1) := dg_at gg181 35 rfl
theorem dL_law_502 : decode cL_law 502 = .ok (.iconst 2, 1) := dg_at gg181 36 rfl
theorem dL_law_503 : decode cL_law 503 = .ok (.iadd, 1) := dg_at gg181 37 rfl
theorem dL_law_504 : decode cL_law 504 = .ok (.iaload, 1) := dg_at gg181 38 rfl
theorem dL_law_505 : decode cL_law 505 = .ok (.i2l, 1) := dg_at gg181 39 rfl
theorem dL_law_506 : decode cL_law 506 = .ok (.ldc2_w 13, 3) := dg_at gg181 40 rfl
theorem dL_law_509 : decode cL_law 509 = .ok (.land, 1) := dg_at gg181 41 rfl
theorem dL_law_510 : decode cL_law 510 = .ok (.lor, 1) := dg_at gg181 42 rfl
theorem dL_law_511 : decode cL_law 511 = .ok (.aload_n 0, 1) := dg_at gg181 43 rfl
theorem dL_law_512 : decode cL_law 512 = .ok (.iload_n 3, 1) := dg_at gg181 44 rfl
theorem dL_law_513 : decode cL_law 513 = .ok (.iconst 3, 1) := dg_at gg181 45 rfl
theorem dL_law_514 : decode cL_law 514 = .ok (.iadd, 1) := dg_at gg181 46 rfl
theorem dL_law_515 : decode cL_law 515 = .ok (.iaload, 1) := dg_at gg181 47 rfl
theorem dL_law_516 : decode cL_law 516 = .ok (.invokevirtual 57, 3) := dg_at gg181 48 rfl
theorem dL_law_519 : decode cL_law 519 = .ok (.pop2, 1) := dg_at gg181 49 rfl
theorem dL_law_520 : decode cL_law 520 = .ok (.goto 738, 3) := dg_at gg181 50 rfl
theorem dL_law_523 : decode cL_law 523 = .ok (.aload_n 1, 1) := dg_at gg181 51 rfl
theorem dL_law_524 : decode cL_law 524 = .ok (.aload_n 0, 1) := dg_at gg181 52 rfl
theorem dL_law_525 : decode cL_law 525 = .ok (.iload_n 3, 1) := dg_at gg181 53 rfl
theorem dL_law_526 : decode cL_law 526 = .ok (.iconst 1, 1) := dg_at gg181 54 rfl
theorem dL_law_527 : decode cL_law 527 = .ok (.iadd, 1) := dg_at gg181 55 rfl
theorem dL_law_528 : decode cL_law 528 = .ok (.iaload, 1) := dg_at gg181 56 rfl
theorem dL_law_529 : decode cL_law 529 = .ok (.aload_n 0, 1) := dg_at gg181 57 rfl
theorem dL_law_530 : decode cL_law 530 = .ok (.iload_n 3, 1) := dg_at gg181 58 rfl
theorem dL_law_531 : decode cL_law 531 = .ok (.iconst 2, 1) := dg_at gg181 59 rfl
def gl182 : List (Nat × Instr × Nat) := [(532, .iadd, 1), (533, .iaload, 1), (534, .i2l, 1), (535, .bipush 32, 2), (537, .lshl, 1), (538, .aload_n 0, 1), (539, .iload_n 3, 1), (540, .iconst 3, 1), (541, .iadd, 1), (542, .iaload, 1), (543, .i2l, 1), (544, .ldc2_w 13, 3), (547, .land, 1), (548, .lor, 1), (549, .invokevirtual 58, 3), (552, .pop, 1), (553, .aload_n 2, 1), (554, .aload_n 0, 1), (555, .iload_n 3, 1), (556, .iconst 1, 1), (557, .iadd, 1), (558, .iaload, 1), (559, .aload_n 0, 1), (560, .iload_n 3, 1), (561, .iconst 2, 1), (562, .iadd, 1), (563, .iaload, 1), (564, .i2l, 1), (565, .bipush 32, 2), (567, .lshl, 1), (568, .aload_n 0, 1), (569, .iload_n 3, 1), (570, .iconst 3, 1), (571, .iadd, 1), (572, .iaload, 1), (573, .i2l, 1), (574, .ldc2_w 13, 3), (577, .land, 1), (578, .lor, 1), (579, .invokevirtual 61, 3), (582, .pop, 1), (583, .goto 675, 3), (586, .aload_n 1, 1), (587, .aload_n 0, 1), (588, .iload_n 3, 1), (589, .iconst 1, 1), (590, .iadd, 1), (591, .iaload, 1), (592, .invokevirtual 62, 3), (595, .pop, 1), (596, .aload_n 2, 1), (597, .aload_n 0, 1), (598, .iload_n 3, 1), (599, .iconst 1, 1), (600, .iadd, 1), (601, .iaload, 1), (602, .invokevirtual 65, 3), (605, .pop, 1), (606, .goto 652, 3), (609, .aload_n 1, 1)]
set_option maxRecDepth 100000 in
theorem gg182 : gl182.all (fun x => decide (decode cL_law x.1 = .ok (x.2.1, x.2.2))) = true := by decide +kernel
theorem dL_law_532 : decode cL_law 532 = .ok (.iadd, 1) := dg_at gg182 0 rfl
theorem dL_law_533 : decode cL_law 533 = .ok (.iaload, 1) := dg_at gg182 1 rfl
theorem dL_law_534 : decode cL_law 534 = .ok (.i2l, 1) := dg_at gg182 2 rfl
theorem dL_law_535 : decode cL_law 535 = .ok (.bipush 32, 2) := dg_at gg182 3 rfl
theorem dL_law_537 : decode cL_law 537 = .ok (.lshl, 1) := dg_at gg182 4 rfl
theorem dL_law_538 : decode cL_law 538 = .ok (.aload_n 0, 1) := dg_at gg182 5 rfl
theorem dL_law_539 : decode cL_law 539 = .ok (.iload_n 3, 1) := dg_at gg182 6 rfl
theorem dL_law_540 : decode cL_law 540 = .ok (.iconst 3, 1) := dg_at gg182 7 rfl
theorem dL_law_541 : decode cL_law 541 = .ok (.iadd, 1) := dg_at gg182 8 rfl
theorem dL_law_542 : decode cL_law 542 = .ok (.iaload, 1) := dg_at gg182 9 rfl
theorem dL_law_543 : decode cL_law 543 = .ok (.i2l, 1) := dg_at gg182 10 rfl
theorem dL_law_544 : decode cL_law 544 = .ok (.ldc2_w 13, 3) := dg_at gg182 11 rfl
theorem dL_law_547 : decode cL_law 547 = .ok (.land, 1) := dg_at gg182 12 rfl
theorem dL_law_548 : decode cL_law 548 = .ok (.lor, 1) := dg_at gg182 13 rfl
theorem dL_law_549 : decode cL_law 549 = .ok (.invokevirtual 58, 3) := dg_at gg182 14 rfl
theorem dL_law_552 : decode cL_law 552 = .ok (.pop, 1) := dg_at gg182 15 rfl
theorem dL_law_553 : decode cL_law 553 = .ok (.aload_n 2, 1) := dg_at gg182 16 rfl
theorem dL_law_554 : decode cL_law 554 = .ok (.aload_n 0, 1) := dg_at gg182 17 rfl
theorem dL_law_555 : decode cL_law 555 = .ok (.iload_n 3, 1) := dg_at gg182 18 rfl
theorem dL_law_556 : decode cL_law 556 = .ok (.iconst 1, 1) := dg_at gg182 19 rfl
theorem dL_law_557 : decode cL_law 557 = .ok (.iadd, 1) := dg_at gg182 20 rfl
theorem dL_law_558 : decode cL_law 558 = .ok (.iaload, 1) := dg_at gg182 21 rfl
theorem dL_law_559 : decode cL_law 559 = .ok (.aload_n 0, 1) := dg_at gg182 22 rfl
theorem dL_law_560 : decode cL_law 560 = .ok (.iload_n 3, 1) := dg_at gg182 23 rfl
theorem dL_law_561 : decode cL_law 561 = .ok (.iconst 2, 1) := dg_at gg182 24 rfl
theorem dL_law_562 : decode cL_law 562 = .ok (.iadd, 1) := dg_at gg182 25 rfl
theorem dL_law_563 : decode cL_law 563 = .ok (.iaload, 1) := dg_at gg182 26 rfl
theorem dL_law_564 : decode cL_law 564 = .ok (.i2l, 1) := dg_at gg182 27 rfl
theorem dL_law_565 : decode cL_law 565 = .ok (.bipush 32, 2) := dg_at gg182 28 rfl
theorem dL_law_567 : decode cL_law 567 = .ok (.lshl, 1) := dg_at gg182 29 rfl
theorem dL_law_568 : decode cL_law 568 = .ok (.aload_n 0, 1) := dg_at gg182 30 rfl
theorem dL_law_569 : decode cL_law 569 = .ok (.iload_n 3, 1) := dg_at gg182 31 rfl
theorem dL_law_570 : decode cL_law 570 = .ok (.iconst 3, 1) := dg_at gg182 32 rfl
theorem dL_law_571 : decode cL_law 571 = .ok (.iadd, 1) := dg_at gg182 33 rfl
theorem dL_law_572 : decode cL_law 572 = .ok (.iaload, 1) := dg_at gg182 34 rfl
theorem dL_law_573 : decode cL_law 573 = .ok (.i2l, 1) := dg_at gg182 35 rfl
theorem dL_law_574 : decode cL_law 574 = .ok (.ldc2_w 13, 3) := dg_at gg182 36 rfl
theorem dL_law_577 : decode cL_law 577 = .ok (.land, 1) := dg_at gg182 37 rfl
theorem dL_law_578 : decode cL_law 578 = .ok (.lor, 1) := dg_at gg182 38 rfl
theorem dL_law_579 : decode cL_law 579 = .ok (.invokevirtual 61, 3) := dg_at gg182 39 rfl
theorem dL_law_582 : decode cL_law 582 = .ok (.pop, 1) := dg_at gg182 40 rfl
theorem dL_law_583 : decode cL_law 583 = .ok (.goto 675, 3) := dg_at gg182 41 rfl
theorem dL_law_586 : decode cL_law 586 = .ok (.aload_n 1, 1) := dg_at gg182 42 rfl
theorem dL_law_587 : decode cL_law 587 = .ok (.aload_n 0, 1) := dg_at gg182 43 rfl
theorem dL_law_588 : decode cL_law 588 = .ok (.iload_n 3, 1) := dg_at gg182 44 rfl
theorem dL_law_589 : decode cL_law 589 = .ok (.iconst 1, 1) := dg_at gg182 45 rfl
theorem dL_law_590 : decode cL_law 590 = .ok (.iadd, 1) := dg_at gg182 46 rfl
theorem dL_law_591 : decode cL_law 591 = .ok (.iaload, 1) := dg_at gg182 47 rfl
theorem dL_law_592 : decode cL_law 592 = .ok (.invokevirtual 62, 3) := dg_at gg182 48 rfl
theorem dL_law_595 : decode cL_law 595 = .ok (.pop, 1) := dg_at gg182 49 rfl
theorem dL_law_596 : decode cL_law 596 = .ok (.aload_n 2, 1) := dg_at gg182 50 rfl
theorem dL_law_597 : decode cL_law 597 = .ok (.aload_n 0, 1) := dg_at gg182 51 rfl
theorem dL_law_598 : decode cL_law 598 = .ok (.iload_n 3, 1) := dg_at gg182 52 rfl
theorem dL_law_599 : decode cL_law 599 = .ok (.iconst 1, 1) := dg_at gg182 53 rfl
theorem dL_law_600 : decode cL_law 600 = .ok (.iadd, 1) := dg_at gg182 54 rfl
theorem dL_law_601 : decode cL_law 601 = .ok (.iaload, 1) := dg_at gg182 55 rfl
theorem dL_law_602 : decode cL_law 602 = .ok (.invokevirtual 65, 3) := dg_at gg182 56 rfl
theorem dL_law_605 : decode cL_law 605 = .ok (.pop, 1) := dg_at gg182 57 rfl
theorem dL_law_606 : decode cL_law 606 = .ok (.goto 652, 3) := dg_at gg182 58 rfl
theorem dL_law_609 : decode cL_law 609 = .ok (.aload_n 1, 1) := dg_at gg182 59 rfl
def gl183 : List (Nat × Instr × Nat) := [(610, .invokevirtual 66, 3), (613, .pop, 1), (614, .aload_n 2, 1), (615, .invokevirtual 69, 3), (618, .pop, 1), (619, .goto 639, 3), (622, .aload_n 1, 1), (623, .aload_n 0, 1), (624, .iload_n 3, 1), (625, .iconst 1, 1), (626, .iadd, 1), (627, .iaload, 1), (628, .i2l, 1), (629, .bipush 32, 2), (631, .lshl, 1), (632, .aload_n 0, 1), (633, .iload_n 3, 1), (634, .iconst 2, 1), (635, .iadd, 1), (636, .iaload, 1), (637, .i2l, 1), (638, .ldc2_w 13, 3), (641, .land, 1), (642, .lor, 1), (643, .aload_n 0, 1), (644, .iload_n 3, 1), (645, .iconst 3, 1), (646, .iadd, 1), (647, .iaload, 1), (648, .invokevirtual 70, 3), (651, .pop2, 1), (652, .aload_n 2, 1), (653, .aload_n 0, 1), (654, .iload_n 3, 1), (655, .iconst 1, 1), (656, .iadd, 1), (657, .iaload, 1), (658, .i2l, 1), (659, .bipush 32, 2), (661, .lshl, 1), (662, .aload_n 0, 1), (663, .iload_n 3, 1), (664, .iconst 2, 1), (665, .iadd, 1), (666, .iaload, 1), (667, .i2l, 1), (668, .ldc2_w 13, 3), (671, .land, 1), (672, .lor, 1), (673, .aload_n 0, 1), (674, .iload_n 3, 1), (675, .iconst 3, 1), (676, .iadd, 1), (677, .iaload, 1), (678, .invokevirtual 73, 3), (681, .pop2, 1), (682, .goto 576, 3), (685, .aload_n 1, 1), (686, .aload_n 0, 1), (687, .iload_n 3, 1)]
set_option maxRecDepth 100000 in
theorem gg183 : gl183.all (fun x => decide (decode cL_law x.1 = .ok (x.2.1, x.2.2))) = true := by decide +kernel
theorem dL_law_610 : decode cL_law 610 = .ok (.invokevirtual 66, 3) := dg_at gg183 0 rfl
theorem dL_law_613 : decode cL_law 613 = .ok (.pop, 1) := dg_at gg183 1 rfl
theorem dL_law_614 : decode cL_law 614 = .ok (.aload_n 2, 1) := dg_at gg183 2 rfl
theorem dL_law_615 : decode cL_law 615 = .ok (.invokevirtual 69, 3) := dg_at gg183 3 rfl
theorem dL_law_618 : decode cL_law 618 = .ok (.pop, 1) := dg_at gg183 4 rfl
theorem dL_law_619 : decode cL_law 619 = .ok (.goto 639, 3) := dg_at gg183 5 rfl
theorem dL_law_622 : decode cL_law 622 = .ok (.aload_n 1, 1) := dg_at gg183 6 rfl
theorem dL_law_623 : decode cL_law 623 = .ok (.aload_n 0, 1) := dg_at gg183 7 rfl
theorem dL_law_624 : decode cL_law 624 = .ok (.iload_n 3, 1) := dg_at gg183 8 rfl
theorem dL_law_625 : decode cL_law 625 = .ok (.iconst 1, 1) := dg_at gg183 9 rfl
theorem dL_law_626 : decode cL_law 626 = .ok (.iadd, 1) := dg_at gg183 10 rfl
theorem dL_law_627 : decode cL_law 627 = .ok (.iaload, 1) := dg_at gg183 11 rfl
theorem dL_law_628 : decode cL_law 628 = .ok (.i2l, 1) := dg_at gg183 12 rfl
theorem dL_law_629 : decode cL_law 629 = .ok (.bipush 32, 2) := dg_at gg183 13 rfl
theorem dL_law_631 : decode cL_law 631 = .ok (.lshl, 1) := dg_at gg183 14 rfl
theorem dL_law_632 : decode cL_law 632 = .ok (.aload_n 0, 1) := dg_at gg183 15 rfl
theorem dL_law_633 : decode cL_law 633 = .ok (.iload_n 3, 1) := dg_at gg183 16 rfl
theorem dL_law_634 : decode cL_law 634 = .ok (.iconst 2, 1) := dg_at gg183 17 rfl
theorem dL_law_635 : decode cL_law 635 = .ok (.iadd, 1) := dg_at gg183 18 rfl
theorem dL_law_636 : decode cL_law 636 = .ok (.iaload, 1) := dg_at gg183 19 rfl
theorem dL_law_637 : decode cL_law 637 = .ok (.i2l, 1) := dg_at gg183 20 rfl
theorem dL_law_638 : decode cL_law 638 = .ok (.ldc2_w 13, 3) := dg_at gg183 21 rfl
theorem dL_law_641 : decode cL_law 641 = .ok (.land, 1) := dg_at gg183 22 rfl
theorem dL_law_642 : decode cL_law 642 = .ok (.lor, 1) := dg_at gg183 23 rfl
theorem dL_law_643 : decode cL_law 643 = .ok (.aload_n 0, 1) := dg_at gg183 24 rfl
theorem dL_law_644 : decode cL_law 644 = .ok (.iload_n 3, 1) := dg_at gg183 25 rfl
theorem dL_law_645 : decode cL_law 645 = .ok (.iconst 3, 1) := dg_at gg183 26 rfl
theorem dL_law_646 : decode cL_law 646 = .ok (.iadd, 1) := dg_at gg183 27 rfl
theorem dL_law_647 : decode cL_law 647 = .ok (.iaload, 1) := dg_at gg183 28 rfl
theorem dL_law_648 : decode cL_law 648 = .ok (.invokevirtual 70, 3) := dg_at gg183 29 rfl
theorem dL_law_651 : decode cL_law 651 = .ok (.pop2, 1) := dg_at gg183 30 rfl
theorem dL_law_652 : decode cL_law 652 = .ok (.aload_n 2, 1) := dg_at gg183 31 rfl
theorem dL_law_653 : decode cL_law 653 = .ok (.aload_n 0, 1) := dg_at gg183 32 rfl
theorem dL_law_654 : decode cL_law 654 = .ok (.iload_n 3, 1) := dg_at gg183 33 rfl
theorem dL_law_655 : decode cL_law 655 = .ok (.iconst 1, 1) := dg_at gg183 34 rfl
theorem dL_law_656 : decode cL_law 656 = .ok (.iadd, 1) := dg_at gg183 35 rfl
theorem dL_law_657 : decode cL_law 657 = .ok (.iaload, 1) := dg_at gg183 36 rfl
theorem dL_law_658 : decode cL_law 658 = .ok (.i2l, 1) := dg_at gg183 37 rfl
theorem dL_law_659 : decode cL_law 659 = .ok (.bipush 32, 2) := dg_at gg183 38 rfl
theorem dL_law_661 : decode cL_law 661 = .ok (.lshl, 1) := dg_at gg183 39 rfl
theorem dL_law_662 : decode cL_law 662 = .ok (.aload_n 0, 1) := dg_at gg183 40 rfl
theorem dL_law_663 : decode cL_law 663 = .ok (.iload_n 3, 1) := dg_at gg183 41 rfl
theorem dL_law_664 : decode cL_law 664 = .ok (.iconst 2, 1) := dg_at gg183 42 rfl
theorem dL_law_665 : decode cL_law 665 = .ok (.iadd, 1) := dg_at gg183 43 rfl
theorem dL_law_666 : decode cL_law 666 = .ok (.iaload, 1) := dg_at gg183 44 rfl
theorem dL_law_667 : decode cL_law 667 = .ok (.i2l, 1) := dg_at gg183 45 rfl
theorem dL_law_668 : decode cL_law 668 = .ok (.ldc2_w 13, 3) := dg_at gg183 46 rfl
theorem dL_law_671 : decode cL_law 671 = .ok (.land, 1) := dg_at gg183 47 rfl
theorem dL_law_672 : decode cL_law 672 = .ok (.lor, 1) := dg_at gg183 48 rfl
theorem dL_law_673 : decode cL_law 673 = .ok (.aload_n 0, 1) := dg_at gg183 49 rfl
theorem dL_law_674 : decode cL_law 674 = .ok (.iload_n 3, 1) := dg_at gg183 50 rfl
theorem dL_law_675 : decode cL_law 675 = .ok (.iconst 3, 1) := dg_at gg183 51 rfl
theorem dL_law_676 : decode cL_law 676 = .ok (.iadd, 1) := dg_at gg183 52 rfl
theorem dL_law_677 : decode cL_law 677 = .ok (.iaload, 1) := dg_at gg183 53 rfl
theorem dL_law_678 : decode cL_law 678 = .ok (.invokevirtual 73, 3) := dg_at gg183 54 rfl
theorem dL_law_681 : decode cL_law 681 = .ok (.pop2, 1) := dg_at gg183 55 rfl
theorem dL_law_682 : decode cL_law 682 = .ok (.goto 576, 3) := dg_at gg183 56 rfl
theorem dL_law_685 : decode cL_law 685 = .ok (.aload_n 1, 1) := dg_at gg183 57 rfl
theorem dL_law_686 : decode cL_law 686 = .ok (.aload_n 0, 1) := dg_at gg183 58 rfl
theorem dL_law_687 : decode cL_law 687 = .ok (.iload_n 3, 1) := dg_at gg183 59 rfl
def gl184 : List (Nat × Instr × Nat) := [(688, .iconst 1, 1), (689, .iadd, 1), (690, .iaload, 1), (691, .invokevirtual 74, 3), (694, .pop2, 1), (695, .aload_n 2, 1), (696, .aload_n 0, 1), (697, .iload_n 3, 1), (698, .iconst 1, 1), (699, .iadd, 1), (700, .iaload, 1), (701, .invokevirtual 78, 3), (704, .pop2, 1), (705, .goto 553, 3), (708, .aload_n 1, 1), (709, .aload_n 0, 1), (710, .iload_n 3, 1), (711, .iconst 1, 1), (712, .iadd, 1), (713, .iaload, 1), (714, .invokevirtual 79, 3), (717, .pop2, 1), (718, .aload_n 2, 1), (719, .aload_n 0, 1), (720, .iload_n 3, 1), (721, .iconst 1, 1), (722, .iadd, 1), (723, .iaload, 1), (724, .invokevirtual 82, 3), (727, .pop2, 1), (728, .goto 530, 3), (731, .aload_n 1, 1), (732, .aload_n 0, 1), (733, .iload_n 3, 1), (734, .iconst 1, 1), (735, .iadd, 1), (736, .iaload, 1), (737, .aload_n 0, 1), (738, .iload_n 3, 1), (739, .iconst 2, 1), (740, .iadd, 1), (741, .iaload, 1), (742, .aload_n 0, 1), (743, .iload_n 3, 1), (744, .iconst 3, 1), (745, .iadd, 1), (746, .iaload, 1), (747, .ifCond .eq 7, 3), (750, .iconst 1, 1), (751, .goto 4, 3), (754, .iconst 0, 1), (755, .invokevirtual 83, 3), (758, .pop, 1), (759, .aload_n 2, 1), (760, .aload_n 0, 1), (761, .iload_n 3, 1), (762, .iconst 1, 1), (763, .iadd, 1), (764, .iaload, 1), (765, .aload_n 0, 1)]
set_option maxRecDepth 100000 in
theorem gg184 : gl184.all (fun x => decide (decode cL_law x.1 = .ok (x.2.1, x.2.2))) = true := by decide +kernel
theorem dL_law_688 : decode cL_law 688 = .ok (.iconst 1, 1) := dg_at gg184 0 rfl
theorem dL_law_689 : decode cL_law 689 = .ok (.iadd, 1) := dg_at gg184 1 rfl
theorem dL_law_690 : decode cL_law 690 = .ok (.iaload, 1) := dg_at gg184 2 rfl
theorem dL_law_691 : decode cL_law 691 = .ok (.invokevirtual 74, 3) := dg_at gg184 3 rfl
theorem dL_law_694 : decode cL_law 694 = .ok (.pop2, 1) := dg_at gg184 4 rfl
theorem dL_law_695 : decode cL_law 695 = .ok (.aload_n 2, 1) := dg_at gg184 5 rfl
theorem dL_law_696 : decode cL_law 696 = .ok (.aload_n 0, 1) := dg_at gg184 6 rfl
theorem dL_law_697 : decode cL_law 697 = .ok (.iload_n 3, 1) := dg_at gg184 7 rfl
theorem dL_law_698 : decode cL_law 698 = .ok (.iconst 1, 1) := dg_at gg184 8 rfl
theorem dL_law_699 : decode cL_law 699 = .ok (.iadd, 1) := dg_at gg184 9 rfl
theorem dL_law_700 : decode cL_law 700 = .ok (.iaload, 1) := dg_at gg184 10 rfl
theorem dL_law_701 : decode cL_law 701 = .ok (.invokevirtual 78, 3) := dg_at gg184 11 rfl
theorem dL_law_704 : decode cL_law 704 = .ok (.pop2, 1) := dg_at gg184 12 rfl
theorem dL_law_705 : decode cL_law 705 = .ok (.goto 553, 3) := dg_at gg184 13 rfl
theorem dL_law_708 : decode cL_law 708 = .ok (.aload_n 1, 1) := dg_at gg184 14 rfl
theorem dL_law_709 : decode cL_law 709 = .ok (.aload_n 0, 1) := dg_at gg184 15 rfl
theorem dL_law_710 : decode cL_law 710 = .ok (.iload_n 3, 1) := dg_at gg184 16 rfl
theorem dL_law_711 : decode cL_law 711 = .ok (.iconst 1, 1) := dg_at gg184 17 rfl
theorem dL_law_712 : decode cL_law 712 = .ok (.iadd, 1) := dg_at gg184 18 rfl
theorem dL_law_713 : decode cL_law 713 = .ok (.iaload, 1) := dg_at gg184 19 rfl
theorem dL_law_714 : decode cL_law 714 = .ok (.invokevirtual 79, 3) := dg_at gg184 20 rfl
theorem dL_law_717 : decode cL_law 717 = .ok (.pop2, 1) := dg_at gg184 21 rfl
theorem dL_law_718 : decode cL_law 718 = .ok (.aload_n 2, 1) := dg_at gg184 22 rfl
theorem dL_law_719 : decode cL_law 719 = .ok (.aload_n 0, 1) := dg_at gg184 23 rfl
theorem dL_law_720 : decode cL_law 720 = .ok (.iload_n 3, 1) := dg_at gg184 24 rfl
theorem dL_law_721 : decode cL_law 721 = .ok (.iconst 1, 1) := dg_at gg184 25 rfl
theorem dL_law_722 : decode cL_law 722 = .ok (.iadd, 1) := dg_at gg184 26 rfl
theorem dL_law_723 : decode cL_law 723 = .ok (.iaload, 1) := dg_at gg184 27 rfl
theorem dL_law_724 : decode cL_law 724 = .ok (.invokevirtual 82, 3) := dg_at gg184 28 rfl
theorem dL_law_727 : decode cL_law 727 = .ok (.pop2, 1) := dg_at gg184 29 rfl
theorem dL_law_728 : decode cL_law 728 = .ok (.goto 530, 3) := dg_at gg184 30 rfl
theorem dL_law_731 : decode cL_law 731 = .ok (.aload_n 1, 1) := dg_at gg184 31 rfl
theorem dL_law_732 : decode cL_law 732 = .ok (.aload_n 0, 1) := dg_at gg184 32 rfl
theorem dL_law_733 : decode cL_law 733 = .ok (.iload_n 3, 1) := dg_at gg184 33 rfl
theorem dL_law_734 : decode cL_law 734 = .ok (.iconst 1, 1) := dg_at gg184 34 rfl
theorem dL_law_735 : decode cL_law 735 = .ok (.iadd, 1) := dg_at gg184 35 rfl
theorem dL_law_736 : decode cL_law 736 = .ok (.iaload, 1) := dg_at gg184 36 rfl
theorem dL_law_737 : decode cL_law 737 = .ok (.aload_n 0, 1) := dg_at gg184 37 rfl
theorem dL_law_738 : decode cL_law 738 = .ok (.iload_n 3, 1) := dg_at gg184 38 rfl
theorem dL_law_739 : decode cL_law 739 = .ok (.iconst 2, 1) := dg_at gg184 39 rfl
theorem dL_law_740 : decode cL_law 740 = .ok (.iadd, 1) := dg_at gg184 40 rfl
theorem dL_law_741 : decode cL_law 741 = .ok (.iaload, 1) := dg_at gg184 41 rfl
theorem dL_law_742 : decode cL_law 742 = .ok (.aload_n 0, 1) := dg_at gg184 42 rfl
theorem dL_law_743 : decode cL_law 743 = .ok (.iload_n 3, 1) := dg_at gg184 43 rfl
theorem dL_law_744 : decode cL_law 744 = .ok (.iconst 3, 1) := dg_at gg184 44 rfl
theorem dL_law_745 : decode cL_law 745 = .ok (.iadd, 1) := dg_at gg184 45 rfl
theorem dL_law_746 : decode cL_law 746 = .ok (.iaload, 1) := dg_at gg184 46 rfl
theorem dL_law_747 : decode cL_law 747 = .ok (.ifCond .eq 7, 3) := dg_at gg184 47 rfl
theorem dL_law_750 : decode cL_law 750 = .ok (.iconst 1, 1) := dg_at gg184 48 rfl
theorem dL_law_751 : decode cL_law 751 = .ok (.goto 4, 3) := dg_at gg184 49 rfl
theorem dL_law_754 : decode cL_law 754 = .ok (.iconst 0, 1) := dg_at gg184 50 rfl
theorem dL_law_755 : decode cL_law 755 = .ok (.invokevirtual 83, 3) := dg_at gg184 51 rfl
theorem dL_law_758 : decode cL_law 758 = .ok (.pop, 1) := dg_at gg184 52 rfl
theorem dL_law_759 : decode cL_law 759 = .ok (.aload_n 2, 1) := dg_at gg184 53 rfl
theorem dL_law_760 : decode cL_law 760 = .ok (.aload_n 0, 1) := dg_at gg184 54 rfl
theorem dL_law_761 : decode cL_law 761 = .ok (.iload_n 3, 1) := dg_at gg184 55 rfl
theorem dL_law_762 : decode cL_law 762 = .ok (.iconst 1, 1) := dg_at gg184 56 rfl
theorem dL_law_763 : decode cL_law 763 = .ok (.iadd, 1) := dg_at gg184 57 rfl
theorem dL_law_764 : decode cL_law 764 = .ok (.iaload, 1) := dg_at gg184 58 rfl
theorem dL_law_765 : decode cL_law 765 = .ok (.aload_n 0, 1) := dg_at gg184 59 rfl
def gl185 : List (Nat × Instr × Nat) := [(766, .iload_n 3, 1), (767, .iconst 2, 1), (768, .iadd, 1), (769, .iaload, 1), (770, .aload_n 0, 1), (771, .iload_n 3, 1), (772, .iconst 3, 1), (773, .iadd, 1), (774, .iaload, 1), (775, .ifCond .eq 7, 3), (778, .iconst 1, 1), (779, .goto 4, 3), (782, .iconst 0, 1), (783, .invokevirtual 87, 3), (786, .pop, 1), (787, .goto 471, 3), (790, .aload_n 1, 1), (791, .invokevirtual 88, 3), (794, .pop, 1), (795, .aload_n 2, 1), (796, .invokevirtual 91, 3), (799, .pop, 1), (800, .goto 458, 3), (803, .aload_n 1, 1), (804, .aload_n 0, 1), (805, .iload_n 3, 1), (806, .iconst 1, 1), (807, .iadd, 1), (808, .iaload, 1), (809, .invokevirtual 92, 3), (812, .pop, 1), (813, .aload_n 2, 1), (814, .aload_n 0, 1), (815, .iload_n 3, 1), (816, .iconst 1, 1), (817, .iadd, 1), (818, .iaload, 1), (819, .invokevirtual 95, 3), (822, .pop, 1), (823, .goto 435, 3), (826, .aload_n 1, 1), (827, .aload_n 0, 1), (828, .iload_n 3, 1), (829, .iconst 1, 1), (830, .iadd, 1), (831, .iaload, 1), (832, .aload_n 0, 1), (833, .iload_n 3, 1), (834, .iconst 2, 1), (835, .iadd, 1), (836, .iaload, 1), (837, .aload_n 0, 1), (838, .iload_n 3, 1), (839, .iconst 3, 1), (840, .iadd, 1), (841, .iaload, 1), (842, .invokevirtual 96, 3), (845, .pop, 1), (846, .aload_n 2, 1), (847, .aload_n 0, 1)]
set_option maxRecDepth 100000 in
theorem gg185 : gl185.all (fun x => decide (decode cL_law x.1 = .ok (x.2.1, x.2.2))) = true := by decide +kernel
theorem dL_law_766 : decode cL_law 766 = .ok (.iload_n 3, 1) := dg_at gg185 0 rfl
theorem dL_law_767 : decode cL_law 767 = .ok (.iconst 2, 1) := dg_at gg185 1 rfl
theorem dL_law_768 : decode cL_law 768 = .ok (.iadd, 1) := dg_at gg185 2 rfl
theorem dL_law_769 : decode cL_law 769 = .ok (.iaload, 1) := dg_at gg185 3 rfl
theorem dL_law_770 : decode cL_law 770 = .ok (.aload_n 0, 1) := dg_at gg185 4 rfl
theorem dL_law_771 : decode cL_law 771 = .ok (.iload_n 3, 1) := dg_at gg185 5 rfl
theorem dL_law_772 : decode cL_law 772 = .ok (.iconst 3, 1) := dg_at gg185 6 rfl
theorem dL_law_773 : decode cL_law 773 = .ok (.iadd, 1) := dg_at gg185 7 rfl
theorem dL_law_774 : decode cL_law 774 = .ok (.iaload, 1) := dg_at gg185 8 rfl
theorem dL_law_775 : decode cL_law 775 = .ok (.ifCond .eq 7, 3) := dg_at gg185 9 rfl
theorem dL_law_778 : decode cL_law 778 = .ok (.iconst 1, 1) := dg_at gg185 10 rfl
theorem dL_law_779 : decode cL_law 779 = .ok (.goto 4, 3) := dg_at gg185 11 rfl
theorem dL_law_782 : decode cL_law 782 = .ok (.iconst 0, 1) := dg_at gg185 12 rfl
theorem dL_law_783 : decode cL_law 783 = .ok (.invokevirtual 87, 3) := dg_at gg185 13 rfl
theorem dL_law_786 : decode cL_law 786 = .ok (.pop, 1) := dg_at gg185 14 rfl
theorem dL_law_787 : decode cL_law 787 = .ok (.goto 471, 3) := dg_at gg185 15 rfl
theorem dL_law_790 : decode cL_law 790 = .ok (.aload_n 1, 1) := dg_at gg185 16 rfl
theorem dL_law_791 : decode cL_law 791 = .ok (.invokevirtual 88, 3) := dg_at gg185 17 rfl
theorem dL_law_794 : decode cL_law 794 = .ok (.pop, 1) := dg_at gg185 18 rfl
theorem dL_law_795 : decode cL_law 795 = .ok (.aload_n 2, 1) := dg_at gg185 19 rfl
theorem dL_law_796 : decode cL_law 796 = .ok (.invokevirtual 91, 3) := dg_at gg185 20 rfl
theorem dL_law_799 : decode cL_law 799 = .ok (.pop, 1) := dg_at gg185 21 rfl
theorem dL_law_800 : decode cL_law 800 = .ok (.goto 458, 3) := dg_at gg185 22 rfl
theorem dL_law_803 : decode cL_law 803 = .ok (.aload_n 1, 1) := dg_at gg185 23 rfl
theorem dL_law_804 : decode cL_law 804 = .ok (.aload_n 0, 1) := dg_at gg185 24 rfl
theorem dL_law_805 : decode cL_law 805 = .ok (.iload_n 3, 1) := dg_at gg185 25 rfl
theorem dL_law_806 : decode cL_law 806 = .ok (.iconst 1, 1) := dg_at gg185 26 rfl
theorem dL_law_807 : decode cL_law 807 = .ok (.iadd, 1) := dg_at gg185 27 rfl
theorem dL_law_808 : decode cL_law 808 = .ok (.iaload, 1) := dg_at gg185 28 rfl
theorem dL_law_809 : decode cL_law 809 = .ok (.invokevirtual 92, 3) := dg_at gg185 29 rfl
theorem dL_law_812 : decode cL_law 812 = .ok (.pop, 1) := dg_at gg185 30 rfl
theorem dL_law_813 : decode cL_law 813 = .ok (.aload_n 2, 1) := dg_at gg185 31 rfl
theorem dL_law_814 : decode cL_law 814 = .ok (.aload_n 0, 1) := dg_at gg185 32 rfl
theorem dL_law_815 : decode cL_law 815 = .ok (.iload_n 3, 1) := dg_at gg185 33 rfl
theorem dL_law_816 : decode cL_law 816 = .ok (.iconst 1, 1) := dg_at gg185 34 rfl
theorem dL_law_817 : decode cL_law 817 = .ok (.iadd, 1) := dg_at gg185 35 rfl
theorem dL_law_818 : decode cL_law 818 = .ok (.iaload, 1) := dg_at gg185 36 rfl
theorem dL_law_819 : decode cL_law 819 = .ok (.invokevirtual 95, 3) := dg_at gg185 37 rfl
theorem dL_law_822 : decode cL_law 822 = .ok (.pop, 1) := dg_at gg185 38 rfl
theorem dL_law_823 : decode cL_law 823 = .ok (.goto 435, 3) := dg_at gg185 39 rfl
theorem dL_law_826 : decode cL_law 826 = .ok (.aload_n 1, 1) := dg_at gg185 40 rfl
theorem dL_law_827 : decode cL_law 827 = .ok (.aload_n 0, 1) := dg_at gg185 41 rfl
theorem dL_law_828 : decode cL_law 828 = .ok (.iload_n 3, 1) := dg_at gg185 42 rfl
theorem dL_law_829 : decode cL_law 829 = .ok (.iconst 1, 1) := dg_at gg185 43 rfl
theorem dL_law_830 : decode cL_law 830 = .ok (.iadd, 1) := dg_at gg185 44 rfl
theorem dL_law_831 : decode cL_law 831 = .ok (.iaload, 1) := dg_at gg185 45 rfl
theorem dL_law_832 : decode cL_law 832 = .ok (.aload_n 0, 1) := dg_at gg185 46 rfl
theorem dL_law_833 : decode cL_law 833 = .ok (.iload_n 3, 1) := dg_at gg185 47 rfl
theorem dL_law_834 : decode cL_law 834 = .ok (.iconst 2, 1) := dg_at gg185 48 rfl
theorem dL_law_835 : decode cL_law 835 = .ok (.iadd, 1) := dg_at gg185 49 rfl
theorem dL_law_836 : decode cL_law 836 = .ok (.iaload, 1) := dg_at gg185 50 rfl
theorem dL_law_837 : decode cL_law 837 = .ok (.aload_n 0, 1) := dg_at gg185 51 rfl
theorem dL_law_838 : decode cL_law 838 = .ok (.iload_n 3, 1) := dg_at gg185 52 rfl
theorem dL_law_839 : decode cL_law 839 = .ok (.iconst 3, 1) := dg_at gg185 53 rfl
theorem dL_law_840 : decode cL_law 840 = .ok (.iadd, 1) := dg_at gg185 54 rfl
theorem dL_law_841 : decode cL_law 841 = .ok (.iaload, 1) := dg_at gg185 55 rfl
theorem dL_law_842 : decode cL_law 842 = .ok (.invokevirtual 96, 3) := dg_at gg185 56 rfl
theorem dL_law_845 : decode cL_law 845 = .ok (.pop, 1) := dg_at gg185 57 rfl
theorem dL_law_846 : decode cL_law 846 = .ok (.aload_n 2, 1) := dg_at gg185 58 rfl
theorem dL_law_847 : decode cL_law 847 = .ok (.aload_n 0, 1) := dg_at gg185 59 rfl
def gl186 : List (Nat × Instr × Nat) := [(848, .iload_n 3, 1), (849, .iconst 1, 1), (850, .iadd, 1), (851, .iaload, 1), (852, .aload_n 0, 1), (853, .iload_n 3, 1), (854, .iconst 2, 1), (855, .iadd, 1), (856, .iaload, 1), (857, .aload_n 0, 1), (858, .iload_n 3, 1), (859, .iconst 3, 1), (860, .iadd, 1), (861, .iaload, 1), (862, .invokevirtual 100, 3), (865, .pop, 1), (866, .goto 392, 3), (869, .aload_n 1, 1), (870, .aload_n 0, 1), (871, .iload_n 3, 1), (872, .iconst 1, 1), (873, .iadd, 1), (874, .iaload, 1), (875, .invokevirtual 101, 3), (878, .pop, 1), (879, .aload_n 2, 1), (880, .aload_n 0, 1), (881, .iload_n 3, 1), (882, .iconst 1, 1), (883, .iadd, 1), (884, .iaload, 1), (885, .invokevirtual 104, 3), (888, .pop, 1), (889, .goto 369, 3), (892, .aload_n 1, 1), (893, .aload_n 0, 1), (894, .iload_n 3, 1), (895, .iconst 1, 1), (896, .iadd, 1), (897, .iaload, 1), (898, .invokevirtual 105, 3), (901, .pop, 1), (902, .aload_n 2, 1), (903, .aload_n 0, 1), (904, .iload_n 3, 1), (905, .iconst 1, 1), (906, .iadd, 1), (907, .iaload, 1), (908, .invokevirtual 108, 3), (911, .pop, 1), (912, .goto 346, 3), (915, .aload_n 1, 1), (916, .aload_n 0, 1), (917, .iload_n 3, 1), (918, .iconst 1, 1), (919, .iadd, 1), (920, .iaload, 1), (921, .invokevirtual 109, 3), (924, .pop, 1), (925, .aload_n 2, 1)]
set_option maxRecDepth 100000 in
theorem gg186 : gl186.all (fun x => decide (decode cL_law x.1 = .ok (x.2.1, x.2.2))) = true := by decide +kernel
theorem dL_law_848 : decode cL_law 848 = .ok (.iload_n 3, 1) := dg_at gg186 0 rfl
theorem dL_law_849 : decode cL_law 849 = .ok (.iconst 1, 1) := dg_at gg186 1 rfl
theorem dL_law_850 : decode cL_law 850 = .ok (.iadd, 1) := dg_at gg186 2 rfl
theorem dL_law_851 : decode cL_law 851 = .ok (.iaload, 1) := dg_at gg186 3 rfl
theorem dL_law_852 : decode cL_law 852 = .ok (.aload_n 0, 1) := dg_at gg186 4 rfl
theorem dL_law_853 : decode cL_law 853 = .ok (.iload_n 3, 1) := dg_at gg186 5 rfl
theorem dL_law_854 : decode cL_law 854 = .ok (.iconst 2, 1) := dg_at gg186 6 rfl
theorem dL_law_855 : decode cL_law 855 = .ok (.iadd, 1) := dg_at gg186 7 rfl
theorem dL_law_856 : decode cL_law 856 = .ok (.iaload, 1) := dg_at gg186 8 rfl
theorem dL_law_857 : decode cL_law 857 = .ok (.aload_n 0, 1) := dg_at gg186 9 rfl
theorem dL_law_858 : decode cL_law 858 = .ok (.iload_n 3, 1) := dg_at gg186 10 rfl
theorem dL_law_859 : decode cL_law 859 = .ok (.iconst 3, 1) := dg_at gg186 11 rfl
theorem dL_law_860 : decode cL_law 860 = .ok (.iadd, 1) := dg_at gg186 12 rfl
theorem dL_law_861 : decode cL_law 861 = .ok (.iaload, 1) := dg_at gg186 13 rfl
theorem dL_law_862 : decode cL_law 862 = .ok (.invokevirtual 100, 3) := dg_at gg186 14 rfl
theorem dL_law_865 : decode cL_law 865 = .ok (.pop, 1) := dg_at gg186 15 rfl
theorem dL_law_866 : decode cL_law 866 = .ok (.goto 392, 3) := dg_at gg186 16 rfl
theorem dL_law_869 : decode cL_law 869 = .ok (.aload_n 1, 1) := dg_at gg186 17 rfl
theorem dL_law_870 : decode cL_law 870 = .ok (.aload_n 0, 1) := dg_at gg186 18 rfl
theorem dL_law_871 : decode cL_law 871 = .ok (.iload_n 3, 1) := dg_at gg186 19 rfl
theorem dL_law_872 : decode cL_law 872 = .ok (.iconst 1, 1) := dg_at gg186 20 rfl
theorem dL_law_873 : decode cL_law 873 = .ok (.iadd, 1) := dg_at gg186 21 rfl
theorem dL_law_874 : decode cL_law 874 = .ok (.iaload, 1) := dg_at gg186 22 rfl
theorem dL_law_875 : decode cL_law 875 = .ok (.invokevirtual 101, 3) := dg_at gg186 23 rfl
theorem dL_law_878 : decode cL_law 878 = .ok (.pop, 1) := dg_at gg186 24 rfl
theorem dL_law_879 : decode cL_law 879 = .ok (.aload_n 2, 1) := dg_at gg186 25 rfl
theorem dL_law_880 : decode cL_law 880 = .ok (.aload_n 0, 1) := dg_at gg186 26 rfl
theorem dL_law_881 : decode cL_law 881 = .ok (.iload_n 3, 1) := dg_at gg186 27 rfl
theorem dL_law_882 : decode cL_law 882 = .ok (.iconst 1, 1) := dg_at gg186 28 rfl
theorem dL_law_883 : decode cL_law 883 = .ok (.iadd, 1) := dg_at gg186 29 rfl
theorem dL_law_884 : decode cL_law 884 = .ok (.iaload, 1) := dg_at gg186 30 rfl
theorem dL_law_885 : decode cL_law 885 = .ok (.invokevirtual 104, 3) := dg_at gg186 31 rfl
theorem dL_law_888 : decode cL_law 888 = .ok (.pop, 1) := dg_at gg186 32 rfl
theorem dL_law_889 : decode cL_law 889 = .ok (.goto 369, 3) := dg_at gg186 33 rfl
theorem dL_law_892 : decode cL_law 892 = .ok (.aload_n 1, 1) := dg_at gg186 34 rfl
theorem dL_law_893 : decode cL_law 893 = .ok (.aload_n 0, 1) := dg_at gg186 35 rfl
theorem dL_law_894 : decode cL_law 894 = .ok (.iload_n 3, 1) := dg_at gg186 36 rfl
theorem dL_law_895 : decode cL_law 895 = .ok (.iconst 1, 1) := dg_at gg186 37 rfl
theorem dL_law_896 : decode cL_law 896 = .ok (.iadd, 1) := dg_at gg186 38 rfl
theorem dL_law_897 : decode cL_law 897 = .ok (.iaload, 1) := dg_at gg186 39 rfl
theorem dL_law_898 : decode cL_law 898 = .ok (.invokevirtual 105, 3) := dg_at gg186 40 rfl
theorem dL_law_901 : decode cL_law 901 = .ok (.pop, 1) := dg_at gg186 41 rfl
theorem dL_law_902 : decode cL_law 902 = .ok (.aload_n 2, 1) := dg_at gg186 42 rfl
theorem dL_law_903 : decode cL_law 903 = .ok (.aload_n 0, 1) := dg_at gg186 43 rfl
theorem dL_law_904 : decode cL_law 904 = .ok (.iload_n 3, 1) := dg_at gg186 44 rfl
theorem dL_law_905 : decode cL_law 905 = .ok (.iconst 1, 1) := dg_at gg186 45 rfl
theorem dL_law_906 : decode cL_law 906 = .ok (.iadd, 1) := dg_at gg186 46 rfl
theorem dL_law_907 : decode cL_law 907 = .ok (.iaload, 1) := dg_at gg186 47 rfl
theorem dL_law_908 : decode cL_law 908 = .ok (.invokevirtual 108, 3) := dg_at gg186 48 rfl
theorem dL_law_911 : decode cL_law 911 = .ok (.pop, 1) := dg_at gg186 49 rfl
theorem dL_law_912 : decode cL_law 912 = .ok (.goto 346, 3) := dg_at gg186 50 rfl
theorem dL_law_915 : decode cL_law 915 = .ok (.aload_n 1, 1) := dg_at gg186 51 rfl
theorem dL_law_916 : decode cL_law 916 = .ok (.aload_n 0, 1) := dg_at gg186 52 rfl
theorem dL_law_917 : decode cL_law 917 = .ok (.iload_n 3, 1) := dg_at gg186 53 rfl
theorem dL_law_918 : decode cL_law 918 = .ok (.iconst 1, 1) := dg_at gg186 54 rfl
theorem dL_law_919 : decode cL_law 919 = .ok (.iadd, 1) := dg_at gg186 55 rfl
theorem dL_law_920 : decode cL_law 920 = .ok (.iaload, 1) := dg_at gg186 56 rfl
theorem dL_law_921 : decode cL_law 921 = .ok (.invokevirtual 109, 3) := dg_at gg186 57 rfl
theorem dL_law_924 : decode cL_law 924 = .ok (.pop, 1) := dg_at gg186 58 rfl
theorem dL_law_925 : decode cL_law 925 = .ok (.aload_n 2, 1) := dg_at gg186 59 rfl
def gl187 : List (Nat × Instr × Nat) := [(926, .aload_n 0, 1), (927, .iload_n 3, 1), (928, .iconst 1, 1), (929, .iadd, 1), (930, .iaload, 1), (931, .invokevirtual 112, 3), (934, .pop, 1), (935, .goto 323, 3), (938, .aload_n 1, 1), (939, .aload_n 0, 1), (940, .iload_n 3, 1), (941, .iconst 1, 1), (942, .iadd, 1), (943, .iaload, 1), (944, .aload_n 0, 1), (945, .iload_n 3, 1), (946, .iconst 2, 1), (947, .iadd, 1), (948, .iaload, 1), (949, .aload_n 0, 1), (950, .iload_n 3, 1), (951, .iconst 3, 1), (952, .iadd, 1), (953, .iaload, 1), (954, .i2l, 1), (955, .bipush 32, 2), (957, .lshl, 1), (958, .aload_n 0, 1), (959, .iload_n 3, 1), (960, .iconst 4, 1), (961, .iadd, 1), (962, .iaload, 1), (963, .i2l, 1), (964, .ldc2_w 13, 3), (967, .land, 1), (968, .lor, 1), (969, .invokevirtual 113, 3), (972, .pop2, 1), (973, .aload_n 2, 1), (974, .aload_n 0, 1), (975, .iload_n 3, 1), (976, .iconst 1, 1), (977, .iadd, 1), (978, .iaload, 1), (979, .aload_n 0, 1), (980, .iload_n 3, 1), (981, .iconst 2, 1), (982, .iadd, 1), (983, .iaload, 1), (984, .aload_n 0, 1), (985, .iload_n 3, 1), (986, .iconst 3, 1), (987, .iadd, 1), (988, .iaload, 1), (989, .i2l, 1), (990, .bipush 32, 2), (992, .lshl, 1), (993, .aload_n 0, 1), (994, .iload_n 3, 1), (995, .iconst 4, 1)]
set_option maxRecDepth 100000 in
theorem gg187 : gl187.all (fun x => decide (decode cL_law x.1 = .ok (x.2.1, x.2.2))) = true := by decide +kernel
theorem dL_law_926 : decode cL_law 926 = .ok (.aload_n 0, 1) := dg_at gg187 0 rfl
theorem dL_law_927 : decode cL_law 927 = .ok (.iload_n 3, 1) := dg_at gg187 1 rfl
theorem dL_law_928 : decode cL_law 928 = .ok (.iconst 1, 1) := dg_at gg187 2 rfl
theorem dL_law_929 : decode cL_law 929 = .ok (.iadd, 1) := dg_at gg187 3 rfl
theorem dL_law_930 : decode cL_law 930 = .ok (.iaload, 1) := dg_at gg187 4 rfl
theorem dL_law_931 : decode cL_law 931 = .ok (.invokevirtual 112, 3) := dg_at gg187 5 rfl
theorem dL_law_934 : decode cL_law 934 = .ok (.pop, 1) := dg_at gg187 6 rfl
theorem dL_law_935 : decode cL_law 935 = .ok (.goto 323, 3) := dg_at gg187 7 rfl
theorem dL_law_938 : decode cL_law 938 = .ok (.aload_n 1, 1) := dg_at gg187 8 rfl
theorem dL_law_939 : decode cL_law 939 = .ok (.aload_n 0, 1) := dg_at gg187 9 rfl
theorem dL_law_940 : decode cL_law 940 = .ok (.iload_n 3, 1) := dg_at gg187 10 rfl
theorem dL_law_941 : decode cL_law 941 = .ok (.iconst 1, 1) := dg_at gg187 11 rfl
theorem dL_law_942 : decode cL_law 942 = .ok (.iadd, 1) := dg_at gg187 12 rfl
theorem dL_law_943 : decode cL_law 943 = .ok (.iaload, 1) := dg_at gg187 13 rfl
theorem dL_law_944 : decode cL_law 944 = .ok (.aload_n 0, 1) := dg_at gg187 14 rfl
theorem dL_law_945 : decode cL_law 945 = .ok (.iload_n 3, 1) := dg_at gg187 15 rfl
theorem dL_law_946 : decode cL_law 946 = .ok (.iconst 2, 1) := dg_at gg187 16 rfl
theorem dL_law_947 : decode cL_law 947 = .ok (.iadd, 1) := dg_at gg187 17 rfl
theorem dL_law_948 : decode cL_law 948 = .ok (.iaload, 1) := dg_at gg187 18 rfl
theorem dL_law_949 : decode cL_law 949 = .ok (.aload_n 0, 1) := dg_at gg187 19 rfl
theorem dL_law_950 : decode cL_law 950 = .ok (.iload_n 3, 1) := dg_at gg187 20 rfl
theorem dL_law_951 : decode cL_law 951 = .ok (.iconst 3, 1) := dg_at gg187 21 rfl
theorem dL_law_952 : decode cL_law 952 = .ok (.iadd, 1) := dg_at gg187 22 rfl
theorem dL_law_953 : decode cL_law 953 = .ok (.iaload, 1) := dg_at gg187 23 rfl
theorem dL_law_954 : decode cL_law 954 = .ok (.i2l, 1) := dg_at gg187 24 rfl
theorem dL_law_955 : decode cL_law 955 = .ok (.bipush 32, 2) := dg_at gg187 25 rfl
theorem dL_law_957 : decode cL_law 957 = .ok (.lshl, 1) := dg_at gg187 26 rfl
theorem dL_law_958 : decode cL_law 958 = .ok (.aload_n 0, 1) := dg_at gg187 27 rfl
theorem dL_law_959 : decode cL_law 959 = .ok (.iload_n 3, 1) := dg_at gg187 28 rfl
theorem dL_law_960 : decode cL_law 960 = .ok (.iconst 4, 1) := dg_at gg187 29 rfl
theorem dL_law_961 : decode cL_law 961 = .ok (.iadd, 1) := dg_at gg187 30 rfl
theorem dL_law_962 : decode cL_law 962 = .ok (.iaload, 1) := dg_at gg187 31 rfl
theorem dL_law_963 : decode cL_law 963 = .ok (.i2l, 1) := dg_at gg187 32 rfl
theorem dL_law_964 : decode cL_law 964 = .ok (.ldc2_w 13, 3) := dg_at gg187 33 rfl
theorem dL_law_967 : decode cL_law 967 = .ok (.land, 1) := dg_at gg187 34 rfl
theorem dL_law_968 : decode cL_law 968 = .ok (.lor, 1) := dg_at gg187 35 rfl
theorem dL_law_969 : decode cL_law 969 = .ok (.invokevirtual 113, 3) := dg_at gg187 36 rfl
theorem dL_law_972 : decode cL_law 972 = .ok (.pop2, 1) := dg_at gg187 37 rfl
theorem dL_law_973 : decode cL_law 973 = .ok (.aload_n 2, 1) := dg_at gg187 38 rfl
theorem dL_law_974 : decode cL_law 974 = .ok (.aload_n 0, 1) := dg_at gg187 39 rfl
theorem dL_law_975 : decode cL_law 975 = .ok (.iload_n 3, 1) := dg_at gg187 40 rfl
theorem dL_law_976 : decode cL_law 976 = .ok (.iconst 1, 1) := dg_at gg187 41 rfl
theorem dL_law_977 : decode cL_law 977 = .ok (.iadd, 1) := dg_at gg187 42 rfl
theorem dL_law_978 : decode cL_law 978 = .ok (.iaload, 1) := dg_at gg187 43 rfl
theorem dL_law_979 : decode cL_law 979 = .ok (.aload_n 0, 1) := dg_at gg187 44 rfl
theorem dL_law_980 : decode cL_law 980 = .ok (.iload_n 3, 1) := dg_at gg187 45 rfl
theorem dL_law_981 : decode cL_law 981 = .ok (.iconst 2, 1) := dg_at gg187 46 rfl
theorem dL_law_982 : decode cL_law 982 = .ok (.iadd, 1) := dg_at gg187 47 rfl
theorem dL_law_983 : decode cL_law 983 = .ok (.iaload, 1) := dg_at gg187 48 rfl
theorem dL_law_984 : decode cL_law 984 = .ok (.aload_n 0, 1) := dg_at gg187 49 rfl
theorem dL_law_985 : decode cL_law 985 = .ok (.iload_n 3, 1) := dg_at gg187 50 rfl
theorem dL_law_986 : decode cL_law 986 = .ok (.iconst 3, 1) := dg_at gg187 51 rfl
theorem dL_law_987 : decode cL_law 987 = .ok (.iadd, 1) := dg_at gg187 52 rfl
theorem dL_law_988 : decode cL_law 988 = .ok (.iaload, 1) := dg_at gg187 53 rfl
theorem dL_law_989 : decode cL_law 989 = .ok (.i2l, 1) := dg_at gg187 54 rfl
theorem dL_law_990 : decode cL_law 990 = .ok (.bipush 32, 2) := dg_at gg187 55 rfl
theorem dL_law_992 : decode cL_law 992 = .ok (.lshl, 1) := dg_at gg187 56 rfl
theorem dL_law_993 : decode cL_law 993 = .ok (.aload_n 0, 1) := dg_at gg187 57 rfl
theorem dL_law_994 : decode cL_law 994 = .ok (.iload_n 3, 1) := dg_at gg187 58 rfl
theorem dL_law_995 : decode cL_law 995 = .ok (.iconst 4, 1) := dg_at gg187 59 rfl
def gl188 : List (Nat × Instr × Nat) := [(996, .iadd, 1), (997, .iaload, 1), (998, .i2l, 1), (999, .ldc2_w 13, 3), (1002, .land, 1), (1003, .lor, 1), (1004, .invokevirtual 117, 3), (1007, .pop2, 1), (1008, .goto 250, 3), (1011, .aload_n 1, 1), (1012, .aload_n 0, 1), (1013, .iload_n 3, 1), (1014, .iconst 1, 1), (1015, .iadd, 1), (1016, .iaload, 1), (1017, .aload_n 0, 1), (1018, .iload_n 3, 1), (1019, .iconst 2, 1), (1020, .iadd, 1), (1021, .iaload, 1), (1022, .invokevirtual 118, 3), (1025, .pop, 1), (1026, .aload_n 2, 1), (1027, .aload_n 0, 1), (1028, .iload_n 3, 1), (1029, .iconst 1, 1), (1030, .iadd, 1), (1031, .iaload, 1), (1032, .aload_n 0, 1), (1033, .iload_n 3, 1), (1034, .iconst 2, 1), (1035, .iadd, 1), (1036, .iaload, 1), (1037, .invokevirtual 121, 3), (1040, .pop, 1), (1041, .goto 217, 3), (1044, .aload_n 1, 1), (1045, .invokevirtual 122, 3), (1048, .pop, 1), (1049, .aload_n 2, 1), (1050, .invokevirtual 125, 3), (1053, .pop, 1), (1054, .goto 204, 3), (1057, .aload_n 1, 1), (1058, .invokevirtual 126, 3), (1061, .pop, 1), (1062, .aload_n 2, 1), (1063, .invokevirtual 129, 3), (1066, .pop, 1), (1067, .goto 191, 3), (1070, .aload_n 1, 1), (1071, .aload_n 0, 1), (1072, .iload_n 3, 1), (1073, .iconst 1, 1), (1074, .iadd, 1), (1075, .iaload, 1), (1076, .invokevirtual 130, 3), (1079, .pop, 1), (1080, .aload_n 2, 1), (1081, .aload_n 0, 1)]
set_option maxRecDepth 100000 in
theorem gg188 : gl188.all (fun x => decide (decode cL_law x.1 = .ok (x.2.1, x.2.2))) = true := by decide +kernel
theorem dL_law_996 : decode cL_law 996 = .ok (.iadd, 1) := dg_at gg188 0 rfl
theorem dL_law_997 : decode cL_law 997 = .ok (.iaload, 1) := dg_at gg188 1 rfl
theorem dL_law_998 : decode cL_law 998 = .ok (.i2l, 1) := dg_at gg188 2 rfl
theorem dL_law_999 : decode cL_law 999 = .ok (.ldc2_w 13, 3) := dg_at gg188 3 rfl
theorem dL_law_1002 : decode cL_law 1002 = .ok (.land, 1) := dg_at gg188 4 rfl
theorem dL_law_1003 : decode cL_law 1003 = .ok (.lor, 1) := dg_at gg188 5 rfl
theorem dL_law_1004 : decode cL_law 1004 = .ok (.invokevirtual 117, 3) := dg_at gg188 6 rfl
theorem dL_law_1007 : decode cL_law 1007 = .ok (.pop2, 1) := dg_at gg188 7 rfl
theorem dL_law_1008 : decode cL_law 1008 = .ok (.goto 250, 3) := dg_at gg188 8 rfl
theorem dL_law_1011 : decode cL_law 1011 = .ok (.aload_n 1, 1) := dg_at gg188 9 rfl
theorem dL_law_1012 : decode cL_law 1012 = .ok (.aload_n 0, 1) := dg_at gg188 10 rfl
theorem dL_law_1013 : decode cL_law 1013 = .ok (.iload_n 3, 1) := dg_at gg188 11 rfl
theorem dL_law_1014 : decode cL_law 1014 = .ok (.iconst 1, 1) := dg_at gg188 12 rfl
theorem dL_law_1015 : decode cL_law 1015 = .ok (.iadd, 1) := dg_at gg188 13 rfl
theorem dL_law_1016 : decode cL_law 1016 = .ok (.iaload, 1) := dg_at gg188 14 rfl
theorem dL_law_1017 : decode cL_law 1017 = .ok (.aload_n 0, 1) := dg_at gg188 15 rfl
theorem dL_law_1018 : decode cL_law 1018 = .ok (.iload_n 3, 1) := dg_at gg188 16 rfl
theorem dL_law_1019 : decode cL_law 1019 = .ok (.iconst 2, 1) := dg_at gg188 17 rfl
theorem dL_law_1020 : decode cL_law 1020 = .ok (.iadd, 1) := dg_at gg188 18 rfl
theorem dL_law_1021 : decode cL_law 1021 = .ok (.iaload, 1) := dg_at gg188 19 rfl
theorem dL_law_1022 : decode cL_law 1022 = .ok (.invokevirtual 118, 3) := dg_at gg188 20 rfl
theorem dL_law_1025 : decode cL_law 1025 = .ok (.pop, 1) := dg_at gg188 21 rfl
theorem dL_law_1026 : decode cL_law 1026 = .ok (.aload_n 2, 1) := dg_at gg188 22 rfl
theorem dL_law_1027 : decode cL_law 1027 = .ok (.aload_n 0, 1) := dg_at gg188 23 rfl
theorem dL_law_1028 : decode cL_law 1028 = .ok (.iload_n 3, 1) := dg_at gg188 24 rfl
theorem dL_law_1029 : decode cL_law 1029 = .ok (.iconst 1, 1) := dg_at gg188 25 rfl
theorem dL_law_1030 : decode cL_law 1030 = .ok (.iadd, 1) := dg_at gg188 26 rfl
theorem dL_law_1031 : decode cL_law 1031 = .ok (.iaload, 1) := dg_at gg188 27 rfl
theorem dL_law_1032 : decode cL_law 1032 = .ok (.aload_n 0, 1) := dg_at gg188 28 rfl
theorem dL_law_1033 : decode cL_law 1033 = .ok (.iload_n 3, 1) := dg_at gg188 29 rfl
theorem dL_law_1034 : decode cL_law 1034 = .ok (.iconst 2, 1) := dg_at gg188 30 rfl
theorem dL_law_1035 : decode cL_law 1035 = .ok (.iadd, 1) := dg_at gg188 31 rfl
theorem dL_law_1036 : decode cL_law 1036 = .ok (.iaload, 1) := dg_at gg188 32 rfl
theorem dL_law_1037 : decode cL_law 1037 = .ok (.invokevirtual 121, 3) := dg_at gg188 33 rfl
theorem dL_law_1040 : decode cL_law 1040 = .ok (.pop, 1) := dg_at gg188 34 rfl
theorem dL_law_1041 : decode cL_law 1041 = .ok (.goto 217, 3) := dg_at gg188 35 rfl
theorem dL_law_1044 : decode cL_law 1044 = .ok (.aload_n 1, 1) := dg_at gg188 36 rfl
theorem dL_law_1045 : decode cL_law 1045 = .ok (.invokevirtual 122, 3) := dg_at gg188 37 rfl
theorem dL_law_1048 : decode cL_law 1048 = .ok (.pop, 1) := dg_at gg188 38 rfl
theorem dL_law_1049 : decode cL_law 1049 = .ok (.aload_n 2, 1) := dg_at gg188 39 rfl
theorem dL_law_1050 : decode cL_law 1050 = .ok (.invokevirtual 125, 3) := dg_at gg188 40 rfl
theorem dL_law_1053 : decode cL_law 1053 = .ok (.pop, 1) := dg_at gg188 41 rfl
theorem dL_law_1054 : decode cL_law 1054 = .ok (.goto 204, 3) := dg_at gg188 42 rfl
theorem dL_law_1057 : decode cL_law 1057 = .ok (.aload_n 1, 1) := dg_at gg188 43 rfl
theorem dL_law_1058 : decode cL_law 1058 = .ok (.invokevirtual 126, 3) := dg_at gg188 44 rfl
theorem dL_law_1061 : decode cL_law 1061 = .ok (.pop, 1) := dg_at gg188 45 rfl
theorem dL_law_1062 : decode cL_law 1062 = .ok (.aload_n 2, 1) := dg_at gg188 46 rfl
theorem dL_law_1063 : decode cL_law 1063 = .ok (.invokevirtual 129, 3) := dg_at gg188 47 rfl
theorem dL_law_1066 : decode cL_law 1066 = .ok (.pop, 1) := dg_at gg188 48 rfl
theorem dL_law_1067 : decode cL_law 1067 = .ok (.goto 191, 3) := dg_at gg188 49 rfl
theorem dL_law_1070 : decode cL_law 1070 = .ok (.aload_n 1, 1) := dg_at gg188 50 rfl
theorem dL_law_1071 : decode cL_law 1071 = .ok (.aload_n 0, 1) := dg_at gg188 51 rfl
theorem dL_law_1072 : decode cL_law 1072 = .ok (.iload_n 3, 1) := dg_at gg188 52 rfl
theorem dL_law_1073 : decode cL_law 1073 = .ok (.iconst 1, 1) := dg_at gg188 53 rfl
theorem dL_law_1074 : decode cL_law 1074 = .ok (.iadd, 1) := dg_at gg188 54 rfl
theorem dL_law_1075 : decode cL_law 1075 = .ok (.iaload, 1) := dg_at gg188 55 rfl
theorem dL_law_1076 : decode cL_law 1076 = .ok (.invokevirtual 130, 3) := dg_at gg188 56 rfl
theorem dL_law_1079 : decode cL_law 1079 = .ok (.pop, 1) := dg_at gg188 57 rfl
theorem dL_law_1080 : decode cL_law 1080 = .ok (.aload_n 2, 1) := dg_at gg188 58 rfl
theorem dL_law_1081 : decode cL_law 1081 = .ok (.aload_n 0, 1) := dg_at gg188 59 rfl
def gl189 : List (Nat × Instr × Nat) := [(1082, .iload_n 3, 1), (1083, .iconst 1, 1), (1084, .iadd, 1), (1085, .iaload, 1), (1086, .invokevirtual 133, 3), (1089, .pop, 1), (1090, .goto 168, 3), (1093, .aload_n 1, 1), (1094, .aload_n 0, 1), (1095, .iload_n 3, 1), (1096, .iconst 1, 1), (1097, .iadd, 1), (1098, .iaload, 1), (1099, .i2l, 1), (1100, .bipush 32, 2), (1102, .lshl, 1), (1103, .aload_n 0, 1), (1104, .iload_n 3, 1), (1105, .iconst 2, 1), (1106, .iadd, 1), (1107, .iaload, 1), (1108, .i2l, 1), (1109, .ldc2_w 13, 3), (1112, .land, 1), (1113, .lor, 1), (1114, .aload_n 0, 1), (1115, .iload_n 3, 1), (1116, .iconst 3, 1), (1117, .iadd, 1), (1118, .iaload, 1), (1119, .aload_n 0, 1), (1120, .iload_n 3, 1), (1121, .iconst 4, 1), (1122, .iadd, 1), (1123, .iaload, 1), (1124, .aload_n 0, 1), (1125, .iload_n 3, 1), (1126, .iconst 5, 1), (1127, .iadd, 1), (1128, .iaload, 1), (1129, .invokevirtual 134, 3), (1132, .pop, 1), (1133, .aload_n 2, 1), (1134, .aload_n 0, 1), (1135, .iload_n 3, 1), (1136, .iconst 1, 1), (1137, .iadd, 1), (1138, .iaload, 1), (1139, .i2l, 1), (1140, .bipush 32, 2), (1142, .lshl, 1), (1143, .aload_n 0, 1), (1144, .iload_n 3, 1), (1145, .iconst 2, 1), (1146, .iadd, 1), (1147, .iaload, 1), (1148, .i2l, 1), (1149, .ldc2_w 13, 3), (1152, .land, 1), (1153, .lor, 1)]
set_option maxRecDepth 100000 in
theorem gg189 : gl189.all (fun x => decide (decode cL_law x.1 = .ok (x.2.1, x.2.2))) = true := by decide +kernel
theorem dL_law_1082 : decode cL_law 1082 = .ok (.iload_n 3, 1) := dg_at gg189 0 rfl
theorem dL_law_1083 : decode cL_law 1083 = .ok (.iconst 1, 1) := dg_at gg189 1 rfl
theorem dL_law_1084 : decode cL_law 1084 = .ok (.iadd, 1) := dg_at gg189 2 rfl
theorem dL_law_1085 : decode cL_law 1085 = .ok (.iaload, 1) := dg_at gg189 3 rfl
theorem dL_law_1086 : decode cL_law 1086 = .ok (.invokevirtual 133, 3) := dg_at gg189 4 rfl
theorem dL_law_1089 : decode cL_law 1089 = .ok (.pop, 1) := dg_at gg189 5 rfl
theorem dL_law_1090 : decode cL_law 1090 = .ok (.goto 168, 3) := dg_at gg189 6 rfl
theorem dL_law_1093 : decode cL_law 1093 = .ok (.aload_n 1, 1) := dg_at gg189 7 rfl
theorem dL_law_1094 : decode cL_law 1094 = .ok (.aload_n 0, 1) := dg_at gg189 8 rfl
theorem dL_law_1095 : decode cL_law 1095 = .ok (.iload_n 3, 1) := dg_at gg189 9 rfl
theorem dL_law_1096 : decode cL_law 1096 = .ok (.iconst 1, 1) := dg_at gg189 10 rfl
theorem dL_law_1097 : decode cL_law 1097 = .ok (.iadd, 1) := dg_at gg189 11 rfl
theorem dL_law_1098 : decode cL_law 1098 = .ok (.iaload, 1) := dg_at gg189 12 rfl
theorem dL_law_1099 : decode cL_law 1099 = .ok (.i2l, 1) := dg_at gg189 13 rfl
theorem dL_law_1100 : decode cL_law 1100 = .ok (.bipush 32, 2) := dg_at gg189 14 rfl
theorem dL_law_1102 : decode cL_law 1102 = .ok (.lshl, 1) := dg_at gg189 15 rfl
theorem dL_law_1103 : decode cL_law 1103 = .ok (.aload_n 0, 1) := dg_at gg189 16 rfl
theorem dL_law_1104 : decode cL_law 1104 = .ok (.iload_n 3, 1) := dg_at gg189 17 rfl
theorem dL_law_1105 : decode cL_law 1105 = .ok (.iconst 2, 1) := dg_at gg189 18 rfl
theorem dL_law_1106 : decode cL_law 1106 = .ok (.iadd, 1) := dg_at gg189 19 rfl
theorem dL_law_1107 : decode cL_law 1107 = .ok (.iaload, 1) := dg_at gg189 20 rfl
theorem dL_law_1108 : decode cL_law 1108 = .ok (.i2l, 1) := dg_at gg189 21 rfl
theorem dL_law_1109 : decode cL_law 1109 = .ok (.ldc2_w 13, 3) := dg_at gg189 22 rfl
theorem dL_law_1112 : decode cL_law 1112 = .ok (.land, 1) := dg_at gg189 23 rfl
theorem dL_law_1113 : decode cL_law 1113 = .ok (.lor, 1) := dg_at gg189 24 rfl
theorem dL_law_1114 : decode cL_law 1114 = .ok (.aload_n 0, 1) := dg_at gg189 25 rfl
theorem dL_law_1115 : decode cL_law 1115 = .ok (.iload_n 3, 1) := dg_at gg189 26 rfl
theorem dL_law_1116 : decode cL_law 1116 = .ok (.iconst 3, 1) := dg_at gg189 27 rfl
theorem dL_law_1117 : decode cL_law 1117 = .ok (.iadd, 1) := dg_at gg189 28 rfl
theorem dL_law_1118 : decode cL_law 1118 = .ok (.iaload, 1) := dg_at gg189 29 rfl
theorem dL_law_1119 : decode cL_law 1119 = .ok (.aload_n 0, 1) := dg_at gg189 30 rfl
theorem dL_law_1120 : decode cL_law 1120 = .ok (.iload_n 3, 1) := dg_at gg189 31 rfl
theorem dL_law_1121 : decode cL_law 1121 = .ok (.iconst 4, 1) := dg_at gg189 32 rfl
theorem dL_law_1122 : decode cL_law 1122 = .ok (.iadd, 1) := dg_at gg189 33 rfl
theorem dL_law_1123 : decode cL_law 1123 = .ok (.iaload, 1) := dg_at gg189 34 rfl
theorem dL_law_1124 : decode cL_law 1124 = .ok (.aload_n 0, 1) := dg_at gg189 35 rfl
theorem dL_law_1125 : decode cL_law 1125 = .ok (.iload_n 3, 1) := dg_at gg189 36 rfl
theorem dL_law_1126 : decode cL_law 1126 = .ok (.iconst 5, 1) := dg_at gg189 37 rfl
theorem dL_law_1127 : decode cL_law 1127 = .ok (.iadd, 1) := dg_at gg189 38 rfl
theorem dL_law_1128 : decode cL_law 1128 = .ok (.iaload, 1) := dg_at gg189 39 rfl
theorem dL_law_1129 : decode cL_law 1129 = .ok (.invokevirtual 134, 3) := dg_at gg189 40 rfl
theorem dL_law_1132 : decode cL_law 1132 = .ok (.pop, 1) := dg_at gg189 41 rfl
theorem dL_law_1133 : decode cL_law 1133 = .ok (.aload_n 2, 1) := dg_at gg189 42 rfl
theorem dL_law_1134 : decode cL_law 1134 = .ok (.aload_n 0, 1) := dg_at gg189 43 rfl
theorem dL_law_1135 : decode cL_law 1135 = .ok (.iload_n 3, 1) := dg_at gg189 44 rfl
theorem dL_law_1136 : decode cL_law 1136 = .ok (.iconst 1, 1) := dg_at gg189 45 rfl
theorem dL_law_1137 : decode cL_law 1137 = .ok (.iadd, 1) := dg_at gg189 46 rfl
theorem dL_law_1138 : decode cL_law 1138 = .ok (.iaload, 1) := dg_at gg189 47 rfl
theorem dL_law_1139 : decode cL_law 1139 = .ok (.i2l, 1) := dg_at gg189 48 rfl
theorem dL_law_1140 : decode cL_law 1140 = .ok (.bipush 32, 2) := dg_at gg189 49 rfl
theorem dL_law_1142 : decode cL_law 1142 = .ok (.lshl, 1) := dg_at gg189 50 rfl
theorem dL_law_1143 : decode cL_law 1143 = .ok (.aload_n 0, 1) := dg_at gg189 51 rfl
theorem dL_law_1144 : decode cL_law 1144 = .ok (.iload_n 3, 1) := dg_at gg189 52 rfl
theorem dL_law_1145 : decode cL_law 1145 = .ok (.iconst 2, 1) := dg_at gg189 53 rfl
theorem dL_law_1146 : decode cL_law 1146 = .ok (.iadd, 1) := dg_at gg189 54 rfl
theorem dL_law_1147 : decode cL_law 1147 = .ok (.iaload, 1) := dg_at gg189 55 rfl
theorem dL_law_1148 : decode cL_law 1148 = .ok (.i2l, 1) := dg_at gg189 56 rfl
theorem dL_law_1149 : decode cL_law 1149 = .ok (.ldc2_w 13, 3) := dg_at gg189 57 rfl
theorem dL_law_1152 : decode cL_law 1152 = .ok (.land, 1) := dg_at gg189 58 rfl
theorem dL_law_1153 : decode cL_law 1153 = .ok (.lor, 1) := dg_at gg189 59 rfl
def gl190 : List (Nat × Instr × Nat) := [(1154, .aload_n 0, 1), (1155, .iload_n 3, 1), (1156, .iconst 3, 1), (1157, .iadd, 1), (1158, .iaload, 1), (1159, .aload_n 0, 1), (1160, .iload_n 3, 1), (1161, .iconst 4, 1), (1162, .iadd, 1), (1163, .iaload, 1), (1164, .aload_n 0, 1), (1165, .iload_n 3, 1), (1166, .iconst 5, 1), (1167, .iadd, 1), (1168, .iaload, 1), (1169, .invokevirtual 138, 3), (1172, .pop, 1), (1173, .goto 85, 3), (1176, .aload_n 1, 1), (1177, .aload_n 0, 1), (1178, .iload_n 3, 1), (1179, .iconst 1, 1), (1180, .iadd, 1), (1181, .iaload, 1), (1182, .aload_n 0, 1), (1183, .iload_n 3, 1), (1184, .iconst 2, 1), (1185, .iadd, 1), (1186, .iaload, 1), (1187, .invokevirtual 139, 3), (1190, .pop, 1), (1191, .aload_n 2, 1), (1192, .aload_n 0, 1), (1193, .iload_n 3, 1), (1194, .iconst 1, 1), (1195, .iadd, 1), (1196, .iaload, 1), (1197, .aload_n 0, 1), (1198, .iload_n 3, 1), (1199, .iconst 2, 1), (1200, .iadd, 1), (1201, .iaload, 1), (1202, .invokevirtual 142, 3), (1205, .pop, 1), (1206, .goto 52, 3), (1209, .aload_n 1, 1), (1210, .invokevirtual 143, 3), (1213, .pop, 1), (1214, .aload_n 2, 1), (1215, .invokevirtual 146, 3), (1218, .pop, 1), (1219, .goto 39, 3), (1222, .aload_n 1, 1), (1223, .invokevirtual 147, 3), (1226, .pop, 1), (1227, .aload_n 2, 1), (1228, .invokevirtual 150, 3), (1231, .pop, 1), (1232, .goto 26, 3), (1235, .aload_n 1, 1)]
set_option maxRecDepth 100000 in
theorem gg190 : gl190.all (fun x => decide (decode cL_law x.1 = .ok (x.2.1, x.2.2))) = true := by decide +kernel
theorem dL_law_1154 : decode cL_law 1154 = .ok (.aload_n 0, 1) := dg_at gg190 0 rfl
theorem dL_law_1155 : decode cL_law 1155 = .ok (.iload_n 3, 1) := dg_at gg190 1 rfl
theorem dL_law_1156 : decode cL_law 1156 = .ok (.iconst 3, 1) := dg_at gg190 2 rfl
theorem dL_law_1157 : decode cL_law 1157 = .ok (.iadd, 1) := dg_at gg190 3 rfl
theorem dL_law_1158 : decode cL_law 1158 = .ok (.iaload, 1) := dg_at gg190 4 rfl
theorem dL_law_1159 : decode cL_law 1159 = .ok (.aload_n 0, 1) := dg_at gg190 5 rfl
theorem dL_law_1160 : decode cL_law 1160 = .ok (.iload_n 3, 1) := dg_at gg190 6 rfl
theorem dL_law_1161 : decode cL_law 1161 = .ok (.iconst 4, 1) := dg_at gg190 7 rfl
theorem dL_law_1162 : decode cL_law 1162 = .ok (.iadd, 1) := dg_at gg190 8 rfl
theorem dL_law_1163 : decode cL_law 1163 = .ok (.iaload, 1) := dg_at gg190 9 rfl
theorem dL_law_1164 : decode cL_law 1164 = .ok (.aload_n 0, 1) := dg_at gg190 10 rfl
theorem dL_law_1165 : decode cL_law 1165 = .ok (.iload_n 3, 1) := dg_at gg190 11 rfl
theorem dL_law_1166 : decode cL_law 1166 = .ok (.iconst 5, 1) := dg_at gg190 12 rfl
theorem dL_law_1167 : decode cL_law 1167 = .ok (.iadd, 1) := dg_at gg190 13 rfl
theorem dL_law_1168 : decode cL_law 1168 = .ok (.iaload, 1) := dg_at gg190 14 rfl
theorem dL_law_1169 : decode cL_law 1169 = .ok (.invokevirtual 138, 3) := dg_at gg190 15 rfl
theorem dL_law_1172 : decode cL_law 1172 = .ok (.pop, 1) := dg_at gg190 16 rfl
theorem dL_law_1173 : decode cL_law 1173 = .ok (.goto 85, 3) := dg_at gg190 17 rfl
theorem dL_law_1176 : decode cL_law 1176 = .ok (.aload_n 1, 1) := dg_at gg190 18 rfl
theorem dL_law_1177 : decode cL_law 1177 = .ok (.aload_n 0, 1) := dg_at gg190 19 rfl
theorem dL_law_1178 : decode cL_law 1178 = .ok (.iload_n 3, 1) := dg_at gg190 20 rfl
theorem dL_law_1179 : decode cL_law 1179 = .ok (.iconst 1, 1) := dg_at gg190 21 rfl
theorem dL_law_1180 : decode cL_law 1180 = .ok (.iadd, 1) := dg_at gg190 22 rfl
theorem dL_law_1181 : decode cL_law 1181 = .ok (.iaload, 1) := dg_at gg190 23 rfl
theorem dL_law_1182 : decode cL_law 1182 = .ok (.aload_n 0, 1) := dg_at gg190 24 rfl
theorem dL_law_1183 : decode cL_law 1183 = .ok (.iload_n 3, 1) := dg_at gg190 25 rfl
theorem dL_law_1184 : decode cL_law 1184 = .ok (.iconst 2, 1) := dg_at gg190 26 rfl
theorem dL_law_1185 : decode cL_law 1185 = .ok (.iadd, 1) := dg_at gg190 27 rfl
theorem dL_law_1186 : decode cL_law 1186 = .ok (.iaload, 1) := dg_at gg190 28 rfl
theorem dL_law_1187 : decode cL_law 1187 = .ok (.invokevirtual 139, 3) := dg_at gg190 29 rfl
theorem dL_law_1190 : decode cL_law 1190 = .ok (.pop, 1) := dg_at gg190 30 rfl
theorem dL_law_1191 : decode cL_law 1191 = .ok (.aload_n 2, 1) := dg_at gg190 31 rfl
theorem dL_law_1192 : decode cL_law 1192 = .ok (.aload_n 0, 1) := dg_at gg190 32 rfl
theorem dL_law_1193 : decode cL_law 1193 = .ok (.iload_n 3, 1) := dg_at gg190 33 rfl
theorem dL_law_1194 : decode cL_law 1194 = .ok (.iconst 1, 1) := dg_at gg190 34 rfl
theorem dL_law_1195 : decode cL_law 1195 = .ok (.iadd, 1) := dg_at gg190 35 rfl
theorem dL_law_1196 : decode cL_law 1196 = .ok (.iaload, 1) := dg_at gg190 36 rfl
theorem dL_law_1197 : decode cL_law 1197 = .ok (.aload_n 0, 1) := dg_at gg190 37 rfl
theorem dL_law_1198 : decode cL_law 1198 = .ok (.iload_n 3, 1) := dg_at gg190 38 rfl
theorem dL_law_1199 : decode cL_law 1199 = .ok (.iconst 2, 1) := dg_at gg190 39 rfl
theorem dL_law_1200 : decode cL_law 1200 = .ok (.iadd, 1) := dg_at gg190 40 rfl
theorem dL_law_1201 : decode cL_law 1201 = .ok (.iaload, 1) := dg_at gg190 41 rfl
theorem dL_law_1202 : decode cL_law 1202 = .ok (.invokevirtual 142, 3) := dg_at gg190 42 rfl
theorem dL_law_1205 : decode cL_law 1205 = .ok (.pop, 1) := dg_at gg190 43 rfl
theorem dL_law_1206 : decode cL_law 1206 = .ok (.goto 52, 3) := dg_at gg190 44 rfl
theorem dL_law_1209 : decode cL_law 1209 = .ok (.aload_n 1, 1) := dg_at gg190 45 rfl
theorem dL_law_1210 : decode cL_law 1210 = .ok (.invokevirtual 143, 3) := dg_at gg190 46 rfl
theorem dL_law_1213 : decode cL_law 1213 = .ok (.pop, 1) := dg_at gg190 47 rfl
theorem dL_law_1214 : decode cL_law 1214 = .ok (.aload_n 2, 1) := dg_at gg190 48 rfl
theorem dL_law_1215 : decode cL_law 1215 = .ok (.invokevirtual 146, 3) := dg_at gg190 49 rfl
theorem dL_law_1218 : decode cL_law 1218 = .ok (.pop, 1) := dg_at gg190 50 rfl
theorem dL_law_1219 : decode cL_law 1219 = .ok (.goto 39, 3) := dg_at gg190 51 rfl
theorem dL_law_1222 : decode cL_law 1222 = .ok (.aload_n 1, 1) := dg_at gg190 52 rfl
theorem dL_law_1223 : decode cL_law 1223 = .ok (.invokevirtual 147, 3) := dg_at gg190 53 rfl
theorem dL_law_1226 : decode cL_law 1226 = .ok (.pop, 1) := dg_at gg190 54 rfl
theorem dL_law_1227 : decode cL_law 1227 = .ok (.aload_n 2, 1) := dg_at gg190 55 rfl
theorem dL_law_1228 : decode cL_law 1228 = .ok (.invokevirtual 150, 3) := dg_at gg190 56 rfl
theorem dL_law_1231 : decode cL_law 1231 = .ok (.pop, 1) := dg_at gg190 57 rfl
theorem dL_law_1232 : decode cL_law 1232 = .ok (.goto 26, 3) := dg_at gg190 58 rfl
theorem dL_law_1235 : decode cL_law 1235 = .ok (.aload_n 1, 1) := dg_at gg190 59 rfl
def gl191 : List (Nat × Instr × Nat) := [(1236, .aload_n 0, 1), (1237, .iload_n 3, 1), (1238, .iconst 1, 1), (1239, .iadd, 1), (1240, .iaload, 1), (1241, .invokevirtual 151, 3), (1244, .pop, 1), (1245, .aload_n 2, 1), (1246, .aload_n 0, 1), (1247, .iload_n 3, 1), (1248, .iconst 1, 1), (1249, .iadd, 1), (1250, .iaload, 1), (1251, .invokevirtual 154, 3), (1254, .pop, 1), (1255, .goto 3, 3), (1258, .iinc 3 6, 3), (1261, .goto (-1243), 3), (1264, .iconst 1, 1), (1265, .ireturn, 1)]
set_option maxRecDepth 100000 in
theorem gg191 : gl191.all (fun x => decide (decode cL_law x.1 = .ok (x.2.1, x.2.2))) = true := by decide +kernel
theorem dL_law_1236 : decode cL_law 1236 = .ok (.aload_n 0, 1) := dg_at gg191 0 rfl
theorem dL_law_1237 : decode cL_law 1237 = .ok (.iload_n 3, 1) := dg_at gg191 1 rfl
theorem dL_law_1238 : decode cL_law 1238 = .ok (.iconst 1, 1) := dg_at gg191 2 rfl
theorem dL_law_1239 : decode cL_law 1239 = .ok (.iadd, 1) := dg_at gg191 3 rfl
theorem dL_law_1240 : decode cL_law 1240 = .ok (.iaload, 1) := dg_at gg191 4 rfl
theorem dL_law_1241 : decode cL_law 1241 = .ok (.invokevirtual 151, 3) := dg_at gg191 5 rfl
theorem dL_law_1244 : decode cL_law 1244 = .ok (.pop, 1) := dg_at gg191 6 rfl
theorem dL_law_1245 : decode cL_law 1245 = .ok (.aload_n 2, 1) := dg_at gg191 7 rfl
theorem dL_law_1246 : decode cL_law 1246 = .ok (.aload_n 0, 1) := dg_at gg191 8 rfl
theorem dL_law_1247 : decode cL_law 1247 = .ok (.iload_n 3, 1) := dg_at gg191 9 rfl
theorem dL_law_1248 : decode cL_law 1248 = .ok (.iconst 1, 1) := dg_at gg191 10 rfl
theorem dL_law_1249 : decode cL_law 1249 = .ok (.iadd, 1) := dg_at gg191 11 rfl
theorem dL_law_1250 : decode cL_law 1250 = .ok (.iaload, 1) := dg_at gg191 12 rfl
theorem dL_law_1251 : decode cL_law 1251 = .ok (.invokevirtual 154, 3) := dg_at gg191 13 rfl
theorem dL_law_1254 : decode cL_law 1254 = .ok (.pop, 1) := dg_at gg191 14 rfl
theorem dL_law_1255 : decode cL_law 1255 = .ok (.goto 3, 3) := dg_at gg191 15 rfl
theorem dL_law_1258 : decode cL_law 1258 = .ok (.iinc 3 6, 3) := dg_at gg191 16 rfl
theorem dL_law_1261 : decode cL_law 1261 = .ok (.goto (-1243), 3) := dg_at gg191 17 rfl
theorem dL_law_1264 : decode cL_law 1264 = .ok (.iconst 1, 1) := dg_at gg191 18 rfl
theorem dL_law_1265 : decode cL_law 1265 = .ok (.ireturn, 1) := dg_at gg191 19 rfl

set_option maxRecDepth 100000 in
theorem g75_X7_soon : decode cX7_soon 118 = .ok (.lload 4, 2) ∧ decode cX7_soon 120 = .ok (.lreturn, 1) := by decide +kernel
theorem dX7_soon_118 : decode cX7_soon 118 = .ok (.lload 4, 2) := g75_X7_soon.1
theorem dX7_soon_120 : decode cX7_soon 120 = .ok (.lreturn, 1) := g75_X7_soon.2
set_option maxRecDepth 100000 in
theorem g76_X7_pass : decode cX7_pass 0 = .ok (.iload_n 1, 1) ∧ decode cX7_pass 1 = .ok (.iconst 1, 1) ∧ decode cX7_pass 2 = .ok (.if_icmp .lt 10, 3) ∧ decode cX7_pass 5 = .ok (.iload_n 1, 1) ∧ decode cX7_pass 6 = .ok (.sipush 9999, 3) ∧ decode cX7_pass 9 = .ok (.if_icmp .le 7, 3) ∧ decode cX7_pass 12 = .ok (.ldc2_w 145, 3) ∧ decode cX7_pass 15 = .ok (.lreturn, 1) ∧ decode cX7_pass 16 = .ok (.aload_n 0, 1) ∧ decode cX7_pass 17 = .ok (.getfield 63, 3) ∧ decode cX7_pass 20 = .ok (.aload_n 0, 1) ∧ decode cX7_pass 21 = .ok (.getfield 29, 3) ∧ decode cX7_pass 24 = .ok (.invokevirtual 164, 3) ∧ decode cX7_pass 27 = .ok (.aload_n 0, 1) ∧ decode cX7_pass 28 = .ok (.getfield 29, 3) ∧ decode cX7_pass 31 = .ok (.dup, 1) ∧ decode cX7_pass 32 = .ok (.getfield 168, 3) ∧ decode cX7_pass 35 = .ok (.iload_n 1, 1) ∧ decode cX7_pass 36 = .ok (.i2l, 1) ∧ decode cX7_pass 37 = .ok (.ladd, 1) ∧ decode cX7_pass 38 = .ok (.putfield 168, 3) ∧ decode cX7_pass 41 = .ok (.aload_n 0, 1) ∧ decode cX7_pass 42 = .ok (.getfield 29, 3) ∧ decode cX7_pass 45 = .ok (.getfield 168, 3) ∧ decode cX7_pass 48 = .ok (.lreturn, 1) := by decide +kernel
theorem dX7_pass_0 : decode cX7_pass 0 = .ok (.iload_n 1, 1) := g76_X7_pass.1
theorem dX7_pass_1 : decode cX7_pass 1 = .ok (.iconst 1, 1) := g76_X7_pass.2.1
theorem dX7_pass_2 : decode cX7_pass 2 = .ok (.if_icmp .lt 10, 3) := g76_X7_pass.2.2.1
theorem dX7_pass_5 : decode cX7_pass 5 = .ok (.iload_n 1, 1) := g76_X7_pass.2.2.2.1
theorem dX7_pass_6 : decode cX7_pass 6 = .ok (.sipush 9999, 3) := g76_X7_pass.2.2.2.2.1
theorem dX7_pass_9 : decode cX7_pass 9 = .ok (.if_icmp .le 7, 3) := g76_X7_pass.2.2.2.2.2.1
theorem dX7_pass_12 : decode cX7_pass 12 = .ok (.ldc2_w 145, 3) := g76_X7_pass.2.2.2.2.2.2.1
theorem dX7_pass_15 : decode cX7_pass 15 = .ok (.lreturn, 1) := g76_X7_pass.2.2.2.2.2.2.2.1
theorem dX7_pass_16 : decode cX7_pass 16 = .ok (.aload_n 0, 1) := g76_X7_pass.2.2.2.2.2.2.2.2.1
theorem dX7_pass_17 : decode cX7_pass 17 = .ok (.getfield 63, 3) := g76_X7_pass.2.2.2.2.2.2.2.2.2.1
theorem dX7_pass_20 : decode cX7_pass 20 = .ok (.aload_n 0, 1) := g76_X7_pass.2.2.2.2.2.2.2.2.2.2.1
theorem dX7_pass_21 : decode cX7_pass 21 = .ok (.getfield 29, 3) := g76_X7_pass.2.2.2.2.2.2.2.2.2.2.2.1
theorem dX7_pass_24 : decode cX7_pass 24 = .ok (.invokevirtual 164, 3) := g76_X7_pass.2.2.2.2.2.2.2.2.2.2.2.2.1
theorem dX7_pass_27 : decode cX7_pass 27 = .ok (.aload_n 0, 1) := g76_X7_pass.2.2.2.2.2.2.2.2.2.2.2.2.2.1
theorem dX7_pass_28 : decode cX7_pass 28 = .ok (.getfield 29, 3) := g76_X7_pass.2.2.2.2.2.2.2.2.2.2.2.2.2.2.1
theorem dX7_pass_31 : decode cX7_pass 31 = .ok (.dup, 1) := g76_X7_pass.2.2.2.2.2.2.2.2.2.2.2.2.2.2.2.1
theorem dX7_pass_32 : decode cX7_pass 32 = .ok (.getfield 168, 3) := g76_X7_pass.2.2.2.2.2.2.2.2.2.2.2.2.2.2.2.2.1
theorem dX7_pass_35 : decode cX7_pass 35 = .ok (.iload_n 1, 1) := g76_X7_pass.2.2.2.2.2.2.2.2.2.2.2.2.2.2.2.2.2.1
theorem dX7_pass_36 : decode cX7_pass 36 = .ok (.i2l, 1) := g76_X7_pass.2.2.2.2.2.2.2.2.2.2.2.2.2.2.2.2.2.2.1
theorem dX7_pass_37 : decode cX7_pass 37 = .ok (.ladd, 1) := g76_X7_pass.2.2.2.2.2.2.2.2.2.2.2.2.2.2.2.2.2.2.2.1
theorem dX7_pass_38 : decode cX7_pass 38 = .ok (.putfield 168, 3) := g76_X7_pass.2.2.2.2.2.2.2.2.2.2.2.2.2.2.2.2.2.2.2.2.1
theorem dX7_pass_41 : decode cX7_pass 41 = .ok (.aload_n 0, 1) := g76_X7_pass.2.2.2.2.2.2.2.2.2.2.2.2.2.2.2.2.2.2.2.2.2.1
theorem dX7_pass_42 : decode cX7_pass 42 = .ok (.getfield 29, 3) := g76_X7_pass.2.2.2.2.2.2.2.2.2.2.2.2.2.2.2.2.2.2.2.2.2.2.1
theorem dX7_pass_45 : decode cX7_pass 45 = .ok (.getfield 168, 3) := g76_X7_pass.2.2.2.2.2.2.2.2.2.2.2.2.2.2.2.2.2.2.2.2.2.2.2.1
theorem dX7_pass_48 : decode cX7_pass 48 = .ok (.lreturn, 1) := g76_X7_pass.2.2.2.2.2.2.2.2.2.2.2.2.2.2.2.2.2.2.2.2.2.2.2.2
set_option maxRecDepth 100000 in
theorem g77_X7_doAct : decode cX7_doAct 0 = .ok (.aload_n 0, 1) ∧ decode cX7_doAct 1 = .ok (.iload_n 1, 1) ∧ decode cX7_doAct 2 = .ok (.invokevirtual 112, 3) ∧ decode cX7_doAct 5 = .ok (.ifCond .ne 7, 3) ∧ decode cX7_doAct 8 = .ok (.ldc2_w 145, 3) ∧ decode cX7_doAct 11 = .ok (.lreturn, 1) ∧ decode cX7_doAct 12 = .ok (.aload_n 0, 1) ∧ decode cX7_doAct 13 = .ok (.getfield 38, 3) ∧ decode cX7_doAct 16 = .ok (.iload_n 1, 1) ∧ decode cX7_doAct 17 = .ok (.aload_n 0, 1) ∧ decode cX7_doAct 18 = .ok (.getfield 29, 3) ∧ decode cX7_doAct 21 = .ok (.getfield 168, 3) ∧ decode cX7_doAct 24 = .ok (.invokevirtual 151, 3) ∧ decode cX7_doAct 27 = .ok (.ifCond .ne 7, 3) ∧ decode cX7_doAct 30 = .ok (.ldc2_w 172, 3) ∧ decode cX7_doAct 33 = .ok (.lreturn, 1) ∧ decode cX7_doAct 34 = .ok (.aload_n 0, 1) ∧ decode cX7_doAct 35 = .ok (.getfield 63, 3) ∧ decode cX7_doAct 38 = .ok (.aload_n 0, 1) ∧ decode cX7_doAct 39 = .ok (.getfield 29, 3) ∧ decode cX7_doAct 42 = .ok (.invokevirtual 164, 3) ∧ decode cX7_doAct 45 = .ok (.aload_n 0, 1) ∧ decode cX7_doAct 46 = .ok (.getfield 29, 3) ∧ decode cX7_doAct 49 = .ok (.dup, 1) ∧ decode cX7_doAct 50 = .ok (.getfield 168, 3) ∧ decode cX7_doAct 53 = .ok (.aload_n 0, 1) ∧ decode cX7_doAct 54 = .ok (.getfield 23, 3) ∧ decode cX7_doAct 57 = .ok (.iload_n 1, 1) ∧ decode cX7_doAct 58 = .ok (.invokevirtual 160, 3) ∧ decode cX7_doAct 61 = .ok (.i2l, 1) ∧ decode cX7_doAct 62 = .ok (.ladd, 1) ∧ decode cX7_doAct 63 = .ok (.putfield 168, 3) ∧ decode cX7_doAct 66 = .ok (.aload_n 0, 1) ∧ decode cX7_doAct 67 = .ok (.getfield 29, 3) ∧ decode cX7_doAct 70 = .ok (.dup, 1) ∧ decode cX7_doAct 71 = .ok (.getfield 174, 3) ∧ decode cX7_doAct 74 = .ok (.aload_n 0, 1) ∧ decode cX7_doAct 75 = .ok (.getfield 23, 3) ∧ decode cX7_doAct 78 = .ok (.iload_n 1, 1) ∧ decode cX7_doAct 79 = .ok (.iconst 0, 1) ∧ decode cX7_doAct 80 = .ok (.invokevirtual 177, 3) ∧ decode cX7_doAct 83 = .ok (.iadd, 1) ∧ decode cX7_doAct 84 = .ok (.putfield 174, 3) ∧ decode cX7_doAct 87 = .ok (.aload_n 0, 1) ∧ decode cX7_doAct 88 = .ok (.getfield 29, 3) ∧ decode cX7_doAct 91 = .ok (.dup, 1) ∧ decode cX7_doAct 92 = .ok (.getfield 180, 3) ∧ decode cX7_doAct 95 = .ok (.aload_n 0, 1) ∧ decode cX7_doAct 96 = .ok (.getfield 23, 3) ∧ decode cX7_doAct 99 = .ok (.iload_n 1, 1) ∧ decode cX7_doAct 100 = .ok (.iconst 1, 1) ∧ decode cX7_doAct 101 = .ok (.invokevirtual 177, 3) ∧ decode cX7_doAct 104 = .ok (.iadd, 1) ∧ decode cX7_doAct 105 = .ok (.putfield 180, 3) ∧ decode cX7_doAct 108 = .ok (.aload_n 0, 1) ∧ decode cX7_doAct 109 = .ok (.getfield 29, 3) ∧ decode cX7_doAct 112 = .ok (.getfield 168, 3) ∧ decode cX7_doAct 115 = .ok (.lreturn, 1) := by decide +kernel
theorem dX7_doAct_0 : decode cX7_doAct 0 = .ok (.aload_n 0, 1) := g77_X7_doAct.1
theorem dX7_doAct_1 : decode cX7_doAct 1 = .ok (.iload_n 1, 1) := g77_X7_doAct.2.1
theorem dX7_doAct_2 : decode cX7_doAct 2 = .ok (.invokevirtual 112, 3) := g77_X7_doAct.2.2.1
theorem dX7_doAct_5 : decode cX7_doAct 5 = .ok (.ifCond .ne 7, 3) := g77_X7_doAct.2.2.2.1
theorem dX7_doAct_8 : decode cX7_doAct 8 = .ok (.ldc2_w 145, 3) := g77_X7_doAct.2.2.2.2.1
theorem dX7_doAct_11 : decode cX7_doAct 11 = .ok (.lreturn, 1) := g77_X7_doAct.2.2.2.2.2.1
theorem dX7_doAct_12 : decode cX7_doAct 12 = .ok (.aload_n 0, 1) := g77_X7_doAct.2.2.2.2.2.2.1
theorem dX7_doAct_13 : decode cX7_doAct 13 = .ok (.getfield 38, 3) := g77_X7_doAct.2.2.2.2.2.2.2.1
theorem dX7_doAct_16 : decode cX7_doAct 16 = .ok (.iload_n 1, 1) := g77_X7_doAct.2.2.2.2.2.2.2.2.1
theorem dX7_doAct_17 : decode cX7_doAct 17 = .ok (.aload_n 0, 1) := g77_X7_doAct.2.2.2.2.2.2.2.2.2.1
theorem dX7_doAct_18 : decode cX7_doAct 18 = .ok (.getfield 29, 3) := g77_X7_doAct.2.2.2.2.2.2.2.2.2.2.1
theorem dX7_doAct_21 : decode cX7_doAct 21 = .ok (.getfield 168, 3) := g77_X7_doAct.2.2.2.2.2.2.2.2.2.2.2.1
theorem dX7_doAct_24 : decode cX7_doAct 24 = .ok (.invokevirtual 151, 3) := g77_X7_doAct.2.2.2.2.2.2.2.2.2.2.2.2.1
theorem dX7_doAct_27 : decode cX7_doAct 27 = .ok (.ifCond .ne 7, 3) := g77_X7_doAct.2.2.2.2.2.2.2.2.2.2.2.2.2.1
theorem dX7_doAct_30 : decode cX7_doAct 30 = .ok (.ldc2_w 172, 3) := g77_X7_doAct.2.2.2.2.2.2.2.2.2.2.2.2.2.2.1
theorem dX7_doAct_33 : decode cX7_doAct 33 = .ok (.lreturn, 1) := g77_X7_doAct.2.2.2.2.2.2.2.2.2.2.2.2.2.2.2.1
theorem dX7_doAct_34 : decode cX7_doAct 34 = .ok (.aload_n 0, 1) := g77_X7_doAct.2.2.2.2.2.2.2.2.2.2.2.2.2.2.2.2.1
theorem dX7_doAct_35 : decode cX7_doAct 35 = .ok (.getfield 63, 3) := g77_X7_doAct.2.2.2.2.2.2.2.2.2.2.2.2.2.2.2.2.2.1
theorem dX7_doAct_38 : decode cX7_doAct 38 = .ok (.aload_n 0, 1) := g77_X7_doAct.2.2.2.2.2.2.2.2.2.2.2.2.2.2.2.2.2.2.1
theorem dX7_doAct_39 : decode cX7_doAct 39 = .ok (.getfield 29, 3) := g77_X7_doAct.2.2.2.2.2.2.2.2.2.2.2.2.2.2.2.2.2.2.2.1
theorem dX7_doAct_42 : decode cX7_doAct 42 = .ok (.invokevirtual 164, 3) := g77_X7_doAct.2.2.2.2.2.2.2.2.2.2.2.2.2.2.2.2.2.2.2.2.1
theorem dX7_doAct_45 : decode cX7_doAct 45 = .ok (.aload_n 0, 1) := g77_X7_doAct.2.2.2.2.2.2.2.2.2.2.2.2.2.2.2.2.2.2.2.2.2.1
theorem dX7_doAct_46 : decode cX7_doAct 46 = .ok (.getfield 29, 3) := g77_X7_doAct.2.2.2.2.2.2.2.2.2.2.2.2.2.2.2.2.2.2.2.2.2.2.1
theorem dX7_doAct_49 : decode cX7_doAct 49 = .ok (.dup, 1) := g77_X7_doAct.2.2.2.2.2.2.2.2.2.2.2.2.2.2.2.2.2.2.2.2.2.2.2.1
theorem dX7_doAct_50 : decode cX7_doAct 50 = .ok (.getfield 168, 3) := g77_X7_doAct.2.2.2.2.2.2.2.2.2.2.2.2.2.2.2.2.2.2.2.2.2.2.2.2.1
theorem dX7_doAct_53 : decode cX7_doAct 53 = .ok (.aload_n 0, 1) := g77_X7_doAct.2.2.2.2.2.2.2.2.2.2.2.2.2.2.2.2.2.2.2.2.2.2.2.2.2.1
theorem dX7_doAct_54 : decode cX7_doAct 54 = .ok (.getfield 23, 3) := g77_X7_doAct.2.2.2.2.2.2.2.2.2.2.2.2.2.2.2.2.2.2.2.2.2.2.2.2.2.2.1
theorem dX7_doAct_57 : decode cX7_doAct 57 = .ok (.iload_n 1, 1) := g77_X7_doAct.2.2.2.2.2.2.2.2.2.2.2.2.2.2.2.2.2.2.2.2.2.2.2.2.2.2.2.1
theorem dX7_doAct_58 : decode cX7_doAct 58 = .ok (.invokevirtual 160, 3) := g77_X7_doAct.2.2.2.2.2.2.2.2.2.2.2.2.2.2.2.2.2.2.2.2.2.2.2.2.2.2.2.2.1
theorem dX7_doAct_61 : decode cX7_doAct 61 = .ok (.i2l, 1) := g77_X7_doAct.2.2.2.2.2.2.2.2.2.2.2.2.2.2.2.2.2.2.2.2.2.2.2.2.2.2.2.2.2.1
theorem dX7_doAct_62 : decode cX7_doAct 62 = .ok (.ladd, 1) := g77_X7_doAct.2.2.2.2.2.2.2.2.2.2.2.2.2.2.2.2.2.2.2.2.2.2.2.2.2.2.2.2.2.2.1
theorem dX7_doAct_63 : decode cX7_doAct 63 = .ok (.putfield 168, 3) := g77_X7_doAct.2.2.2.2.2.2.2.2.2.2.2.2.2.2.2.2.2.2.2.2.2.2.2.2.2.2.2.2.2.2.2.1
theorem dX7_doAct_66 : decode cX7_doAct 66 = .ok (.aload_n 0, 1) := g77_X7_doAct.2.2.2.2.2.2.2.2.2.2.2.2.2.2.2.2.2.2.2.2.2.2.2.2.2.2.2.2.2.2.2.2.1
theorem dX7_doAct_67 : decode cX7_doAct 67 = .ok (.getfield 29, 3) := g77_X7_doAct.2.2.2.2.2.2.2.2.2.2.2.2.2.2.2.2.2.2.2.2.2.2.2.2.2.2.2.2.2.2.2.2.2.1
theorem dX7_doAct_70 : decode cX7_doAct 70 = .ok (.dup, 1) := g77_X7_doAct.2.2.2.2.2.2.2.2.2.2.2.2.2.2.2.2.2.2.2.2.2.2.2.2.2.2.2.2.2.2.2.2.2.2.1
theorem dX7_doAct_71 : decode cX7_doAct 71 = .ok (.getfield 174, 3) := g77_X7_doAct.2.2.2.2.2.2.2.2.2.2.2.2.2.2.2.2.2.2.2.2.2.2.2.2.2.2.2.2.2.2.2.2.2.2.2.1
theorem dX7_doAct_74 : decode cX7_doAct 74 = .ok (.aload_n 0, 1) := g77_X7_doAct.2.2.2.2.2.2.2.2.2.2.2.2.2.2.2.2.2.2.2.2.2.2.2.2.2.2.2.2.2.2.2.2.2.2.2.2.1
theorem dX7_doAct_75 : decode cX7_doAct 75 = .ok (.getfield 23, 3) := g77_X7_doAct.2.2.2.2.2.2.2.2.2.2.2.2.2.2.2.2.2.2.2.2.2.2.2.2.2.2.2.2.2.2.2.2.2.2.2.2.2.1
theorem dX7_doAct_78 : decode cX7_doAct 78 = .ok (.iload_n 1, 1) := g77_X7_doAct.2.2.2.2.2.2.2.2.2.2.2.2.2.2.2.2.2.2.2.2.2.2.2.2.2.2.2.2.2.2.2.2.2.2.2.2.2.2.1
theorem dX7_doAct_79 : decode cX7_doAct 79 = .ok (.iconst 0, 1) := g77_X7_doAct.2.2.2.2.2.2.2.2.2.2.2.2.2.2.2.2.2.2.2.2.2.2.2.2.2.2.2.2.2.2.2.2.2.2.2.2.2.2.2.1
theorem dX7_doAct_80 : decode cX7_doAct 80 = .ok (.invokevirtual 177, 3) := g77_X7_doAct.2.2.2.2.2.2.2.2.2.2.2.2.2.2.2.2.2.2.2.2.2.2.2.2.2.2.2.2.2.2.2.2.2.2.2.2.2.2.2.2.1
theorem dX7_doAct_83 : decode cX7_doAct 83 = .ok (.iadd, 1) := g77_X7_doAct.2.2.2.2.2.2.2.2.2.2.2.2.2.2.2.2.2.2.2.2.2.2.2.2.2.2.2.2.2.2.2.2.2.2.2.2.2.2.2.2.2.1
theorem dX7_doAct_84 : decode cX7_doAct 84 = .ok (.putfield 174, 3) := g77_X7_doAct.2.2.2.2.2.2.2.2.2.2.2.2.2.2.2.2.2.2.2.2.2.2.2.2.2.2.2.2.2.2.2.2.2.2.2.2.2.2.2.2.2.2.1
theorem dX7_doAct_87 : decode cX7_doAct 87 = .ok (.aload_n 0, 1) := g77_X7_doAct.2.2.2.2.2.2.2.2.2.2.2.2.2.2.2.2.2.2.2.2.2.2.2.2.2.2.2.2.2.2.2.2.2.2.2.2.2.2.2.2.2.2.2.1
theorem dX7_doAct_88 : decode cX7_doAct 88 = .ok (.getfield 29, 3) := g77_X7_doAct.2.2.2.2.2.2.2.2.2.2.2.2.2.2.2.2.2.2.2.2.2.2.2.2.2.2.2.2.2.2.2.2.2.2.2.2.2.2.2.2.2.2.2.2.1
theorem dX7_doAct_91 : decode cX7_doAct 91 = .ok (.dup, 1) := g77_X7_doAct.2.2.2.2.2.2.2.2.2.2.2.2.2.2.2.2.2.2.2.2.2.2.2.2.2.2.2.2.2.2.2.2.2.2.2.2.2.2.2.2.2.2.2.2.2.1
theorem dX7_doAct_92 : decode cX7_doAct 92 = .ok (.getfield 180, 3) := g77_X7_doAct.2.2.2.2.2.2.2.2.2.2.2.2.2.2.2.2.2.2.2.2.2.2.2.2.2.2.2.2.2.2.2.2.2.2.2.2.2.2.2.2.2.2.2.2.2.2.1
theorem dX7_doAct_95 : decode cX7_doAct 95 = .ok (.aload_n 0, 1) := g77_X7_doAct.2.2.2.2.2.2.2.2.2.2.2.2.2.2.2.2.2.2.2.2.2.2.2.2.2.2.2.2.2.2.2.2.2.2.2.2.2.2.2.2.2.2.2.2.2.2.2.1
theorem dX7_doAct_96 : decode cX7_doAct 96 = .ok (.getfield 23, 3) := g77_X7_doAct.2.2.2.2.2.2.2.2.2.2.2.2.2.2.2.2.2.2.2.2.2.2.2.2.2.2.2.2.2.2.2.2.2.2.2.2.2.2.2.2.2.2.2.2.2.2.2.2.1
theorem dX7_doAct_99 : decode cX7_doAct 99 = .ok (.iload_n 1, 1) := g77_X7_doAct.2.2.2.2.2.2.2.2.2.2.2.2.2.2.2.2.2.2.2.2.2.2.2.2.2.2.2.2.2.2.2.2.2.2.2.2.2.2.2.2.2.2.2.2.2.2.2.2.2.1
theorem dX7_doAct_100 : decode cX7_doAct 100 = .ok (.iconst 1, 1) := g77_X7_doAct.2.2.2.2.2.2.2.2.2.2.2.2.2.2.2.2.2.2.2.2.2.2.2.2.2.2.2.2.2.2.2.2.2.2.2.2.2.2.2.2.2.2.2.2.2.2.2.2.2.2.1
theorem dX7_doAct_101 : decode cX7_doAct 101 = .ok (.invokevirtual 177, 3) := g77_X7_doAct.2.2.2.2.2.2.2.2.2.2.2.2.2.2.2.2.2.2.2.2.2.2.2.2.2.2.2.2.2.2.2.2.2.2.2.2.2.2.2.2.2.2.2.2.2.2.2.2.2.2.2.1
theorem dX7_doAct_104 : decode cX7_doAct 104 = .ok (.iadd, 1) := g77_X7_doAct.2.2.2.2.2.2.2.2.2.2.2.2.2.2.2.2.2.2.2.2.2.2.2.2.2.2.2.2.2.2.2.2.2.2.2.2.2.2.2.2.2.2.2.2.2.2.2.2.2.2.2.2.1
theorem dX7_doAct_105 : decode cX7_doAct 105 = .ok (.putfield 180, 3) := g77_X7_doAct.2.2.2.2.2.2.2.2.2.2.2.2.2.2.2.2.2.2.2.2.2.2.2.2.2.2.2.2.2.2.2.2.2.2.2.2.2.2.2.2.2.2.2.2.2.2.2.2.2.2.2.2.2.1
theorem dX7_doAct_108 : decode cX7_doAct 108 = .ok (.aload_n 0, 1) := g77_X7_doAct.2.2.2.2.2.2.2.2.2.2.2.2.2.2.2.2.2.2.2.2.2.2.2.2.2.2.2.2.2.2.2.2.2.2.2.2.2.2.2.2.2.2.2.2.2.2.2.2.2.2.2.2.2.2.1
theorem dX7_doAct_109 : decode cX7_doAct 109 = .ok (.getfield 29, 3) := g77_X7_doAct.2.2.2.2.2.2.2.2.2.2.2.2.2.2.2.2.2.2.2.2.2.2.2.2.2.2.2.2.2.2.2.2.2.2.2.2.2.2.2.2.2.2.2.2.2.2.2.2.2.2.2.2.2.2.2.1
theorem dX7_doAct_112 : decode cX7_doAct 112 = .ok (.getfield 168, 3) := g77_X7_doAct.2.2.2.2.2.2.2.2.2.2.2.2.2.2.2.2.2.2.2.2.2.2.2.2.2.2.2.2.2.2.2.2.2.2.2.2.2.2.2.2.2.2.2.2.2.2.2.2.2.2.2.2.2.2.2.2.1
theorem dX7_doAct_115 : decode cX7_doAct 115 = .ok (.lreturn, 1) := g77_X7_doAct.2.2.2.2.2.2.2.2.2.2.2.2.2.2.2.2.2.2.2.2.2.2.2.2.2.2.2.2.2.2.2.2.2.2.2.2.2.2.2.2.2.2.2.2.2.2.2.2.2.2.2.2.2.2.2.2.2
set_option maxRecDepth 100000 in
theorem g78_X7_allow : decode cX7_allow 0 = .ok (.aload_n 0, 1) ∧ decode cX7_allow 1 = .ok (.iload_n 1, 1) ∧ decode cX7_allow 2 = .ok (.invokevirtual 112, 3) ∧ decode cX7_allow 5 = .ok (.ifCond .eq 10, 3) ∧ decode cX7_allow 8 = .ok (.iload_n 2, 1) ∧ decode cX7_allow 9 = .ok (.invokestatic 183, 3) ∧ decode cX7_allow 12 = .ok (.ifCond .ne 5, 3) ∧ decode cX7_allow 15 = .ok (.iconst (-1), 1) ∧ decode cX7_allow 16 = .ok (.ireturn, 1) ∧ decode cX7_allow 17 = .ok (.aload_n 0, 1) ∧ decode cX7_allow 18 = .ok (.getfield 29, 3) ∧ decode cX7_allow 21 = .ok (.getfield 116, 3) ∧ decode cX7_allow 24 = .ok (.iload_n 1, 1) ∧ decode cX7_allow 25 = .ok (.invokestatic 119, 3) ∧ decode cX7_allow 28 = .ok (.iload_n 2, 1) ∧ decode cX7_allow 29 = .ok (.ishr, 1) ∧ decode cX7_allow 30 = .ok (.iconst 1, 1) ∧ decode cX7_allow 31 = .ok (.iand, 1) ∧ decode cX7_allow 32 = .ok (.istore 4, 2) ∧ decode cX7_allow 34 = .ok (.aload_n 0, 1) ∧ decode cX7_allow 35 = .ok (.getfield 63, 3) ∧ decode cX7_allow 38 = .ok (.aload_n 0, 1) ∧ decode cX7_allow 39 = .ok (.getfield 29, 3) ∧ decode cX7_allow 42 = .ok (.invokevirtual 164, 3) ∧ decode cX7_allow 45 = .ok (.aload_n 0, 1) ∧ decode cX7_allow 46 = .ok (.getfield 29, 3) ∧ decode cX7_allow 49 = .ok (.iload_n 3, 1) ∧ decode cX7_allow 50 = .ok (.ifCond .eq 21, 3) ∧ decode cX7_allow 53 = .ok (.aload_n 0, 1) ∧ decode cX7_allow 54 = .ok (.getfield 29, 3) ∧ decode cX7_allow 57 = .ok (.getfield 116, 3) ∧ decode cX7_allow 60 = .ok (.iload_n 1, 1) ∧ decode cX7_allow 61 = .ok (.iconst 1, 1) ∧ decode cX7_allow 62 = .ok (.iload_n 2, 1) ∧ decode cX7_allow 63 = .ok (.ishl, 1) ∧ decode cX7_allow 64 = .ok (.invokestatic 186, 3) ∧ decode cX7_allow 67 = .ok (.ior, 1) ∧ decode cX7_allow 68 = .ok (.goto 20, 3) ∧ decode cX7_allow 71 = .ok (.aload_n 0, 1) ∧ decode cX7_allow 72 = .ok (.getfield 29, 3) ∧ decode cX7_allow 75 = .ok (.getfield 116, 3) ∧ decode cX7_allow 78 = .ok (.iload_n 1, 1) ∧ decode cX7_allow 79 = .ok (.iconst 1, 1) ∧ decode cX7_allow 80 = .ok (.iload_n 2, 1) ∧ decode cX7_allow 81 = .ok (.ishl, 1) ∧ decode cX7_allow 82 = .ok (.invokestatic 186, 3) ∧ decode cX7_allow 85 = .ok (.iconst (-1), 1) ∧ decode cX7_allow 86 = .ok (.ixor, 1) ∧ decode cX7_allow 87 = .ok (.iand, 1) ∧ decode cX7_allow 88 = .ok (.putfield 116, 3) ∧ decode cX7_allow 91 = .ok (.iload 4, 2) ∧ decode cX7_allow 93 = .ok (.ireturn, 1) := by decide +kernel
theorem dX7_allow_0 : decode cX7_allow 0 = .ok (.aload_n 0, 1) := g78_X7_allow.1
theorem dX7_allow_1 : decode cX7_allow 1 = .ok (.iload_n 1, 1) := g78_X7_allow.2.1
theorem dX7_allow_2 : decode cX7_allow 2 = .ok (.invokevirtual 112, 3) := g78_X7_allow.2.2.1
theorem dX7_allow_5 : decode cX7_allow 5 = .ok (.ifCond .eq 10, 3) := g78_X7_allow.2.2.2.1
theorem dX7_allow_8 : decode cX7_allow 8 = .ok (.iload_n 2, 1) := g78_X7_allow.2.2.2.2.1
theorem dX7_allow_9 : decode cX7_allow 9 = .ok (.invokestatic 183, 3) := g78_X7_allow.2.2.2.2.2.1
theorem dX7_allow_12 : decode cX7_allow 12 = .ok (.ifCond .ne 5, 3) := g78_X7_allow.2.2.2.2.2.2.1
theorem dX7_allow_15 : decode cX7_allow 15 = .ok (.iconst (-1), 1) := g78_X7_allow.2.2.2.2.2.2.2.1
theorem dX7_allow_16 : decode cX7_allow 16 = .ok (.ireturn, 1) := g78_X7_allow.2.2.2.2.2.2.2.2.1
theorem dX7_allow_17 : decode cX7_allow 17 = .ok (.aload_n 0, 1) := g78_X7_allow.2.2.2.2.2.2.2.2.2.1
theorem dX7_allow_18 : decode cX7_allow 18 = .ok (.getfield 29, 3) := g78_X7_allow.2.2.2.2.2.2.2.2.2.2.1
theorem dX7_allow_21 : decode cX7_allow 21 = .ok (.getfield 116, 3) := g78_X7_allow.2.2.2.2.2.2.2.2.2.2.2.1
theorem dX7_allow_24 : decode cX7_allow 24 = .ok (.iload_n 1, 1) := g78_X7_allow.2.2.2.2.2.2.2.2.2.2.2.2.1
theorem dX7_allow_25 : decode cX7_allow 25 = .ok (.invokestatic 119, 3) := g78_X7_allow.2.2.2.2.2.2.2.2.2.2.2.2.2.1
theorem dX7_allow_28 : decode cX7_allow 28 = .ok (.iload_n 2, 1) := g78_X7_allow.2.2.2.2.2.2.2.2.2.2.2.2.2.2.1
theorem dX7_allow_29 : decode cX7_allow 29 = .ok (.ishr, 1) := g78_X7_allow.2.2.2.2.2.2.2.2.2.2.2.2.2.2.2.1
theorem dX7_allow_30 : decode cX7_allow 30 = .ok (.iconst 1, 1) := g78_X7_allow.2.2.2.2.2.2.2.2.2.2.2.2.2.2.2.2.1
theorem dX7_allow_31 : decode cX7_allow 31 = .ok (.iand, 1) := g78_X7_allow.2.2.2.2.2.2.2.2.2.2.2.2.2.2.2.2.2.1
theorem dX7_allow_32 : decode cX7_allow 32 = .ok (.istore 4, 2) := g78_X7_allow.2.2.2.2.2.2.2.2.2.2.2.2.2.2.2.2.2.2.1
theorem dX7_allow_34 : decode cX7_allow 34 = .ok (.aload_n 0, 1) := g78_X7_allow.2.2.2.2.2.2.2.2.2.2.2.2.2.2.2.2.2.2.2.1
theorem dX7_allow_35 : decode cX7_allow 35 = .ok (.getfield 63, 3) := g78_X7_allow.2.2.2.2.2.2.2.2.2.2.2.2.2.2.2.2.2.2.2.2.1
theorem dX7_allow_38 : decode cX7_allow 38 = .ok (.aload_n 0, 1) := g78_X7_allow.2.2.2.2.2.2.2.2.2.2.2.2.2.2.2.2.2.2.2.2.2.1
theorem dX7_allow_39 : decode cX7_allow 39 = .ok (.getfield 29, 3) := g78_X7_allow.2.2.2.2.2.2.2.2.2.2.2.2.2.2.2.2.2.2.2.2.2.2.1
theorem dX7_allow_42 : decode cX7_allow 42 = .ok (.invokevirtual 164, 3) := g78_X7_allow.2.2.2.2.2.2.2.2.2.2.2.2.2.2.2.2.2.2.2.2.2.2.2.1
theorem dX7_allow_45 : decode cX7_allow 45 = .ok (.aload_n 0, 1) := g78_X7_allow.2.2.2.2.2.2.2.2.2.2.2.2.2.2.2.2.2.2.2.2.2.2.2.2.1
theorem dX7_allow_46 : decode cX7_allow 46 = .ok (.getfield 29, 3) := g78_X7_allow.2.2.2.2.2.2.2.2.2.2.2.2.2.2.2.2.2.2.2.2.2.2.2.2.2.1
theorem dX7_allow_49 : decode cX7_allow 49 = .ok (.iload_n 3, 1) := g78_X7_allow.2.2.2.2.2.2.2.2.2.2.2.2.2.2.2.2.2.2.2.2.2.2.2.2.2.2.1
theorem dX7_allow_50 : decode cX7_allow 50 = .ok (.ifCond .eq 21, 3) := g78_X7_allow.2.2.2.2.2.2.2.2.2.2.2.2.2.2.2.2.2.2.2.2.2.2.2.2.2.2.2.1
theorem dX7_allow_53 : decode cX7_allow 53 = .ok (.aload_n 0, 1) := g78_X7_allow.2.2.2.2.2.2.2.2.2.2.2.2.2.2.2.2.2.2.2.2.2.2.2.2.2.2.2.2.1
theorem dX7_allow_54 : decode cX7_allow 54 = .ok (.getfield 29, 3) := g78_X7_allow.2.2.2.2.2.2.2.2.2.2.2.2.2.2.2.2.2.2.2.2.2.2.2.2.2.2.2.2.2.1
theorem dX7_allow_57 : decode cX7_allow 57 = .ok (.getfield 116, 3) := g78_X7_allow.2.2.2.2.2.2.2.2.2.2.2.2.2.2.2.2.2.2.2.2.2.2.2.2.2.2.2.2.2.2.1
theorem dX7_allow_60 : decode cX7_allow 60 = .ok (.iload_n 1, 1) := g78_X7_allow.2.2.2.2.2.2.2.2.2.2.2.2.2.2.2.2.2.2.2.2.2.2.2.2.2.2.2.2.2.2.2.1
theorem dX7_allow_61 : decode cX7_allow 61 = .ok (.iconst 1, 1) := g78_X7_allow.2.2.2.2.2.2.2.2.2.2.2.2.2.2.2.2.2.2.2.2.2.2.2.2.2.2.2.2.2.2.2.2.1
theorem dX7_allow_62 : decode cX7_allow 62 = .ok (.iload_n 2, 1) := g78_X7_allow.2.2.2.2.2.2.2.2.2.2.2.2.2.2.2.2.2.2.2.2.2.2.2.2.2.2.2.2.2.2.2.2.2.1
theorem dX7_allow_63 : decode cX7_allow 63 = .ok (.ishl, 1) := g78_X7_allow.2.2.2.2.2.2.2.2.2.2.2.2.2.2.2.2.2.2.2.2.2.2.2.2.2.2.2.2.2.2.2.2.2.2.1
theorem dX7_allow_64 : decode cX7_allow 64 = .ok (.invokestatic 186, 3) := g78_X7_allow.2.2.2.2.2.2.2.2.2.2.2.2.2.2.2.2.2.2.2.2.2.2.2.2.2.2.2.2.2.2.2.2.2.2.2.1
theorem dX7_allow_67 : decode cX7_allow 67 = .ok (.ior, 1) := g78_X7_allow.2.2.2.2.2.2.2.2.2.2.2.2.2.2.2.2.2.2.2.2.2.2.2.2.2.2.2.2.2.2.2.2.2.2.2.2.1
theorem dX7_allow_68 : decode cX7_allow 68 = .ok (.goto 20, 3) := g78_X7_allow.2.2.2.2.2.2.2.2.2.2.2.2.2.2.2.2.2.2.2.2.2.2.2.2.2.2.2.2.2.2.2.2.2.2.2.2.2.1
theorem dX7_allow_71 : decode cX7_allow 71 = .ok (.aload_n 0, 1) := g78_X7_allow.2.2.2.2.2.2.2.2.2.2.2.2.2.2.2.2.2.2.2.2.2.2.2.2.2.2.2.2.2.2.2.2.2.2.2.2.2.2.1
theorem dX7_allow_72 : decode cX7_allow 72 = .ok (.getfield 29, 3) := g78_X7_allow.2.2.2.2.2.2.2.2.2.2.2.2.2.2.2.2.2.2.2.2.2.2.2.2.2.2.2.2.2.2.2.2.2.2.2.2.2.2.2.1
theorem dX7_allow_75 : decode cX7_allow 75 = .ok (.getfield 116, 3) := g78_X7_allow.2.2.2.2.2.2.2.2.2.2.2.2.2.2.2.2.2.2.2.2.2.2.2.2.2.2.2.2.2.2.2.2.2.2.2.2.2.2.2.2.1
theorem dX7_allow_78 : decode cX7_allow 78 = .ok (.iload_n 1, 1) := g78_X7_allow.2.2.2.2.2.2.2.2.2.2.2.2.2.2.2.2.2.2.2.2.2.2.2.2.2.2.2.2.2.2.2.2.2.2.2.2.2.2.2.2.2.1
theorem dX7_allow_79 : decode cX7_allow 79 = .ok (.iconst 1, 1) := g78_X7_allow.2.2.2.2.2.2.2.2.2.2.2.2.2.2.2.2.2.2.2.2.2.2.2.2.2.2.2.2.2.2.2.2.2.2.2.2.2.2.2.2.2.2.1
theorem dX7_allow_80 : decode cX7_allow 80 = .ok (.iload_n 2, 1) := g78_X7_allow.2.2.2.2.2.2.2.2.2.2.2.2.2.2.2.2.2.2.2.2.2.2.2.2.2.2.2.2.2.2.2.2.2.2.2.2.2.2.2.2.2.2.2.1
theorem dX7_allow_81 : decode cX7_allow 81 = .ok (.ishl, 1) := g78_X7_allow.2.2.2.2.2.2.2.2.2.2.2.2.2.2.2.2.2.2.2.2.2.2.2.2.2.2.2.2.2.2.2.2.2.2.2.2.2.2.2.2.2.2.2.2.1
theorem dX7_allow_82 : decode cX7_allow 82 = .ok (.invokestatic 186, 3) := g78_X7_allow.2.2.2.2.2.2.2.2.2.2.2.2.2.2.2.2.2.2.2.2.2.2.2.2.2.2.2.2.2.2.2.2.2.2.2.2.2.2.2.2.2.2.2.2.2.1
theorem dX7_allow_85 : decode cX7_allow 85 = .ok (.iconst (-1), 1) := g78_X7_allow.2.2.2.2.2.2.2.2.2.2.2.2.2.2.2.2.2.2.2.2.2.2.2.2.2.2.2.2.2.2.2.2.2.2.2.2.2.2.2.2.2.2.2.2.2.2.1
theorem dX7_allow_86 : decode cX7_allow 86 = .ok (.ixor, 1) := g78_X7_allow.2.2.2.2.2.2.2.2.2.2.2.2.2.2.2.2.2.2.2.2.2.2.2.2.2.2.2.2.2.2.2.2.2.2.2.2.2.2.2.2.2.2.2.2.2.2.2.1
theorem dX7_allow_87 : decode cX7_allow 87 = .ok (.iand, 1) := g78_X7_allow.2.2.2.2.2.2.2.2.2.2.2.2.2.2.2.2.2.2.2.2.2.2.2.2.2.2.2.2.2.2.2.2.2.2.2.2.2.2.2.2.2.2.2.2.2.2.2.2.1
theorem dX7_allow_88 : decode cX7_allow 88 = .ok (.putfield 116, 3) := g78_X7_allow.2.2.2.2.2.2.2.2.2.2.2.2.2.2.2.2.2.2.2.2.2.2.2.2.2.2.2.2.2.2.2.2.2.2.2.2.2.2.2.2.2.2.2.2.2.2.2.2.2.1
theorem dX7_allow_91 : decode cX7_allow 91 = .ok (.iload 4, 2) := g78_X7_allow.2.2.2.2.2.2.2.2.2.2.2.2.2.2.2.2.2.2.2.2.2.2.2.2.2.2.2.2.2.2.2.2.2.2.2.2.2.2.2.2.2.2.2.2.2.2.2.2.2.2.1
theorem dX7_allow_93 : decode cX7_allow 93 = .ok (.ireturn, 1) := g78_X7_allow.2.2.2.2.2.2.2.2.2.2.2.2.2.2.2.2.2.2.2.2.2.2.2.2.2.2.2.2.2.2.2.2.2.2.2.2.2.2.2.2.2.2.2.2.2.2.2.2.2.2.2
set_option maxRecDepth 100000 in
theorem g79_X7_undo : decode cX7_undo 0 = .ok (.aload_n 0, 1) ∧ decode cX7_undo 1 = .ok (.getfield 63, 3) ∧ decode cX7_undo 4 = .ok (.getfield 189, 3) ∧ decode cX7_undo 7 = .ok (.ifCond .ne 6, 3) ∧ decode cX7_undo 10 = .ok (.bipush (-2), 2) ∧ decode cX7_undo 12 = .ok (.ireturn, 1) ∧ decode cX7_undo 13 = .ok (.aload_n 0, 1) ∧ decode cX7_undo 14 = .ok (.getfield 29, 3) ∧ decode cX7_undo 17 = .ok (.getfield 126, 3) ∧ decode cX7_undo 20 = .ok (.istore_n 1, 1) ∧ decode cX7_undo 21 = .ok (.aload_n 0, 1) ∧ decode cX7_undo 22 = .ok (.getfield 63, 3) ∧ decode cX7_undo 25 = .ok (.aload_n 0, 1) ∧ decode cX7_undo 26 = .ok (.getfield 29, 3) ∧ decode cX7_undo 29 = .ok (.invokevirtual 192, 3) ∧ decode cX7_undo 32 = .ok (.aload_n 0, 1) ∧ decode cX7_undo 33 = .ok (.getfield 29, 3) ∧ decode cX7_undo 36 = .ok (.iload_n 1, 1) ∧ decode cX7_undo 37 = .ok (.putfield 126, 3) ∧ decode cX7_undo 40 = .ok (.aload_n 0, 1) ∧ decode cX7_undo 41 = .ok (.getfield 63, 3) ∧ decode cX7_undo 44 = .ok (.getfield 189, 3) ∧ decode cX7_undo 47 = .ok (.ireturn, 1) := by decide +kernel
theorem dX7_undo_0 : decode cX7_undo 0 = .ok (.aload_n 0, 1) := g79_X7_undo.1
theorem dX7_undo_1 : decode cX7_undo 1 = .ok (.getfield 63, 3) := g79_X7_undo.2.1
theorem dX7_undo_4 : decode cX7_undo 4 = .ok (.getfield 189, 3) := g79_X7_undo.2.2.1
theorem dX7_undo_7 : decode cX7_undo 7 = .ok (.ifCond .ne 6, 3) := g79_X7_undo.2.2.2.1
theorem dX7_undo_10 : decode cX7_undo 10 = .ok (.bipush (-2), 2) := g79_X7_undo.2.2.2.2.1
theorem dX7_undo_12 : decode cX7_undo 12 = .ok (.ireturn, 1) := g79_X7_undo.2.2.2.2.2.1
theorem dX7_undo_13 : decode cX7_undo 13 = .ok (.aload_n 0, 1) := g79_X7_undo.2.2.2.2.2.2.1
theorem dX7_undo_14 : decode cX7_undo 14 = .ok (.getfield 29, 3) := g79_X7_undo.2.2.2.2.2.2.2.1
theorem dX7_undo_17 : decode cX7_undo 17 = .ok (.getfield 126, 3) := g79_X7_undo.2.2.2.2.2.2.2.2.1
theorem dX7_undo_20 : decode cX7_undo 20 = .ok (.istore_n 1, 1) := g79_X7_undo.2.2.2.2.2.2.2.2.2.1
theorem dX7_undo_21 : decode cX7_undo 21 = .ok (.aload_n 0, 1) := g79_X7_undo.2.2.2.2.2.2.2.2.2.2.1
theorem dX7_undo_22 : decode cX7_undo 22 = .ok (.getfield 63, 3) := g79_X7_undo.2.2.2.2.2.2.2.2.2.2.2.1
theorem dX7_undo_25 : decode cX7_undo 25 = .ok (.aload_n 0, 1) := g79_X7_undo.2.2.2.2.2.2.2.2.2.2.2.2.1
theorem dX7_undo_26 : decode cX7_undo 26 = .ok (.getfield 29, 3) := g79_X7_undo.2.2.2.2.2.2.2.2.2.2.2.2.2.1
theorem dX7_undo_29 : decode cX7_undo 29 = .ok (.invokevirtual 192, 3) := g79_X7_undo.2.2.2.2.2.2.2.2.2.2.2.2.2.2.1
theorem dX7_undo_32 : decode cX7_undo 32 = .ok (.aload_n 0, 1) := g79_X7_undo.2.2.2.2.2.2.2.2.2.2.2.2.2.2.2.1
theorem dX7_undo_33 : decode cX7_undo 33 = .ok (.getfield 29, 3) := g79_X7_undo.2.2.2.2.2.2.2.2.2.2.2.2.2.2.2.2.1
theorem dX7_undo_36 : decode cX7_undo 36 = .ok (.iload_n 1, 1) := g79_X7_undo.2.2.2.2.2.2.2.2.2.2.2.2.2.2.2.2.2.1
theorem dX7_undo_37 : decode cX7_undo 37 = .ok (.putfield 126, 3) := g79_X7_undo.2.2.2.2.2.2.2.2.2.2.2.2.2.2.2.2.2.2.1
theorem dX7_undo_40 : decode cX7_undo 40 = .ok (.aload_n 0, 1) := g79_X7_undo.2.2.2.2.2.2.2.2.2.2.2.2.2.2.2.2.2.2.2.1
theorem dX7_undo_41 : decode cX7_undo 41 = .ok (.getfield 63, 3) := g79_X7_undo.2.2.2.2.2.2.2.2.2.2.2.2.2.2.2.2.2.2.2.2.1
theorem dX7_undo_44 : decode cX7_undo 44 = .ok (.getfield 189, 3) := g79_X7_undo.2.2.2.2.2.2.2.2.2.2.2.2.2.2.2.2.2.2.2.2.2.1
theorem dX7_undo_47 : decode cX7_undo 47 = .ok (.ireturn, 1) := g79_X7_undo.2.2.2.2.2.2.2.2.2.2.2.2.2.2.2.2.2.2.2.2.2.2
set_option maxRecDepth 100000 in
theorem g80_X7_gain : decode cX7_gain 0 = .ok (.iload_n 1, 1) ∧ decode cX7_gain 1 = .ok (.invokestatic 183, 3) ∧ decode cX7_gain 4 = .ok (.ifCond .eq 25, 3) ∧ decode cX7_gain 7 = .ok (.aload_n 0, 1) ∧ decode cX7_gain 8 = .ok (.getfield 45, 3) ∧ decode cX7_gain 11 = .ok (.aload_n 0, 1) ∧ decode cX7_gain 12 = .ok (.getfield 29, 3) ∧ decode cX7_gain 15 = .ok (.getfield 116, 3) ∧ decode cX7_gain 18 = .ok (.iload_n 1, 1) ∧ decode cX7_gain 19 = .ok (.invokevirtual 195, 3) ∧ decode cX7_gain 22 = .ok (.sipush 1000, 3) ∧ decode cX7_gain 25 = .ok (.iadd, 1) ∧ decode cX7_gain 26 = .ok (.goto 4, 3) ∧ decode cX7_gain 29 = .ok (.iconst (-1), 1) ∧ decode cX7_gain 30 = .ok (.ireturn, 1) := by decide +kernel
theorem dX7_gain_0 : decode cX7_gain 0 = .ok (.iload_n 1, 1) := g80_X7_gain.1
theorem dX7_gain_1 : decode cX7_gain 1 = .ok (.invokestatic 183, 3) := g80_X7_gain.2.1
theorem dX7_gain_4 : decode cX7_gain 4 = .ok (.ifCond .eq 25, 3) := g80_X7_gain.2.2.1
theorem dX7_gain_7 : decode cX7_gain 7 = .ok (.aload_n 0, 1) := g80_X7_gain.2.2.2.1
theorem dX7_gain_8 : decode cX7_gain 8 = .ok (.getfield 45, 3) := g80_X7_gain.2.2.2.2.1
theorem dX7_gain_11 : decode cX7_gain 11 = .ok (.aload_n 0, 1) := g80_X7_gain.2.2.2.2.2.1
theorem dX7_gain_12 : decode cX7_gain 12 = .ok (.getfield 29, 3) := g80_X7_gain.2.2.2.2.2.2.1
theorem dX7_gain_15 : decode cX7_gain 15 = .ok (.getfield 116, 3) := g80_X7_gain.2.2.2.2.2.2.2.1
theorem dX7_gain_18 : decode cX7_gain 18 = .ok (.iload_n 1, 1) := g80_X7_gain.2.2.2.2.2.2.2.2.1
theorem dX7_gain_19 : decode cX7_gain 19 = .ok (.invokevirtual 195, 3) := g80_X7_gain.2.2.2.2.2.2.2.2.2.1
theorem dX7_gain_22 : decode cX7_gain 22 = .ok (.sipush 1000, 3) := g80_X7_gain.2.2.2.2.2.2.2.2.2.2.1
theorem dX7_gain_25 : decode cX7_gain 25 = .ok (.iadd, 1) := g80_X7_gain.2.2.2.2.2.2.2.2.2.2.2.1
theorem dX7_gain_26 : decode cX7_gain 26 = .ok (.goto 4, 3) := g80_X7_gain.2.2.2.2.2.2.2.2.2.2.2.2.1
theorem dX7_gain_29 : decode cX7_gain 29 = .ok (.iconst (-1), 1) := g80_X7_gain.2.2.2.2.2.2.2.2.2.2.2.2.2.1
theorem dX7_gain_30 : decode cX7_gain 30 = .ok (.ireturn, 1) := g80_X7_gain.2.2.2.2.2.2.2.2.2.2.2.2.2.2
set_option maxRecDepth 100000 in
theorem g81_X7_forbid : decode cX7_forbid 0 = .ok (.aload_n 0, 1) ∧ decode cX7_forbid 1 = .ok (.iload_n 1, 1) ∧ decode cX7_forbid 2 = .ok (.invokevirtual 198, 3) ∧ decode cX7_forbid 5 = .ok (.ifCond .eq 18, 3) ∧ decode cX7_forbid 8 = .ok (.aload_n 0, 1) ∧ decode cX7_forbid 9 = .ok (.iload_n 2, 1) ∧ decode cX7_forbid 10 = .ok (.invokevirtual 198, 3) ∧ decode cX7_forbid 13 = .ok (.ifCond .eq 10, 3) ∧ decode cX7_forbid 16 = .ok (.iload_n 3, 1) ∧ decode cX7_forbid 17 = .ok (.invokestatic 183, 3) ∧ decode cX7_forbid 20 = .ok (.ifCond .ne 5, 3) ∧ decode cX7_forbid 23 = .ok (.iconst (-1), 1) ∧ decode cX7_forbid 24 = .ok (.ireturn, 1) ∧ decode cX7_forbid 25 = .ok (.aload_n 0, 1) ∧ decode cX7_forbid 26 = .ok (.getfield 45, 3) ∧ decode cX7_forbid 29 = .ok (.iload_n 1, 1) ∧ decode cX7_forbid 30 = .ok (.iload_n 2, 1) ∧ decode cX7_forbid 31 = .ok (.iload_n 3, 1) ∧ decode cX7_forbid 32 = .ok (.invokevirtual 201, 3) ∧ decode cX7_forbid 35 = .ok (.sipush 1000, 3) ∧ decode cX7_forbid 38 = .ok (.iadd, 1) ∧ decode cX7_forbid 39 = .ok (.ireturn, 1) := by decide +kernel
theorem dX7_forbid_0 : decode cX7_forbid 0 = .ok (.aload_n 0, 1) := g81_X7_forbid.1
theorem dX7_forbid_1 : decode cX7_forbid 1 = .ok (.iload_n 1, 1) := g81_X7_forbid.2.1
theorem dX7_forbid_2 : decode cX7_forbid 2 = .ok (.invokevirtual 198, 3) := g81_X7_forbid.2.2.1
theorem dX7_forbid_5 : decode cX7_forbid 5 = .ok (.ifCond .eq 18, 3) := g81_X7_forbid.2.2.2.1
theorem dX7_forbid_8 : decode cX7_forbid 8 = .ok (.aload_n 0, 1) := g81_X7_forbid.2.2.2.2.1
theorem dX7_forbid_9 : decode cX7_forbid 9 = .ok (.iload_n 2, 1) := g81_X7_forbid.2.2.2.2.2.1
theorem dX7_forbid_10 : decode cX7_forbid 10 = .ok (.invokevirtual 198, 3) := g81_X7_forbid.2.2.2.2.2.2.1
theorem dX7_forbid_13 : decode cX7_forbid 13 = .ok (.ifCond .eq 10, 3) := g81_X7_forbid.2.2.2.2.2.2.2.1
theorem dX7_forbid_16 : decode cX7_forbid 16 = .ok (.iload_n 3, 1) := g81_X7_forbid.2.2.2.2.2.2.2.2.1
theorem dX7_forbid_17 : decode cX7_forbid 17 = .ok (.invokestatic 183, 3) := g81_X7_forbid.2.2.2.2.2.2.2.2.2.1
theorem dX7_forbid_20 : decode cX7_forbid 20 = .ok (.ifCond .ne 5, 3) := g81_X7_forbid.2.2.2.2.2.2.2.2.2.2.1
theorem dX7_forbid_23 : decode cX7_forbid 23 = .ok (.iconst (-1), 1) := g81_X7_forbid.2.2.2.2.2.2.2.2.2.2.2.1
theorem dX7_forbid_24 : decode cX7_forbid 24 = .ok (.ireturn, 1) := g81_X7_forbid.2.2.2.2.2.2.2.2.2.2.2.2.1
theorem dX7_forbid_25 : decode cX7_forbid 25 = .ok (.aload_n 0, 1) := g81_X7_forbid.2.2.2.2.2.2.2.2.2.2.2.2.2.1
theorem dX7_forbid_26 : decode cX7_forbid 26 = .ok (.getfield 45, 3) := g81_X7_forbid.2.2.2.2.2.2.2.2.2.2.2.2.2.2.1
theorem dX7_forbid_29 : decode cX7_forbid 29 = .ok (.iload_n 1, 1) := g81_X7_forbid.2.2.2.2.2.2.2.2.2.2.2.2.2.2.2.1
theorem dX7_forbid_30 : decode cX7_forbid 30 = .ok (.iload_n 2, 1) := g81_X7_forbid.2.2.2.2.2.2.2.2.2.2.2.2.2.2.2.2.1
theorem dX7_forbid_31 : decode cX7_forbid 31 = .ok (.iload_n 3, 1) := g81_X7_forbid.2.2.2.2.2.2.2.2.2.2.2.2.2.2.2.2.2.1
theorem dX7_forbid_32 : decode cX7_forbid 32 = .ok (.invokevirtual 201, 3) := g81_X7_forbid.2.2.2.2.2.2.2.2.2.2.2.2.2.2.2.2.2.2.1
theorem dX7_forbid_35 : decode cX7_forbid 35 = .ok (.sipush 1000, 3) := g81_X7_forbid.2.2.2.2.2.2.2.2.2.2.2.2.2.2.2.2.2.2.2.1
theorem dX7_forbid_38 : decode cX7_forbid 38 = .ok (.iadd, 1) := g81_X7_forbid.2.2.2.2.2.2.2.2.2.2.2.2.2.2.2.2.2.2.2.2.1
theorem dX7_forbid_39 : decode cX7_forbid 39 = .ok (.ireturn, 1) := g81_X7_forbid.2.2.2.2.2.2.2.2.2.2.2.2.2.2.2.2.2.2.2.2.2
set_option maxRecDepth 100000 in
theorem g82_X7_rests : decode cX7_rests 0 = .ok (.iload_n 1, 1) ∧ decode cX7_rests 1 = .ok (.ifCond .lt 8, 3) ∧ decode cX7_rests 4 = .ok (.iload_n 1, 1) ∧ decode cX7_rests 5 = .ok (.iconst 2, 1) ∧ decode cX7_rests 6 = .ok (.if_icmp .le 5, 3) ∧ decode cX7_rests 9 = .ok (.iconst (-1), 1) ∧ decode cX7_rests 10 = .ok (.ireturn, 1) ∧ decode cX7_rests 11 = .ok (.iload_n 1, 1) ∧ decode cX7_rests 12 = .ok (.ifCond .ne 11, 3) ∧ decode cX7_rests 15 = .ok (.aload_n 0, 1) ∧ decode cX7_rests 16 = .ok (.getfield 45, 3) ∧ decode cX7_rests 19 = .ok (.invokevirtual 205, 3) ∧ decode cX7_rests 22 = .ok (.ireturn, 1) ∧ decode cX7_rests 23 = .ok (.aload_n 0, 1) ∧ decode cX7_rests 24 = .ok (.getfield 45, 3) ∧ decode cX7_rests 27 = .ok (.iload_n 1, 1) ∧ decode cX7_rests 28 = .ok (.iconst 1, 1) ∧ decode cX7_rests 29 = .ok (.if_icmp .ne 7, 3) ∧ decode cX7_rests 32 = .ok (.iconst 0, 1) ∧ decode cX7_rests 33 = .ok (.goto 4, 3) ∧ decode cX7_rests 36 = .ok (.iconst 1, 1) ∧ decode cX7_rests 37 = .ok (.invokevirtual 208, 3) ∧ decode cX7_rests 40 = .ok (.istore_n 2, 1) ∧ decode cX7_rests 41 = .ok (.iload_n 2, 1) ∧ decode cX7_rests 42 = .ok (.ifCond .ge 8, 3) ∧ decode cX7_rests 45 = .ok (.bipush (-4), 2) ∧ decode cX7_rests 47 = .ok (.goto 4, 3) ∧ decode cX7_rests 50 = .ok (.iload_n 2, 1) ∧ decode cX7_rests 51 = .ok (.ireturn, 1) := by decide +kernel
theorem dX7_rests_0 : decode cX7_rests 0 = .ok (.iload_n 1, 1) := g82_X7_rests.1
theorem dX7_rests_1 : decode cX7_rests 1 = .ok (.ifCond .lt 8, 3) := g82_X7_rests.2.1
theorem dX7_rests_4 : decode cX7_rests 4 = .ok (.iload_n 1, 1) := g82_X7_rests.2.2.1
theorem dX7_rests_5 : decode cX7_rests 5 = .ok (.iconst 2, 1) := g82_X7_rests.2.2.2.1
theorem dX7_rests_6 : decode cX7_rests 6 = .ok (.if_icmp .le 5, 3) := g82_X7_rests.2.2.2.2.1
theorem dX7_rests_9 : decode cX7_rests 9 = .ok (.iconst (-1), 1) := g82_X7_rests.2.2.2.2.2.1
theorem dX7_rests_10 : decode cX7_rests 10 = .ok (.ireturn, 1) := g82_X7_rests.2.2.2.2.2.2.1
theorem dX7_rests_11 : decode cX7_rests 11 = .ok (.iload_n 1, 1) := g82_X7_rests.2.2.2.2.2.2.2.1
theorem dX7_rests_12 : decode cX7_rests 12 = .ok (.ifCond .ne 11, 3) := g82_X7_rests.2.2.2.2.2.2.2.2.1
theorem dX7_rests_15 : decode cX7_rests 15 = .ok (.aload_n 0, 1) := g82_X7_rests.2.2.2.2.2.2.2.2.2.1
theorem dX7_rests_16 : decode cX7_rests 16 = .ok (.getfield 45, 3) := g82_X7_rests.2.2.2.2.2.2.2.2.2.2.1
theorem dX7_rests_19 : decode cX7_rests 19 = .ok (.invokevirtual 205, 3) := g82_X7_rests.2.2.2.2.2.2.2.2.2.2.2.1
theorem dX7_rests_22 : decode cX7_rests 22 = .ok (.ireturn, 1) := g82_X7_rests.2.2.2.2.2.2.2.2.2.2.2.2.1
theorem dX7_rests_23 : decode cX7_rests 23 = .ok (.aload_n 0, 1) := g82_X7_rests.2.2.2.2.2.2.2.2.2.2.2.2.2.1
theorem dX7_rests_24 : decode cX7_rests 24 = .ok (.getfield 45, 3) := g82_X7_rests.2.2.2.2.2.2.2.2.2.2.2.2.2.2.1
theorem dX7_rests_27 : decode cX7_rests 27 = .ok (.iload_n 1, 1) := g82_X7_rests.2.2.2.2.2.2.2.2.2.2.2.2.2.2.2.1
theorem dX7_rests_28 : decode cX7_rests 28 = .ok (.iconst 1, 1) := g82_X7_rests.2.2.2.2.2.2.2.2.2.2.2.2.2.2.2.2.1
theorem dX7_rests_29 : decode cX7_rests 29 = .ok (.if_icmp .ne 7, 3) := g82_X7_rests.2.2.2.2.2.2.2.2.2.2.2.2.2.2.2.2.2.1
theorem dX7_rests_32 : decode cX7_rests 32 = .ok (.iconst 0, 1) := g82_X7_rests.2.2.2.2.2.2.2.2.2.2.2.2.2.2.2.2.2.2.1
theorem dX7_rests_33 : decode cX7_rests 33 = .ok (.goto 4, 3) := g82_X7_rests.2.2.2.2.2.2.2.2.2.2.2.2.2.2.2.2.2.2.2.1
theorem dX7_rests_36 : decode cX7_rests 36 = .ok (.iconst 1, 1) := g82_X7_rests.2.2.2.2.2.2.2.2.2.2.2.2.2.2.2.2.2.2.2.2.1
theorem dX7_rests_37 : decode cX7_rests 37 = .ok (.invokevirtual 208, 3) := g82_X7_rests.2.2.2.2.2.2.2.2.2.2.2.2.2.2.2.2.2.2.2.2.2.1
theorem dX7_rests_40 : decode cX7_rests 40 = .ok (.istore_n 2, 1) := g82_X7_rests.2.2.2.2.2.2.2.2.2.2.2.2.2.2.2.2.2.2.2.2.2.2.1
theorem dX7_rests_41 : decode cX7_rests 41 = .ok (.iload_n 2, 1) := g82_X7_rests.2.2.2.2.2.2.2.2.2.2.2.2.2.2.2.2.2.2.2.2.2.2.2.1
theorem dX7_rests_42 : decode cX7_rests 42 = .ok (.ifCond .ge 8, 3) := g82_X7_rests.2.2.2.2.2.2.2.2.2.2.2.2.2.2.2.2.2.2.2.2.2.2.2.2.1
theorem dX7_rests_45 : decode cX7_rests 45 = .ok (.bipush (-4), 2) := g82_X7_rests.2.2.2.2.2.2.2.2.2.2.2.2.2.2.2.2.2.2.2.2.2.2.2.2.2.1
theorem dX7_rests_47 : decode cX7_rests 47 = .ok (.goto 4, 3) := g82_X7_rests.2.2.2.2.2.2.2.2.2.2.2.2.2.2.2.2.2.2.2.2.2.2.2.2.2.2.1
theorem dX7_rests_50 : decode cX7_rests 50 = .ok (.iload_n 2, 1) := g82_X7_rests.2.2.2.2.2.2.2.2.2.2.2.2.2.2.2.2.2.2.2.2.2.2.2.2.2.2.2.1
theorem dX7_rests_51 : decode cX7_rests 51 = .ok (.ireturn, 1) := g82_X7_rests.2.2.2.2.2.2.2.2.2.2.2.2.2.2.2.2.2.2.2.2.2.2.2.2.2.2.2.2
set_option maxRecDepth 100000 in
theorem g83_X7_firm : decode cX7_firm 0 = .ok (.iload_n 1, 1) ∧ decode cX7_firm 1 = .ok (.ifCond .lt 16, 3) ∧ decode cX7_firm 4 = .ok (.iload_n 1, 1) ∧ decode cX7_firm 5 = .ok (.iconst 1, 1) ∧ decode cX7_firm 6 = .ok (.aload_n 0, 1) ∧ decode cX7_firm 7 = .ok (.getfield 23, 3) ∧ decode cX7_firm 10 = .ok (.getfield 96, 3) ∧ decode cX7_firm 13 = .ok (.ishl, 1) ∧ decode cX7_firm 14 = .ok (.if_icmp .lt 5, 3) ∧ decode cX7_firm 17 = .ok (.iconst (-1), 1) ∧ decode cX7_firm 18 = .ok (.ireturn, 1) ∧ decode cX7_firm 19 = .ok (.aload_n 0, 1) ∧ decode cX7_firm 20 = .ok (.getfield 45, 3) ∧ decode cX7_firm 23 = .ok (.iload_n 1, 1) ∧ decode cX7_firm 24 = .ok (.invokevirtual 211, 3) ∧ decode cX7_firm 27 = .ok (.ifCond .eq 7, 3) ∧ decode cX7_firm 30 = .ok (.iconst 1, 1) ∧ decode cX7_firm 31 = .ok (.goto 4, 3) ∧ decode cX7_firm 34 = .ok (.iconst 0, 1) ∧ decode cX7_firm 35 = .ok (.ireturn, 1) := by decide +kernel
theorem dX7_firm_0 : decode cX7_firm 0 = .ok (.iload_n 1, 1) := g83_X7_firm.1
theorem dX7_firm_1 : decode cX7_firm 1 = .ok (.ifCond .lt 16, 3) := g83_X7_firm.2.1
theorem dX7_firm_4 : decode cX7_firm 4 = .ok (.iload_n 1, 1) := g83_X7_firm.2.2.1
theorem dX7_firm_5 : decode cX7_firm 5 = .ok (.iconst 1, 1) := g83_X7_firm.2.2.2.1
theorem dX7_firm_6 : decode cX7_firm 6 = .ok (.aload_n 0, 1) := g83_X7_firm.2.2.2.2.1
theorem dX7_firm_7 : decode cX7_firm 7 = .ok (.getfield 23, 3) := g83_X7_firm.2.2.2.2.2.1
theorem dX7_firm_10 : decode cX7_firm 10 = .ok (.getfield 96, 3) := g83_X7_firm.2.2.2.2.2.2.1
theorem dX7_firm_13 : decode cX7_firm 13 = .ok (.ishl, 1) := g83_X7_firm.2.2.2.2.2.2.2.1
theorem dX7_firm_14 : decode cX7_firm 14 = .ok (.if_icmp .lt 5, 3) := g83_X7_firm.2.2.2.2.2.2.2.2.1
theorem dX7_firm_17 : decode cX7_firm 17 = .ok (.iconst (-1), 1) := g83_X7_firm.2.2.2.2.2.2.2.2.2.1
theorem dX7_firm_18 : decode cX7_firm 18 = .ok (.ireturn, 1) := g83_X7_firm.2.2.2.2.2.2.2.2.2.2.1
theorem dX7_firm_19 : decode cX7_firm 19 = .ok (.aload_n 0, 1) := g83_X7_firm.2.2.2.2.2.2.2.2.2.2.2.1
theorem dX7_firm_20 : decode cX7_firm 20 = .ok (.getfield 45, 3) := g83_X7_firm.2.2.2.2.2.2.2.2.2.2.2.2.1
theorem dX7_firm_23 : decode cX7_firm 23 = .ok (.iload_n 1, 1) := g83_X7_firm.2.2.2.2.2.2.2.2.2.2.2.2.2.1
theorem dX7_firm_24 : decode cX7_firm 24 = .ok (.invokevirtual 211, 3) := g83_X7_firm.2.2.2.2.2.2.2.2.2.2.2.2.2.2.1
theorem dX7_firm_27 : decode cX7_firm 27 = .ok (.ifCond .eq 7, 3) := g83_X7_firm.2.2.2.2.2.2.2.2.2.2.2.2.2.2.2.1
theorem dX7_firm_30 : decode cX7_firm 30 = .ok (.iconst 1, 1) := g83_X7_firm.2.2.2.2.2.2.2.2.2.2.2.2.2.2.2.2.1
theorem dX7_firm_31 : decode cX7_firm 31 = .ok (.goto 4, 3) := g83_X7_firm.2.2.2.2.2.2.2.2.2.2.2.2.2.2.2.2.2.1
theorem dX7_firm_34 : decode cX7_firm 34 = .ok (.iconst 0, 1) := g83_X7_firm.2.2.2.2.2.2.2.2.2.2.2.2.2.2.2.2.2.2.1
theorem dX7_firm_35 : decode cX7_firm 35 = .ok (.ireturn, 1) := g83_X7_firm.2.2.2.2.2.2.2.2.2.2.2.2.2.2.2.2.2.2.2
set_option maxRecDepth 100000 in
theorem g84_X7_treaty : decode cX7_treaty 0 = .ok (.iload_n 1, 1) ∧ decode cX7_treaty 1 = .ok (.ifCond .lt 8, 3) ∧ decode cX7_treaty 4 = .ok (.iload_n 1, 1) ∧ decode cX7_treaty 5 = .ok (.iconst 1, 1) ∧ decode cX7_treaty 6 = .ok (.if_icmp .le 5, 3) ∧ decode cX7_treaty 9 = .ok (.iconst (-1), 1) ∧ decode cX7_treaty 10 = .ok (.ireturn, 1) ∧ decode cX7_treaty 11 = .ok (.aload_n 0, 1) ∧ decode cX7_treaty 12 = .ok (.getfield 45, 3) ∧ decode cX7_treaty 15 = .ok (.invokevirtual 214, 3) ∧ decode cX7_treaty 18 = .ok (.istore_n 2, 1) ∧ decode cX7_treaty 19 = .ok (.iload_n 1, 1) ∧ decode cX7_treaty 20 = .ok (.ifCond .ne 7, 3) ∧ decode cX7_treaty 23 = .ok (.iload_n 2, 1) ∧ decode cX7_treaty 24 = .ok (.goto 15, 3) ∧ decode cX7_treaty 27 = .ok (.aload_n 0, 1) ∧ decode cX7_treaty 28 = .ok (.getfield 45, 3) ∧ decode cX7_treaty 31 = .ok (.iload_n 2, 1) ∧ decode cX7_treaty 32 = .ok (.invokevirtual 217, 3) ∧ decode cX7_treaty 35 = .ok (.sipush 2000, 3) ∧ decode cX7_treaty 38 = .ok (.iadd, 1) ∧ decode cX7_treaty 39 = .ok (.ireturn, 1) := by decide +kernel
theorem dX7_treaty_0 : decode cX7_treaty 0 = .ok (.iload_n 1, 1) := g84_X7_treaty.1
theorem dX7_treaty_1 : decode cX7_treaty 1 = .ok (.ifCond .lt 8, 3) := g84_X7_treaty.2.1
theorem dX7_treaty_4 : decode cX7_treaty 4 = .ok (.iload_n 1, 1) := g84_X7_treaty.2.2.1
theorem dX7_treaty_5 : decode cX7_treaty 5 = .ok (.iconst 1, 1) := g84_X7_treaty.2.2.2.1
theorem dX7_treaty_6 : decode cX7_treaty 6 = .ok (.if_icmp .le 5, 3) := g84_X7_treaty.2.2.2.2.1
theorem dX7_treaty_9 : decode cX7_treaty 9 = .ok (.iconst (-1), 1) := g84_X7_treaty.2.2.2.2.2.1
theorem dX7_treaty_10 : decode cX7_treaty 10 = .ok (.ireturn, 1) := g84_X7_treaty.2.2.2.2.2.2.1
theorem dX7_treaty_11 : decode cX7_treaty 11 = .ok (.aload_n 0, 1) := g84_X7_treaty.2.2.2.2.2.2.2.1
theorem dX7_treaty_12 : decode cX7_treaty 12 = .ok (.getfield 45, 3) := g84_X7_treaty.2.2.2.2.2.2.2.2.1
theorem dX7_treaty_15 : decode cX7_treaty 15 = .ok (.invokevirtual 214, 3) := g84_X7_treaty.2.2.2.2.2.2.2.2.2.1
theorem dX7_treaty_18 : decode cX7_treaty 18 = .ok (.istore_n 2, 1) := g84_X7_treaty.2.2.2.2.2.2.2.2.2.2.1
theorem dX7_treaty_19 : decode cX7_treaty 19 = .ok (.iload_n 1, 1) := g84_X7_treaty.2.2.2.2.2.2.2.2.2.2.2.1
theorem dX7_treaty_20 : decode cX7_treaty 20 = .ok (.ifCond .ne 7, 3) := g84_X7_treaty.2.2.2.2.2.2.2.2.2.2.2.2.1
theorem dX7_treaty_23 : decode cX7_treaty 23 = .ok (.iload_n 2, 1) := g84_X7_treaty.2.2.2.2.2.2.2.2.2.2.2.2.2.1
theorem dX7_treaty_24 : decode cX7_treaty 24 = .ok (.goto 15, 3) := g84_X7_treaty.2.2.2.2.2.2.2.2.2.2.2.2.2.2.1
theorem dX7_treaty_27 : decode cX7_treaty 27 = .ok (.aload_n 0, 1) := g84_X7_treaty.2.2.2.2.2.2.2.2.2.2.2.2.2.2.2.1
theorem dX7_treaty_28 : decode cX7_treaty 28 = .ok (.getfield 45, 3) := g84_X7_treaty.2.2.2.2.2.2.2.2.2.2.2.2.2.2.2.2.1
theorem dX7_treaty_31 : decode cX7_treaty 31 = .ok (.iload_n 2, 1) := g84_X7_treaty.2.2.2.2.2.2.2.2.2.2.2.2.2.2.2.2.2.1
theorem dX7_treaty_32 : decode cX7_treaty 32 = .ok (.invokevirtual 217, 3) := g84_X7_treaty.2.2.2.2.2.2.2.2.2.2.2.2.2.2.2.2.2.2.1
theorem dX7_treaty_35 : decode cX7_treaty 35 = .ok (.sipush 2000, 3) := g84_X7_treaty.2.2.2.2.2.2.2.2.2.2.2.2.2.2.2.2.2.2.2.1
theorem dX7_treaty_38 : decode cX7_treaty 38 = .ok (.iadd, 1) := g84_X7_treaty.2.2.2.2.2.2.2.2.2.2.2.2.2.2.2.2.2.2.2.2.1
theorem dX7_treaty_39 : decode cX7_treaty 39 = .ok (.ireturn, 1) := g84_X7_treaty.2.2.2.2.2.2.2.2.2.2.2.2.2.2.2.2.2.2.2.2.2
set_option maxRecDepth 100000 in
theorem g85_X7_bargain : decode cX7_bargain 0 = .ok (.aload_n 0, 1) ∧ decode cX7_bargain 1 = .ok (.iload_n 1, 1) ∧ decode cX7_bargain 2 = .ok (.invokevirtual 112, 3) ∧ decode cX7_bargain 5 = .ok (.ifCond .eq 23, 3) ∧ decode cX7_bargain 8 = .ok (.aload_n 0, 1) ∧ decode cX7_bargain 9 = .ok (.iload_n 2, 1) ∧ decode cX7_bargain 10 = .ok (.invokevirtual 112, 3) ∧ decode cX7_bargain 13 = .ok (.ifCond .eq 15, 3) ∧ decode cX7_bargain 16 = .ok (.iload_n 1, 1) ∧ decode cX7_bargain 17 = .ok (.iload_n 2, 1) ∧ decode cX7_bargain 18 = .ok (.if_icmp .eq 10, 3) ∧ decode cX7_bargain 21 = .ok (.lload_n 3, 1) ∧ decode cX7_bargain 22 = .ok (.invokestatic 129, 3) ∧ decode cX7_bargain 25 = .ok (.ifCond .ne 7, 3) ∧ decode cX7_bargain 28 = .ok (.ldc2_w 145, 3) ∧ decode cX7_bargain 31 = .ok (.lreturn, 1) ∧ decode cX7_bargain 32 = .ok (.aload_n 0, 1) ∧ decode cX7_bargain 33 = .ok (.getfield 38, 3) ∧ decode cX7_bargain 36 = .ok (.iload_n 1, 1) ∧ decode cX7_bargain 37 = .ok (.iload_n 2, 1) ∧ decode cX7_bargain 38 = .ok (.lload_n 3, 1) ∧ decode cX7_bargain 39 = .ok (.invokevirtual 154, 3) ∧ decode cX7_bargain 42 = .ok (.lreturn, 1) := by decide +kernel
theorem dX7_bargain_0 : decode cX7_bargain 0 = .ok (.aload_n 0, 1) := g85_X7_bargain.1
theorem dX7_bargain_1 : decode cX7_bargain 1 = .ok (.iload_n 1, 1) := g85_X7_bargain.2.1
theorem dX7_bargain_2 : decode cX7_bargain 2 = .ok (.invokevirtual 112, 3) := g85_X7_bargain.2.2.1
theorem dX7_bargain_5 : decode cX7_bargain 5 = .ok (.ifCond .eq 23, 3) := g85_X7_bargain.2.2.2.1
theorem dX7_bargain_8 : decode cX7_bargain 8 = .ok (.aload_n 0, 1) := g85_X7_bargain.2.2.2.2.1
theorem dX7_bargain_9 : decode cX7_bargain 9 = .ok (.iload_n 2, 1) := g85_X7_bargain.2.2.2.2.2.1
theorem dX7_bargain_10 : decode cX7_bargain 10 = .ok (.invokevirtual 112, 3) := g85_X7_bargain.2.2.2.2.2.2.1
theorem dX7_bargain_13 : decode cX7_bargain 13 = .ok (.ifCond .eq 15, 3) := g85_X7_bargain.2.2.2.2.2.2.2.1
theorem dX7_bargain_16 : decode cX7_bargain 16 = .ok (.iload_n 1, 1) := g85_X7_bargain.2.2.2.2.2.2.2.2.1
theorem dX7_bargain_17 : decode cX7_bargain 17 = .ok (.iload_n 2, 1) := g85_X7_bargain.2.2.2.2.2.2.2.2.2.1
theorem dX7_bargain_18 : decode cX7_bargain 18 = .ok (.if_icmp .eq 10, 3) := g85_X7_bargain.2.2.2.2.2.2.2.2.2.2.1
theorem dX7_bargain_21 : decode cX7_bargain 21 = .ok (.lload_n 3, 1) := g85_X7_bargain.2.2.2.2.2.2.2.2.2.2.2.1
theorem dX7_bargain_22 : decode cX7_bargain 22 = .ok (.invokestatic 129, 3) := g85_X7_bargain.2.2.2.2.2.2.2.2.2.2.2.2.1
theorem dX7_bargain_25 : decode cX7_bargain 25 = .ok (.ifCond .ne 7, 3) := g85_X7_bargain.2.2.2.2.2.2.2.2.2.2.2.2.2.1
theorem dX7_bargain_28 : decode cX7_bargain 28 = .ok (.ldc2_w 145, 3) := g85_X7_bargain.2.2.2.2.2.2.2.2.2.2.2.2.2.2.1
theorem dX7_bargain_31 : decode cX7_bargain 31 = .ok (.lreturn, 1) := g85_X7_bargain.2.2.2.2.2.2.2.2.2.2.2.2.2.2.2.1
theorem dX7_bargain_32 : decode cX7_bargain 32 = .ok (.aload_n 0, 1) := g85_X7_bargain.2.2.2.2.2.2.2.2.2.2.2.2.2.2.2.2.1
theorem dX7_bargain_33 : decode cX7_bargain 33 = .ok (.getfield 38, 3) := g85_X7_bargain.2.2.2.2.2.2.2.2.2.2.2.2.2.2.2.2.2.1
theorem dX7_bargain_36 : decode cX7_bargain 36 = .ok (.iload_n 1, 1) := g85_X7_bargain.2.2.2.2.2.2.2.2.2.2.2.2.2.2.2.2.2.2.1
theorem dX7_bargain_37 : decode cX7_bargain 37 = .ok (.iload_n 2, 1) := g85_X7_bargain.2.2.2.2.2.2.2.2.2.2.2.2.2.2.2.2.2.2.2.1
theorem dX7_bargain_38 : decode cX7_bargain 38 = .ok (.lload_n 3, 1) := g85_X7_bargain.2.2.2.2.2.2.2.2.2.2.2.2.2.2.2.2.2.2.2.2.1
theorem dX7_bargain_39 : decode cX7_bargain 39 = .ok (.invokevirtual 154, 3) := g85_X7_bargain.2.2.2.2.2.2.2.2.2.2.2.2.2.2.2.2.2.2.2.2.2.1
theorem dX7_bargain_42 : decode cX7_bargain 42 = .ok (.lreturn, 1) := g85_X7_bargain.2.2.2.2.2.2.2.2.2.2.2.2.2.2.2.2.2.2.2.2.2.2
set_option maxRecDepth 100000 in
theorem g86_X7_line : decode cX7_line 0 = .ok (.iload_n 1, 1) ∧ decode cX7_line 1 = .ok (.ifCond .lt 16, 3) ∧ decode cX7_line 4 = .ok (.iload_n 1, 1) ∧ decode cX7_line 5 = .ok (.ldc 220, 2) ∧ decode cX7_line 7 = .ok (.if_icmp .gt 10, 3) ∧ decode cX7_line 10 = .ok (.iload_n 2, 1) ∧ decode cX7_line 11 = .ok (.invokestatic 138, 3) ∧ decode cX7_line 14 = .ok (.ifCond .ne 5, 3) ∧ decode cX7_line 17 = .ok (.iconst (-1), 1) ∧ decode cX7_line 18 = .ok (.ireturn, 1) ∧ decode cX7_line 19 = .ok (.aload_n 0, 1) ∧ decode cX7_line 20 = .ok (.getfield 54, 3) ∧ decode cX7_line 23 = .ok (.iload_n 1, 1) ∧ decode cX7_line 24 = .ok (.iload_n 2, 1) ∧ decode cX7_line 25 = .ok (.invokevirtual 221, 3) ∧ decode cX7_line 28 = .ok (.ifCond .eq 13, 3) ∧ decode cX7_line 31 = .ok (.aload_n 0, 1) ∧ decode cX7_line 32 = .ok (.getfield 54, 3) ∧ decode cX7_line 35 = .ok (.getfield 106, 3) ∧ decode cX7_line 38 = .ok (.goto 5, 3) ∧ decode cX7_line 41 = .ok (.bipush (-3), 2) ∧ decode cX7_line 43 = .ok (.ireturn, 1) := by decide +kernel
theorem dX7_line_0 : decode cX7_line 0 = .ok (.iload_n 1, 1) := g86_X7_line.1
theorem dX7_line_1 : decode cX7_line 1 = .ok (.ifCond .lt 16, 3) := g86_X7_line.2.1
theorem dX7_line_4 : decode cX7_line 4 = .ok (.iload_n 1, 1) := g86_X7_line.2.2.1
theorem dX7_line_5 : decode cX7_line 5 = .ok (.ldc 220, 2) := g86_X7_line.2.2.2.1
theorem dX7_line_7 : decode cX7_line 7 = .ok (.if_icmp .gt 10, 3) := g86_X7_line.2.2.2.2.1
theorem dX7_line_10 : decode cX7_line 10 = .ok (.iload_n 2, 1) := g86_X7_line.2.2.2.2.2.1
theorem dX7_line_11 : decode cX7_line 11 = .ok (.invokestatic 138, 3) := g86_X7_line.2.2.2.2.2.2.1
theorem dX7_line_14 : decode cX7_line 14 = .ok (.ifCond .ne 5, 3) := g86_X7_line.2.2.2.2.2.2.2.1
theorem dX7_line_17 : decode cX7_line 17 = .ok (.iconst (-1), 1) := g86_X7_line.2.2.2.2.2.2.2.2.1
theorem dX7_line_18 : decode cX7_line 18 = .ok (.ireturn, 1) := g86_X7_line.2.2.2.2.2.2.2.2.2.1
theorem dX7_line_19 : decode cX7_line 19 = .ok (.aload_n 0, 1) := g86_X7_line.2.2.2.2.2.2.2.2.2.2.1
theorem dX7_line_20 : decode cX7_line 20 = .ok (.getfield 54, 3) := g86_X7_line.2.2.2.2.2.2.2.2.2.2.2.1
theorem dX7_line_23 : decode cX7_line 23 = .ok (.iload_n 1, 1) := g86_X7_line.2.2.2.2.2.2.2.2.2.2.2.2.1
theorem dX7_line_24 : decode cX7_line 24 = .ok (.iload_n 2, 1) := g86_X7_line.2.2.2.2.2.2.2.2.2.2.2.2.2.1
theorem dX7_line_25 : decode cX7_line 25 = .ok (.invokevirtual 221, 3) := g86_X7_line.2.2.2.2.2.2.2.2.2.2.2.2.2.2.1
theorem dX7_line_28 : decode cX7_line 28 = .ok (.ifCond .eq 13, 3) := g86_X7_line.2.2.2.2.2.2.2.2.2.2.2.2.2.2.2.1
theorem dX7_line_31 : decode cX7_line 31 = .ok (.aload_n 0, 1) := g86_X7_line.2.2.2.2.2.2.2.2.2.2.2.2.2.2.2.2.1
theorem dX7_line_32 : decode cX7_line 32 = .ok (.getfield 54, 3) := g86_X7_line.2.2.2.2.2.2.2.2.2.2.2.2.2.2.2.2.2.1
theorem dX7_line_35 : decode cX7_line 35 = .ok (.getfield 106, 3) := g86_X7_line.2.2.2.2.2.2.2.2.2.2.2.2.2.2.2.2.2.2.1
theorem dX7_line_38 : decode cX7_line 38 = .ok (.goto 5, 3) := g86_X7_line.2.2.2.2.2.2.2.2.2.2.2.2.2.2.2.2.2.2.2.1
theorem dX7_line_41 : decode cX7_line 41 = .ok (.bipush (-3), 2) := g86_X7_line.2.2.2.2.2.2.2.2.2.2.2.2.2.2.2.2.2.2.2.2.1
theorem dX7_line_43 : decode cX7_line 43 = .ok (.ireturn, 1) := g86_X7_line.2.2.2.2.2.2.2.2.2.2.2.2.2.2.2.2.2.2.2.2.2
set_option maxRecDepth 100000 in
theorem g87_X7_noTable : decode cX7_noTable 0 = .ok (.aload_n 0, 1) ∧ decode cX7_noTable 1 = .ok (.getfield 54, 3) ∧ decode cX7_noTable 4 = .ok (.getfield 106, 3) ∧ decode cX7_noTable 7 = .ok (.istore_n 1, 1) ∧ decode cX7_noTable 8 = .ok (.aload_n 0, 1) ∧ decode cX7_noTable 9 = .ok (.getfield 54, 3) ∧ decode cX7_noTable 12 = .ok (.iconst 0, 1) ∧ decode cX7_noTable 13 = .ok (.putfield 106, 3) ∧ decode cX7_noTable 16 = .ok (.iload_n 1, 1) ∧ decode cX7_noTable 17 = .ok (.ireturn, 1) := by decide +kernel
theorem dX7_noTable_0 : decode cX7_noTable 0 = .ok (.aload_n 0, 1) := g87_X7_noTable.1
theorem dX7_noTable_1 : decode cX7_noTable 1 = .ok (.getfield 54, 3) := g87_X7_noTable.2.1
theorem dX7_noTable_4 : decode cX7_noTable 4 = .ok (.getfield 106, 3) := g87_X7_noTable.2.2.1
theorem dX7_noTable_7 : decode cX7_noTable 7 = .ok (.istore_n 1, 1) := g87_X7_noTable.2.2.2.1
theorem dX7_noTable_8 : decode cX7_noTable 8 = .ok (.aload_n 0, 1) := g87_X7_noTable.2.2.2.2.1
theorem dX7_noTable_9 : decode cX7_noTable 9 = .ok (.getfield 54, 3) := g87_X7_noTable.2.2.2.2.2.1
theorem dX7_noTable_12 : decode cX7_noTable 12 = .ok (.iconst 0, 1) := g87_X7_noTable.2.2.2.2.2.2.1
theorem dX7_noTable_13 : decode cX7_noTable 13 = .ok (.putfield 106, 3) := g87_X7_noTable.2.2.2.2.2.2.2.1
theorem dX7_noTable_16 : decode cX7_noTable 16 = .ok (.iload_n 1, 1) := g87_X7_noTable.2.2.2.2.2.2.2.2.1
theorem dX7_noTable_17 : decode cX7_noTable 17 = .ok (.ireturn, 1) := g87_X7_noTable.2.2.2.2.2.2.2.2.2
set_option maxRecDepth 100000 in
theorem g88_X7_forged : decode cX7_forged 0 = .ok (.aload_n 0, 1) ∧ decode cX7_forged 1 = .ok (.getfield 54, 3) ∧ decode cX7_forged 4 = .ok (.invokevirtual 225, 3) ∧ decode cX7_forged 7 = .ok (.ireturn, 1) := by decide +kernel
theorem dX7_forged_0 : decode cX7_forged 0 = .ok (.aload_n 0, 1) := g88_X7_forged.1
theorem dX7_forged_1 : decode cX7_forged 1 = .ok (.getfield 54, 3) := g88_X7_forged.2.1
theorem dX7_forged_4 : decode cX7_forged 4 = .ok (.invokevirtual 225, 3) := g88_X7_forged.2.2.1
theorem dX7_forged_7 : decode cX7_forged 7 = .ok (.ireturn, 1) := g88_X7_forged.2.2.2
set_option maxRecDepth 100000 in
theorem g89_X7_shift : decode cX7_shift 0 = .ok (.iload_n 1, 1) ∧ decode cX7_shift 1 = .ok (.ifCond .lt 8, 3) ∧ decode cX7_shift 4 = .ok (.iload_n 1, 1) ∧ decode cX7_shift 5 = .ok (.iconst 1, 1) ∧ decode cX7_shift 6 = .ok (.if_icmp .le 5, 3) ∧ decode cX7_shift 9 = .ok (.iconst (-1), 1) ∧ decode cX7_shift 10 = .ok (.ireturn, 1) ∧ decode cX7_shift 11 = .ok (.aload_n 0, 1) ∧ decode cX7_shift 12 = .ok (.getfield 54, 3) ∧ decode cX7_shift 15 = .ok (.invokevirtual 228, 3) ∧ decode cX7_shift 18 = .ok (.istore_n 2, 1) ∧ decode cX7_shift 19 = .ok (.iload_n 1, 1) ∧ decode cX7_shift 20 = .ok (.ifCond .ne 14, 3) ∧ decode cX7_shift 23 = .ok (.aload_n 0, 1) ∧ decode cX7_shift 24 = .ok (.getfield 54, 3) ∧ decode cX7_shift 27 = .ok (.iload_n 2, 1) ∧ decode cX7_shift 28 = .ok (.invokevirtual 231, 3) ∧ decode cX7_shift 31 = .ok (.goto 7, 3) ∧ decode cX7_shift 34 = .ok (.iload_n 2, 1) ∧ decode cX7_shift 35 = .ok (.bipush 30, 2) ∧ decode cX7_shift 37 = .ok (.iadd, 1) ∧ decode cX7_shift 38 = .ok (.ireturn, 1) := by decide +kernel
theorem dX7_shift_0 : decode cX7_shift 0 = .ok (.iload_n 1, 1) := g89_X7_shift.1
theorem dX7_shift_1 : decode cX7_shift 1 = .ok (.ifCond .lt 8, 3) := g89_X7_shift.2.1
theorem dX7_shift_4 : decode cX7_shift 4 = .ok (.iload_n 1, 1) := g89_X7_shift.2.2.1
theorem dX7_shift_5 : decode cX7_shift 5 = .ok (.iconst 1, 1) := g89_X7_shift.2.2.2.1
theorem dX7_shift_6 : decode cX7_shift 6 = .ok (.if_icmp .le 5, 3) := g89_X7_shift.2.2.2.2.1
theorem dX7_shift_9 : decode cX7_shift 9 = .ok (.iconst (-1), 1) := g89_X7_shift.2.2.2.2.2.1
theorem dX7_shift_10 : decode cX7_shift 10 = .ok (.ireturn, 1) := g89_X7_shift.2.2.2.2.2.2.1
theorem dX7_shift_11 : decode cX7_shift 11 = .ok (.aload_n 0, 1) := g89_X7_shift.2.2.2.2.2.2.2.1
theorem dX7_shift_12 : decode cX7_shift 12 = .ok (.getfield 54, 3) := g89_X7_shift.2.2.2.2.2.2.2.2.1
theorem dX7_shift_15 : decode cX7_shift 15 = .ok (.invokevirtual 228, 3) := g89_X7_shift.2.2.2.2.2.2.2.2.2.1
theorem dX7_shift_18 : decode cX7_shift 18 = .ok (.istore_n 2, 1) := g89_X7_shift.2.2.2.2.2.2.2.2.2.2.1
theorem dX7_shift_19 : decode cX7_shift 19 = .ok (.iload_n 1, 1) := g89_X7_shift.2.2.2.2.2.2.2.2.2.2.2.1
theorem dX7_shift_20 : decode cX7_shift 20 = .ok (.ifCond .ne 14, 3) := g89_X7_shift.2.2.2.2.2.2.2.2.2.2.2.2.1
theorem dX7_shift_23 : decode cX7_shift 23 = .ok (.aload_n 0, 1) := g89_X7_shift.2.2.2.2.2.2.2.2.2.2.2.2.2.1
theorem dX7_shift_24 : decode cX7_shift 24 = .ok (.getfield 54, 3) := g89_X7_shift.2.2.2.2.2.2.2.2.2.2.2.2.2.2.1
theorem dX7_shift_27 : decode cX7_shift 27 = .ok (.iload_n 2, 1) := g89_X7_shift.2.2.2.2.2.2.2.2.2.2.2.2.2.2.2.1
theorem dX7_shift_28 : decode cX7_shift 28 = .ok (.invokevirtual 231, 3) := g89_X7_shift.2.2.2.2.2.2.2.2.2.2.2.2.2.2.2.2.1
theorem dX7_shift_31 : decode cX7_shift 31 = .ok (.goto 7, 3) := g89_X7_shift.2.2.2.2.2.2.2.2.2.2.2.2.2.2.2.2.2.1
theorem dX7_shift_34 : decode cX7_shift 34 = .ok (.iload_n 2, 1) := g89_X7_shift.2.2.2.2.2.2.2.2.2.2.2.2.2.2.2.2.2.2.1
theorem dX7_shift_35 : decode cX7_shift 35 = .ok (.bipush 30, 2) := g89_X7_shift.2.2.2.2.2.2.2.2.2.2.2.2.2.2.2.2.2.2.2.1
theorem dX7_shift_37 : decode cX7_shift 37 = .ok (.iadd, 1) := g89_X7_shift.2.2.2.2.2.2.2.2.2.2.2.2.2.2.2.2.2.2.2.2.1
theorem dX7_shift_38 : decode cX7_shift 38 = .ok (.ireturn, 1) := g89_X7_shift.2.2.2.2.2.2.2.2.2.2.2.2.2.2.2.2.2.2.2.2.2
set_option maxRecDepth 100000 in
theorem g90_X7_wreck : decode cX7_wreck 0 = .ok (.lload_n 1, 1) ∧ decode cX7_wreck 1 = .ok (.invokestatic 129, 3) ∧ decode cX7_wreck 4 = .ok (.ifCond .eq 15, 3) ∧ decode cX7_wreck 7 = .ok (.iload_n 3, 1) ∧ decode cX7_wreck 8 = .ok (.iconst 1, 1) ∧ decode cX7_wreck 9 = .ok (.if_icmp .lt 10, 3) ∧ decode cX7_wreck 12 = .ok (.iload_n 3, 1) ∧ decode cX7_wreck 13 = .ok (.sipush 10000, 3) ∧ decode cX7_wreck 16 = .ok (.if_icmp .le 5, 3) ∧ decode cX7_wreck 19 = .ok (.iconst (-1), 1) ∧ decode cX7_wreck 20 = .ok (.ireturn, 1) ∧ decode cX7_wreck 21 = .ok (.iload 4, 2) ∧ decode cX7_wreck 23 = .ok (.invokestatic 183, 3) ∧ decode cX7_wreck 26 = .ok (.ifCond .eq 14, 3) ∧ decode cX7_wreck 29 = .ok (.iload 5, 2) ∧ decode cX7_wreck 31 = .ok (.ifCond .lt 9, 3) ∧ decode cX7_wreck 34 = .ok (.iload 5, 2) ∧ decode cX7_wreck 36 = .ok (.iconst 1, 1) ∧ decode cX7_wreck 37 = .ok (.if_icmp .le 5, 3) ∧ decode cX7_wreck 40 = .ok (.iconst (-1), 1) ∧ decode cX7_wreck 41 = .ok (.ireturn, 1) ∧ decode cX7_wreck 42 = .ok (.aload_n 0, 1) ∧ decode cX7_wreck 43 = .ok (.getfield 38, 3) ∧ decode cX7_wreck 46 = .ok (.iload 4, 2) ∧ decode cX7_wreck 48 = .ok (.lload_n 1, 1) ∧ decode cX7_wreck 49 = .ok (.iload_n 3, 1) ∧ decode cX7_wreck 50 = .ok (.invokevirtual 141, 3) ∧ decode cX7_wreck 53 = .ok (.istore 6, 2) ∧ decode cX7_wreck 55 = .ok (.iload_n 3, 1) ∧ decode cX7_wreck 56 = .ok (.aload_n 0, 1) ∧ decode cX7_wreck 57 = .ok (.getfield 38, 3) ∧ decode cX7_wreck 60 = .ok (.iconst 2, 1) ∧ decode cX7_wreck 61 = .ok (.lload_n 1, 1) ∧ decode cX7_wreck 62 = .ok (.iload_n 3, 1) ∧ decode cX7_wreck 63 = .ok (.invokevirtual 141, 3) ∧ decode cX7_wreck 66 = .ok (.isub, 1) ∧ decode cX7_wreck 67 = .ok (.istore 7, 2) ∧ decode cX7_wreck 69 = .ok (.iload 7, 2) ∧ decode cX7_wreck 71 = .ok (.ifCond .gt 6, 3) ∧ decode cX7_wreck 74 = .ok (.bipush (-4), 2) ∧ decode cX7_wreck 76 = .ok (.ireturn, 1) ∧ decode cX7_wreck 77 = .ok (.iconst 1, 1) ∧ decode cX7_wreck 78 = .ok (.iload 7, 2) ∧ decode cX7_wreck 80 = .ok (.iload 6, 2) ∧ decode cX7_wreck 82 = .ok (.invokestatic 234, 3) ∧ decode cX7_wreck 85 = .ok (.invokestatic 237, 3) ∧ decode cX7_wreck 88 = .ok (.istore 8, 2) ∧ decode cX7_wreck 90 = .ok (.iload 5, 2) ∧ decode cX7_wreck 92 = .ok (.ifCond .ne 8, 3) ∧ decode cX7_wreck 95 = .ok (.iload 6, 2) ∧ decode cX7_wreck 97 = .ok (.goto 5, 3) ∧ decode cX7_wreck 100 = .ok (.iload 7, 2) ∧ decode cX7_wreck 102 = .ok (.iload 8, 2) ∧ decode cX7_wreck 104 = .ok (.idiv, 1) ∧ decode cX7_wreck 105 = .ok (.ireturn, 1) := by decide +kernel
theorem dX7_wreck_0 : decode cX7_wreck 0 = .ok (.lload_n 1, 1) := g90_X7_wreck.1
theorem dX7_wreck_1 : decode cX7_wreck 1 = .ok (.invokestatic 129, 3) := g90_X7_wreck.2.1
theorem dX7_wreck_4 : decode cX7_wreck 4 = .ok (.ifCond .eq 15, 3) := g90_X7_wreck.2.2.1
theorem dX7_wreck_7 : decode cX7_wreck 7 = .ok (.iload_n 3, 1) := g90_X7_wreck.2.2.2.1
theorem dX7_wreck_8 : decode cX7_wreck 8 = .ok (.iconst 1, 1) := g90_X7_wreck.2.2.2.2.1
theorem dX7_wreck_9 : decode cX7_wreck 9 = .ok (.if_icmp .lt 10, 3) := g90_X7_wreck.2.2.2.2.2.1
theorem dX7_wreck_12 : decode cX7_wreck 12 = .ok (.iload_n 3, 1) := g90_X7_wreck.2.2.2.2.2.2.1
theorem dX7_wreck_13 : decode cX7_wreck 13 = .ok (.sipush 10000, 3) := g90_X7_wreck.2.2.2.2.2.2.2.1
theorem dX7_wreck_16 : decode cX7_wreck 16 = .ok (.if_icmp .le 5, 3) := g90_X7_wreck.2.2.2.2.2.2.2.2.1
theorem dX7_wreck_19 : decode cX7_wreck 19 = .ok (.iconst (-1), 1) := g90_X7_wreck.2.2.2.2.2.2.2.2.2.1
theorem dX7_wreck_20 : decode cX7_wreck 20 = .ok (.ireturn, 1) := g90_X7_wreck.2.2.2.2.2.2.2.2.2.2.1
theorem dX7_wreck_21 : decode cX7_wreck 21 = .ok (.iload 4, 2) := g90_X7_wreck.2.2.2.2.2.2.2.2.2.2.2.1
theorem dX7_wreck_23 : decode cX7_wreck 23 = .ok (.invokestatic 183, 3) := g90_X7_wreck.2.2.2.2.2.2.2.2.2.2.2.2.1
theorem dX7_wreck_26 : decode cX7_wreck 26 = .ok (.ifCond .eq 14, 3) := g90_X7_wreck.2.2.2.2.2.2.2.2.2.2.2.2.2.1
theorem dX7_wreck_29 : decode cX7_wreck 29 = .ok (.iload 5, 2) := g90_X7_wreck.2.2.2.2.2.2.2.2.2.2.2.2.2.2.1
theorem dX7_wreck_31 : decode cX7_wreck 31 = .ok (.ifCond .lt 9, 3) := g90_X7_wreck.2.2.2.2.2.2.2.2.2.2.2.2.2.2.2.1
theorem dX7_wreck_34 : decode cX7_wreck 34 = .ok (.iload 5, 2) := g90_X7_wreck.2.2.2.2.2.2.2.2.2.2.2.2.2.2.2.2.1
theorem dX7_wreck_36 : decode cX7_wreck 36 = .ok (.iconst 1, 1) := g90_X7_wreck.2.2.2.2.2.2.2.2.2.2.2.2.2.2.2.2.2.1
theorem dX7_wreck_37 : decode cX7_wreck 37 = .ok (.if_icmp .le 5, 3) := g90_X7_wreck.2.2.2.2.2.2.2.2.2.2.2.2.2.2.2.2.2.2.1
theorem dX7_wreck_40 : decode cX7_wreck 40 = .ok (.iconst (-1), 1) := g90_X7_wreck.2.2.2.2.2.2.2.2.2.2.2.2.2.2.2.2.2.2.2.1
theorem dX7_wreck_41 : decode cX7_wreck 41 = .ok (.ireturn, 1) := g90_X7_wreck.2.2.2.2.2.2.2.2.2.2.2.2.2.2.2.2.2.2.2.2.1
theorem dX7_wreck_42 : decode cX7_wreck 42 = .ok (.aload_n 0, 1) := g90_X7_wreck.2.2.2.2.2.2.2.2.2.2.2.2.2.2.2.2.2.2.2.2.2.1
theorem dX7_wreck_43 : decode cX7_wreck 43 = .ok (.getfield 38, 3) := g90_X7_wreck.2.2.2.2.2.2.2.2.2.2.2.2.2.2.2.2.2.2.2.2.2.2.1
theorem dX7_wreck_46 : decode cX7_wreck 46 = .ok (.iload 4, 2) := g90_X7_wreck.2.2.2.2.2.2.2.2.2.2.2.2.2.2.2.2.2.2.2.2.2.2.2.1
theorem dX7_wreck_48 : decode cX7_wreck 48 = .ok (.lload_n 1, 1) := g90_X7_wreck.2.2.2.2.2.2.2.2.2.2.2.2.2.2.2.2.2.2.2.2.2.2.2.2.1
theorem dX7_wreck_49 : decode cX7_wreck 49 = .ok (.iload_n 3, 1) := g90_X7_wreck.2.2.2.2.2.2.2.2.2.2.2.2.2.2.2.2.2.2.2.2.2.2.2.2.2.1
theorem dX7_wreck_50 : decode cX7_wreck 50 = .ok (.invokevirtual 141, 3) := g90_X7_wreck.2.2.2.2.2.2.2.2.2.2.2.2.2.2.2.2.2.2.2.2.2.2.2.2.2.2.1
theorem dX7_wreck_53 : decode cX7_wreck 53 = .ok (.istore 6, 2) := g90_X7_wreck.2.2.2.2.2.2.2.2.2.2.2.2.2.2.2.2.2.2.2.2.2.2.2.2.2.2.2.1
theorem dX7_wreck_55 : decode cX7_wreck 55 = .ok (.iload_n 3, 1) := g90_X7_wreck.2.2.2.2.2.2.2.2.2.2.2.2.2.2.2.2.2.2.2.2.2.2.2.2.2.2.2.2.1
theorem dX7_wreck_56 : decode cX7_wreck 56 = .ok (.aload_n 0, 1) := g90_X7_wreck.2.2.2.2.2.2.2.2.2.2.2.2.2.2.2.2.2.2.2.2.2.2.2.2.2.2.2.2.2.1
theorem dX7_wreck_57 : decode cX7_wreck 57 = .ok (.getfield 38, 3) := g90_X7_wreck.2.2.2.2.2.2.2.2.2.2.2.2.2.2.2.2.2.2.2.2.2.2.2.2.2.2.2.2.2.2.1
theorem dX7_wreck_60 : decode cX7_wreck 60 = .ok (.iconst 2, 1) := g90_X7_wreck.2.2.2.2.2.2.2.2.2.2.2.2.2.2.2.2.2.2.2.2.2.2.2.2.2.2.2.2.2.2.2.1
theorem dX7_wreck_61 : decode cX7_wreck 61 = .ok (.lload_n 1, 1) := g90_X7_wreck.2.2.2.2.2.2.2.2.2.2.2.2.2.2.2.2.2.2.2.2.2.2.2.2.2.2.2.2.2.2.2.2.1
theorem dX7_wreck_62 : decode cX7_wreck 62 = .ok (.iload_n 3, 1) := g90_X7_wreck.2.2.2.2.2.2.2.2.2.2.2.2.2.2.2.2.2.2.2.2.2.2.2.2.2.2.2.2.2.2.2.2.2.1
theorem dX7_wreck_63 : decode cX7_wreck 63 = .ok (.invokevirtual 141, 3) := g90_X7_wreck.2.2.2.2.2.2.2.2.2.2.2.2.2.2.2.2.2.2.2.2.2.2.2.2.2.2.2.2.2.2.2.2.2.2.1
theorem dX7_wreck_66 : decode cX7_wreck 66 = .ok (.isub, 1) := g90_X7_wreck.2.2.2.2.2.2.2.2.2.2.2.2.2.2.2.2.2.2.2.2.2.2.2.2.2.2.2.2.2.2.2.2.2.2.2.1
theorem dX7_wreck_67 : decode cX7_wreck 67 = .ok (.istore 7, 2) := g90_X7_wreck.2.2.2.2.2.2.2.2.2.2.2.2.2.2.2.2.2.2.2.2.2.2.2.2.2.2.2.2.2.2.2.2.2.2.2.2.1
theorem dX7_wreck_69 : decode cX7_wreck 69 = .ok (.iload 7, 2) := g90_X7_wreck.2.2.2.2.2.2.2.2.2.2.2.2.2.2.2.2.2.2.2.2.2.2.2.2.2.2.2.2.2.2.2.2.2.2.2.2.2.1
theorem dX7_wreck_71 : decode cX7_wreck 71 = .ok (.ifCond .gt 6, 3) := g90_X7_wreck.2.2.2.2.2.2.2.2.2.2.2.2.2.2.2.2.2.2.2.2.2.2.2.2.2.2.2.2.2.2.2.2.2.2.2.2.2.2.1
theorem dX7_wreck_74 : decode cX7_wreck 74 = .ok (.bipush (-4), 2) := g90_X7_wreck.2.2.2.2.2.2.2.2.2.2.2.2.2.2.2.2.2.2.2.2.2.2.2.2.2.2.2.2.2.2.2.2.2.2.2.2.2.2.2.1
theorem dX7_wreck_76 : decode cX7_wreck 76 = .ok (.ireturn, 1) := g90_X7_wreck.2.2.2.2.2.2.2.2.2.2.2.2.2.2.2.2.2.2.2.2.2.2.2.2.2.2.2.2.2.2.2.2.2.2.2.2.2.2.2.2.1
theorem dX7_wreck_77 : decode cX7_wreck 77 = .ok (.iconst 1, 1) := g90_X7_wreck.2.2.2.2.2.2.2.2.2.2.2.2.2.2.2.2.2.2.2.2.2.2.2.2.2.2.2.2.2.2.2.2.2.2.2.2.2.2.2.2.2.1
theorem dX7_wreck_78 : decode cX7_wreck 78 = .ok (.iload 7, 2) := g90_X7_wreck.2.2.2.2.2.2.2.2.2.2.2.2.2.2.2.2.2.2.2.2.2.2.2.2.2.2.2.2.2.2.2.2.2.2.2.2.2.2.2.2.2.2.1
theorem dX7_wreck_80 : decode cX7_wreck 80 = .ok (.iload 6, 2) := g90_X7_wreck.2.2.2.2.2.2.2.2.2.2.2.2.2.2.2.2.2.2.2.2.2.2.2.2.2.2.2.2.2.2.2.2.2.2.2.2.2.2.2.2.2.2.2.1
theorem dX7_wreck_82 : decode cX7_wreck 82 = .ok (.invokestatic 234, 3) := g90_X7_wreck.2.2.2.2.2.2.2.2.2.2.2.2.2.2.2.2.2.2.2.2.2.2.2.2.2.2.2.2.2.2.2.2.2.2.2.2.2.2.2.2.2.2.2.2.1
theorem dX7_wreck_85 : decode cX7_wreck 85 = .ok (.invokestatic 237, 3) := g90_X7_wreck.2.2.2.2.2.2.2.2.2.2.2.2.2.2.2.2.2.2.2.2.2.2.2.2.2.2.2.2.2.2.2.2.2.2.2.2.2.2.2.2.2.2.2.2.2.1
theorem dX7_wreck_88 : decode cX7_wreck 88 = .ok (.istore 8, 2) := g90_X7_wreck.2.2.2.2.2.2.2.2.2.2.2.2.2.2.2.2.2.2.2.2.2.2.2.2.2.2.2.2.2.2.2.2.2.2.2.2.2.2.2.2.2.2.2.2.2.2.1
theorem dX7_wreck_90 : decode cX7_wreck 90 = .ok (.iload 5, 2) := g90_X7_wreck.2.2.2.2.2.2.2.2.2.2.2.2.2.2.2.2.2.2.2.2.2.2.2.2.2.2.2.2.2.2.2.2.2.2.2.2.2.2.2.2.2.2.2.2.2.2.2.1
theorem dX7_wreck_92 : decode cX7_wreck 92 = .ok (.ifCond .ne 8, 3) := g90_X7_wreck.2.2.2.2.2.2.2.2.2.2.2.2.2.2.2.2.2.2.2.2.2.2.2.2.2.2.2.2.2.2.2.2.2.2.2.2.2.2.2.2.2.2.2.2.2.2.2.2.1
theorem dX7_wreck_95 : decode cX7_wreck 95 = .ok (.iload 6, 2) := g90_X7_wreck.2.2.2.2.2.2.2.2.2.2.2.2.2.2.2.2.2.2.2.2.2.2.2.2.2.2.2.2.2.2.2.2.2.2.2.2.2.2.2.2.2.2.2.2.2.2.2.2.2.1
theorem dX7_wreck_97 : decode cX7_wreck 97 = .ok (.goto 5, 3) := g90_X7_wreck.2.2.2.2.2.2.2.2.2.2.2.2.2.2.2.2.2.2.2.2.2.2.2.2.2.2.2.2.2.2.2.2.2.2.2.2.2.2.2.2.2.2.2.2.2.2.2.2.2.2.1
theorem dX7_wreck_100 : decode cX7_wreck 100 = .ok (.iload 7, 2) := g90_X7_wreck.2.2.2.2.2.2.2.2.2.2.2.2.2.2.2.2.2.2.2.2.2.2.2.2.2.2.2.2.2.2.2.2.2.2.2.2.2.2.2.2.2.2.2.2.2.2.2.2.2.2.2.1
theorem dX7_wreck_102 : decode cX7_wreck 102 = .ok (.iload 8, 2) := g90_X7_wreck.2.2.2.2.2.2.2.2.2.2.2.2.2.2.2.2.2.2.2.2.2.2.2.2.2.2.2.2.2.2.2.2.2.2.2.2.2.2.2.2.2.2.2.2.2.2.2.2.2.2.2.2.1
theorem dX7_wreck_104 : decode cX7_wreck 104 = .ok (.idiv, 1) := g90_X7_wreck.2.2.2.2.2.2.2.2.2.2.2.2.2.2.2.2.2.2.2.2.2.2.2.2.2.2.2.2.2.2.2.2.2.2.2.2.2.2.2.2.2.2.2.2.2.2.2.2.2.2.2.2.2.1
theorem dX7_wreck_105 : decode cX7_wreck 105 = .ok (.ireturn, 1) := g90_X7_wreck.2.2.2.2.2.2.2.2.2.2.2.2.2.2.2.2.2.2.2.2.2.2.2.2.2.2.2.2.2.2.2.2.2.2.2.2.2.2.2.2.2.2.2.2.2.2.2.2.2.2.2.2.2.2
set_option maxRecDepth 100000 in
theorem g91_X7_drawn : decode cX7_drawn 0 = .ok (.iload_n 1, 1) ∧ decode cX7_drawn 1 = .ok (.ifCond .lt 22, 3) ∧ decode cX7_drawn 4 = .ok (.iload_n 1, 1) ∧ decode cX7_drawn 5 = .ok (.sipush 9999, 3) ∧ decode cX7_drawn 8 = .ok (.if_icmp .gt 15, 3) ∧ decode cX7_drawn 11 = .ok (.iload_n 2, 1) ∧ decode cX7_drawn 12 = .ok (.iconst 1, 1) ∧ decode cX7_drawn 13 = .ok (.if_icmp .lt 10, 3) ∧ decode cX7_drawn 16 = .ok (.iload_n 2, 1) ∧ decode cX7_drawn 17 = .ok (.sipush 200, 3) ∧ decode cX7_drawn 20 = .ok (.if_icmp .le 5, 3) ∧ decode cX7_drawn 23 = .ok (.iconst (-1), 1) ∧ decode cX7_drawn 24 = .ok (.ireturn, 1) ∧ decode cX7_drawn 25 = .ok (.iconst 1, 1) ∧ decode cX7_drawn 26 = .ok (.aload_n 0, 1) ∧ decode cX7_drawn 27 = .ok (.getfield 23, 3) ∧ decode cX7_drawn 30 = .ok (.getfield 96, 3) ∧ decode cX7_drawn 33 = .ok (.invokestatic 237, 3) ∧ decode cX7_drawn 36 = .ok (.istore_n 3, 1) ∧ decode cX7_drawn 37 = .ok (.iconst 0, 1) ∧ decode cX7_drawn 38 = .ok (.istore 4, 2) ∧ decode cX7_drawn 40 = .ok (.iconst 0, 1) ∧ decode cX7_drawn 41 = .ok (.istore 5, 2) ∧ decode cX7_drawn 43 = .ok (.iload 5, 2) ∧ decode cX7_drawn 45 = .ok (.iload_n 2, 1) ∧ decode cX7_drawn 46 = .ok (.if_icmp .ge 53, 3) ∧ decode cX7_drawn 49 = .ok (.ldc2_w 242, 3) ∧ decode cX7_drawn 52 = .ok (.iload_n 1, 1) ∧ decode cX7_drawn 53 = .ok (.i2l, 1) ∧ decode cX7_drawn 54 = .ok (.lmul, 1) ∧ decode cX7_drawn 55 = .ok (.ldc2_w 244, 3) ∧ decode cX7_drawn 58 = .ok (.iload 5, 2) ∧ decode cX7_drawn 60 = .ok (.i2l, 1) ∧ decode cX7_drawn 61 = .ok (.lmul, 1) ∧ decode cX7_drawn 62 = .ok (.ladd, 1) ∧ decode cX7_drawn 63 = .ok (.lconst 1, 1) ∧ decode cX7_drawn 64 = .ok (.ladd, 1) ∧ decode cX7_drawn 65 = .ok (.lstore 6, 2) ∧ decode cX7_drawn 67 = .ok (.aload_n 0, 1) ∧ decode cX7_drawn 68 = .ok (.getfield 38, 3) ∧ decode cX7_drawn 71 = .ok (.iload 5, 2) ∧ decode cX7_drawn 73 = .ok (.iload_n 3, 1) ∧ decode cX7_drawn 74 = .ok (.irem, 1) ∧ decode cX7_drawn 75 = .ok (.lload 6, 2) ∧ decode cX7_drawn 77 = .ok (.lload 6, 2) ∧ decode cX7_drawn 79 = .ok (.lmul, 1) ∧ decode cX7_drawn 80 = .ok (.ldc2_w 246, 3) ∧ decode cX7_drawn 83 = .ok (.lrem, 1) ∧ decode cX7_drawn 84 = .ok (.invokevirtual 151, 3) ∧ decode cX7_drawn 87 = .ok (.ifCond .eq 6, 3) ∧ decode cX7_drawn 90 = .ok (.iinc 4 1, 3) ∧ decode cX7_drawn 93 = .ok (.iinc 5 1, 3) ∧ decode cX7_drawn 96 = .ok (.goto (-53), 3) ∧ decode cX7_drawn 99 = .ok (.iload 4, 2) ∧ decode cX7_drawn 101 = .ok (.ireturn, 1) := by decide +kernel
theorem dX7_drawn_0 : decode cX7_drawn 0 = .ok (.iload_n 1, 1) := g91_X7_drawn.1
theorem dX7_drawn_1 : decode cX7_drawn 1 = .ok (.ifCond .lt 22, 3) := g91_X7_drawn.2.1
theorem dX7_drawn_4 : decode cX7_drawn 4 = .ok (.iload_n 1, 1) := g91_X7_drawn.2.2.1
theorem dX7_drawn_5 : decode cX7_drawn 5 = .ok (.sipush 9999, 3) := g91_X7_drawn.2.2.2.1
theorem dX7_drawn_8 : decode cX7_drawn 8 = .ok (.if_icmp .gt 15, 3) := g91_X7_drawn.2.2.2.2.1
theorem dX7_drawn_11 : decode cX7_drawn 11 = .ok (.iload_n 2, 1) := g91_X7_drawn.2.2.2.2.2.1
theorem dX7_drawn_12 : decode cX7_drawn 12 = .ok (.iconst 1, 1) := g91_X7_drawn.2.2.2.2.2.2.1
theorem dX7_drawn_13 : decode cX7_drawn 13 = .ok (.if_icmp .lt 10, 3) := g91_X7_drawn.2.2.2.2.2.2.2.1
theorem dX7_drawn_16 : decode cX7_drawn 16 = .ok (.iload_n 2, 1) := g91_X7_drawn.2.2.2.2.2.2.2.2.1
theorem dX7_drawn_17 : decode cX7_drawn 17 = .ok (.sipush 200, 3) := g91_X7_drawn.2.2.2.2.2.2.2.2.2.1
theorem dX7_drawn_20 : decode cX7_drawn 20 = .ok (.if_icmp .le 5, 3) := g91_X7_drawn.2.2.2.2.2.2.2.2.2.2.1
theorem dX7_drawn_23 : decode cX7_drawn 23 = .ok (.iconst (-1), 1) := g91_X7_drawn.2.2.2.2.2.2.2.2.2.2.2.1
theorem dX7_drawn_24 : decode cX7_drawn 24 = .ok (.ireturn, 1) := g91_X7_drawn.2.2.2.2.2.2.2.2.2.2.2.2.1
theorem dX7_drawn_25 : decode cX7_drawn 25 = .ok (.iconst 1, 1) := g91_X7_drawn.2.2.2.2.2.2.2.2.2.2.2.2.2.1
theorem dX7_drawn_26 : decode cX7_drawn 26 = .ok (.aload_n 0, 1) := g91_X7_drawn.2.2.2.2.2.2.2.2.2.2.2.2.2.2.1
theorem dX7_drawn_27 : decode cX7_drawn 27 = .ok (.getfield 23, 3) := g91_X7_drawn.2.2.2.2.2.2.2.2.2.2.2.2.2.2.2.1
theorem dX7_drawn_30 : decode cX7_drawn 30 = .ok (.getfield 96, 3) := g91_X7_drawn.2.2.2.2.2.2.2.2.2.2.2.2.2.2.2.2.1
theorem dX7_drawn_33 : decode cX7_drawn 33 = .ok (.invokestatic 237, 3) := g91_X7_drawn.2.2.2.2.2.2.2.2.2.2.2.2.2.2.2.2.2.1
theorem dX7_drawn_36 : decode cX7_drawn 36 = .ok (.istore_n 3, 1) := g91_X7_drawn.2.2.2.2.2.2.2.2.2.2.2.2.2.2.2.2.2.2.1
theorem dX7_drawn_37 : decode cX7_drawn 37 = .ok (.iconst 0, 1) := g91_X7_drawn.2.2.2.2.2.2.2.2.2.2.2.2.2.2.2.2.2.2.2.1
theorem dX7_drawn_38 : decode cX7_drawn 38 = .ok (.istore 4, 2) := g91_X7_drawn.2.2.2.2.2.2.2.2.2.2.2.2.2.2.2.2.2.2.2.2.1
theorem dX7_drawn_40 : decode cX7_drawn 40 = .ok (.iconst 0, 1) := g91_X7_drawn.2.2.2.2.2.2.2.2.2.2.2.2.2.2.2.2.2.2.2.2.2.1
theorem dX7_drawn_41 : decode cX7_drawn 41 = .ok (.istore 5, 2) := g91_X7_drawn.2.2.2.2.2.2.2.2.2.2.2.2.2.2.2.2.2.2.2.2.2.2.1
theorem dX7_drawn_43 : decode cX7_drawn 43 = .ok (.iload 5, 2) := g91_X7_drawn.2.2.2.2.2.2.2.2.2.2.2.2.2.2.2.2.2.2.2.2.2.2.2.1
theorem dX7_drawn_45 : decode cX7_drawn 45 = .ok (.iload_n 2, 1) := g91_X7_drawn.2.2.2.2.2.2.2.2.2.2.2.2.2.2.2.2.2.2.2.2.2.2.2.2.1
theorem dX7_drawn_46 : decode cX7_drawn 46 = .ok (.if_icmp .ge 53, 3) := g91_X7_drawn.2.2.2.2.2.2.2.2.2.2.2.2.2.2.2.2.2.2.2.2.2.2.2.2.2.1
theorem dX7_drawn_49 : decode cX7_drawn 49 = .ok (.ldc2_w 242, 3) := g91_X7_drawn.2.2.2.2.2.2.2.2.2.2.2.2.2.2.2.2.2.2.2.2.2.2.2.2.2.2.1
theorem dX7_drawn_52 : decode cX7_drawn 52 = .ok (.iload_n 1, 1) := g91_X7_drawn.2.2.2.2.2.2.2.2.2.2.2.2.2.2.2.2.2.2.2.2.2.2.2.2.2.2.2.1
theorem dX7_drawn_53 : decode cX7_drawn 53 = .ok (.i2l, 1) := g91_X7_drawn.2.2.2.2.2.2.2.2.2.2.2.2.2.2.2.2.2.2.2.2.2.2.2.2.2.2.2.2.1
theorem dX7_drawn_54 : decode cX7_drawn 54 = .ok (.lmul, 1) := g91_X7_drawn.2.2.2.2.2.2.2.2.2.2.2.2.2.2.2.2.2.2.2.2.2.2.2.2.2.2.2.2.2.1
theorem dX7_drawn_55 : decode cX7_drawn 55 = .ok (.ldc2_w 244, 3) := g91_X7_drawn.2.2.2.2.2.2.2.2.2.2.2.2.2.2.2.2.2.2.2.2.2.2.2.2.2.2.2.2.2.2.1
theorem dX7_drawn_58 : decode cX7_drawn 58 = .ok (.iload 5, 2) := g91_X7_drawn.2.2.2.2.2.2.2.2.2.2.2.2.2.2.2.2.2.2.2.2.2.2.2.2.2.2.2.2.2.2.2.1
theorem dX7_drawn_60 : decode cX7_drawn 60 = .ok (.i2l, 1) := g91_X7_drawn.2.2.2.2.2.2.2.2.2.2.2.2.2.2.2.2.2.2.2.2.2.2.2.2.2.2.2.2.2.2.2.2.1
theorem dX7_drawn_61 : decode cX7_drawn 61 = .ok (.lmul, 1) := g91_X7_drawn.2.2.2.2.2.2.2.2.2.2.2.2.2.2.2.2.2.2.2.2.2.2.2.2.2.2.2.2.2.2.2.2.2.1
theorem dX7_drawn_62 : decode cX7_drawn 62 = .ok (.ladd, 1) := g91_X7_drawn.2.2.2.2.2.2.2.2.2.2.2.2.2.2.2.2.2.2.2.2.2.2.2.2.2.2.2.2.2.2.2.2.2.2.1
theorem dX7_drawn_63 : decode cX7_drawn 63 = .ok (.lconst 1, 1) := g91_X7_drawn.2.2.2.2.2.2.2.2.2.2.2.2.2.2.2.2.2.2.2.2.2.2.2.2.2.2.2.2.2.2.2.2.2.2.2.1
theorem dX7_drawn_64 : decode cX7_drawn 64 = .ok (.ladd, 1) := g91_X7_drawn.2.2.2.2.2.2.2.2.2.2.2.2.2.2.2.2.2.2.2.2.2.2.2.2.2.2.2.2.2.2.2.2.2.2.2.2.1
theorem dX7_drawn_65 : decode cX7_drawn 65 = .ok (.lstore 6, 2) := g91_X7_drawn.2.2.2.2.2.2.2.2.2.2.2.2.2.2.2.2.2.2.2.2.2.2.2.2.2.2.2.2.2.2.2.2.2.2.2.2.2.1
theorem dX7_drawn_67 : decode cX7_drawn 67 = .ok (.aload_n 0, 1) := g91_X7_drawn.2.2.2.2.2.2.2.2.2.2.2.2.2.2.2.2.2.2.2.2.2.2.2.2.2.2.2.2.2.2.2.2.2.2.2.2.2.2.1
theorem dX7_drawn_68 : decode cX7_drawn 68 = .ok (.getfield 38, 3) := g91_X7_drawn.2.2.2.2.2.2.2.2.2.2.2.2.2.2.2.2.2.2.2.2.2.2.2.2.2.2.2.2.2.2.2.2.2.2.2.2.2.2.2.1
theorem dX7_drawn_71 : decode cX7_drawn 71 = .ok (.iload 5, 2) := g91_X7_drawn.2.2.2.2.2.2.2.2.2.2.2.2.2.2.2.2.2.2.2.2.2.2.2.2.2.2.2.2.2.2.2.2.2.2.2.2.2.2.2.2.1
theorem dX7_drawn_73 : decode cX7_drawn 73 = .ok (.iload_n 3, 1) := g91_X7_drawn.2.2.2.2.2.2.2.2.2.2.2.2.2.2.2.2.2.2.2.2.2.2.2.2.2.2.2.2.2.2.2.2.2.2.2.2.2.2.2.2.2.1
theorem dX7_drawn_74 : decode cX7_drawn 74 = .ok (.irem, 1) := g91_X7_drawn.2.2.2.2.2.2.2.2.2.2.2.2.2.2.2.2.2.2.2.2.2.2.2.2.2.2.2.2.2.2.2.2.2.2.2.2.2.2.2.2.2.2.1
theorem dX7_drawn_75 : decode cX7_drawn 75 = .ok (.lload 6, 2) := g91_X7_drawn.2.2.2.2.2.2.2.2.2.2.2.2.2.2.2.2.2.2.2.2.2.2.2.2.2.2.2.2.2.2.2.2.2.2.2.2.2.2.2.2.2.2.2.1
theorem dX7_drawn_77 : decode cX7_drawn 77 = .ok (.lload 6, 2) := g91_X7_drawn.2.2.2.2.2.2.2.2.2.2.2.2.2.2.2.2.2.2.2.2.2.2.2.2.2.2.2.2.2.2.2.2.2.2.2.2.2.2.2.2.2.2.2.2.1
theorem dX7_drawn_79 : decode cX7_drawn 79 = .ok (.lmul, 1) := g91_X7_drawn.2.2.2.2.2.2.2.2.2.2.2.2.2.2.2.2.2.2.2.2.2.2.2.2.2.2.2.2.2.2.2.2.2.2.2.2.2.2.2.2.2.2.2.2.2.1
theorem dX7_drawn_80 : decode cX7_drawn 80 = .ok (.ldc2_w 246, 3) := g91_X7_drawn.2.2.2.2.2.2.2.2.2.2.2.2.2.2.2.2.2.2.2.2.2.2.2.2.2.2.2.2.2.2.2.2.2.2.2.2.2.2.2.2.2.2.2.2.2.2.1
theorem dX7_drawn_83 : decode cX7_drawn 83 = .ok (.lrem, 1) := g91_X7_drawn.2.2.2.2.2.2.2.2.2.2.2.2.2.2.2.2.2.2.2.2.2.2.2.2.2.2.2.2.2.2.2.2.2.2.2.2.2.2.2.2.2.2.2.2.2.2.2.1
theorem dX7_drawn_84 : decode cX7_drawn 84 = .ok (.invokevirtual 151, 3) := g91_X7_drawn.2.2.2.2.2.2.2.2.2.2.2.2.2.2.2.2.2.2.2.2.2.2.2.2.2.2.2.2.2.2.2.2.2.2.2.2.2.2.2.2.2.2.2.2.2.2.2.2.1
theorem dX7_drawn_87 : decode cX7_drawn 87 = .ok (.ifCond .eq 6, 3) := g91_X7_drawn.2.2.2.2.2.2.2.2.2.2.2.2.2.2.2.2.2.2.2.2.2.2.2.2.2.2.2.2.2.2.2.2.2.2.2.2.2.2.2.2.2.2.2.2.2.2.2.2.2.1
theorem dX7_drawn_90 : decode cX7_drawn 90 = .ok (.iinc 4 1, 3) := g91_X7_drawn.2.2.2.2.2.2.2.2.2.2.2.2.2.2.2.2.2.2.2.2.2.2.2.2.2.2.2.2.2.2.2.2.2.2.2.2.2.2.2.2.2.2.2.2.2.2.2.2.2.2.1
theorem dX7_drawn_93 : decode cX7_drawn 93 = .ok (.iinc 5 1, 3) := g91_X7_drawn.2.2.2.2.2.2.2.2.2.2.2.2.2.2.2.2.2.2.2.2.2.2.2.2.2.2.2.2.2.2.2.2.2.2.2.2.2.2.2.2.2.2.2.2.2.2.2.2.2.2.2.1
theorem dX7_drawn_96 : decode cX7_drawn 96 = .ok (.goto (-53), 3) := g91_X7_drawn.2.2.2.2.2.2.2.2.2.2.2.2.2.2.2.2.2.2.2.2.2.2.2.2.2.2.2.2.2.2.2.2.2.2.2.2.2.2.2.2.2.2.2.2.2.2.2.2.2.2.2.2.1
theorem dX7_drawn_99 : decode cX7_drawn 99 = .ok (.iload 4, 2) := g91_X7_drawn.2.2.2.2.2.2.2.2.2.2.2.2.2.2.2.2.2.2.2.2.2.2.2.2.2.2.2.2.2.2.2.2.2.2.2.2.2.2.2.2.2.2.2.2.2.2.2.2.2.2.2.2.2.1
theorem dX7_drawn_101 : decode cX7_drawn 101 = .ok (.ireturn, 1) := g91_X7_drawn.2.2.2.2.2.2.2.2.2.2.2.2.2.2.2.2.2.2.2.2.2.2.2.2.2.2.2.2.2.2.2.2.2.2.2.2.2.2.2.2.2.2.2.2.2.2.2.2.2.2.2.2.2.2
set_option maxRecDepth 100000 in
theorem g92_X7_keep : decode cX7_keep 0 = .ok (.aload_n 0, 1) ∧ decode cX7_keep 1 = .ok (.getfield 67, 3) ∧ decode cX7_keep 4 = .ok (.getfield 189, 3) ∧ decode cX7_keep 7 = .ok (.iconst 2, 1) ∧ decode cX7_keep 8 = .ok (.if_icmp .lt 6, 3) ∧ decode cX7_keep 11 = .ok (.bipush (-3), 2) ∧ decode cX7_keep 13 = .ok (.ireturn, 1) ∧ decode cX7_keep 14 = .ok (.aload_n 0, 1) ∧ decode cX7_keep 15 = .ok (.getfield 67, 3) ∧ decode cX7_keep 18 = .ok (.aload_n 0, 1) ∧ decode cX7_keep 19 = .ok (.getfield 29, 3) ∧ decode cX7_keep 22 = .ok (.invokevirtual 164, 3) ∧ decode cX7_keep 25 = .ok (.aload_n 0, 1) ∧ decode cX7_keep 26 = .ok (.getfield 67, 3) ∧ decode cX7_keep 29 = .ok (.getfield 189, 3) ∧ decode cX7_keep 32 = .ok (.ireturn, 1) := by decide +kernel
theorem dX7_keep_0 : decode cX7_keep 0 = .ok (.aload_n 0, 1) := g92_X7_keep.1
theorem dX7_keep_1 : decode cX7_keep 1 = .ok (.getfield 67, 3) := g92_X7_keep.2.1
theorem dX7_keep_4 : decode cX7_keep 4 = .ok (.getfield 189, 3) := g92_X7_keep.2.2.1
theorem dX7_keep_7 : decode cX7_keep 7 = .ok (.iconst 2, 1) := g92_X7_keep.2.2.2.1
theorem dX7_keep_8 : decode cX7_keep 8 = .ok (.if_icmp .lt 6, 3) := g92_X7_keep.2.2.2.2.1
theorem dX7_keep_11 : decode cX7_keep 11 = .ok (.bipush (-3), 2) := g92_X7_keep.2.2.2.2.2.1
theorem dX7_keep_13 : decode cX7_keep 13 = .ok (.ireturn, 1) := g92_X7_keep.2.2.2.2.2.2.1
theorem dX7_keep_14 : decode cX7_keep 14 = .ok (.aload_n 0, 1) := g92_X7_keep.2.2.2.2.2.2.2.1
theorem dX7_keep_15 : decode cX7_keep 15 = .ok (.getfield 67, 3) := g92_X7_keep.2.2.2.2.2.2.2.2.1
theorem dX7_keep_18 : decode cX7_keep 18 = .ok (.aload_n 0, 1) := g92_X7_keep.2.2.2.2.2.2.2.2.2.1
theorem dX7_keep_19 : decode cX7_keep 19 = .ok (.getfield 29, 3) := g92_X7_keep.2.2.2.2.2.2.2.2.2.2.1
theorem dX7_keep_22 : decode cX7_keep 22 = .ok (.invokevirtual 164, 3) := g92_X7_keep.2.2.2.2.2.2.2.2.2.2.2.1
theorem dX7_keep_25 : decode cX7_keep 25 = .ok (.aload_n 0, 1) := g92_X7_keep.2.2.2.2.2.2.2.2.2.2.2.2.1
theorem dX7_keep_26 : decode cX7_keep 26 = .ok (.getfield 67, 3) := g92_X7_keep.2.2.2.2.2.2.2.2.2.2.2.2.2.1
theorem dX7_keep_29 : decode cX7_keep 29 = .ok (.getfield 189, 3) := g92_X7_keep.2.2.2.2.2.2.2.2.2.2.2.2.2.2.1
theorem dX7_keep_32 : decode cX7_keep 32 = .ok (.ireturn, 1) := g92_X7_keep.2.2.2.2.2.2.2.2.2.2.2.2.2.2.2
set_option maxRecDepth 100000 in
theorem g93_X7_back : decode cX7_back 0 = .ok (.aload_n 0, 1) ∧ decode cX7_back 1 = .ok (.getfield 67, 3) ∧ decode cX7_back 4 = .ok (.getfield 189, 3) ∧ decode cX7_back 7 = .ok (.ifCond .ne 6, 3) ∧ decode cX7_back 10 = .ok (.bipush (-2), 2) ∧ decode cX7_back 12 = .ok (.ireturn, 1) ∧ decode cX7_back 13 = .ok (.aload_n 0, 1) ∧ decode cX7_back 14 = .ok (.getfield 67, 3) ∧ decode cX7_back 17 = .ok (.aload_n 0, 1) ∧ decode cX7_back 18 = .ok (.getfield 29, 3) ∧ decode cX7_back 21 = .ok (.invokevirtual 192, 3) ∧ decode cX7_back 24 = .ok (.aload_n 0, 1) ∧ decode cX7_back 25 = .ok (.getfield 63, 3) ∧ decode cX7_back 28 = .ok (.invokevirtual 109, 3) ∧ decode cX7_back 31 = .ok (.aload_n 0, 1) ∧ decode cX7_back 32 = .ok (.getfield 67, 3) ∧ decode cX7_back 35 = .ok (.getfield 189, 3) ∧ decode cX7_back 38 = .ok (.ireturn, 1) := by decide +kernel
theorem dX7_back_0 : decode cX7_back 0 = .ok (.aload_n 0, 1) := g93_X7_back.1
theorem dX7_back_1 : decode cX7_back 1 = .ok (.getfield 67, 3) := g93_X7_back.2.1
theorem dX7_back_4 : decode cX7_back 4 = .ok (.getfield 189, 3) := g93_X7_back.2.2.1
theorem dX7_back_7 : decode cX7_back 7 = .ok (.ifCond .ne 6, 3) := g93_X7_back.2.2.2.1
theorem dX7_back_10 : decode cX7_back 10 = .ok (.bipush (-2), 2) := g93_X7_back.2.2.2.2.1
theorem dX7_back_12 : decode cX7_back 12 = .ok (.ireturn, 1) := g93_X7_back.2.2.2.2.2.1
theorem dX7_back_13 : decode cX7_back 13 = .ok (.aload_n 0, 1) := g93_X7_back.2.2.2.2.2.2.1
theorem dX7_back_14 : decode cX7_back 14 = .ok (.getfield 67, 3) := g93_X7_back.2.2.2.2.2.2.2.1
theorem dX7_back_17 : decode cX7_back 17 = .ok (.aload_n 0, 1) := g93_X7_back.2.2.2.2.2.2.2.2.1
theorem dX7_back_18 : decode cX7_back 18 = .ok (.getfield 29, 3) := g93_X7_back.2.2.2.2.2.2.2.2.2.1
theorem dX7_back_21 : decode cX7_back 21 = .ok (.invokevirtual 192, 3) := g93_X7_back.2.2.2.2.2.2.2.2.2.2.1
theorem dX7_back_24 : decode cX7_back 24 = .ok (.aload_n 0, 1) := g93_X7_back.2.2.2.2.2.2.2.2.2.2.2.1
theorem dX7_back_25 : decode cX7_back 25 = .ok (.getfield 63, 3) := g93_X7_back.2.2.2.2.2.2.2.2.2.2.2.2.1
theorem dX7_back_28 : decode cX7_back 28 = .ok (.invokevirtual 109, 3) := g93_X7_back.2.2.2.2.2.2.2.2.2.2.2.2.2.1
theorem dX7_back_31 : decode cX7_back 31 = .ok (.aload_n 0, 1) := g93_X7_back.2.2.2.2.2.2.2.2.2.2.2.2.2.2.1
theorem dX7_back_32 : decode cX7_back 32 = .ok (.getfield 67, 3) := g93_X7_back.2.2.2.2.2.2.2.2.2.2.2.2.2.2.2.1
theorem dX7_back_35 : decode cX7_back 35 = .ok (.getfield 189, 3) := g93_X7_back.2.2.2.2.2.2.2.2.2.2.2.2.2.2.2.2.1
theorem dX7_back_38 : decode cX7_back 38 = .ok (.ireturn, 1) := g93_X7_back.2.2.2.2.2.2.2.2.2.2.2.2.2.2.2.2.2
set_option maxRecDepth 100000 in
theorem g94_X7_count : decode cX7_count 0 = .ok (.iload_n 1, 1) ∧ decode cX7_count 1 = .ok (.tableswitch 126 0 8 #[51, 59, 67, 75, 80, 88, 96, 107, 118], 51) ∧ decode cX7_count 52 = .ok (.aload_n 0, 1) ∧ decode cX7_count 53 = .ok (.getfield 23, 3) ∧ decode cX7_count 56 = .ok (.getfield 96, 3) ∧ decode cX7_count 59 = .ok (.ireturn, 1) ∧ decode cX7_count 60 = .ok (.aload_n 0, 1) ∧ decode cX7_count 61 = .ok (.getfield 10, 3) ∧ decode cX7_count 64 = .ok (.getfield 88, 3) ∧ decode cX7_count 67 = .ok (.ireturn, 1) ∧ decode cX7_count 68 = .ok (.aload_n 0, 1) ∧ decode cX7_count 69 = .ok (.getfield 29, 3) ∧ decode cX7_count 72 = .ok (.getfield 126, 3) ∧ decode cX7_count 75 = .ok (.ireturn, 1) ∧ decode cX7_count 76 = .ok (.aload_n 0, 1) ∧ decode cX7_count 77 = .ok (.getfield 103, 3) ∧ decode cX7_count 80 = .ok (.ireturn, 1) ∧ decode cX7_count 81 = .ok (.aload_n 0, 1) ∧ decode cX7_count 82 = .ok (.getfield 54, 3) ∧ decode cX7_count 85 = .ok (.getfield 106, 3) ∧ decode cX7_count 88 = .ok (.ireturn, 1) ∧ decode cX7_count 89 = .ok (.aload_n 0, 1) ∧ decode cX7_count 90 = .ok (.getfield 63, 3) ∧ decode cX7_count 93 = .ok (.getfield 189, 3) ∧ decode cX7_count 96 = .ok (.ireturn, 1) ∧ decode cX7_count 97 = .ok (.aload_n 0, 1) ∧ decode cX7_count 98 = .ok (.getfield 29, 3) ∧ decode cX7_count 101 = .ok (.getfield 174, 3) ∧ decode cX7_count 104 = .ok (.ldc 220, 2) ∧ decode cX7_count 106 = .ok (.iadd, 1) ∧ decode cX7_count 107 = .ok (.ireturn, 1) ∧ decode cX7_count 108 = .ok (.aload_n 0, 1) ∧ decode cX7_count 109 = .ok (.getfield 29, 3) ∧ decode cX7_count 112 = .ok (.getfield 180, 3) ∧ decode cX7_count 115 = .ok (.ldc 220, 2) ∧ decode cX7_count 117 = .ok (.iadd, 1) ∧ decode cX7_count 118 = .ok (.ireturn, 1) ∧ decode cX7_count 119 = .ok (.aload_n 0, 1) ∧ decode cX7_count 120 = .ok (.getfield 67, 3) ∧ decode cX7_count 123 = .ok (.getfield 189, 3) ∧ decode cX7_count 126 = .ok (.ireturn, 1) ∧ decode cX7_count 127 = .ok (.iconst (-1), 1) ∧ decode cX7_count 128 = .ok (.ireturn, 1) := by decide +kernel
theorem dX7_count_0 : decode cX7_count 0 = .ok (.iload_n 1, 1) := g94_X7_count.1
theorem dX7_count_1 : decode cX7_count 1 = .ok (.tableswitch 126 0 8 #[51, 59, 67, 75, 80, 88, 96, 107, 118], 51) := g94_X7_count.2.1
theorem dX7_count_52 : decode cX7_count 52 = .ok (.aload_n 0, 1) := g94_X7_count.2.2.1
theorem dX7_count_53 : decode cX7_count 53 = .ok (.getfield 23, 3) := g94_X7_count.2.2.2.1
theorem dX7_count_56 : decode cX7_count 56 = .ok (.getfield 96, 3) := g94_X7_count.2.2.2.2.1
theorem dX7_count_59 : decode cX7_count 59 = .ok (.ireturn, 1) := g94_X7_count.2.2.2.2.2.1
theorem dX7_count_60 : decode cX7_count 60 = .ok (.aload_n 0, 1) := g94_X7_count.2.2.2.2.2.2.1
theorem dX7_count_61 : decode cX7_count 61 = .ok (.getfield 10, 3) := g94_X7_count.2.2.2.2.2.2.2.1
theorem dX7_count_64 : decode cX7_count 64 = .ok (.getfield 88, 3) := g94_X7_count.2.2.2.2.2.2.2.2.1
theorem dX7_count_67 : decode cX7_count 67 = .ok (.ireturn, 1) := g94_X7_count.2.2.2.2.2.2.2.2.2.1
theorem dX7_count_68 : decode cX7_count 68 = .ok (.aload_n 0, 1) := g94_X7_count.2.2.2.2.2.2.2.2.2.2.1
theorem dX7_count_69 : decode cX7_count 69 = .ok (.getfield 29, 3) := g94_X7_count.2.2.2.2.2.2.2.2.2.2.2.1
theorem dX7_count_72 : decode cX7_count 72 = .ok (.getfield 126, 3) := g94_X7_count.2.2.2.2.2.2.2.2.2.2.2.2.1
theorem dX7_count_75 : decode cX7_count 75 = .ok (.ireturn, 1) := g94_X7_count.2.2.2.2.2.2.2.2.2.2.2.2.2.1
theorem dX7_count_76 : decode cX7_count 76 = .ok (.aload_n 0, 1) := g94_X7_count.2.2.2.2.2.2.2.2.2.2.2.2.2.2.1
theorem dX7_count_77 : decode cX7_count 77 = .ok (.getfield 103, 3) := g94_X7_count.2.2.2.2.2.2.2.2.2.2.2.2.2.2.2.1
theorem dX7_count_80 : decode cX7_count 80 = .ok (.ireturn, 1) := g94_X7_count.2.2.2.2.2.2.2.2.2.2.2.2.2.2.2.2.1
theorem dX7_count_81 : decode cX7_count 81 = .ok (.aload_n 0, 1) := g94_X7_count.2.2.2.2.2.2.2.2.2.2.2.2.2.2.2.2.2.1
theorem dX7_count_82 : decode cX7_count 82 = .ok (.getfield 54, 3) := g94_X7_count.2.2.2.2.2.2.2.2.2.2.2.2.2.2.2.2.2.2.1
theorem dX7_count_85 : decode cX7_count 85 = .ok (.getfield 106, 3) := g94_X7_count.2.2.2.2.2.2.2.2.2.2.2.2.2.2.2.2.2.2.2.1
theorem dX7_count_88 : decode cX7_count 88 = .ok (.ireturn, 1) := g94_X7_count.2.2.2.2.2.2.2.2.2.2.2.2.2.2.2.2.2.2.2.2.1
theorem dX7_count_89 : decode cX7_count 89 = .ok (.aload_n 0, 1) := g94_X7_count.2.2.2.2.2.2.2.2.2.2.2.2.2.2.2.2.2.2.2.2.2.1
theorem dX7_count_90 : decode cX7_count 90 = .ok (.getfield 63, 3) := g94_X7_count.2.2.2.2.2.2.2.2.2.2.2.2.2.2.2.2.2.2.2.2.2.2.1
theorem dX7_count_93 : decode cX7_count 93 = .ok (.getfield 189, 3) := g94_X7_count.2.2.2.2.2.2.2.2.2.2.2.2.2.2.2.2.2.2.2.2.2.2.2.1
theorem dX7_count_96 : decode cX7_count 96 = .ok (.ireturn, 1) := g94_X7_count.2.2.2.2.2.2.2.2.2.2.2.2.2.2.2.2.2.2.2.2.2.2.2.2.1
theorem dX7_count_97 : decode cX7_count 97 = .ok (.aload_n 0, 1) := g94_X7_count.2.2.2.2.2.2.2.2.2.2.2.2.2.2.2.2.2.2.2.2.2.2.2.2.2.1
theorem dX7_count_98 : decode cX7_count 98 = .ok (.getfield 29, 3) := g94_X7_count.2.2.2.2.2.2.2.2.2.2.2.2.2.2.2.2.2.2.2.2.2.2.2.2.2.2.1
theorem dX7_count_101 : decode cX7_count 101 = .ok (.getfield 174, 3) := g94_X7_count.2.2.2.2.2.2.2.2.2.2.2.2.2.2.2.2.2.2.2.2.2.2.2.2.2.2.2.1
theorem dX7_count_104 : decode cX7_count 104 = .ok (.ldc 220, 2) := g94_X7_count.2.2.2.2.2.2.2.2.2.2.2.2.2.2.2.2.2.2.2.2.2.2.2.2.2.2.2.2.1
theorem dX7_count_106 : decode cX7_count 106 = .ok (.iadd, 1) := g94_X7_count.2.2.2.2.2.2.2.2.2.2.2.2.2.2.2.2.2.2.2.2.2.2.2.2.2.2.2.2.2.1
theorem dX7_count_107 : decode cX7_count 107 = .ok (.ireturn, 1) := g94_X7_count.2.2.2.2.2.2.2.2.2.2.2.2.2.2.2.2.2.2.2.2.2.2.2.2.2.2.2.2.2.2.1
theorem dX7_count_108 : decode cX7_count 108 = .ok (.aload_n 0, 1) := g94_X7_count.2.2.2.2.2.2.2.2.2.2.2.2.2.2.2.2.2.2.2.2.2.2.2.2.2.2.2.2.2.2.2.1
theorem dX7_count_109 : decode cX7_count 109 = .ok (.getfield 29, 3) := g94_X7_count.2.2.2.2.2.2.2.2.2.2.2.2.2.2.2.2.2.2.2.2.2.2.2.2.2.2.2.2.2.2.2.2.1
theorem dX7_count_112 : decode cX7_count 112 = .ok (.getfield 180, 3) := g94_X7_count.2.2.2.2.2.2.2.2.2.2.2.2.2.2.2.2.2.2.2.2.2.2.2.2.2.2.2.2.2.2.2.2.2.1
theorem dX7_count_115 : decode cX7_count 115 = .ok (.ldc 220, 2) := g94_X7_count.2.2.2.2.2.2.2.2.2.2.2.2.2.2.2.2.2.2.2.2.2.2.2.2.2.2.2.2.2.2.2.2.2.2.1
theorem dX7_count_117 : decode cX7_count 117 = .ok (.iadd, 1) := g94_X7_count.2.2.2.2.2.2.2.2.2.2.2.2.2.2.2.2.2.2.2.2.2.2.2.2.2.2.2.2.2.2.2.2.2.2.2.1
theorem dX7_count_118 : decode cX7_count 118 = .ok (.ireturn, 1) := g94_X7_count.2.2.2.2.2.2.2.2.2.2.2.2.2.2.2.2.2.2.2.2.2.2.2.2.2.2.2.2.2.2.2.2.2.2.2.2.1
theorem dX7_count_119 : decode cX7_count 119 = .ok (.aload_n 0, 1) := g94_X7_count.2.2.2.2.2.2.2.2.2.2.2.2.2.2.2.2.2.2.2.2.2.2.2.2.2.2.2.2.2.2.2.2.2.2.2.2.2.1
theorem dX7_count_120 : decode cX7_count 120 = .ok (.getfield 67, 3) := g94_X7_count.2.2.2.2.2.2.2.2.2.2.2.2.2.2.2.2.2.2.2.2.2.2.2.2.2.2.2.2.2.2.2.2.2.2.2.2.2.2.1
theorem dX7_count_123 : decode cX7_count 123 = .ok (.getfield 189, 3) := g94_X7_count.2.2.2.2.2.2.2.2.2.2.2.2.2.2.2.2.2.2.2.2.2.2.2.2.2.2.2.2.2.2.2.2.2.2.2.2.2.2.2.1
theorem dX7_count_126 : decode cX7_count 126 = .ok (.ireturn, 1) := g94_X7_count.2.2.2.2.2.2.2.2.2.2.2.2.2.2.2.2.2.2.2.2.2.2.2.2.2.2.2.2.2.2.2.2.2.2.2.2.2.2.2.2.1
theorem dX7_count_127 : decode cX7_count 127 = .ok (.iconst (-1), 1) := g94_X7_count.2.2.2.2.2.2.2.2.2.2.2.2.2.2.2.2.2.2.2.2.2.2.2.2.2.2.2.2.2.2.2.2.2.2.2.2.2.2.2.2.2.1
theorem dX7_count_128 : decode cX7_count 128 = .ok (.ireturn, 1) := g94_X7_count.2.2.2.2.2.2.2.2.2.2.2.2.2.2.2.2.2.2.2.2.2.2.2.2.2.2.2.2.2.2.2.2.2.2.2.2.2.2.2.2.2.2
set_option maxRecDepth 100000 in
theorem g95_X7_isAct : decode cX7_isAct 0 = .ok (.iload_n 1, 1) ∧ decode cX7_isAct 1 = .ok (.ifCond .lt 18, 3) ∧ decode cX7_isAct 4 = .ok (.iload_n 1, 1) ∧ decode cX7_isAct 5 = .ok (.aload_n 0, 1) ∧ decode cX7_isAct 6 = .ok (.getfield 23, 3) ∧ decode cX7_isAct 9 = .ok (.getfield 96, 3) ∧ decode cX7_isAct 12 = .ok (.if_icmp .ge 7, 3) ∧ decode cX7_isAct 15 = .ok (.iconst 1, 1) ∧ decode cX7_isAct 16 = .ok (.goto 4, 3) ∧ decode cX7_isAct 19 = .ok (.iconst 0, 1) ∧ decode cX7_isAct 20 = .ok (.ireturn, 1) := by decide +kernel
theorem dX7_isAct_0 : decode cX7_isAct 0 = .ok (.iload_n 1, 1) := g95_X7_isAct.1
theorem dX7_isAct_1 : decode cX7_isAct 1 = .ok (.ifCond .lt 18, 3) := g95_X7_isAct.2.1
theorem dX7_isAct_4 : decode cX7_isAct 4 = .ok (.iload_n 1, 1) := g95_X7_isAct.2.2.1
theorem dX7_isAct_5 : decode cX7_isAct 5 = .ok (.aload_n 0, 1) := g95_X7_isAct.2.2.2.1
theorem dX7_isAct_6 : decode cX7_isAct 6 = .ok (.getfield 23, 3) := g95_X7_isAct.2.2.2.2.1
theorem dX7_isAct_9 : decode cX7_isAct 9 = .ok (.getfield 96, 3) := g95_X7_isAct.2.2.2.2.2.1
theorem dX7_isAct_12 : decode cX7_isAct 12 = .ok (.if_icmp .ge 7, 3) := g95_X7_isAct.2.2.2.2.2.2.1
theorem dX7_isAct_15 : decode cX7_isAct 15 = .ok (.iconst 1, 1) := g95_X7_isAct.2.2.2.2.2.2.2.1
theorem dX7_isAct_16 : decode cX7_isAct 16 = .ok (.goto 4, 3) := g95_X7_isAct.2.2.2.2.2.2.2.2.1
theorem dX7_isAct_19 : decode cX7_isAct 19 = .ok (.iconst 0, 1) := g95_X7_isAct.2.2.2.2.2.2.2.2.2.1
theorem dX7_isAct_20 : decode cX7_isAct 20 = .ok (.ireturn, 1) := g95_X7_isAct.2.2.2.2.2.2.2.2.2.2
set_option maxRecDepth 100000 in
theorem g96_X7_isActOrNone : decode cX7_isActOrNone 0 = .ok (.iload_n 1, 1) ∧ decode cX7_isActOrNone 1 = .ok (.iconst (-1), 1) ∧ decode cX7_isActOrNone 2 = .ok (.if_icmp .eq 11, 3) ∧ decode cX7_isActOrNone 5 = .ok (.aload_n 0, 1) ∧ decode cX7_isActOrNone 6 = .ok (.iload_n 1, 1) ∧ decode cX7_isActOrNone 7 = .ok (.invokevirtual 112, 3) ∧ decode cX7_isActOrNone 10 = .ok (.ifCond .eq 7, 3) ∧ decode cX7_isActOrNone 13 = .ok (.iconst 1, 1) ∧ decode cX7_isActOrNone 14 = .ok (.goto 4, 3) ∧ decode cX7_isActOrNone 17 = .ok (.iconst 0, 1) ∧ decode cX7_isActOrNone 18 = .ok (.ireturn, 1) := by decide +kernel
theorem dX7_isActOrNone_0 : decode cX7_isActOrNone 0 = .ok (.iload_n 1, 1) := g96_X7_isActOrNone.1
theorem dX7_isActOrNone_1 : decode cX7_isActOrNone 1 = .ok (.iconst (-1), 1) := g96_X7_isActOrNone.2.1
theorem dX7_isActOrNone_2 : decode cX7_isActOrNone 2 = .ok (.if_icmp .eq 11, 3) := g96_X7_isActOrNone.2.2.1
theorem dX7_isActOrNone_5 : decode cX7_isActOrNone 5 = .ok (.aload_n 0, 1) := g96_X7_isActOrNone.2.2.2.1
theorem dX7_isActOrNone_6 : decode cX7_isActOrNone 6 = .ok (.iload_n 1, 1) := g96_X7_isActOrNone.2.2.2.2.1
theorem dX7_isActOrNone_7 : decode cX7_isActOrNone 7 = .ok (.invokevirtual 112, 3) := g96_X7_isActOrNone.2.2.2.2.2.1
theorem dX7_isActOrNone_10 : decode cX7_isActOrNone 10 = .ok (.ifCond .eq 7, 3) := g96_X7_isActOrNone.2.2.2.2.2.2.1
theorem dX7_isActOrNone_13 : decode cX7_isActOrNone 13 = .ok (.iconst 1, 1) := g96_X7_isActOrNone.2.2.2.2.2.2.2.1
theorem dX7_isActOrNone_14 : decode cX7_isActOrNone 14 = .ok (.goto 4, 3) := g96_X7_isActOrNone.2.2.2.2.2.2.2.2.1
theorem dX7_isActOrNone_17 : decode cX7_isActOrNone 17 = .ok (.iconst 0, 1) := g96_X7_isActOrNone.2.2.2.2.2.2.2.2.2.1
theorem dX7_isActOrNone_18 : decode cX7_isActOrNone 18 = .ok (.ireturn, 1) := g96_X7_isActOrNone.2.2.2.2.2.2.2.2.2.2
set_option maxRecDepth 100000 in
theorem g97_X7_isKing : decode cX7_isKing 0 = .ok (.iload_n 0, 1) ∧ decode cX7_isKing 1 = .ok (.ifCond .eq 8, 3) ∧ decode cX7_isKing 4 = .ok (.iload_n 0, 1) ∧ decode cX7_isKing 5 = .ok (.iconst 1, 1) ∧ decode cX7_isKing 6 = .ok (.if_icmp .ne 7, 3) ∧ decode cX7_isKing 9 = .ok (.iconst 1, 1) ∧ decode cX7_isKing 10 = .ok (.goto 4, 3) ∧ decode cX7_isKing 13 = .ok (.iconst 0, 1) ∧ decode cX7_isKing 14 = .ok (.ireturn, 1) := by decide +kernel
theorem dX7_isKing_0 : decode cX7_isKing 0 = .ok (.iload_n 0, 1) := g97_X7_isKing.1
theorem dX7_isKing_1 : decode cX7_isKing 1 = .ok (.ifCond .eq 8, 3) := g97_X7_isKing.2.1
theorem dX7_isKing_4 : decode cX7_isKing 4 = .ok (.iload_n 0, 1) := g97_X7_isKing.2.2.1
theorem dX7_isKing_5 : decode cX7_isKing 5 = .ok (.iconst 1, 1) := g97_X7_isKing.2.2.2.1
theorem dX7_isKing_6 : decode cX7_isKing 6 = .ok (.if_icmp .ne 7, 3) := g97_X7_isKing.2.2.2.2.1
theorem dX7_isKing_9 : decode cX7_isKing 9 = .ok (.iconst 1, 1) := g97_X7_isKing.2.2.2.2.2.1
theorem dX7_isKing_10 : decode cX7_isKing 10 = .ok (.goto 4, 3) := g97_X7_isKing.2.2.2.2.2.2.1
theorem dX7_isKing_13 : decode cX7_isKing 13 = .ok (.iconst 0, 1) := g97_X7_isKing.2.2.2.2.2.2.2.1
theorem dX7_isKing_14 : decode cX7_isKing 14 = .ok (.ireturn, 1) := g97_X7_isKing.2.2.2.2.2.2.2.2
set_option maxRecDepth 100000 in
theorem g98_X7_isRuler : decode cX7_isRuler 0 = .ok (.iload_n 0, 1) ∧ decode cX7_isRuler 1 = .ok (.ifCond .lt 12, 3) ∧ decode cX7_isRuler 4 = .ok (.iload_n 0, 1) ∧ decode cX7_isRuler 5 = .ok (.iconst 2, 1) ∧ decode cX7_isRuler 6 = .ok (.if_icmp .gt 7, 3) ∧ decode cX7_isRuler 9 = .ok (.iconst 1, 1) ∧ decode cX7_isRuler 10 = .ok (.goto 4, 3) ∧ decode cX7_isRuler 13 = .ok (.iconst 0, 1) ∧ decode cX7_isRuler 14 = .ok (.ireturn, 1) := by decide +kernel
theorem dX7_isRuler_0 : decode cX7_isRuler 0 = .ok (.iload_n 0, 1) := g98_X7_isRuler.1
theorem dX7_isRuler_1 : decode cX7_isRuler 1 = .ok (.ifCond .lt 12, 3) := g98_X7_isRuler.2.1
theorem dX7_isRuler_4 : decode cX7_isRuler 4 = .ok (.iload_n 0, 1) := g98_X7_isRuler.2.2.1
theorem dX7_isRuler_5 : decode cX7_isRuler 5 = .ok (.iconst 2, 1) := g98_X7_isRuler.2.2.2.1
theorem dX7_isRuler_6 : decode cX7_isRuler 6 = .ok (.if_icmp .gt 7, 3) := g98_X7_isRuler.2.2.2.2.1
theorem dX7_isRuler_9 : decode cX7_isRuler 9 = .ok (.iconst 1, 1) := g98_X7_isRuler.2.2.2.2.2.1
theorem dX7_isRuler_10 : decode cX7_isRuler 10 = .ok (.goto 4, 3) := g98_X7_isRuler.2.2.2.2.2.2.1
theorem dX7_isRuler_13 : decode cX7_isRuler 13 = .ok (.iconst 0, 1) := g98_X7_isRuler.2.2.2.2.2.2.2.1
theorem dX7_isRuler_14 : decode cX7_isRuler 14 = .ok (.ireturn, 1) := g98_X7_isRuler.2.2.2.2.2.2.2.2
set_option maxRecDepth 100000 in
theorem g99_X7_isMinute : decode cX7_isMinute 0 = .ok (.lload_n 0, 1) ∧ decode cX7_isMinute 1 = .ok (.lconst 0, 1) ∧ decode cX7_isMinute 2 = .ok (.lcmp, 1) ∧ decode cX7_isMinute 3 = .ok (.ifCond .lt 15, 3) ∧ decode cX7_isMinute 6 = .ok (.lload_n 0, 1) ∧ decode cX7_isMinute 7 = .ok (.ldc2_w 248, 3) ∧ decode cX7_isMinute 10 = .ok (.lcmp, 1) ∧ decode cX7_isMinute 11 = .ok (.ifCond .gt 7, 3) ∧ decode cX7_isMinute 14 = .ok (.iconst 1, 1) ∧ decode cX7_isMinute 15 = .ok (.goto 4, 3) ∧ decode cX7_isMinute 18 = .ok (.iconst 0, 1) ∧ decode cX7_isMinute 19 = .ok (.ireturn, 1) := by decide +kernel
theorem dX7_isMinute_0 : decode cX7_isMinute 0 = .ok (.lload_n 0, 1) := g99_X7_isMinute.1
theorem dX7_isMinute_1 : decode cX7_isMinute 1 = .ok (.lconst 0, 1) := g99_X7_isMinute.2.1
theorem dX7_isMinute_2 : decode cX7_isMinute 2 = .ok (.lcmp, 1) := g99_X7_isMinute.2.2.1
theorem dX7_isMinute_3 : decode cX7_isMinute 3 = .ok (.ifCond .lt 15, 3) := g99_X7_isMinute.2.2.2.1
theorem dX7_isMinute_6 : decode cX7_isMinute 6 = .ok (.lload_n 0, 1) := g99_X7_isMinute.2.2.2.2.1
theorem dX7_isMinute_7 : decode cX7_isMinute 7 = .ok (.ldc2_w 248, 3) := g99_X7_isMinute.2.2.2.2.2.1
theorem dX7_isMinute_10 : decode cX7_isMinute 10 = .ok (.lcmp, 1) := g99_X7_isMinute.2.2.2.2.2.2.1
theorem dX7_isMinute_11 : decode cX7_isMinute 11 = .ok (.ifCond .gt 7, 3) := g99_X7_isMinute.2.2.2.2.2.2.2.1
theorem dX7_isMinute_14 : decode cX7_isMinute 14 = .ok (.iconst 1, 1) := g99_X7_isMinute.2.2.2.2.2.2.2.2.1
theorem dX7_isMinute_15 : decode cX7_isMinute 15 = .ok (.goto 4, 3) := g99_X7_isMinute.2.2.2.2.2.2.2.2.2.1
theorem dX7_isMinute_18 : decode cX7_isMinute 18 = .ok (.iconst 0, 1) := g99_X7_isMinute.2.2.2.2.2.2.2.2.2.2.1
theorem dX7_isMinute_19 : decode cX7_isMinute 19 = .ok (.ireturn, 1) := g99_X7_isMinute.2.2.2.2.2.2.2.2.2.2.2
set_option maxRecDepth 100000 in
theorem g100_X7_lawOf : decode cX7_lawOf 0 = .ok (.iload_n 0, 1) ∧ decode cX7_lawOf 1 = .ok (.iconst 2, 1) ∧ decode cX7_lawOf 2 = .ok (.iload_n 1, 1) ∧ decode cX7_lawOf 3 = .ok (.imul, 1) ∧ decode cX7_lawOf 4 = .ok (.ishr, 1) ∧ decode cX7_lawOf 5 = .ok (.iconst 3, 1) ∧ decode cX7_lawOf 6 = .ok (.iand, 1) ∧ decode cX7_lawOf 7 = .ok (.ireturn, 1) := by decide +kernel
theorem dX7_lawOf_0 : decode cX7_lawOf 0 = .ok (.iload_n 0, 1) := g100_X7_lawOf.1
theorem dX7_lawOf_1 : decode cX7_lawOf 1 = .ok (.iconst 2, 1) := g100_X7_lawOf.2.1
theorem dX7_lawOf_2 : decode cX7_lawOf 2 = .ok (.iload_n 1, 1) := g100_X7_lawOf.2.2.1
theorem dX7_lawOf_3 : decode cX7_lawOf 3 = .ok (.imul, 1) := g100_X7_lawOf.2.2.2.1
theorem dX7_lawOf_4 : decode cX7_lawOf 4 = .ok (.ishr, 1) := g100_X7_lawOf.2.2.2.2.1
theorem dX7_lawOf_5 : decode cX7_lawOf 5 = .ok (.iconst 3, 1) := g100_X7_lawOf.2.2.2.2.2.1
theorem dX7_lawOf_6 : decode cX7_lawOf 6 = .ok (.iand, 1) := g100_X7_lawOf.2.2.2.2.2.2.1
theorem dX7_lawOf_7 : decode cX7_lawOf 7 = .ok (.ireturn, 1) := g100_X7_lawOf.2.2.2.2.2.2.2
set_option maxRecDepth 100000 in
theorem g101_X7_lawBits : decode cX7_lawBits 0 = .ok (.iload_n 1, 1) ∧ decode cX7_lawBits 1 = .ok (.iconst 2, 1) ∧ decode cX7_lawBits 2 = .ok (.iload_n 0, 1) ∧ decode cX7_lawBits 3 = .ok (.imul, 1) ∧ decode cX7_lawBits 4 = .ok (.ishl, 1) ∧ decode cX7_lawBits 5 = .ok (.ireturn, 1) := by decide +kernel
theorem dX7_lawBits_0 : decode cX7_lawBits 0 = .ok (.iload_n 1, 1) := g101_X7_lawBits.1
theorem dX7_lawBits_1 : decode cX7_lawBits 1 = .ok (.iconst 2, 1) := g101_X7_lawBits.2.1
theorem dX7_lawBits_2 : decode cX7_lawBits 2 = .ok (.iload_n 0, 1) := g101_X7_lawBits.2.2.1
theorem dX7_lawBits_3 : decode cX7_lawBits 3 = .ok (.imul, 1) := g101_X7_lawBits.2.2.2.1
theorem dX7_lawBits_4 : decode cX7_lawBits 4 = .ok (.ishl, 1) := g101_X7_lawBits.2.2.2.2.1
theorem dX7_lawBits_5 : decode cX7_lawBits 5 = .ok (.ireturn, 1) := g101_X7_lawBits.2.2.2.2.2
set_option maxRecDepth 100000 in
theorem g102_X7_greatestDivisor : decode cX7_greatestDivisor 0 = .ok (.iload_n 0, 1) ∧ decode cX7_greatestDivisor 1 = .ok (.istore_n 2, 1) ∧ decode cX7_greatestDivisor 2 = .ok (.iload_n 1, 1) ∧ decode cX7_greatestDivisor 3 = .ok (.istore_n 3, 1) ∧ decode cX7_greatestDivisor 4 = .ok (.iconst 0, 1) ∧ decode cX7_greatestDivisor 5 = .ok (.istore 4, 2) ∧ decode cX7_greatestDivisor 7 = .ok (.iload 4, 2) ∧ decode cX7_greatestDivisor 9 = .ok (.bipush 50, 2) ∧ decode cX7_greatestDivisor 11 = .ok (.if_icmp .ge 23, 3) ∧ decode cX7_greatestDivisor 14 = .ok (.iload_n 3, 1) ∧ decode cX7_greatestDivisor 15 = .ok (.ifCond .le 19, 3) ∧ decode cX7_greatestDivisor 18 = .ok (.iload_n 2, 1) ∧ decode cX7_greatestDivisor 19 = .ok (.iload_n 3, 1) ∧ decode cX7_greatestDivisor 20 = .ok (.irem, 1) ∧ decode cX7_greatestDivisor 21 = .ok (.istore 5, 2) ∧ decode cX7_greatestDivisor 23 = .ok (.iload_n 3, 1) ∧ decode cX7_greatestDivisor 24 = .ok (.istore_n 2, 1) ∧ decode cX7_greatestDivisor 25 = .ok (.iload 5, 2) ∧ decode cX7_greatestDivisor 27 = .ok (.istore_n 3, 1) ∧ decode cX7_greatestDivisor 28 = .ok (.iinc 4 1, 3) ∧ decode cX7_greatestDivisor 31 = .ok (.goto (-24), 3) ∧ decode cX7_greatestDivisor 34 = .ok (.iload_n 2, 1) ∧ decode cX7_greatestDivisor 35 = .ok (.ireturn, 1) := by decide +kernel
theorem dX7_greatestDivisor_0 : decode cX7_greatestDivisor 0 = .ok (.iload_n 0, 1) := g102_X7_greatestDivisor.1
theorem dX7_greatestDivisor_1 : decode cX7_greatestDivisor 1 = .ok (.istore_n 2, 1) := g102_X7_greatestDivisor.2.1
theorem dX7_greatestDivisor_2 : decode cX7_greatestDivisor 2 = .ok (.iload_n 1, 1) := g102_X7_greatestDivisor.2.2.1
theorem dX7_greatestDivisor_3 : decode cX7_greatestDivisor 3 = .ok (.istore_n 3, 1) := g102_X7_greatestDivisor.2.2.2.1
theorem dX7_greatestDivisor_4 : decode cX7_greatestDivisor 4 = .ok (.iconst 0, 1) := g102_X7_greatestDivisor.2.2.2.2.1
theorem dX7_greatestDivisor_5 : decode cX7_greatestDivisor 5 = .ok (.istore 4, 2) := g102_X7_greatestDivisor.2.2.2.2.2.1
theorem dX7_greatestDivisor_7 : decode cX7_greatestDivisor 7 = .ok (.iload 4, 2) := g102_X7_greatestDivisor.2.2.2.2.2.2.1
theorem dX7_greatestDivisor_9 : decode cX7_greatestDivisor 9 = .ok (.bipush 50, 2) := g102_X7_greatestDivisor.2.2.2.2.2.2.2.1
theorem dX7_greatestDivisor_11 : decode cX7_greatestDivisor 11 = .ok (.if_icmp .ge 23, 3) := g102_X7_greatestDivisor.2.2.2.2.2.2.2.2.1
theorem dX7_greatestDivisor_14 : decode cX7_greatestDivisor 14 = .ok (.iload_n 3, 1) := g102_X7_greatestDivisor.2.2.2.2.2.2.2.2.2.1
theorem dX7_greatestDivisor_15 : decode cX7_greatestDivisor 15 = .ok (.ifCond .le 19, 3) := g102_X7_greatestDivisor.2.2.2.2.2.2.2.2.2.2.1
theorem dX7_greatestDivisor_18 : decode cX7_greatestDivisor 18 = .ok (.iload_n 2, 1) := g102_X7_greatestDivisor.2.2.2.2.2.2.2.2.2.2.2.1
theorem dX7_greatestDivisor_19 : decode cX7_greatestDivisor 19 = .ok (.iload_n 3, 1) := g102_X7_greatestDivisor.2.2.2.2.2.2.2.2.2.2.2.2.1
theorem dX7_greatestDivisor_20 : decode cX7_greatestDivisor 20 = .ok (.irem, 1) := g102_X7_greatestDivisor.2.2.2.2.2.2.2.2.2.2.2.2.2.1
theorem dX7_greatestDivisor_21 : decode cX7_greatestDivisor 21 = .ok (.istore 5, 2) := g102_X7_greatestDivisor.2.2.2.2.2.2.2.2.2.2.2.2.2.2.1
theorem dX7_greatestDivisor_23 : decode cX7_greatestDivisor 23 = .ok (.iload_n 3, 1) := g102_X7_greatestDivisor.2.2.2.2.2.2.2.2.2.2.2.2.2.2.2.1
theorem dX7_greatestDivisor_24 : decode cX7_greatestDivisor 24 = .ok (.istore_n 2, 1) := g102_X7_greatestDivisor.2.2.2.2.2.2.2.2.2.2.2.2.2.2.2.2.1
theorem dX7_greatestDivisor_25 : decode cX7_greatestDivisor 25 = .ok (.iload 5, 2) := g102_X7_greatestDivisor.2.2.2.2.2.2.2.2.2.2.2.2.2.2.2.2.2.1
theorem dX7_greatestDivisor_27 : decode cX7_greatestDivisor 27 = .ok (.istore_n 3, 1) := g102_X7_greatestDivisor.2.2.2.2.2.2.2.2.2.2.2.2.2.2.2.2.2.2.1
theorem dX7_greatestDivisor_28 : decode cX7_greatestDivisor 28 = .ok (.iinc 4 1, 3) := g102_X7_greatestDivisor.2.2.2.2.2.2.2.2.2.2.2.2.2.2.2.2.2.2.2.1
theorem dX7_greatestDivisor_31 : decode cX7_greatestDivisor 31 = .ok (.goto (-24), 3) := g102_X7_greatestDivisor.2.2.2.2.2.2.2.2.2.2.2.2.2.2.2.2.2.2.2.2.1
theorem dX7_greatestDivisor_34 : decode cX7_greatestDivisor 34 = .ok (.iload_n 2, 1) := g102_X7_greatestDivisor.2.2.2.2.2.2.2.2.2.2.2.2.2.2.2.2.2.2.2.2.2.1
theorem dX7_greatestDivisor_35 : decode cX7_greatestDivisor 35 = .ok (.ireturn, 1) := g102_X7_greatestDivisor.2.2.2.2.2.2.2.2.2.2.2.2.2.2.2.2.2.2.2.2.2.2
set_option maxRecDepth 100000 in
theorem g103_X8_init : decode cX8_init 0 = .ok (.aload_n 0, 1) ∧ decode cX8_init 1 = .ok (.invokespecial 1, 3) ∧ decode cX8_init 4 = .ok (.aload_n 0, 1) ∧ decode cX8_init 5 = .ok (.sipush 400, 3) ∧ decode cX8_init 8 = .ok (.newarray .byte, 2) ∧ decode cX8_init 10 = .ok (.putfield 7, 3) ∧ decode cX8_init 13 = .ok (.aload_n 0, 1) ∧ decode cX8_init 14 = .ok (.bipush 12, 2) ∧ decode cX8_init 16 = .ok (.newarray .int, 2) ∧ decode cX8_init 18 = .ok (.putfield 13, 3) ∧ decode cX8_init 21 = .ok (.aload_n 0, 1) ∧ decode cX8_init 22 = .ok (.iconst 2, 1) ∧ decode cX8_init 23 = .ok (.newarray .int, 2) ∧ decode cX8_init 25 = .ok (.putfield 17, 3) ∧ decode cX8_init 28 = .ok (.aload_n 0, 1) ∧ decode cX8_init 29 = .ok (.bipush 60, 2) ∧ decode cX8_init 31 = .ok (.newarray .int, 2) ∧ decode cX8_init 33 = .ok (.putfield 20, 3) ∧ decode cX8_init 36 = .ok (.aload_n 0, 1) ∧ decode cX8_init 37 = .ok (.bipush 18, 2) ∧ decode cX8_init 39 = .ok (.newarray .int, 2) ∧ decode cX8_init 41 = .ok (.putfield 23, 3) ∧ decode cX8_init 44 = .ok (.aload_n 0, 1) ∧ decode cX8_init 45 = .ok (.bipush 12, 2) ∧ decode cX8_init 47 = .ok (.newarray .long, 2) ∧ decode cX8_init 49 = .ok (.putfield 26, 3) ∧ decode cX8_init 52 = .ok (.aload_n 0, 1) ∧ decode cX8_init 53 = .ok (.bipush 24, 2) ∧ decode cX8_init 55 = .ok (.newarray .int, 2) ∧ decode cX8_init 57 = .ok (.putfield 30, 3) ∧ decode cX8_init 60 = .ok (.aload_n 0, 1) ∧ decode cX8_init 61 = .ok (.bipush 8, 2) ∧ decode cX8_init 63 = .ok (.newarray .int, 2) ∧ decode cX8_init 65 = .ok (.putfield 33, 3) ∧ decode cX8_init 68 = .ok (.aload_n 0, 1) ∧ decode cX8_init 69 = .ok (.bipush 9, 2) ∧ decode cX8_init 71 = .ok (.newarray .long, 2) ∧ decode cX8_init 73 = .ok (.putfield 36, 3) ∧ decode cX8_init 76 = .ok (.aload_n 0, 1) ∧ decode cX8_init 77 = .ok (.bipush 20, 2) ∧ decode cX8_init 79 = .ok (.newarray .int, 2) ∧ decode cX8_init 81 = .ok (.putfield 39, 3) ∧ decode cX8_init 84 = .ok (.aload_n 0, 1) ∧ decode cX8_init 85 = .ok (.iconst 5, 1) ∧ decode cX8_init 86 = .ok (.newarray .int, 2) ∧ decode cX8_init 88 = .ok (.putfield 42, 3) ∧ decode cX8_init 91 = .ok (.aload_n 0, 1) ∧ decode cX8_init 92 = .ok (.invokevirtual 45, 3) ∧ decode cX8_init 95 = .ok (.aload_n 0, 1) ∧ decode cX8_init 96 = .ok (.getfield 17, 3) ∧ decode cX8_init 99 = .ok (.iconst 1, 1) ∧ decode cX8_init 100 = .ok (.iconst 1, 1) ∧ decode cX8_init 101 = .ok (.iastore, 1) ∧ decode cX8_init 102 = .ok (.aload_n 0, 1) ∧ decode cX8_init 103 = .ok (.getfield 20, 3) ∧ decode cX8_init 106 = .ok (.bipush 31, 2) ∧ decode cX8_init 108 = .ok (.iconst 1, 1) ∧ decode cX8_init 109 = .ok (.iastore, 1) ∧ decode cX8_init 110 = .ok (.aload_n 0, 1) ∧ decode cX8_init 111 = .ok (.getfield 20, 3) := by decide +kernel
theorem dX8_init_0 : decode cX8_init 0 = .ok (.aload_n 0, 1) := g103_X8_init.1
theorem dX8_init_1 : decode cX8_init 1 = .ok (.invokespecial 1, 3) := g103_X8_init.2.1
theorem dX8_init_4 : decode cX8_init 4 = .ok (.aload_n 0, 1) := g103_X8_init.2.2.1
theorem dX8_init_5 : decode cX8_init 5 = .ok (.sipush 400, 3) := g103_X8_init.2.2.2.1
theorem dX8_init_8 : decode cX8_init 8 = .ok (.newarray .byte, 2) := g103_X8_init.2.2.2.2.1
theorem dX8_init_10 : decode cX8_init 10 = .ok (.putfield 7, 3) := g103_X8_init.2.2.2.2.2.1
theorem dX8_init_13 : decode cX8_init 13 = .ok (.aload_n 0, 1) := g103_X8_init.2.2.2.2.2.2.1
theorem dX8_init_14 : decode cX8_init 14 = .ok (.bipush 12, 2) := g103_X8_init.2.2.2.2.2.2.2.1
theorem dX8_init_16 : decode cX8_init 16 = .ok (.newarray .int, 2) := g103_X8_init.2.2.2.2.2.2.2.2.1
theorem dX8_init_18 : decode cX8_init 18 = .ok (.putfield 13, 3) := g103_X8_init.2.2.2.2.2.2.2.2.2.1
theorem dX8_init_21 : decode cX8_init 21 = .ok (.aload_n 0, 1) := g103_X8_init.2.2.2.2.2.2.2.2.2.2.1
theorem dX8_init_22 : decode cX8_init 22 = .ok (.iconst 2, 1) := g103_X8_init.2.2.2.2.2.2.2.2.2.2.2.1
theorem dX8_init_23 : decode cX8_init 23 = .ok (.newarray .int, 2) := g103_X8_init.2.2.2.2.2.2.2.2.2.2.2.2.1
theorem dX8_init_25 : decode cX8_init 25 = .ok (.putfield 17, 3) := g103_X8_init.2.2.2.2.2.2.2.2.2.2.2.2.2.1
theorem dX8_init_28 : decode cX8_init 28 = .ok (.aload_n 0, 1) := g103_X8_init.2.2.2.2.2.2.2.2.2.2.2.2.2.2.1
theorem dX8_init_29 : decode cX8_init 29 = .ok (.bipush 60, 2) := g103_X8_init.2.2.2.2.2.2.2.2.2.2.2.2.2.2.2.1
theorem dX8_init_31 : decode cX8_init 31 = .ok (.newarray .int, 2) := g103_X8_init.2.2.2.2.2.2.2.2.2.2.2.2.2.2.2.2.1
theorem dX8_init_33 : decode cX8_init 33 = .ok (.putfield 20, 3) := g103_X8_init.2.2.2.2.2.2.2.2.2.2.2.2.2.2.2.2.2.1
theorem dX8_init_36 : decode cX8_init 36 = .ok (.aload_n 0, 1) := g103_X8_init.2.2.2.2.2.2.2.2.2.2.2.2.2.2.2.2.2.2.1
theorem dX8_init_37 : decode cX8_init 37 = .ok (.bipush 18, 2) := g103_X8_init.2.2.2.2.2.2.2.2.2.2.2.2.2.2.2.2.2.2.2.1
theorem dX8_init_39 : decode cX8_init 39 = .ok (.newarray .int, 2) := g103_X8_init.2.2.2.2.2.2.2.2.2.2.2.2.2.2.2.2.2.2.2.2.1
theorem dX8_init_41 : decode cX8_init 41 = .ok (.putfield 23, 3) := g103_X8_init.2.2.2.2.2.2.2.2.2.2.2.2.2.2.2.2.2.2.2.2.2.1
theorem dX8_init_44 : decode cX8_init 44 = .ok (.aload_n 0, 1) := g103_X8_init.2.2.2.2.2.2.2.2.2.2.2.2.2.2.2.2.2.2.2.2.2.2.1
theorem dX8_init_45 : decode cX8_init 45 = .ok (.bipush 12, 2) := g103_X8_init.2.2.2.2.2.2.2.2.2.2.2.2.2.2.2.2.2.2.2.2.2.2.2.1
theorem dX8_init_47 : decode cX8_init 47 = .ok (.newarray .long, 2) := g103_X8_init.2.2.2.2.2.2.2.2.2.2.2.2.2.2.2.2.2.2.2.2.2.2.2.2.1
theorem dX8_init_49 : decode cX8_init 49 = .ok (.putfield 26, 3) := g103_X8_init.2.2.2.2.2.2.2.2.2.2.2.2.2.2.2.2.2.2.2.2.2.2.2.2.2.1
theorem dX8_init_52 : decode cX8_init 52 = .ok (.aload_n 0, 1) := g103_X8_init.2.2.2.2.2.2.2.2.2.2.2.2.2.2.2.2.2.2.2.2.2.2.2.2.2.2.1
theorem dX8_init_53 : decode cX8_init 53 = .ok (.bipush 24, 2) := g103_X8_init.2.2.2.2.2.2.2.2.2.2.2.2.2.2.2.2.2.2.2.2.2.2.2.2.2.2.2.1
theorem dX8_init_55 : decode cX8_init 55 = .ok (.newarray .int, 2) := g103_X8_init.2.2.2.2.2.2.2.2.2.2.2.2.2.2.2.2.2.2.2.2.2.2.2.2.2.2.2.2.1
theorem dX8_init_57 : decode cX8_init 57 = .ok (.putfield 30, 3) := g103_X8_init.2.2.2.2.2.2.2.2.2.2.2.2.2.2.2.2.2.2.2.2.2.2.2.2.2.2.2.2.2.1
theorem dX8_init_60 : decode cX8_init 60 = .ok (.aload_n 0, 1) := g103_X8_init.2.2.2.2.2.2.2.2.2.2.2.2.2.2.2.2.2.2.2.2.2.2.2.2.2.2.2.2.2.2.1
theorem dX8_init_61 : decode cX8_init 61 = .ok (.bipush 8, 2) := g103_X8_init.2.2.2.2.2.2.2.2.2.2.2.2.2.2.2.2.2.2.2.2.2.2.2.2.2.2.2.2.2.2.2.1
theorem dX8_init_63 : decode cX8_init 63 = .ok (.newarray .int, 2) := g103_X8_init.2.2.2.2.2.2.2.2.2.2.2.2.2.2.2.2.2.2.2.2.2.2.2.2.2.2.2.2.2.2.2.2.1
theorem dX8_init_65 : decode cX8_init 65 = .ok (.putfield 33, 3) := g103_X8_init.2.2.2.2.2.2.2.2.2.2.2.2.2.2.2.2.2.2.2.2.2.2.2.2.2.2.2.2.2.2.2.2.2.1
theorem dX8_init_68 : decode cX8_init 68 = .ok (.aload_n 0, 1) := g103_X8_init.2.2.2.2.2.2.2.2.2.2.2.2.2.2.2.2.2.2.2.2.2.2.2.2.2.2.2.2.2.2.2.2.2.2.1
theorem dX8_init_69 : decode cX8_init 69 = .ok (.bipush 9, 2) := g103_X8_init.2.2.2.2.2.2.2.2.2.2.2.2.2.2.2.2.2.2.2.2.2.2.2.2.2.2.2.2.2.2.2.2.2.2.2.1
theorem dX8_init_71 : decode cX8_init 71 = .ok (.newarray .long, 2) := g103_X8_init.2.2.2.2.2.2.2.2.2.2.2.2.2.2.2.2.2.2.2.2.2.2.2.2.2.2.2.2.2.2.2.2.2.2.2.2.1
theorem dX8_init_73 : decode cX8_init 73 = .ok (.putfield 36, 3) := g103_X8_init.2.2.2.2.2.2.2.2.2.2.2.2.2.2.2.2.2.2.2.2.2.2.2.2.2.2.2.2.2.2.2.2.2.2.2.2.2.1
theorem dX8_init_76 : decode cX8_init 76 = .ok (.aload_n 0, 1) := g103_X8_init.2.2.2.2.2.2.2.2.2.2.2.2.2.2.2.2.2.2.2.2.2.2.2.2.2.2.2.2.2.2.2.2.2.2.2.2.2.2.1
theorem dX8_init_77 : decode cX8_init 77 = .ok (.bipush 20, 2) := g103_X8_init.2.2.2.2.2.2.2.2.2.2.2.2.2.2.2.2.2.2.2.2.2.2.2.2.2.2.2.2.2.2.2.2.2.2.2.2.2.2.2.1
theorem dX8_init_79 : decode cX8_init 79 = .ok (.newarray .int, 2) := g103_X8_init.2.2.2.2.2.2.2.2.2.2.2.2.2.2.2.2.2.2.2.2.2.2.2.2.2.2.2.2.2.2.2.2.2.2.2.2.2.2.2.2.1
theorem dX8_init_81 : decode cX8_init 81 = .ok (.putfield 39, 3) := g103_X8_init.2.2.2.2.2.2.2.2.2.2.2.2.2.2.2.2.2.2.2.2.2.2.2.2.2.2.2.2.2.2.2.2.2.2.2.2.2.2.2.2.2.1
theorem dX8_init_84 : decode cX8_init 84 = .ok (.aload_n 0, 1) := g103_X8_init.2.2.2.2.2.2.2.2.2.2.2.2.2.2.2.2.2.2.2.2.2.2.2.2.2.2.2.2.2.2.2.2.2.2.2.2.2.2.2.2.2.2.1
theorem dX8_init_85 : decode cX8_init 85 = .ok (.iconst 5, 1) := g103_X8_init.2.2.2.2.2.2.2.2.2.2.2.2.2.2.2.2.2.2.2.2.2.2.2.2.2.2.2.2.2.2.2.2.2.2.2.2.2.2.2.2.2.2.2.1
theorem dX8_init_86 : decode cX8_init 86 = .ok (.newarray .int, 2) := g103_X8_init.2.2.2.2.2.2.2.2.2.2.2.2.2.2.2.2.2.2.2.2.2.2.2.2.2.2.2.2.2.2.2.2.2.2.2.2.2.2.2.2.2.2.2.2.1
theorem dX8_init_88 : decode cX8_init 88 = .ok (.putfield 42, 3) := g103_X8_init.2.2.2.2.2.2.2.2.2.2.2.2.2.2.2.2.2.2.2.2.2.2.2.2.2.2.2.2.2.2.2.2.2.2.2.2.2.2.2.2.2.2.2.2.2.1
theorem dX8_init_91 : decode cX8_init 91 = .ok (.aload_n 0, 1) := g103_X8_init.2.2.2.2.2.2.2.2.2.2.2.2.2.2.2.2.2.2.2.2.2.2.2.2.2.2.2.2.2.2.2.2.2.2.2.2.2.2.2.2.2.2.2.2.2.2.1
theorem dX8_init_92 : decode cX8_init 92 = .ok (.invokevirtual 45, 3) := g103_X8_init.2.2.2.2.2.2.2.2.2.2.2.2.2.2.2.2.2.2.2.2.2.2.2.2.2.2.2.2.2.2.2.2.2.2.2.2.2.2.2.2.2.2.2.2.2.2.2.1
theorem dX8_init_95 : decode cX8_init 95 = .ok (.aload_n 0, 1) := g103_X8_init.2.2.2.2.2.2.2.2.2.2.2.2.2.2.2.2.2.2.2.2.2.2.2.2.2.2.2.2.2.2.2.2.2.2.2.2.2.2.2.2.2.2.2.2.2.2.2.2.1
theorem dX8_init_96 : decode cX8_init 96 = .ok (.getfield 17, 3) := g103_X8_init.2.2.2.2.2.2.2.2.2.2.2.2.2.2.2.2.2.2.2.2.2.2.2.2.2.2.2.2.2.2.2.2.2.2.2.2.2.2.2.2.2.2.2.2.2.2.2.2.2.1
theorem dX8_init_99 : decode cX8_init 99 = .ok (.iconst 1, 1) := g103_X8_init.2.2.2.2.2.2.2.2.2.2.2.2.2.2.2.2.2.2.2.2.2.2.2.2.2.2.2.2.2.2.2.2.2.2.2.2.2.2.2.2.2.2.2.2.2.2.2.2.2.2.1
theorem dX8_init_100 : decode cX8_init 100 = .ok (.iconst 1, 1) := g103_X8_init.2.2.2.2.2.2.2.2.2.2.2.2.2.2.2.2.2.2.2.2.2.2.2.2.2.2.2.2.2.2.2.2.2.2.2.2.2.2.2.2.2.2.2.2.2.2.2.2.2.2.2.1
theorem dX8_init_101 : decode cX8_init 101 = .ok (.iastore, 1) := g103_X8_init.2.2.2.2.2.2.2.2.2.2.2.2.2.2.2.2.2.2.2.2.2.2.2.2.2.2.2.2.2.2.2.2.2.2.2.2.2.2.2.2.2.2.2.2.2.2.2.2.2.2.2.2.1
theorem dX8_init_102 : decode cX8_init 102 = .ok (.aload_n 0, 1) := g103_X8_init.2.2.2.2.2.2.2.2.2.2.2.2.2.2.2.2.2.2.2.2.2.2.2.2.2.2.2.2.2.2.2.2.2.2.2.2.2.2.2.2.2.2.2.2.2.2.2.2.2.2.2.2.2.1
theorem dX8_init_103 : decode cX8_init 103 = .ok (.getfield 20, 3) := g103_X8_init.2.2.2.2.2.2.2.2.2.2.2.2.2.2.2.2.2.2.2.2.2.2.2.2.2.2.2.2.2.2.2.2.2.2.2.2.2.2.2.2.2.2.2.2.2.2.2.2.2.2.2.2.2.2.1
theorem dX8_init_106 : decode cX8_init 106 = .ok (.bipush 31, 2) := g103_X8_init.2.2.2.2.2.2.2.2.2.2.2.2.2.2.2.2.2.2.2.2.2.2.2.2.2.2.2.2.2.2.2.2.2.2.2.2.2.2.2.2.2.2.2.2.2.2.2.2.2.2.2.2.2.2.2.1
theorem dX8_init_108 : decode cX8_init 108 = .ok (.iconst 1, 1) := g103_X8_init.2.2.2.2.2.2.2.2.2.2.2.2.2.2.2.2.2.2.2.2.2.2.2.2.2.2.2.2.2.2.2.2.2.2.2.2.2.2.2.2.2.2.2.2.2.2.2.2.2.2.2.2.2.2.2.2.1
theorem dX8_init_109 : decode cX8_init 109 = .ok (.iastore, 1) := g103_X8_init.2.2.2.2.2.2.2.2.2.2.2.2.2.2.2.2.2.2.2.2.2.2.2.2.2.2.2.2.2.2.2.2.2.2.2.2.2.2.2.2.2.2.2.2.2.2.2.2.2.2.2.2.2.2.2.2.2.1
theorem dX8_init_110 : decode cX8_init 110 = .ok (.aload_n 0, 1) := g103_X8_init.2.2.2.2.2.2.2.2.2.2.2.2.2.2.2.2.2.2.2.2.2.2.2.2.2.2.2.2.2.2.2.2.2.2.2.2.2.2.2.2.2.2.2.2.2.2.2.2.2.2.2.2.2.2.2.2.2.2.1
theorem dX8_init_111 : decode cX8_init 111 = .ok (.getfield 20, 3) := g103_X8_init.2.2.2.2.2.2.2.2.2.2.2.2.2.2.2.2.2.2.2.2.2.2.2.2.2.2.2.2.2.2.2.2.2.2.2.2.2.2.2.2.2.2.2.2.2.2.2.2.2.2.2.2.2.2.2.2.2.2.2
set_option maxRecDepth 100000 in
theorem g104_X8_init : decode cX8_init 114 = .ok (.bipush 32, 2) ∧ decode cX8_init 116 = .ok (.iconst 1, 1) ∧ decode cX8_init 117 = .ok (.iastore, 1) ∧ decode cX8_init 118 = .ok (.aload_n 0, 1) ∧ decode cX8_init 119 = .ok (.getfield 20, 3) ∧ decode cX8_init 122 = .ok (.bipush 33, 2) ∧ decode cX8_init 124 = .ok (.bipush 55, 2) ∧ decode cX8_init 126 = .ok (.iastore, 1) ∧ decode cX8_init 127 = .ok (.aload_n 0, 1) ∧ decode cX8_init 128 = .ok (.getfield 20, 3) ∧ decode cX8_init 131 = .ok (.bipush 34, 2) ∧ decode cX8_init 133 = .ok (.bipush 55, 2) ∧ decode cX8_init 135 = .ok (.iastore, 1) ∧ decode cX8_init 136 = .ok (.aload_n 0, 1) ∧ decode cX8_init 137 = .ok (.invokevirtual 48, 3) ∧ decode cX8_init 140 = .ok (.return_, 1) := by decide +kernel
theorem dX8_init_114 : decode cX8_init 114 = .ok (.bipush 32, 2) := g104_X8_init.1
theorem dX8_init_116 : decode cX8_init 116 = .ok (.iconst 1, 1) := g104_X8_init.2.1
theorem dX8_init_117 : decode cX8_init 117 = .ok (.iastore, 1) := g104_X8_init.2.2.1
theorem dX8_init_118 : decode cX8_init 118 = .ok (.aload_n 0, 1) := g104_X8_init.2.2.2.1
theorem dX8_init_119 : decode cX8_init 119 = .ok (.getfield 20, 3) := g104_X8_init.2.2.2.2.1
theorem dX8_init_122 : decode cX8_init 122 = .ok (.bipush 33, 2) := g104_X8_init.2.2.2.2.2.1
theorem dX8_init_124 : decode cX8_init 124 = .ok (.bipush 55, 2) := g104_X8_init.2.2.2.2.2.2.1
theorem dX8_init_126 : decode cX8_init 126 = .ok (.iastore, 1) := g104_X8_init.2.2.2.2.2.2.2.1
theorem dX8_init_127 : decode cX8_init 127 = .ok (.aload_n 0, 1) := g104_X8_init.2.2.2.2.2.2.2.2.1
theorem dX8_init_128 : decode cX8_init 128 = .ok (.getfield 20, 3) := g104_X8_init.2.2.2.2.2.2.2.2.2.1
theorem dX8_init_131 : decode cX8_init 131 = .ok (.bipush 34, 2) := g104_X8_init.2.2.2.2.2.2.2.2.2.2.1
theorem dX8_init_133 : decode cX8_init 133 = .ok (.bipush 55, 2) := g104_X8_init.2.2.2.2.2.2.2.2.2.2.2.1
theorem dX8_init_135 : decode cX8_init 135 = .ok (.iastore, 1) := g104_X8_init.2.2.2.2.2.2.2.2.2.2.2.2.1
theorem dX8_init_136 : decode cX8_init 136 = .ok (.aload_n 0, 1) := g104_X8_init.2.2.2.2.2.2.2.2.2.2.2.2.2.1
theorem dX8_init_137 : decode cX8_init 137 = .ok (.invokevirtual 48, 3) := g104_X8_init.2.2.2.2.2.2.2.2.2.2.2.2.2.2.1
theorem dX8_init_140 : decode cX8_init 140 = .ok (.return_, 1) := g104_X8_init.2.2.2.2.2.2.2.2.2.2.2.2.2.2.2
set_option maxRecDepth 100000 in
theorem g105_X8_in : decode cX8_in 0 = .ok (.lload_n 0, 1) ∧ decode cX8_in 1 = .ok (.lload_n 2, 1) ∧ decode cX8_in 2 = .ok (.lcmp, 1) ∧ decode cX8_in 3 = .ok (.ifCond .lt 14, 3) ∧ decode cX8_in 6 = .ok (.lload_n 0, 1) ∧ decode cX8_in 7 = .ok (.lload 4, 2) ∧ decode cX8_in 9 = .ok (.lcmp, 1) ∧ decode cX8_in 10 = .ok (.ifCond .gt 7, 3) ∧ decode cX8_in 13 = .ok (.iconst 1, 1) ∧ decode cX8_in 14 = .ok (.goto 4, 3) ∧ decode cX8_in 17 = .ok (.iconst 0, 1) ∧ decode cX8_in 18 = .ok (.ireturn, 1) := by decide +kernel
theorem dX8_in_0 : decode cX8_in 0 = .ok (.lload_n 0, 1) := g105_X8_in.1
theorem dX8_in_1 : decode cX8_in 1 = .ok (.lload_n 2, 1) := g105_X8_in.2.1
theorem dX8_in_2 : decode cX8_in 2 = .ok (.lcmp, 1) := g105_X8_in.2.2.1
theorem dX8_in_3 : decode cX8_in 3 = .ok (.ifCond .lt 14, 3) := g105_X8_in.2.2.2.1
theorem dX8_in_6 : decode cX8_in 6 = .ok (.lload_n 0, 1) := g105_X8_in.2.2.2.2.1
theorem dX8_in_7 : decode cX8_in 7 = .ok (.lload 4, 2) := g105_X8_in.2.2.2.2.2.1
theorem dX8_in_9 : decode cX8_in 9 = .ok (.lcmp, 1) := g105_X8_in.2.2.2.2.2.2.1
theorem dX8_in_10 : decode cX8_in 10 = .ok (.ifCond .gt 7, 3) := g105_X8_in.2.2.2.2.2.2.2.1
theorem dX8_in_13 : decode cX8_in 13 = .ok (.iconst 1, 1) := g105_X8_in.2.2.2.2.2.2.2.2.1
theorem dX8_in_14 : decode cX8_in 14 = .ok (.goto 4, 3) := g105_X8_in.2.2.2.2.2.2.2.2.2.1
theorem dX8_in_17 : decode cX8_in 17 = .ok (.iconst 0, 1) := g105_X8_in.2.2.2.2.2.2.2.2.2.2.1
theorem dX8_in_18 : decode cX8_in 18 = .ok (.ireturn, 1) := g105_X8_in.2.2.2.2.2.2.2.2.2.2.2
set_option maxRecDepth 100000 in
theorem g106_X8_write : decode cX8_write 0 = .ok (.iload_n 1, 1) ∧ decode cX8_write 1 = .ok (.i2l, 1) ∧ decode cX8_write 2 = .ok (.lconst 1, 1) ∧ decode cX8_write 3 = .ok (.ldc2_w 51, 3) ∧ decode cX8_write 6 = .ok (.invokestatic 53, 3) ∧ decode cX8_write 9 = .ok (.ifCond .ne 5, 3) ∧ decode cX8_write 12 = .ok (.iconst (-1), 1) ∧ decode cX8_write 13 = .ok (.ireturn, 1) ∧ decode cX8_write 14 = .ok (.aload_n 0, 1) ∧ decode cX8_write 15 = .ok (.getfield 57, 3) ∧ decode cX8_write 18 = .ok (.iload_n 1, 1) ∧ decode cX8_write 19 = .ok (.iadd, 1) ∧ decode cX8_write 20 = .ok (.sipush 400, 3) ∧ decode cX8_write 23 = .ok (.if_icmp .le 6, 3) ∧ decode cX8_write 26 = .ok (.bipush (-3), 2) ∧ decode cX8_write 28 = .ok (.ireturn, 1) ∧ decode cX8_write 29 = .ok (.iload_n 1, 1) ∧ decode cX8_write 30 = .ok (.iconst 1, 1) ∧ decode cX8_write 31 = .ok (.isub, 1) ∧ decode cX8_write 32 = .ok (.istore 4, 2) ∧ decode cX8_write 34 = .ok (.iload 4, 2) ∧ decode cX8_write 36 = .ok (.ifCond .lt 37, 3) ∧ decode cX8_write 39 = .ok (.aload_n 0, 1) ∧ decode cX8_write 40 = .ok (.getfield 7, 3) ∧ decode cX8_write 43 = .ok (.aload_n 0, 1) ∧ decode cX8_write 44 = .ok (.getfield 57, 3) ∧ decode cX8_write 47 = .ok (.lload_n 2, 1) ∧ decode cX8_write 48 = .ok (.bipush 8, 2) ∧ decode cX8_write 50 = .ok (.iload 4, 2) ∧ decode cX8_write 52 = .ok (.imul, 1) ∧ decode cX8_write 53 = .ok (.lshr, 1) ∧ decode cX8_write 54 = .ok (.l2i, 1) ∧ decode cX8_write 55 = .ok (.i2b, 1) ∧ decode cX8_write 56 = .ok (.bastore, 1) ∧ decode cX8_write 57 = .ok (.aload_n 0, 1) ∧ decode cX8_write 58 = .ok (.dup, 1) ∧ decode cX8_write 59 = .ok (.getfield 57, 3) ∧ decode cX8_write 62 = .ok (.iconst 1, 1) ∧ decode cX8_write 63 = .ok (.iadd, 1) ∧ decode cX8_write 64 = .ok (.putfield 57, 3) ∧ decode cX8_write 67 = .ok (.iinc 4 (-1), 3) ∧ decode cX8_write 70 = .ok (.goto (-36), 3) ∧ decode cX8_write 73 = .ok (.aload_n 0, 1) ∧ decode cX8_write 74 = .ok (.getfield 57, 3) ∧ decode cX8_write 77 = .ok (.ireturn, 1) := by decide +kernel
theorem dX8_write_0 : decode cX8_write 0 = .ok (.iload_n 1, 1) := g106_X8_write.1
theorem dX8_write_1 : decode cX8_write 1 = .ok (.i2l, 1) := g106_X8_write.2.1
theorem dX8_write_2 : decode cX8_write 2 = .ok (.lconst 1, 1) := g106_X8_write.2.2.1
theorem dX8_write_3 : decode cX8_write 3 = .ok (.ldc2_w 51, 3) := g106_X8_write.2.2.2.1
theorem dX8_write_6 : decode cX8_write 6 = .ok (.invokestatic 53, 3) := g106_X8_write.2.2.2.2.1
theorem dX8_write_9 : decode cX8_write 9 = .ok (.ifCond .ne 5, 3) := g106_X8_write.2.2.2.2.2.1
theorem dX8_write_12 : decode cX8_write 12 = .ok (.iconst (-1), 1) := g106_X8_write.2.2.2.2.2.2.1
theorem dX8_write_13 : decode cX8_write 13 = .ok (.ireturn, 1) := g106_X8_write.2.2.2.2.2.2.2.1
theorem dX8_write_14 : decode cX8_write 14 = .ok (.aload_n 0, 1) := g106_X8_write.2.2.2.2.2.2.2.2.1
theorem dX8_write_15 : decode cX8_write 15 = .ok (.getfield 57, 3) := g106_X8_write.2.2.2.2.2.2.2.2.2.1
theorem dX8_write_18 : decode cX8_write 18 = .ok (.iload_n 1, 1) := g106_X8_write.2.2.2.2.2.2.2.2.2.2.1
theorem dX8_write_19 : decode cX8_write 19 = .ok (.iadd, 1) := g106_X8_write.2.2.2.2.2.2.2.2.2.2.2.1
theorem dX8_write_20 : decode cX8_write 20 = .ok (.sipush 400, 3) := g106_X8_write.2.2.2.2.2.2.2.2.2.2.2.2.1
theorem dX8_write_23 : decode cX8_write 23 = .ok (.if_icmp .le 6, 3) := g106_X8_write.2.2.2.2.2.2.2.2.2.2.2.2.2.1
theorem dX8_write_26 : decode cX8_write 26 = .ok (.bipush (-3), 2) := g106_X8_write.2.2.2.2.2.2.2.2.2.2.2.2.2.2.1
theorem dX8_write_28 : decode cX8_write 28 = .ok (.ireturn, 1) := g106_X8_write.2.2.2.2.2.2.2.2.2.2.2.2.2.2.2.1
theorem dX8_write_29 : decode cX8_write 29 = .ok (.iload_n 1, 1) := g106_X8_write.2.2.2.2.2.2.2.2.2.2.2.2.2.2.2.2.1
theorem dX8_write_30 : decode cX8_write 30 = .ok (.iconst 1, 1) := g106_X8_write.2.2.2.2.2.2.2.2.2.2.2.2.2.2.2.2.2.1
theorem dX8_write_31 : decode cX8_write 31 = .ok (.isub, 1) := g106_X8_write.2.2.2.2.2.2.2.2.2.2.2.2.2.2.2.2.2.2.1
theorem dX8_write_32 : decode cX8_write 32 = .ok (.istore 4, 2) := g106_X8_write.2.2.2.2.2.2.2.2.2.2.2.2.2.2.2.2.2.2.2.1
theorem dX8_write_34 : decode cX8_write 34 = .ok (.iload 4, 2) := g106_X8_write.2.2.2.2.2.2.2.2.2.2.2.2.2.2.2.2.2.2.2.2.1
theorem dX8_write_36 : decode cX8_write 36 = .ok (.ifCond .lt 37, 3) := g106_X8_write.2.2.2.2.2.2.2.2.2.2.2.2.2.2.2.2.2.2.2.2.2.1
theorem dX8_write_39 : decode cX8_write 39 = .ok (.aload_n 0, 1) := g106_X8_write.2.2.2.2.2.2.2.2.2.2.2.2.2.2.2.2.2.2.2.2.2.2.1
theorem dX8_write_40 : decode cX8_write 40 = .ok (.getfield 7, 3) := g106_X8_write.2.2.2.2.2.2.2.2.2.2.2.2.2.2.2.2.2.2.2.2.2.2.2.1
theorem dX8_write_43 : decode cX8_write 43 = .ok (.aload_n 0, 1) := g106_X8_write.2.2.2.2.2.2.2.2.2.2.2.2.2.2.2.2.2.2.2.2.2.2.2.2.1
theorem dX8_write_44 : decode cX8_write 44 = .ok (.getfield 57, 3) := g106_X8_write.2.2.2.2.2.2.2.2.2.2.2.2.2.2.2.2.2.2.2.2.2.2.2.2.2.1
theorem dX8_write_47 : decode cX8_write 47 = .ok (.lload_n 2, 1) := g106_X8_write.2.2.2.2.2.2.2.2.2.2.2.2.2.2.2.2.2.2.2.2.2.2.2.2.2.2.1
theorem dX8_write_48 : decode cX8_write 48 = .ok (.bipush 8, 2) := g106_X8_write.2.2.2.2.2.2.2.2.2.2.2.2.2.2.2.2.2.2.2.2.2.2.2.2.2.2.2.1
theorem dX8_write_50 : decode cX8_write 50 = .ok (.iload 4, 2) := g106_X8_write.2.2.2.2.2.2.2.2.2.2.2.2.2.2.2.2.2.2.2.2.2.2.2.2.2.2.2.2.1
theorem dX8_write_52 : decode cX8_write 52 = .ok (.imul, 1) := g106_X8_write.2.2.2.2.2.2.2.2.2.2.2.2.2.2.2.2.2.2.2.2.2.2.2.2.2.2.2.2.2.1
theorem dX8_write_53 : decode cX8_write 53 = .ok (.lshr, 1) := g106_X8_write.2.2.2.2.2.2.2.2.2.2.2.2.2.2.2.2.2.2.2.2.2.2.2.2.2.2.2.2.2.2.1
theorem dX8_write_54 : decode cX8_write 54 = .ok (.l2i, 1) := g106_X8_write.2.2.2.2.2.2.2.2.2.2.2.2.2.2.2.2.2.2.2.2.2.2.2.2.2.2.2.2.2.2.2.1
theorem dX8_write_55 : decode cX8_write 55 = .ok (.i2b, 1) := g106_X8_write.2.2.2.2.2.2.2.2.2.2.2.2.2.2.2.2.2.2.2.2.2.2.2.2.2.2.2.2.2.2.2.2.1
theorem dX8_write_56 : decode cX8_write 56 = .ok (.bastore, 1) := g106_X8_write.2.2.2.2.2.2.2.2.2.2.2.2.2.2.2.2.2.2.2.2.2.2.2.2.2.2.2.2.2.2.2.2.2.1
theorem dX8_write_57 : decode cX8_write 57 = .ok (.aload_n 0, 1) := g106_X8_write.2.2.2.2.2.2.2.2.2.2.2.2.2.2.2.2.2.2.2.2.2.2.2.2.2.2.2.2.2.2.2.2.2.2.1
theorem dX8_write_58 : decode cX8_write 58 = .ok (.dup, 1) := g106_X8_write.2.2.2.2.2.2.2.2.2.2.2.2.2.2.2.2.2.2.2.2.2.2.2.2.2.2.2.2.2.2.2.2.2.2.2.1
theorem dX8_write_59 : decode cX8_write 59 = .ok (.getfield 57, 3) := g106_X8_write.2.2.2.2.2.2.2.2.2.2.2.2.2.2.2.2.2.2.2.2.2.2.2.2.2.2.2.2.2.2.2.2.2.2.2.2.1
theorem dX8_write_62 : decode cX8_write 62 = .ok (.iconst 1, 1) := g106_X8_write.2.2.2.2.2.2.2.2.2.2.2.2.2.2.2.2.2.2.2.2.2.2.2.2.2.2.2.2.2.2.2.2.2.2.2.2.2.1
theorem dX8_write_63 : decode cX8_write 63 = .ok (.iadd, 1) := g106_X8_write.2.2.2.2.2.2.2.2.2.2.2.2.2.2.2.2.2.2.2.2.2.2.2.2.2.2.2.2.2.2.2.2.2.2.2.2.2.2.1
theorem dX8_write_64 : decode cX8_write 64 = .ok (.putfield 57, 3) := g106_X8_write.2.2.2.2.2.2.2.2.2.2.2.2.2.2.2.2.2.2.2.2.2.2.2.2.2.2.2.2.2.2.2.2.2.2.2.2.2.2.2.1
theorem dX8_write_67 : decode cX8_write 67 = .ok (.iinc 4 (-1), 3) := g106_X8_write.2.2.2.2.2.2.2.2.2.2.2.2.2.2.2.2.2.2.2.2.2.2.2.2.2.2.2.2.2.2.2.2.2.2.2.2.2.2.2.2.1
theorem dX8_write_70 : decode cX8_write 70 = .ok (.goto (-36), 3) := g106_X8_write.2.2.2.2.2.2.2.2.2.2.2.2.2.2.2.2.2.2.2.2.2.2.2.2.2.2.2.2.2.2.2.2.2.2.2.2.2.2.2.2.2.1
theorem dX8_write_73 : decode cX8_write 73 = .ok (.aload_n 0, 1) := g106_X8_write.2.2.2.2.2.2.2.2.2.2.2.2.2.2.2.2.2.2.2.2.2.2.2.2.2.2.2.2.2.2.2.2.2.2.2.2.2.2.2.2.2.2.1
theorem dX8_write_74 : decode cX8_write 74 = .ok (.getfield 57, 3) := g106_X8_write.2.2.2.2.2.2.2.2.2.2.2.2.2.2.2.2.2.2.2.2.2.2.2.2.2.2.2.2.2.2.2.2.2.2.2.2.2.2.2.2.2.2.2.1
theorem dX8_write_77 : decode cX8_write 77 = .ok (.ireturn, 1) := g106_X8_write.2.2.2.2.2.2.2.2.2.2.2.2.2.2.2.2.2.2.2.2.2.2.2.2.2.2.2.2.2.2.2.2.2.2.2.2.2.2.2.2.2.2.2.2
set_option maxRecDepth 100000 in
theorem g107_X8_wipe : decode cX8_wipe 0 = .ok (.aload_n 0, 1) ∧ decode cX8_wipe 1 = .ok (.getfield 57, 3) ∧ decode cX8_wipe 4 = .ok (.istore_n 1, 1) ∧ decode cX8_wipe 5 = .ok (.aload_n 0, 1) ∧ decode cX8_wipe 6 = .ok (.iconst 0, 1) ∧ decode cX8_wipe 7 = .ok (.putfield 57, 3) ∧ decode cX8_wipe 10 = .ok (.iload_n 1, 1) ∧ decode cX8_wipe 11 = .ok (.ireturn, 1) := by decide +kernel
theorem dX8_wipe_0 : decode cX8_wipe 0 = .ok (.aload_n 0, 1) := g107_X8_wipe.1
theorem dX8_wipe_1 : decode cX8_wipe 1 = .ok (.getfield 57, 3) := g107_X8_wipe.2.1
theorem dX8_wipe_4 : decode cX8_wipe 4 = .ok (.istore_n 1, 1) := g107_X8_wipe.2.2.1
theorem dX8_wipe_5 : decode cX8_wipe 5 = .ok (.aload_n 0, 1) := g107_X8_wipe.2.2.2.1
theorem dX8_wipe_6 : decode cX8_wipe 6 = .ok (.iconst 0, 1) := g107_X8_wipe.2.2.2.2.1
theorem dX8_wipe_7 : decode cX8_wipe 7 = .ok (.putfield 57, 3) := g107_X8_wipe.2.2.2.2.2.1
theorem dX8_wipe_10 : decode cX8_wipe 10 = .ok (.iload_n 1, 1) := g107_X8_wipe.2.2.2.2.2.2.1
theorem dX8_wipe_11 : decode cX8_wipe 11 = .ok (.ireturn, 1) := g107_X8_wipe.2.2.2.2.2.2.2
set_option maxRecDepth 100000 in
theorem g108_X8_number : decode cX8_number 0 = .ok (.iconst 0, 1) ∧ decode cX8_number 1 = .ok (.istore_n 1, 1) ∧ decode cX8_number 2 = .ok (.iconst 0, 1) ∧ decode cX8_number 3 = .ok (.istore_n 2, 1) ∧ decode cX8_number 4 = .ok (.aload_n 0, 1) ∧ decode cX8_number 5 = .ok (.getfield 61, 3) ∧ decode cX8_number 8 = .ok (.aload_n 0, 1) ∧ decode cX8_number 9 = .ok (.getfield 57, 3) ∧ decode cX8_number 12 = .ok (.if_icmp .ge 68, 3) ∧ decode cX8_number 15 = .ok (.aload_n 0, 1) ∧ decode cX8_number 16 = .ok (.getfield 7, 3) ∧ decode cX8_number 19 = .ok (.aload_n 0, 1) ∧ decode cX8_number 20 = .ok (.getfield 61, 3) ∧ decode cX8_number 23 = .ok (.baload, 1) ∧ decode cX8_number 24 = .ok (.i2l, 1) ∧ decode cX8_number 25 = .ok (.ldc2_w 64, 3) ∧ decode cX8_number 28 = .ok (.ldc2_w 66, 3) ∧ decode cX8_number 31 = .ok (.invokestatic 53, 3) ∧ decode cX8_number 34 = .ok (.ifCond .eq 46, 3) ∧ decode cX8_number 37 = .ok (.iload_n 2, 1) ∧ decode cX8_number 38 = .ok (.iconst 3, 1) ∧ decode cX8_number 39 = .ok (.if_icmp .ge 23, 3) ∧ decode cX8_number 42 = .ok (.bipush 10, 2) ∧ decode cX8_number 44 = .ok (.iload_n 1, 1) ∧ decode cX8_number 45 = .ok (.imul, 1) ∧ decode cX8_number 46 = .ok (.aload_n 0, 1) ∧ decode cX8_number 47 = .ok (.getfield 7, 3) ∧ decode cX8_number 50 = .ok (.aload_n 0, 1) ∧ decode cX8_number 51 = .ok (.getfield 61, 3) ∧ decode cX8_number 54 = .ok (.baload, 1) ∧ decode cX8_number 55 = .ok (.iadd, 1) ∧ decode cX8_number 56 = .ok (.bipush 48, 2) ∧ decode cX8_number 58 = .ok (.isub, 1) ∧ decode cX8_number 59 = .ok (.goto 4, 3) ∧ decode cX8_number 62 = .ok (.iload_n 1, 1) ∧ decode cX8_number 63 = .ok (.istore_n 1, 1) ∧ decode cX8_number 64 = .ok (.iinc 2 1, 3) ∧ decode cX8_number 67 = .ok (.aload_n 0, 1) ∧ decode cX8_number 68 = .ok (.dup, 1) ∧ decode cX8_number 69 = .ok (.getfield 61, 3) ∧ decode cX8_number 72 = .ok (.iconst 1, 1) ∧ decode cX8_number 73 = .ok (.iadd, 1) ∧ decode cX8_number 74 = .ok (.putfield 61, 3) ∧ decode cX8_number 77 = .ok (.goto (-73), 3) ∧ decode cX8_number 80 = .ok (.iload_n 2, 1) ∧ decode cX8_number 81 = .ok (.i2l, 1) ∧ decode cX8_number 82 = .ok (.lconst 1, 1) ∧ decode cX8_number 83 = .ok (.ldc2_w 68, 3) ∧ decode cX8_number 86 = .ok (.invokestatic 53, 3) ∧ decode cX8_number 89 = .ok (.ifCond .eq 7, 3) ∧ decode cX8_number 92 = .ok (.iload_n 1, 1) ∧ decode cX8_number 93 = .ok (.goto 4, 3) ∧ decode cX8_number 96 = .ok (.iconst (-1), 1) ∧ decode cX8_number 97 = .ok (.ireturn, 1) := by decide +kernel
theorem dX8_number_0 : decode cX8_number 0 = .ok (.iconst 0, 1) := g108_X8_number.1
theorem dX8_number_1 : decode cX8_number 1 = .ok (.istore_n 1, 1) := g108_X8_number.2.1
theorem dX8_number_2 : decode cX8_number 2 = .ok (.iconst 0, 1) := g108_X8_number.2.2.1
theorem dX8_number_3 : decode cX8_number 3 = .ok (.istore_n 2, 1) := g108_X8_number.2.2.2.1
theorem dX8_number_4 : decode cX8_number 4 = .ok (.aload_n 0, 1) := g108_X8_number.2.2.2.2.1
theorem dX8_number_5 : decode cX8_number 5 = .ok (.getfield 61, 3) := g108_X8_number.2.2.2.2.2.1
theorem dX8_number_8 : decode cX8_number 8 = .ok (.aload_n 0, 1) := g108_X8_number.2.2.2.2.2.2.1
theorem dX8_number_9 : decode cX8_number 9 = .ok (.getfield 57, 3) := g108_X8_number.2.2.2.2.2.2.2.1
theorem dX8_number_12 : decode cX8_number 12 = .ok (.if_icmp .ge 68, 3) := g108_X8_number.2.2.2.2.2.2.2.2.1
theorem dX8_number_15 : decode cX8_number 15 = .ok (.aload_n 0, 1) := g108_X8_number.2.2.2.2.2.2.2.2.2.1
theorem dX8_number_16 : decode cX8_number 16 = .ok (.getfield 7, 3) := g108_X8_number.2.2.2.2.2.2.2.2.2.2.1
theorem dX8_number_19 : decode cX8_number 19 = .ok (.aload_n 0, 1) := g108_X8_number.2.2.2.2.2.2.2.2.2.2.2.1
theorem dX8_number_20 : decode cX8_number 20 = .ok (.getfield 61, 3) := g108_X8_number.2.2.2.2.2.2.2.2.2.2.2.2.1
theorem dX8_number_23 : decode cX8_number 23 = .ok (.baload, 1) := g108_X8_number.2.2.2.2.2.2.2.2.2.2.2.2.2.1
theorem dX8_number_24 : decode cX8_number 24 = .ok (.i2l, 1) := g108_X8_number.2.2.2.2.2.2.2.2.2.2.2.2.2.2.1
theorem dX8_number_25 : decode cX8_number 25 = .ok (.ldc2_w 64, 3) := g108_X8_number.2.2.2.2.2.2.2.2.2.2.2.2.2.2.2.1
theorem dX8_number_28 : decode cX8_number 28 = .ok (.ldc2_w 66, 3) := g108_X8_number.2.2.2.2.2.2.2.2.2.2.2.2.2.2.2.2.1
theorem dX8_number_31 : decode cX8_number 31 = .ok (.invokestatic 53, 3) := g108_X8_number.2.2.2.2.2.2.2.2.2.2.2.2.2.2.2.2.2.1
theorem dX8_number_34 : decode cX8_number 34 = .ok (.ifCond .eq 46, 3) := g108_X8_number.2.2.2.2.2.2.2.2.2.2.2.2.2.2.2.2.2.2.1
theorem dX8_number_37 : decode cX8_number 37 = .ok (.iload_n 2, 1) := g108_X8_number.2.2.2.2.2.2.2.2.2.2.2.2.2.2.2.2.2.2.2.1
theorem dX8_number_38 : decode cX8_number 38 = .ok (.iconst 3, 1) := g108_X8_number.2.2.2.2.2.2.2.2.2.2.2.2.2.2.2.2.2.2.2.2.1
theorem dX8_number_39 : decode cX8_number 39 = .ok (.if_icmp .ge 23, 3) := g108_X8_number.2.2.2.2.2.2.2.2.2.2.2.2.2.2.2.2.2.2.2.2.2.1
theorem dX8_number_42 : decode cX8_number 42 = .ok (.bipush 10, 2) := g108_X8_number.2.2.2.2.2.2.2.2.2.2.2.2.2.2.2.2.2.2.2.2.2.2.1
theorem dX8_number_44 : decode cX8_number 44 = .ok (.iload_n 1, 1) := g108_X8_number.2.2.2.2.2.2.2.2.2.2.2.2.2.2.2.2.2.2.2.2.2.2.2.1
theorem dX8_number_45 : decode cX8_number 45 = .ok (.imul, 1) := g108_X8_number.2.2.2.2.2.2.2.2.2.2.2.2.2.2.2.2.2.2.2.2.2.2.2.2.1
theorem dX8_number_46 : decode cX8_number 46 = .ok (.aload_n 0, 1) := g108_X8_number.2.2.2.2.2.2.2.2.2.2.2.2.2.2.2.2.2.2.2.2.2.2.2.2.2.1
theorem dX8_number_47 : decode cX8_number 47 = .ok (.getfield 7, 3) := g108_X8_number.2.2.2.2.2.2.2.2.2.2.2.2.2.2.2.2.2.2.2.2.2.2.2.2.2.2.1
theorem dX8_number_50 : decode cX8_number 50 = .ok (.aload_n 0, 1) := g108_X8_number.2.2.2.2.2.2.2.2.2.2.2.2.2.2.2.2.2.2.2.2.2.2.2.2.2.2.2.1
theorem dX8_number_51 : decode cX8_number 51 = .ok (.getfield 61, 3) := g108_X8_number.2.2.2.2.2.2.2.2.2.2.2.2.2.2.2.2.2.2.2.2.2.2.2.2.2.2.2.2.1
theorem dX8_number_54 : decode cX8_number 54 = .ok (.baload, 1) := g108_X8_number.2.2.2.2.2.2.2.2.2.2.2.2.2.2.2.2.2.2.2.2.2.2.2.2.2.2.2.2.2.1
theorem dX8_number_55 : decode cX8_number 55 = .ok (.iadd, 1) := g108_X8_number.2.2.2.2.2.2.2.2.2.2.2.2.2.2.2.2.2.2.2.2.2.2.2.2.2.2.2.2.2.2.1
theorem dX8_number_56 : decode cX8_number 56 = .ok (.bipush 48, 2) := g108_X8_number.2.2.2.2.2.2.2.2.2.2.2.2.2.2.2.2.2.2.2.2.2.2.2.2.2.2.2.2.2.2.2.1
theorem dX8_number_58 : decode cX8_number 58 = .ok (.isub, 1) := g108_X8_number.2.2.2.2.2.2.2.2.2.2.2.2.2.2.2.2.2.2.2.2.2.2.2.2.2.2.2.2.2.2.2.2.1
theorem dX8_number_59 : decode cX8_number 59 = .ok (.goto 4, 3) := g108_X8_number.2.2.2.2.2.2.2.2.2.2.2.2.2.2.2.2.2.2.2.2.2.2.2.2.2.2.2.2.2.2.2.2.2.1
theorem dX8_number_62 : decode cX8_number 62 = .ok (.iload_n 1, 1) := g108_X8_number.2.2.2.2.2.2.2.2.2.2.2.2.2.2.2.2.2.2.2.2.2.2.2.2.2.2.2.2.2.2.2.2.2.2.1
theorem dX8_number_63 : decode cX8_number 63 = .ok (.istore_n 1, 1) := g108_X8_number.2.2.2.2.2.2.2.2.2.2.2.2.2.2.2.2.2.2.2.2.2.2.2.2.2.2.2.2.2.2.2.2.2.2.2.1
theorem dX8_number_64 : decode cX8_number 64 = .ok (.iinc 2 1, 3) := g108_X8_number.2.2.2.2.2.2.2.2.2.2.2.2.2.2.2.2.2.2.2.2.2.2.2.2.2.2.2.2.2.2.2.2.2.2.2.2.1
theorem dX8_number_67 : decode cX8_number 67 = .ok (.aload_n 0, 1) := g108_X8_number.2.2.2.2.2.2.2.2.2.2.2.2.2.2.2.2.2.2.2.2.2.2.2.2.2.2.2.2.2.2.2.2.2.2.2.2.2.1
theorem dX8_number_68 : decode cX8_number 68 = .ok (.dup, 1) := g108_X8_number.2.2.2.2.2.2.2.2.2.2.2.2.2.2.2.2.2.2.2.2.2.2.2.2.2.2.2.2.2.2.2.2.2.2.2.2.2.2.1
theorem dX8_number_69 : decode cX8_number 69 = .ok (.getfield 61, 3) := g108_X8_number.2.2.2.2.2.2.2.2.2.2.2.2.2.2.2.2.2.2.2.2.2.2.2.2.2.2.2.2.2.2.2.2.2.2.2.2.2.2.2.1
theorem dX8_number_72 : decode cX8_number 72 = .ok (.iconst 1, 1) := g108_X8_number.2.2.2.2.2.2.2.2.2.2.2.2.2.2.2.2.2.2.2.2.2.2.2.2.2.2.2.2.2.2.2.2.2.2.2.2.2.2.2.2.1
theorem dX8_number_73 : decode cX8_number 73 = .ok (.iadd, 1) := g108_X8_number.2.2.2.2.2.2.2.2.2.2.2.2.2.2.2.2.2.2.2.2.2.2.2.2.2.2.2.2.2.2.2.2.2.2.2.2.2.2.2.2.2.1
theorem dX8_number_74 : decode cX8_number 74 = .ok (.putfield 61, 3) := g108_X8_number.2.2.2.2.2.2.2.2.2.2.2.2.2.2.2.2.2.2.2.2.2.2.2.2.2.2.2.2.2.2.2.2.2.2.2.2.2.2.2.2.2.2.1
theorem dX8_number_77 : decode cX8_number 77 = .ok (.goto (-73), 3) := g108_X8_number.2.2.2.2.2.2.2.2.2.2.2.2.2.2.2.2.2.2.2.2.2.2.2.2.2.2.2.2.2.2.2.2.2.2.2.2.2.2.2.2.2.2.2.1
theorem dX8_number_80 : decode cX8_number 80 = .ok (.iload_n 2, 1) := g108_X8_number.2.2.2.2.2.2.2.2.2.2.2.2.2.2.2.2.2.2.2.2.2.2.2.2.2.2.2.2.2.2.2.2.2.2.2.2.2.2.2.2.2.2.2.2.1
theorem dX8_number_81 : decode cX8_number 81 = .ok (.i2l, 1) := g108_X8_number.2.2.2.2.2.2.2.2.2.2.2.2.2.2.2.2.2.2.2.2.2.2.2.2.2.2.2.2.2.2.2.2.2.2.2.2.2.2.2.2.2.2.2.2.2.1
theorem dX8_number_82 : decode cX8_number 82 = .ok (.lconst 1, 1) := g108_X8_number.2.2.2.2.2.2.2.2.2.2.2.2.2.2.2.2.2.2.2.2.2.2.2.2.2.2.2.2.2.2.2.2.2.2.2.2.2.2.2.2.2.2.2.2.2.2.1
theorem dX8_number_83 : decode cX8_number 83 = .ok (.ldc2_w 68, 3) := g108_X8_number.2.2.2.2.2.2.2.2.2.2.2.2.2.2.2.2.2.2.2.2.2.2.2.2.2.2.2.2.2.2.2.2.2.2.2.2.2.2.2.2.2.2.2.2.2.2.2.1
theorem dX8_number_86 : decode cX8_number 86 = .ok (.invokestatic 53, 3) := g108_X8_number.2.2.2.2.2.2.2.2.2.2.2.2.2.2.2.2.2.2.2.2.2.2.2.2.2.2.2.2.2.2.2.2.2.2.2.2.2.2.2.2.2.2.2.2.2.2.2.2.1
theorem dX8_number_89 : decode cX8_number 89 = .ok (.ifCond .eq 7, 3) := g108_X8_number.2.2.2.2.2.2.2.2.2.2.2.2.2.2.2.2.2.2.2.2.2.2.2.2.2.2.2.2.2.2.2.2.2.2.2.2.2.2.2.2.2.2.2.2.2.2.2.2.2.1
theorem dX8_number_92 : decode cX8_number 92 = .ok (.iload_n 1, 1) := g108_X8_number.2.2.2.2.2.2.2.2.2.2.2.2.2.2.2.2.2.2.2.2.2.2.2.2.2.2.2.2.2.2.2.2.2.2.2.2.2.2.2.2.2.2.2.2.2.2.2.2.2.2.1
theorem dX8_number_93 : decode cX8_number 93 = .ok (.goto 4, 3) := g108_X8_number.2.2.2.2.2.2.2.2.2.2.2.2.2.2.2.2.2.2.2.2.2.2.2.2.2.2.2.2.2.2.2.2.2.2.2.2.2.2.2.2.2.2.2.2.2.2.2.2.2.2.2.1
theorem dX8_number_96 : decode cX8_number 96 = .ok (.iconst (-1), 1) := g108_X8_number.2.2.2.2.2.2.2.2.2.2.2.2.2.2.2.2.2.2.2.2.2.2.2.2.2.2.2.2.2.2.2.2.2.2.2.2.2.2.2.2.2.2.2.2.2.2.2.2.2.2.2.2.1
theorem dX8_number_97 : decode cX8_number 97 = .ok (.ireturn, 1) := g108_X8_number.2.2.2.2.2.2.2.2.2.2.2.2.2.2.2.2.2.2.2.2.2.2.2.2.2.2.2.2.2.2.2.2.2.2.2.2.2.2.2.2.2.2.2.2.2.2.2.2.2.2.2.2.2
set_option maxRecDepth 100000 in
theorem g109_X8_parts : decode cX8_parts 0 = .ok (.iload_n 0, 1) ∧ decode cX8_parts 1 = .ok (.bipush 97, 2) ∧ decode cX8_parts 3 = .ok (.if_icmp .ne 7, 3) ∧ decode cX8_parts 6 = .ok (.iconst 5, 1) ∧ decode cX8_parts 7 = .ok (.goto 30, 3) ∧ decode cX8_parts 10 = .ok (.iload_n 0, 1) ∧ decode cX8_parts 11 = .ok (.bipush 116, 2) ∧ decode cX8_parts 13 = .ok (.if_icmp .ne 7, 3) ∧ decode cX8_parts 16 = .ok (.iconst 4, 1) ∧ decode cX8_parts 17 = .ok (.goto 20, 3) ∧ decode cX8_parts 20 = .ok (.iload_n 0, 1) ∧ decode cX8_parts 21 = .ok (.bipush 111, 2) ∧ decode cX8_parts 23 = .ok (.if_icmp .eq 9, 3) ∧ decode cX8_parts 26 = .ok (.iload_n 0, 1) ∧ decode cX8_parts 27 = .ok (.bipush 115, 2) ∧ decode cX8_parts 29 = .ok (.if_icmp .ne 7, 3) ∧ decode cX8_parts 32 = .ok (.iconst 1, 1) ∧ decode cX8_parts 33 = .ok (.goto 4, 3) ∧ decode cX8_parts 36 = .ok (.iconst 0, 1) ∧ decode cX8_parts 37 = .ok (.ireturn, 1) := by decide +kernel
theorem dX8_parts_0 : decode cX8_parts 0 = .ok (.iload_n 0, 1) := g109_X8_parts.1
theorem dX8_parts_1 : decode cX8_parts 1 = .ok (.bipush 97, 2) := g109_X8_parts.2.1
theorem dX8_parts_3 : decode cX8_parts 3 = .ok (.if_icmp .ne 7, 3) := g109_X8_parts.2.2.1
theorem dX8_parts_6 : decode cX8_parts 6 = .ok (.iconst 5, 1) := g109_X8_parts.2.2.2.1
theorem dX8_parts_7 : decode cX8_parts 7 = .ok (.goto 30, 3) := g109_X8_parts.2.2.2.2.1
theorem dX8_parts_10 : decode cX8_parts 10 = .ok (.iload_n 0, 1) := g109_X8_parts.2.2.2.2.2.1
theorem dX8_parts_11 : decode cX8_parts 11 = .ok (.bipush 116, 2) := g109_X8_parts.2.2.2.2.2.2.1
theorem dX8_parts_13 : decode cX8_parts 13 = .ok (.if_icmp .ne 7, 3) := g109_X8_parts.2.2.2.2.2.2.2.1
theorem dX8_parts_16 : decode cX8_parts 16 = .ok (.iconst 4, 1) := g109_X8_parts.2.2.2.2.2.2.2.2.1
theorem dX8_parts_17 : decode cX8_parts 17 = .ok (.goto 20, 3) := g109_X8_parts.2.2.2.2.2.2.2.2.2.1
theorem dX8_parts_20 : decode cX8_parts 20 = .ok (.iload_n 0, 1) := g109_X8_parts.2.2.2.2.2.2.2.2.2.2.1
theorem dX8_parts_21 : decode cX8_parts 21 = .ok (.bipush 111, 2) := g109_X8_parts.2.2.2.2.2.2.2.2.2.2.2.1
theorem dX8_parts_23 : decode cX8_parts 23 = .ok (.if_icmp .eq 9, 3) := g109_X8_parts.2.2.2.2.2.2.2.2.2.2.2.2.1
theorem dX8_parts_26 : decode cX8_parts 26 = .ok (.iload_n 0, 1) := g109_X8_parts.2.2.2.2.2.2.2.2.2.2.2.2.2.1
theorem dX8_parts_27 : decode cX8_parts 27 = .ok (.bipush 115, 2) := g109_X8_parts.2.2.2.2.2.2.2.2.2.2.2.2.2.2.1
theorem dX8_parts_29 : decode cX8_parts 29 = .ok (.if_icmp .ne 7, 3) := g109_X8_parts.2.2.2.2.2.2.2.2.2.2.2.2.2.2.2.1
theorem dX8_parts_32 : decode cX8_parts 32 = .ok (.iconst 1, 1) := g109_X8_parts.2.2.2.2.2.2.2.2.2.2.2.2.2.2.2.2.1
theorem dX8_parts_33 : decode cX8_parts 33 = .ok (.goto 4, 3) := g109_X8_parts.2.2.2.2.2.2.2.2.2.2.2.2.2.2.2.2.2.1
theorem dX8_parts_36 : decode cX8_parts 36 = .ok (.iconst 0, 1) := g109_X8_parts.2.2.2.2.2.2.2.2.2.2.2.2.2.2.2.2.2.2.1
theorem dX8_parts_37 : decode cX8_parts 37 = .ok (.ireturn, 1) := g109_X8_parts.2.2.2.2.2.2.2.2.2.2.2.2.2.2.2.2.2.2.2
set_option maxRecDepth 100000 in
theorem g110_X8_isIn : decode cX8_isIn 0 = .ok (.aload_n 0, 1) ∧ decode cX8_isIn 1 = .ok (.getfield 42, 3) ∧ decode cX8_isIn 4 = .ok (.iload_n 1, 1) ∧ decode cX8_isIn 5 = .ok (.iaload, 1) ∧ decode cX8_isIn 6 = .ok (.i2l, 1) ∧ decode cX8_isIn 7 = .ok (.iload_n 2, 1) ∧ decode cX8_isIn 8 = .ok (.i2l, 1) ∧ decode cX8_isIn 9 = .ok (.iload_n 3, 1) ∧ decode cX8_isIn 10 = .ok (.i2l, 1) ∧ decode cX8_isIn 11 = .ok (.invokestatic 53, 3) ∧ decode cX8_isIn 14 = .ok (.ireturn, 1) := by decide +kernel
theorem dX8_isIn_0 : decode cX8_isIn 0 = .ok (.aload_n 0, 1) := g110_X8_isIn.1
theorem dX8_isIn_1 : decode cX8_isIn 1 = .ok (.getfield 42, 3) := g110_X8_isIn.2.1
theorem dX8_isIn_4 : decode cX8_isIn 4 = .ok (.iload_n 1, 1) := g110_X8_isIn.2.2.1
theorem dX8_isIn_5 : decode cX8_isIn 5 = .ok (.iaload, 1) := g110_X8_isIn.2.2.2.1
theorem dX8_isIn_6 : decode cX8_isIn 6 = .ok (.i2l, 1) := g110_X8_isIn.2.2.2.2.1
theorem dX8_isIn_7 : decode cX8_isIn 7 = .ok (.iload_n 2, 1) := g110_X8_isIn.2.2.2.2.2.1
theorem dX8_isIn_8 : decode cX8_isIn 8 = .ok (.i2l, 1) := g110_X8_isIn.2.2.2.2.2.2.1
theorem dX8_isIn_9 : decode cX8_isIn 9 = .ok (.iload_n 3, 1) := g110_X8_isIn.2.2.2.2.2.2.2.1
theorem dX8_isIn_10 : decode cX8_isIn 10 = .ok (.i2l, 1) := g110_X8_isIn.2.2.2.2.2.2.2.2.1
theorem dX8_isIn_11 : decode cX8_isIn 11 = .ok (.invokestatic 53, 3) := g110_X8_isIn.2.2.2.2.2.2.2.2.2.1
theorem dX8_isIn_14 : decode cX8_isIn 14 = .ok (.ireturn, 1) := g110_X8_isIn.2.2.2.2.2.2.2.2.2.2
set_option maxRecDepth 100000 in
theorem g111_X8_isItem : decode cX8_isItem 0 = .ok (.aload_n 0, 1) ∧ decode cX8_isItem 1 = .ok (.getfield 7, 3) ∧ decode cX8_isItem 4 = .ok (.aload_n 0, 1) ∧ decode cX8_isItem 5 = .ok (.getfield 61, 3) ∧ decode cX8_isItem 8 = .ok (.baload, 1) ∧ decode cX8_isItem 9 = .ok (.istore_n 1, 1) ∧ decode cX8_isItem 10 = .ok (.aload_n 0, 1) ∧ decode cX8_isItem 11 = .ok (.dup, 1) ∧ decode cX8_isItem 12 = .ok (.getfield 61, 3) ∧ decode cX8_isItem 15 = .ok (.iconst 1, 1) ∧ decode cX8_isItem 16 = .ok (.iadd, 1) ∧ decode cX8_isItem 17 = .ok (.putfield 61, 3) ∧ decode cX8_isItem 20 = .ok (.iload_n 1, 1) ∧ decode cX8_isItem 21 = .ok (.invokestatic 70, 3) ∧ decode cX8_isItem 24 = .ok (.istore_n 2, 1) ∧ decode cX8_isItem 25 = .ok (.iload_n 2, 1) ∧ decode cX8_isItem 26 = .ok (.ifCond .le 7, 3) ∧ decode cX8_isItem 29 = .ok (.iconst 1, 1) ∧ decode cX8_isItem 30 = .ok (.goto 4, 3) ∧ decode cX8_isItem 33 = .ok (.iconst 0, 1) ∧ decode cX8_isItem 34 = .ok (.istore_n 3, 1) ∧ decode cX8_isItem 35 = .ok (.iconst 0, 1) ∧ decode cX8_isItem 36 = .ok (.istore 4, 2) ∧ decode cX8_isItem 38 = .ok (.iload 4, 2) ∧ decode cX8_isItem 40 = .ok (.iload_n 2, 1) ∧ decode cX8_isItem 41 = .ok (.if_icmp .ge 103, 3) ∧ decode cX8_isItem 44 = .ok (.iload_n 3, 1) ∧ decode cX8_isItem 45 = .ok (.ifCond .eq 99, 3) ∧ decode cX8_isItem 48 = .ok (.iload 4, 2) ∧ decode cX8_isItem 50 = .ok (.ifCond .eq 28, 3) ∧ decode cX8_isItem 53 = .ok (.aload_n 0, 1) ∧ decode cX8_isItem 54 = .ok (.getfield 61, 3) ∧ decode cX8_isItem 57 = .ok (.aload_n 0, 1) ∧ decode cX8_isItem 58 = .ok (.getfield 57, 3) ∧ decode cX8_isItem 61 = .ok (.if_icmp .ge 21, 3) ∧ decode cX8_isItem 64 = .ok (.aload_n 0, 1) ∧ decode cX8_isItem 65 = .ok (.getfield 7, 3) ∧ decode cX8_isItem 68 = .ok (.aload_n 0, 1) ∧ decode cX8_isItem 69 = .ok (.getfield 61, 3) ∧ decode cX8_isItem 72 = .ok (.baload, 1) ∧ decode cX8_isItem 73 = .ok (.bipush 44, 2) ∧ decode cX8_isItem 75 = .ok (.if_icmp .ne 7, 3) ∧ decode cX8_isItem 78 = .ok (.iconst 1, 1) ∧ decode cX8_isItem 79 = .ok (.goto 4, 3) ∧ decode cX8_isItem 82 = .ok (.iconst 0, 1) ∧ decode cX8_isItem 83 = .ok (.istore_n 3, 1) ∧ decode cX8_isItem 84 = .ok (.aload_n 0, 1) ∧ decode cX8_isItem 85 = .ok (.dup, 1) ∧ decode cX8_isItem 86 = .ok (.getfield 61, 3) ∧ decode cX8_isItem 89 = .ok (.iload 4, 2) ∧ decode cX8_isItem 91 = .ok (.ifCond .ne 7, 3) ∧ decode cX8_isItem 94 = .ok (.iconst 0, 1) ∧ decode cX8_isItem 95 = .ok (.goto 4, 3) ∧ decode cX8_isItem 98 = .ok (.iconst 1, 1) ∧ decode cX8_isItem 99 = .ok (.iadd, 1) ∧ decode cX8_isItem 100 = .ok (.putfield 61, 3) ∧ decode cX8_isItem 103 = .ok (.aload_n 0, 1) ∧ decode cX8_isItem 104 = .ok (.getfield 42, 3) ∧ decode cX8_isItem 107 = .ok (.iload 4, 2) ∧ decode cX8_isItem 109 = .ok (.iload_n 3, 1) := by decide +kernel
theorem dX8_isItem_0 : decode cX8_isItem 0 = .ok (.aload_n 0, 1) := g111_X8_isItem.1
theorem dX8_isItem_1 : decode cX8_isItem 1 = .ok (.getfield 7, 3) := g111_X8_isItem.2.1
theorem dX8_isItem_4 : decode cX8_isItem 4 = .ok (.aload_n 0, 1) := g111_X8_isItem.2.2.1
theorem dX8_isItem_5 : decode cX8_isItem 5 = .ok (.getfield 61, 3) := g111_X8_isItem.2.2.2.1
theorem dX8_isItem_8 : decode cX8_isItem 8 = .ok (.baload, 1) := g111_X8_isItem.2.2.2.2.1
theorem dX8_isItem_9 : decode cX8_isItem 9 = .ok (.istore_n 1, 1) := g111_X8_isItem.2.2.2.2.2.1
theorem dX8_isItem_10 : decode cX8_isItem 10 = .ok (.aload_n 0, 1) := g111_X8_isItem.2.2.2.2.2.2.1
theorem dX8_isItem_11 : decode cX8_isItem 11 = .ok (.dup, 1) := g111_X8_isItem.2.2.2.2.2.2.2.1
theorem dX8_isItem_12 : decode cX8_isItem 12 = .ok (.getfield 61, 3) := g111_X8_isItem.2.2.2.2.2.2.2.2.1
theorem dX8_isItem_15 : decode cX8_isItem 15 = .ok (.iconst 1, 1) := g111_X8_isItem.2.2.2.2.2.2.2.2.2.1
theorem dX8_isItem_16 : decode cX8_isItem 16 = .ok (.iadd, 1) := g111_X8_isItem.2.2.2.2.2.2.2.2.2.2.1
theorem dX8_isItem_17 : decode cX8_isItem 17 = .ok (.putfield 61, 3) := g111_X8_isItem.2.2.2.2.2.2.2.2.2.2.2.1
theorem dX8_isItem_20 : decode cX8_isItem 20 = .ok (.iload_n 1, 1) := g111_X8_isItem.2.2.2.2.2.2.2.2.2.2.2.2.1
theorem dX8_isItem_21 : decode cX8_isItem 21 = .ok (.invokestatic 70, 3) := g111_X8_isItem.2.2.2.2.2.2.2.2.2.2.2.2.2.1
theorem dX8_isItem_24 : decode cX8_isItem 24 = .ok (.istore_n 2, 1) := g111_X8_isItem.2.2.2.2.2.2.2.2.2.2.2.2.2.2.1
theorem dX8_isItem_25 : decode cX8_isItem 25 = .ok (.iload_n 2, 1) := g111_X8_isItem.2.2.2.2.2.2.2.2.2.2.2.2.2.2.2.1
theorem dX8_isItem_26 : decode cX8_isItem 26 = .ok (.ifCond .le 7, 3) := g111_X8_isItem.2.2.2.2.2.2.2.2.2.2.2.2.2.2.2.2.1
theorem dX8_isItem_29 : decode cX8_isItem 29 = .ok (.iconst 1, 1) := g111_X8_isItem.2.2.2.2.2.2.2.2.2.2.2.2.2.2.2.2.2.1
theorem dX8_isItem_30 : decode cX8_isItem 30 = .ok (.goto 4, 3) := g111_X8_isItem.2.2.2.2.2.2.2.2.2.2.2.2.2.2.2.2.2.2.1
theorem dX8_isItem_33 : decode cX8_isItem 33 = .ok (.iconst 0, 1) := g111_X8_isItem.2.2.2.2.2.2.2.2.2.2.2.2.2.2.2.2.2.2.2.1
theorem dX8_isItem_34 : decode cX8_isItem 34 = .ok (.istore_n 3, 1) := g111_X8_isItem.2.2.2.2.2.2.2.2.2.2.2.2.2.2.2.2.2.2.2.2.1
theorem dX8_isItem_35 : decode cX8_isItem 35 = .ok (.iconst 0, 1) := g111_X8_isItem.2.2.2.2.2.2.2.2.2.2.2.2.2.2.2.2.2.2.2.2.2.1
theorem dX8_isItem_36 : decode cX8_isItem 36 = .ok (.istore 4, 2) := g111_X8_isItem.2.2.2.2.2.2.2.2.2.2.2.2.2.2.2.2.2.2.2.2.2.2.1
theorem dX8_isItem_38 : decode cX8_isItem 38 = .ok (.iload 4, 2) := g111_X8_isItem.2.2.2.2.2.2.2.2.2.2.2.2.2.2.2.2.2.2.2.2.2.2.2.1
theorem dX8_isItem_40 : decode cX8_isItem 40 = .ok (.iload_n 2, 1) := g111_X8_isItem.2.2.2.2.2.2.2.2.2.2.2.2.2.2.2.2.2.2.2.2.2.2.2.2.1
theorem dX8_isItem_41 : decode cX8_isItem 41 = .ok (.if_icmp .ge 103, 3) := g111_X8_isItem.2.2.2.2.2.2.2.2.2.2.2.2.2.2.2.2.2.2.2.2.2.2.2.2.2.1
theorem dX8_isItem_44 : decode cX8_isItem 44 = .ok (.iload_n 3, 1) := g111_X8_isItem.2.2.2.2.2.2.2.2.2.2.2.2.2.2.2.2.2.2.2.2.2.2.2.2.2.2.1
theorem dX8_isItem_45 : decode cX8_isItem 45 = .ok (.ifCond .eq 99, 3) := g111_X8_isItem.2.2.2.2.2.2.2.2.2.2.2.2.2.2.2.2.2.2.2.2.2.2.2.2.2.2.2.1
theorem dX8_isItem_48 : decode cX8_isItem 48 = .ok (.iload 4, 2) := g111_X8_isItem.2.2.2.2.2.2.2.2.2.2.2.2.2.2.2.2.2.2.2.2.2.2.2.2.2.2.2.2.1
theorem dX8_isItem_50 : decode cX8_isItem 50 = .ok (.ifCond .eq 28, 3) := g111_X8_isItem.2.2.2.2.2.2.2.2.2.2.2.2.2.2.2.2.2.2.2.2.2.2.2.2.2.2.2.2.2.1
theorem dX8_isItem_53 : decode cX8_isItem 53 = .ok (.aload_n 0, 1) := g111_X8_isItem.2.2.2.2.2.2.2.2.2.2.2.2.2.2.2.2.2.2.2.2.2.2.2.2.2.2.2.2.2.2.1
theorem dX8_isItem_54 : decode cX8_isItem 54 = .ok (.getfield 61, 3) := g111_X8_isItem.2.2.2.2.2.2.2.2.2.2.2.2.2.2.2.2.2.2.2.2.2.2.2.2.2.2.2.2.2.2.2.1
theorem dX8_isItem_57 : decode cX8_isItem 57 = .ok (.aload_n 0, 1) := g111_X8_isItem.2.2.2.2.2.2.2.2.2.2.2.2.2.2.2.2.2.2.2.2.2.2.2.2.2.2.2.2.2.2.2.2.1
theorem dX8_isItem_58 : decode cX8_isItem 58 = .ok (.getfield 57, 3) := g111_X8_isItem.2.2.2.2.2.2.2.2.2.2.2.2.2.2.2.2.2.2.2.2.2.2.2.2.2.2.2.2.2.2.2.2.2.1
theorem dX8_isItem_61 : decode cX8_isItem 61 = .ok (.if_icmp .ge 21, 3) := g111_X8_isItem.2.2.2.2.2.2.2.2.2.2.2.2.2.2.2.2.2.2.2.2.2.2.2.2.2.2.2.2.2.2.2.2.2.2.1
theorem dX8_isItem_64 : decode cX8_isItem 64 = .ok (.aload_n 0, 1) := g111_X8_isItem.2.2.2.2.2.2.2.2.2.2.2.2.2.2.2.2.2.2.2.2.2.2.2.2.2.2.2.2.2.2.2.2.2.2.2.1
theorem dX8_isItem_65 : decode cX8_isItem 65 = .ok (.getfield 7, 3) := g111_X8_isItem.2.2.2.2.2.2.2.2.2.2.2.2.2.2.2.2.2.2.2.2.2.2.2.2.2.2.2.2.2.2.2.2.2.2.2.2.1
theorem dX8_isItem_68 : decode cX8_isItem 68 = .ok (.aload_n 0, 1) := g111_X8_isItem.2.2.2.2.2.2.2.2.2.2.2.2.2.2.2.2.2.2.2.2.2.2.2.2.2.2.2.2.2.2.2.2.2.2.2.2.2.1
theorem dX8_isItem_69 : decode cX8_isItem 69 = .ok (.getfield 61, 3) := g111_X8_isItem.2.2.2.2.2.2.2.2.2.2.2.2.2.2.2.2.2.2.2.2.2.2.2.2.2.2.2.2.2.2.2.2.2.2.2.2.2.2.1
theorem dX8_isItem_72 : decode cX8_isItem 72 = .ok (.baload, 1) := g111_X8_isItem.2.2.2.2.2.2.2.2.2.2.2.2.2.2.2.2.2.2.2.2.2.2.2.2.2.2.2.2.2.2.2.2.2.2.2.2.2.2.2.1
theorem dX8_isItem_73 : decode cX8_isItem 73 = .ok (.bipush 44, 2) := g111_X8_isItem.2.2.2.2.2.2.2.2.2.2.2.2.2.2.2.2.2.2.2.2.2.2.2.2.2.2.2.2.2.2.2.2.2.2.2.2.2.2.2.2.1
theorem dX8_isItem_75 : decode cX8_isItem 75 = .ok (.if_icmp .ne 7, 3) := g111_X8_isItem.2.2.2.2.2.2.2.2.2.2.2.2.2.2.2.2.2.2.2.2.2.2.2.2.2.2.2.2.2.2.2.2.2.2.2.2.2.2.2.2.2.1
theorem dX8_isItem_78 : decode cX8_isItem 78 = .ok (.iconst 1, 1) := g111_X8_isItem.2.2.2.2.2.2.2.2.2.2.2.2.2.2.2.2.2.2.2.2.2.2.2.2.2.2.2.2.2.2.2.2.2.2.2.2.2.2.2.2.2.2.1
theorem dX8_isItem_79 : decode cX8_isItem 79 = .ok (.goto 4, 3) := g111_X8_isItem.2.2.2.2.2.2.2.2.2.2.2.2.2.2.2.2.2.2.2.2.2.2.2.2.2.2.2.2.2.2.2.2.2.2.2.2.2.2.2.2.2.2.2.1
theorem dX8_isItem_82 : decode cX8_isItem 82 = .ok (.iconst 0, 1) := g111_X8_isItem.2.2.2.2.2.2.2.2.2.2.2.2.2.2.2.2.2.2.2.2.2.2.2.2.2.2.2.2.2.2.2.2.2.2.2.2.2.2.2.2.2.2.2.2.1
theorem dX8_isItem_83 : decode cX8_isItem 83 = .ok (.istore_n 3, 1) := g111_X8_isItem.2.2.2.2.2.2.2.2.2.2.2.2.2.2.2.2.2.2.2.2.2.2.2.2.2.2.2.2.2.2.2.2.2.2.2.2.2.2.2.2.2.2.2.2.2.1
theorem dX8_isItem_84 : decode cX8_isItem 84 = .ok (.aload_n 0, 1) := g111_X8_isItem.2.2.2.2.2.2.2.2.2.2.2.2.2.2.2.2.2.2.2.2.2.2.2.2.2.2.2.2.2.2.2.2.2.2.2.2.2.2.2.2.2.2.2.2.2.2.1
theorem dX8_isItem_85 : decode cX8_isItem 85 = .ok (.dup, 1) := g111_X8_isItem.2.2.2.2.2.2.2.2.2.2.2.2.2.2.2.2.2.2.2.2.2.2.2.2.2.2.2.2.2.2.2.2.2.2.2.2.2.2.2.2.2.2.2.2.2.2.2.1
theorem dX8_isItem_86 : decode cX8_isItem 86 = .ok (.getfield 61, 3) := g111_X8_isItem.2.2.2.2.2.2.2.2.2.2.2.2.2.2.2.2.2.2.2.2.2.2.2.2.2.2.2.2.2.2.2.2.2.2.2.2.2.2.2.2.2.2.2.2.2.2.2.2.1
theorem dX8_isItem_89 : decode cX8_isItem 89 = .ok (.iload 4, 2) := g111_X8_isItem.2.2.2.2.2.2.2.2.2.2.2.2.2.2.2.2.2.2.2.2.2.2.2.2.2.2.2.2.2.2.2.2.2.2.2.2.2.2.2.2.2.2.2.2.2.2.2.2.2.1
theorem dX8_isItem_91 : decode cX8_isItem 91 = .ok (.ifCond .ne 7, 3) := g111_X8_isItem.2.2.2.2.2.2.2.2.2.2.2.2.2.2.2.2.2.2.2.2.2.2.2.2.2.2.2.2.2.2.2.2.2.2.2.2.2.2.2.2.2.2.2.2.2.2.2.2.2.2.1
theorem dX8_isItem_94 : decode cX8_isItem 94 = .ok (.iconst 0, 1) := g111_X8_isItem.2.2.2.2.2.2.2.2.2.2.2.2.2.2.2.2.2.2.2.2.2.2.2.2.2.2.2.2.2.2.2.2.2.2.2.2.2.2.2.2.2.2.2.2.2.2.2.2.2.2.2.1
theorem dX8_isItem_95 : decode cX8_isItem 95 = .ok (.goto 4, 3) := g111_X8_isItem.2.2.2.2.2.2.2.2.2.2.2.2.2.2.2.2.2.2.2.2.2.2.2.2.2.2.2.2.2.2.2.2.2.2.2.2.2.2.2.2.2.2.2.2.2.2.2.2.2.2.2.2.1
theorem dX8_isItem_98 : decode cX8_isItem 98 = .ok (.iconst 1, 1) := g111_X8_isItem.2.2.2.2.2.2.2.2.2.2.2.2.2.2.2.2.2.2.2.2.2.2.2.2.2.2.2.2.2.2.2.2.2.2.2.2.2.2.2.2.2.2.2.2.2.2.2.2.2.2.2.2.2.1
theorem dX8_isItem_99 : decode cX8_isItem 99 = .ok (.iadd, 1) := g111_X8_isItem.2.2.2.2.2.2.2.2.2.2.2.2.2.2.2.2.2.2.2.2.2.2.2.2.2.2.2.2.2.2.2.2.2.2.2.2.2.2.2.2.2.2.2.2.2.2.2.2.2.2.2.2.2.2.1
theorem dX8_isItem_100 : decode cX8_isItem 100 = .ok (.putfield 61, 3) := g111_X8_isItem.2.2.2.2.2.2.2.2.2.2.2.2.2.2.2.2.2.2.2.2.2.2.2.2.2.2.2.2.2.2.2.2.2.2.2.2.2.2.2.2.2.2.2.2.2.2.2.2.2.2.2.2.2.2.2.1
theorem dX8_isItem_103 : decode cX8_isItem 103 = .ok (.aload_n 0, 1) := g111_X8_isItem.2.2.2.2.2.2.2.2.2.2.2.2.2.2.2.2.2.2.2.2.2.2.2.2.2.2.2.2.2.2.2.2.2.2.2.2.2.2.2.2.2.2.2.2.2.2.2.2.2.2.2.2.2.2.2.2.1
theorem dX8_isItem_104 : decode cX8_isItem 104 = .ok (.getfield 42, 3) := g111_X8_isItem.2.2.2.2.2.2.2.2.2.2.2.2.2.2.2.2.2.2.2.2.2.2.2.2.2.2.2.2.2.2.2.2.2.2.2.2.2.2.2.2.2.2.2.2.2.2.2.2.2.2.2.2.2.2.2.2.2.1
theorem dX8_isItem_107 : decode cX8_isItem 107 = .ok (.iload 4, 2) := g111_X8_isItem.2.2.2.2.2.2.2.2.2.2.2.2.2.2.2.2.2.2.2.2.2.2.2.2.2.2.2.2.2.2.2.2.2.2.2.2.2.2.2.2.2.2.2.2.2.2.2.2.2.2.2.2.2.2.2.2.2.2.1
theorem dX8_isItem_109 : decode cX8_isItem 109 = .ok (.iload_n 3, 1) := g111_X8_isItem.2.2.2.2.2.2.2.2.2.2.2.2.2.2.2.2.2.2.2.2.2.2.2.2.2.2.2.2.2.2.2.2.2.2.2.2.2.2.2.2.2.2.2.2.2.2.2.2.2.2.2.2.2.2.2.2.2.2.2
set_option maxRecDepth 100000 in
theorem g112_X8_isItem : decode cX8_isItem 110 = .ok (.ifCond .eq 10, 3) ∧ decode cX8_isItem 113 = .ok (.aload_n 0, 1) ∧ decode cX8_isItem 114 = .ok (.invokevirtual 74, 3) ∧ decode cX8_isItem 117 = .ok (.goto 4, 3) ∧ decode cX8_isItem 120 = .ok (.iconst (-1), 1) ∧ decode cX8_isItem 121 = .ok (.iastore, 1) ∧ decode cX8_isItem 122 = .ok (.aload_n 0, 1) ∧ decode cX8_isItem 123 = .ok (.getfield 42, 3) ∧ decode cX8_isItem 126 = .ok (.iload 4, 2) ∧ decode cX8_isItem 128 = .ok (.iaload, 1) ∧ decode cX8_isItem 129 = .ok (.ifCond .lt 7, 3) ∧ decode cX8_isItem 132 = .ok (.iconst 1, 1) ∧ decode cX8_isItem 133 = .ok (.goto 4, 3) ∧ decode cX8_isItem 136 = .ok (.iconst 0, 1) ∧ decode cX8_isItem 137 = .ok (.istore_n 3, 1) ∧ decode cX8_isItem 138 = .ok (.iinc 4 1, 3) ∧ decode cX8_isItem 141 = .ok (.goto (-103), 3) ∧ decode cX8_isItem 144 = .ok (.iload_n 3, 1) ∧ decode cX8_isItem 145 = .ok (.ifCond .eq 32, 3) ∧ decode cX8_isItem 148 = .ok (.aload_n 0, 1) ∧ decode cX8_isItem 149 = .ok (.getfield 61, 3) ∧ decode cX8_isItem 152 = .ok (.aload_n 0, 1) ∧ decode cX8_isItem 153 = .ok (.getfield 57, 3) ∧ decode cX8_isItem 156 = .ok (.if_icmp .ge 21, 3) ∧ decode cX8_isItem 159 = .ok (.aload_n 0, 1) ∧ decode cX8_isItem 160 = .ok (.getfield 7, 3) ∧ decode cX8_isItem 163 = .ok (.aload_n 0, 1) ∧ decode cX8_isItem 164 = .ok (.getfield 61, 3) ∧ decode cX8_isItem 167 = .ok (.baload, 1) ∧ decode cX8_isItem 168 = .ok (.bipush 59, 2) ∧ decode cX8_isItem 170 = .ok (.if_icmp .ne 7, 3) ∧ decode cX8_isItem 173 = .ok (.iconst 1, 1) ∧ decode cX8_isItem 174 = .ok (.goto 4, 3) ∧ decode cX8_isItem 177 = .ok (.iconst 0, 1) ∧ decode cX8_isItem 178 = .ok (.istore_n 3, 1) ∧ decode cX8_isItem 179 = .ok (.aload_n 0, 1) ∧ decode cX8_isItem 180 = .ok (.dup, 1) ∧ decode cX8_isItem 181 = .ok (.getfield 61, 3) ∧ decode cX8_isItem 184 = .ok (.iconst 1, 1) ∧ decode cX8_isItem 185 = .ok (.iadd, 1) ∧ decode cX8_isItem 186 = .ok (.putfield 61, 3) ∧ decode cX8_isItem 189 = .ok (.iload_n 3, 1) ∧ decode cX8_isItem 190 = .ok (.ifCond .eq 15, 3) ∧ decode cX8_isItem 193 = .ok (.aload_n 0, 1) ∧ decode cX8_isItem 194 = .ok (.iload_n 1, 1) ∧ decode cX8_isItem 195 = .ok (.invokevirtual 78, 3) ∧ decode cX8_isItem 198 = .ok (.ifCond .eq 7, 3) ∧ decode cX8_isItem 201 = .ok (.iconst 1, 1) ∧ decode cX8_isItem 202 = .ok (.goto 4, 3) ∧ decode cX8_isItem 205 = .ok (.iconst 0, 1) ∧ decode cX8_isItem 206 = .ok (.ireturn, 1) := by decide +kernel
theorem dX8_isItem_110 : decode cX8_isItem 110 = .ok (.ifCond .eq 10, 3) := g112_X8_isItem.1
theorem dX8_isItem_113 : decode cX8_isItem 113 = .ok (.aload_n 0, 1) := g112_X8_isItem.2.1
theorem dX8_isItem_114 : decode cX8_isItem 114 = .ok (.invokevirtual 74, 3) := g112_X8_isItem.2.2.1
theorem dX8_isItem_117 : decode cX8_isItem 117 = .ok (.goto 4, 3) := g112_X8_isItem.2.2.2.1
theorem dX8_isItem_120 : decode cX8_isItem 120 = .ok (.iconst (-1), 1) := g112_X8_isItem.2.2.2.2.1
theorem dX8_isItem_121 : decode cX8_isItem 121 = .ok (.iastore, 1) := g112_X8_isItem.2.2.2.2.2.1
theorem dX8_isItem_122 : decode cX8_isItem 122 = .ok (.aload_n 0, 1) := g112_X8_isItem.2.2.2.2.2.2.1
theorem dX8_isItem_123 : decode cX8_isItem 123 = .ok (.getfield 42, 3) := g112_X8_isItem.2.2.2.2.2.2.2.1
theorem dX8_isItem_126 : decode cX8_isItem 126 = .ok (.iload 4, 2) := g112_X8_isItem.2.2.2.2.2.2.2.2.1
theorem dX8_isItem_128 : decode cX8_isItem 128 = .ok (.iaload, 1) := g112_X8_isItem.2.2.2.2.2.2.2.2.2.1
theorem dX8_isItem_129 : decode cX8_isItem 129 = .ok (.ifCond .lt 7, 3) := g112_X8_isItem.2.2.2.2.2.2.2.2.2.2.1
theorem dX8_isItem_132 : decode cX8_isItem 132 = .ok (.iconst 1, 1) := g112_X8_isItem.2.2.2.2.2.2.2.2.2.2.2.1
theorem dX8_isItem_133 : decode cX8_isItem 133 = .ok (.goto 4, 3) := g112_X8_isItem.2.2.2.2.2.2.2.2.2.2.2.2.1
theorem dX8_isItem_136 : decode cX8_isItem 136 = .ok (.iconst 0, 1) := g112_X8_isItem.2.2.2.2.2.2.2.2.2.2.2.2.2.1
theorem dX8_isItem_137 : decode cX8_isItem 137 = .ok (.istore_n 3, 1) := g112_X8_isItem.2.2.2.2.2.2.2.2.2.2.2.2.2.2.1
theorem dX8_isItem_138 : decode cX8_isItem 138 = .ok (.iinc 4 1, 3) := g112_X8_isItem.2.2.2.2.2.2.2.2.2.2.2.2.2.2.2.1
theorem dX8_isItem_141 : decode cX8_isItem 141 = .ok (.goto (-103), 3) := g112_X8_isItem.2.2.2.2.2.2.2.2.2.2.2.2.2.2.2.2.1
theorem dX8_isItem_144 : decode cX8_isItem 144 = .ok (.iload_n 3, 1) := g112_X8_isItem.2.2.2.2.2.2.2.2.2.2.2.2.2.2.2.2.2.1
theorem dX8_isItem_145 : decode cX8_isItem 145 = .ok (.ifCond .eq 32, 3) := g112_X8_isItem.2.2.2.2.2.2.2.2.2.2.2.2.2.2.2.2.2.2.1
theorem dX8_isItem_148 : decode cX8_isItem 148 = .ok (.aload_n 0, 1) := g112_X8_isItem.2.2.2.2.2.2.2.2.2.2.2.2.2.2.2.2.2.2.2.1
theorem dX8_isItem_149 : decode cX8_isItem 149 = .ok (.getfield 61, 3) := g112_X8_isItem.2.2.2.2.2.2.2.2.2.2.2.2.2.2.2.2.2.2.2.2.1
theorem dX8_isItem_152 : decode cX8_isItem 152 = .ok (.aload_n 0, 1) := g112_X8_isItem.2.2.2.2.2.2.2.2.2.2.2.2.2.2.2.2.2.2.2.2.2.1
theorem dX8_isItem_153 : decode cX8_isItem 153 = .ok (.getfield 57, 3) := g112_X8_isItem.2.2.2.2.2.2.2.2.2.2.2.2.2.2.2.2.2.2.2.2.2.2.1
theorem dX8_isItem_156 : decode cX8_isItem 156 = .ok (.if_icmp .ge 21, 3) := g112_X8_isItem.2.2.2.2.2.2.2.2.2.2.2.2.2.2.2.2.2.2.2.2.2.2.2.1
theorem dX8_isItem_159 : decode cX8_isItem 159 = .ok (.aload_n 0, 1) := g112_X8_isItem.2.2.2.2.2.2.2.2.2.2.2.2.2.2.2.2.2.2.2.2.2.2.2.2.1
theorem dX8_isItem_160 : decode cX8_isItem 160 = .ok (.getfield 7, 3) := g112_X8_isItem.2.2.2.2.2.2.2.2.2.2.2.2.2.2.2.2.2.2.2.2.2.2.2.2.2.1
theorem dX8_isItem_163 : decode cX8_isItem 163 = .ok (.aload_n 0, 1) := g112_X8_isItem.2.2.2.2.2.2.2.2.2.2.2.2.2.2.2.2.2.2.2.2.2.2.2.2.2.2.1
theorem dX8_isItem_164 : decode cX8_isItem 164 = .ok (.getfield 61, 3) := g112_X8_isItem.2.2.2.2.2.2.2.2.2.2.2.2.2.2.2.2.2.2.2.2.2.2.2.2.2.2.2.1
theorem dX8_isItem_167 : decode cX8_isItem 167 = .ok (.baload, 1) := g112_X8_isItem.2.2.2.2.2.2.2.2.2.2.2.2.2.2.2.2.2.2.2.2.2.2.2.2.2.2.2.2.1
theorem dX8_isItem_168 : decode cX8_isItem 168 = .ok (.bipush 59, 2) := g112_X8_isItem.2.2.2.2.2.2.2.2.2.2.2.2.2.2.2.2.2.2.2.2.2.2.2.2.2.2.2.2.2.1
theorem dX8_isItem_170 : decode cX8_isItem 170 = .ok (.if_icmp .ne 7, 3) := g112_X8_isItem.2.2.2.2.2.2.2.2.2.2.2.2.2.2.2.2.2.2.2.2.2.2.2.2.2.2.2.2.2.2.1
theorem dX8_isItem_173 : decode cX8_isItem 173 = .ok (.iconst 1, 1) := g112_X8_isItem.2.2.2.2.2.2.2.2.2.2.2.2.2.2.2.2.2.2.2.2.2.2.2.2.2.2.2.2.2.2.2.1
theorem dX8_isItem_174 : decode cX8_isItem 174 = .ok (.goto 4, 3) := g112_X8_isItem.2.2.2.2.2.2.2.2.2.2.2.2.2.2.2.2.2.2.2.2.2.2.2.2.2.2.2.2.2.2.2.2.1
theorem dX8_isItem_177 : decode cX8_isItem 177 = .ok (.iconst 0, 1) := g112_X8_isItem.2.2.2.2.2.2.2.2.2.2.2.2.2.2.2.2.2.2.2.2.2.2.2.2.2.2.2.2.2.2.2.2.2.1
theorem dX8_isItem_178 : decode cX8_isItem 178 = .ok (.istore_n 3, 1) := g112_X8_isItem.2.2.2.2.2.2.2.2.2.2.2.2.2.2.2.2.2.2.2.2.2.2.2.2.2.2.2.2.2.2.2.2.2.2.1
theorem dX8_isItem_179 : decode cX8_isItem 179 = .ok (.aload_n 0, 1) := g112_X8_isItem.2.2.2.2.2.2.2.2.2.2.2.2.2.2.2.2.2.2.2.2.2.2.2.2.2.2.2.2.2.2.2.2.2.2.2.1
theorem dX8_isItem_180 : decode cX8_isItem 180 = .ok (.dup, 1) := g112_X8_isItem.2.2.2.2.2.2.2.2.2.2.2.2.2.2.2.2.2.2.2.2.2.2.2.2.2.2.2.2.2.2.2.2.2.2.2.2.1
theorem dX8_isItem_181 : decode cX8_isItem 181 = .ok (.getfield 61, 3) := g112_X8_isItem.2.2.2.2.2.2.2.2.2.2.2.2.2.2.2.2.2.2.2.2.2.2.2.2.2.2.2.2.2.2.2.2.2.2.2.2.2.1
theorem dX8_isItem_184 : decode cX8_isItem 184 = .ok (.iconst 1, 1) := g112_X8_isItem.2.2.2.2.2.2.2.2.2.2.2.2.2.2.2.2.2.2.2.2.2.2.2.2.2.2.2.2.2.2.2.2.2.2.2.2.2.2.1
theorem dX8_isItem_185 : decode cX8_isItem 185 = .ok (.iadd, 1) := g112_X8_isItem.2.2.2.2.2.2.2.2.2.2.2.2.2.2.2.2.2.2.2.2.2.2.2.2.2.2.2.2.2.2.2.2.2.2.2.2.2.2.2.1
theorem dX8_isItem_186 : decode cX8_isItem 186 = .ok (.putfield 61, 3) := g112_X8_isItem.2.2.2.2.2.2.2.2.2.2.2.2.2.2.2.2.2.2.2.2.2.2.2.2.2.2.2.2.2.2.2.2.2.2.2.2.2.2.2.2.1
theorem dX8_isItem_189 : decode cX8_isItem 189 = .ok (.iload_n 3, 1) := g112_X8_isItem.2.2.2.2.2.2.2.2.2.2.2.2.2.2.2.2.2.2.2.2.2.2.2.2.2.2.2.2.2.2.2.2.2.2.2.2.2.2.2.2.2.1
theorem dX8_isItem_190 : decode cX8_isItem 190 = .ok (.ifCond .eq 15, 3) := g112_X8_isItem.2.2.2.2.2.2.2.2.2.2.2.2.2.2.2.2.2.2.2.2.2.2.2.2.2.2.2.2.2.2.2.2.2.2.2.2.2.2.2.2.2.2.1
theorem dX8_isItem_193 : decode cX8_isItem 193 = .ok (.aload_n 0, 1) := g112_X8_isItem.2.2.2.2.2.2.2.2.2.2.2.2.2.2.2.2.2.2.2.2.2.2.2.2.2.2.2.2.2.2.2.2.2.2.2.2.2.2.2.2.2.2.2.1
theorem dX8_isItem_194 : decode cX8_isItem 194 = .ok (.iload_n 1, 1) := g112_X8_isItem.2.2.2.2.2.2.2.2.2.2.2.2.2.2.2.2.2.2.2.2.2.2.2.2.2.2.2.2.2.2.2.2.2.2.2.2.2.2.2.2.2.2.2.2.1
theorem dX8_isItem_195 : decode cX8_isItem 195 = .ok (.invokevirtual 78, 3) := g112_X8_isItem.2.2.2.2.2.2.2.2.2.2.2.2.2.2.2.2.2.2.2.2.2.2.2.2.2.2.2.2.2.2.2.2.2.2.2.2.2.2.2.2.2.2.2.2.2.1
theorem dX8_isItem_198 : decode cX8_isItem 198 = .ok (.ifCond .eq 7, 3) := g112_X8_isItem.2.2.2.2.2.2.2.2.2.2.2.2.2.2.2.2.2.2.2.2.2.2.2.2.2.2.2.2.2.2.2.2.2.2.2.2.2.2.2.2.2.2.2.2.2.2.1
theorem dX8_isItem_201 : decode cX8_isItem 201 = .ok (.iconst 1, 1) := g112_X8_isItem.2.2.2.2.2.2.2.2.2.2.2.2.2.2.2.2.2.2.2.2.2.2.2.2.2.2.2.2.2.2.2.2.2.2.2.2.2.2.2.2.2.2.2.2.2.2.2.1
theorem dX8_isItem_202 : decode cX8_isItem 202 = .ok (.goto 4, 3) := g112_X8_isItem.2.2.2.2.2.2.2.2.2.2.2.2.2.2.2.2.2.2.2.2.2.2.2.2.2.2.2.2.2.2.2.2.2.2.2.2.2.2.2.2.2.2.2.2.2.2.2.2.1
theorem dX8_isItem_205 : decode cX8_isItem 205 = .ok (.iconst 0, 1) := g112_X8_isItem.2.2.2.2.2.2.2.2.2.2.2.2.2.2.2.2.2.2.2.2.2.2.2.2.2.2.2.2.2.2.2.2.2.2.2.2.2.2.2.2.2.2.2.2.2.2.2.2.2.1
theorem dX8_isItem_206 : decode cX8_isItem 206 = .ok (.ireturn, 1) := g112_X8_isItem.2.2.2.2.2.2.2.2.2.2.2.2.2.2.2.2.2.2.2.2.2.2.2.2.2.2.2.2.2.2.2.2.2.2.2.2.2.2.2.2.2.2.2.2.2.2.2.2.2.2
set_option maxRecDepth 100000 in
theorem g113_X8_isGood : decode cX8_isGood 0 = .ok (.iload_n 1, 1) ∧ decode cX8_isGood 1 = .ok (.bipush 116, 2) ∧ decode cX8_isGood 3 = .ok (.if_icmp .ne 107, 3) ∧ decode cX8_isGood 6 = .ok (.iconst 0, 1) ∧ decode cX8_isGood 7 = .ok (.istore_n 2, 1) ∧ decode cX8_isGood 8 = .ok (.iload_n 2, 1) ∧ decode cX8_isGood 9 = .ok (.iconst 4, 1) ∧ decode cX8_isGood 10 = .ok (.if_icmp .ge 24, 3) ∧ decode cX8_isGood 13 = .ok (.aload_n 0, 1) ∧ decode cX8_isGood 14 = .ok (.getfield 13, 3) ∧ decode cX8_isGood 17 = .ok (.bipush 6, 2) ∧ decode cX8_isGood 19 = .ok (.iload_n 2, 1) ∧ decode cX8_isGood 20 = .ok (.iadd, 1) ∧ decode cX8_isGood 21 = .ok (.aload_n 0, 1) ∧ decode cX8_isGood 22 = .ok (.getfield 42, 3) ∧ decode cX8_isGood 25 = .ok (.iload_n 2, 1) ∧ decode cX8_isGood 26 = .ok (.iaload, 1) ∧ decode cX8_isGood 27 = .ok (.iastore, 1) ∧ decode cX8_isGood 28 = .ok (.iinc 2 1, 3) ∧ decode cX8_isGood 31 = .ok (.goto (-23), 3) ∧ decode cX8_isGood 34 = .ok (.aload_n 0, 1) ∧ decode cX8_isGood 35 = .ok (.iconst 0, 1) ∧ decode cX8_isGood 36 = .ok (.bipush 20, 2) ∧ decode cX8_isGood 38 = .ok (.sipush 999, 3) ∧ decode cX8_isGood 41 = .ok (.invokevirtual 82, 3) ∧ decode cX8_isGood 44 = .ok (.ifCond .eq 64, 3) ∧ decode cX8_isGood 47 = .ok (.aload_n 0, 1) ∧ decode cX8_isGood 48 = .ok (.iconst 1, 1) ∧ decode cX8_isGood 49 = .ok (.iconst 1, 1) ∧ decode cX8_isGood 50 = .ok (.bipush 20, 2) ∧ decode cX8_isGood 52 = .ok (.invokevirtual 82, 3) ∧ decode cX8_isGood 55 = .ok (.ifCond .eq 53, 3) ∧ decode cX8_isGood 58 = .ok (.aload_n 0, 1) ∧ decode cX8_isGood 59 = .ok (.getfield 42, 3) ∧ decode cX8_isGood 62 = .ok (.iconst 0, 1) ∧ decode cX8_isGood 63 = .ok (.iaload, 1) ∧ decode cX8_isGood 64 = .ok (.bipush 20, 2) ∧ decode cX8_isGood 66 = .ok (.aload_n 0, 1) ∧ decode cX8_isGood 67 = .ok (.getfield 42, 3) ∧ decode cX8_isGood 70 = .ok (.iconst 1, 1) ∧ decode cX8_isGood 71 = .ok (.iaload, 1) ∧ decode cX8_isGood 72 = .ok (.imul, 1) ∧ decode cX8_isGood 73 = .ok (.if_icmp .lt 35, 3) ∧ decode cX8_isGood 76 = .ok (.aload_n 0, 1) ∧ decode cX8_isGood 77 = .ok (.iconst 3, 1) ∧ decode cX8_isGood 78 = .ok (.iconst 2, 1) ∧ decode cX8_isGood 79 = .ok (.bipush 20, 2) ∧ decode cX8_isGood 81 = .ok (.invokevirtual 82, 3) ∧ decode cX8_isGood 84 = .ok (.ifCond .eq 24, 3) ∧ decode cX8_isGood 87 = .ok (.aload_n 0, 1) ∧ decode cX8_isGood 88 = .ok (.iconst 2, 1) ∧ decode cX8_isGood 89 = .ok (.iconst 1, 1) ∧ decode cX8_isGood 90 = .ok (.aload_n 0, 1) ∧ decode cX8_isGood 91 = .ok (.getfield 42, 3) ∧ decode cX8_isGood 94 = .ok (.iconst 3, 1) ∧ decode cX8_isGood 95 = .ok (.iaload, 1) ∧ decode cX8_isGood 96 = .ok (.iconst 1, 1) ∧ decode cX8_isGood 97 = .ok (.isub, 1) ∧ decode cX8_isGood 98 = .ok (.invokevirtual 82, 3) ∧ decode cX8_isGood 101 = .ok (.ifCond .eq 7, 3) := by decide +kernel
theorem dX8_isGood_0 : decode cX8_isGood 0 = .ok (.iload_n 1, 1) := g113_X8_isGood.1
theorem dX8_isGood_1 : decode cX8_isGood 1 = .ok (.bipush 116, 2) := g113_X8_isGood.2.1
theorem dX8_isGood_3 : decode cX8_isGood 3 = .ok (.if_icmp .ne 107, 3) := g113_X8_isGood.2.2.1
theorem dX8_isGood_6 : decode cX8_isGood 6 = .ok (.iconst 0, 1) := g113_X8_isGood.2.2.2.1
theorem dX8_isGood_7 : decode cX8_isGood 7 = .ok (.istore_n 2, 1) := g113_X8_isGood.2.2.2.2.1
theorem dX8_isGood_8 : decode cX8_isGood 8 = .ok (.iload_n 2, 1) := g113_X8_isGood.2.2.2.2.2.1
theorem dX8_isGood_9 : decode cX8_isGood 9 = .ok (.iconst 4, 1) := g113_X8_isGood.2.2.2.2.2.2.1
theorem dX8_isGood_10 : decode cX8_isGood 10 = .ok (.if_icmp .ge 24, 3) := g113_X8_isGood.2.2.2.2.2.2.2.1
theorem dX8_isGood_13 : decode cX8_isGood 13 = .ok (.aload_n 0, 1) := g113_X8_isGood.2.2.2.2.2.2.2.2.1
theorem dX8_isGood_14 : decode cX8_isGood 14 = .ok (.getfield 13, 3) := g113_X8_isGood.2.2.2.2.2.2.2.2.2.1
theorem dX8_isGood_17 : decode cX8_isGood 17 = .ok (.bipush 6, 2) := g113_X8_isGood.2.2.2.2.2.2.2.2.2.2.1
theorem dX8_isGood_19 : decode cX8_isGood 19 = .ok (.iload_n 2, 1) := g113_X8_isGood.2.2.2.2.2.2.2.2.2.2.2.1
theorem dX8_isGood_20 : decode cX8_isGood 20 = .ok (.iadd, 1) := g113_X8_isGood.2.2.2.2.2.2.2.2.2.2.2.2.1
theorem dX8_isGood_21 : decode cX8_isGood 21 = .ok (.aload_n 0, 1) := g113_X8_isGood.2.2.2.2.2.2.2.2.2.2.2.2.2.1
theorem dX8_isGood_22 : decode cX8_isGood 22 = .ok (.getfield 42, 3) := g113_X8_isGood.2.2.2.2.2.2.2.2.2.2.2.2.2.2.1
theorem dX8_isGood_25 : decode cX8_isGood 25 = .ok (.iload_n 2, 1) := g113_X8_isGood.2.2.2.2.2.2.2.2.2.2.2.2.2.2.2.1
theorem dX8_isGood_26 : decode cX8_isGood 26 = .ok (.iaload, 1) := g113_X8_isGood.2.2.2.2.2.2.2.2.2.2.2.2.2.2.2.2.1
theorem dX8_isGood_27 : decode cX8_isGood 27 = .ok (.iastore, 1) := g113_X8_isGood.2.2.2.2.2.2.2.2.2.2.2.2.2.2.2.2.2.1
theorem dX8_isGood_28 : decode cX8_isGood 28 = .ok (.iinc 2 1, 3) := g113_X8_isGood.2.2.2.2.2.2.2.2.2.2.2.2.2.2.2.2.2.2.1
theorem dX8_isGood_31 : decode cX8_isGood 31 = .ok (.goto (-23), 3) := g113_X8_isGood.2.2.2.2.2.2.2.2.2.2.2.2.2.2.2.2.2.2.2.1
theorem dX8_isGood_34 : decode cX8_isGood 34 = .ok (.aload_n 0, 1) := g113_X8_isGood.2.2.2.2.2.2.2.2.2.2.2.2.2.2.2.2.2.2.2.2.1
theorem dX8_isGood_35 : decode cX8_isGood 35 = .ok (.iconst 0, 1) := g113_X8_isGood.2.2.2.2.2.2.2.2.2.2.2.2.2.2.2.2.2.2.2.2.2.1
theorem dX8_isGood_36 : decode cX8_isGood 36 = .ok (.bipush 20, 2) := g113_X8_isGood.2.2.2.2.2.2.2.2.2.2.2.2.2.2.2.2.2.2.2.2.2.2.1
theorem dX8_isGood_38 : decode cX8_isGood 38 = .ok (.sipush 999, 3) := g113_X8_isGood.2.2.2.2.2.2.2.2.2.2.2.2.2.2.2.2.2.2.2.2.2.2.2.1
theorem dX8_isGood_41 : decode cX8_isGood 41 = .ok (.invokevirtual 82, 3) := g113_X8_isGood.2.2.2.2.2.2.2.2.2.2.2.2.2.2.2.2.2.2.2.2.2.2.2.2.1
theorem dX8_isGood_44 : decode cX8_isGood 44 = .ok (.ifCond .eq 64, 3) := g113_X8_isGood.2.2.2.2.2.2.2.2.2.2.2.2.2.2.2.2.2.2.2.2.2.2.2.2.2.1
theorem dX8_isGood_47 : decode cX8_isGood 47 = .ok (.aload_n 0, 1) := g113_X8_isGood.2.2.2.2.2.2.2.2.2.2.2.2.2.2.2.2.2.2.2.2.2.2.2.2.2.2.1
theorem dX8_isGood_48 : decode cX8_isGood 48 = .ok (.iconst 1, 1) := g113_X8_isGood.2.2.2.2.2.2.2.2.2.2.2.2.2.2.2.2.2.2.2.2.2.2.2.2.2.2.2.1
theorem dX8_isGood_49 : decode cX8_isGood 49 = .ok (.iconst 1, 1) := g113_X8_isGood.2.2.2.2.2.2.2.2.2.2.2.2.2.2.2.2.2.2.2.2.2.2.2.2.2.2.2.2.1
theorem dX8_isGood_50 : decode cX8_isGood 50 = .ok (.bipush 20, 2) := g113_X8_isGood.2.2.2.2.2.2.2.2.2.2.2.2.2.2.2.2.2.2.2.2.2.2.2.2.2.2.2.2.2.1
theorem dX8_isGood_52 : decode cX8_isGood 52 = .ok (.invokevirtual 82, 3) := g113_X8_isGood.2.2.2.2.2.2.2.2.2.2.2.2.2.2.2.2.2.2.2.2.2.2.2.2.2.2.2.2.2.2.1
theorem dX8_isGood_55 : decode cX8_isGood 55 = .ok (.ifCond .eq 53, 3) := g113_X8_isGood.2.2.2.2.2.2.2.2.2.2.2.2.2.2.2.2.2.2.2.2.2.2.2.2.2.2.2.2.2.2.2.1
theorem dX8_isGood_58 : decode cX8_isGood 58 = .ok (.aload_n 0, 1) := g113_X8_isGood.2.2.2.2.2.2.2.2.2.2.2.2.2.2.2.2.2.2.2.2.2.2.2.2.2.2.2.2.2.2.2.2.1
theorem dX8_isGood_59 : decode cX8_isGood 59 = .ok (.getfield 42, 3) := g113_X8_isGood.2.2.2.2.2.2.2.2.2.2.2.2.2.2.2.2.2.2.2.2.2.2.2.2.2.2.2.2.2.2.2.2.2.1
theorem dX8_isGood_62 : decode cX8_isGood 62 = .ok (.iconst 0, 1) := g113_X8_isGood.2.2.2.2.2.2.2.2.2.2.2.2.2.2.2.2.2.2.2.2.2.2.2.2.2.2.2.2.2.2.2.2.2.2.1
theorem dX8_isGood_63 : decode cX8_isGood 63 = .ok (.iaload, 1) := g113_X8_isGood.2.2.2.2.2.2.2.2.2.2.2.2.2.2.2.2.2.2.2.2.2.2.2.2.2.2.2.2.2.2.2.2.2.2.2.1
theorem dX8_isGood_64 : decode cX8_isGood 64 = .ok (.bipush 20, 2) := g113_X8_isGood.2.2.2.2.2.2.2.2.2.2.2.2.2.2.2.2.2.2.2.2.2.2.2.2.2.2.2.2.2.2.2.2.2.2.2.2.1
theorem dX8_isGood_66 : decode cX8_isGood 66 = .ok (.aload_n 0, 1) := g113_X8_isGood.2.2.2.2.2.2.2.2.2.2.2.2.2.2.2.2.2.2.2.2.2.2.2.2.2.2.2.2.2.2.2.2.2.2.2.2.2.1
theorem dX8_isGood_67 : decode cX8_isGood 67 = .ok (.getfield 42, 3) := g113_X8_isGood.2.2.2.2.2.2.2.2.2.2.2.2.2.2.2.2.2.2.2.2.2.2.2.2.2.2.2.2.2.2.2.2.2.2.2.2.2.2.1
theorem dX8_isGood_70 : decode cX8_isGood 70 = .ok (.iconst 1, 1) := g113_X8_isGood.2.2.2.2.2.2.2.2.2.2.2.2.2.2.2.2.2.2.2.2.2.2.2.2.2.2.2.2.2.2.2.2.2.2.2.2.2.2.2.1
theorem dX8_isGood_71 : decode cX8_isGood 71 = .ok (.iaload, 1) := g113_X8_isGood.2.2.2.2.2.2.2.2.2.2.2.2.2.2.2.2.2.2.2.2.2.2.2.2.2.2.2.2.2.2.2.2.2.2.2.2.2.2.2.2.1
theorem dX8_isGood_72 : decode cX8_isGood 72 = .ok (.imul, 1) := g113_X8_isGood.2.2.2.2.2.2.2.2.2.2.2.2.2.2.2.2.2.2.2.2.2.2.2.2.2.2.2.2.2.2.2.2.2.2.2.2.2.2.2.2.2.1
theorem dX8_isGood_73 : decode cX8_isGood 73 = .ok (.if_icmp .lt 35, 3) := g113_X8_isGood.2.2.2.2.2.2.2.2.2.2.2.2.2.2.2.2.2.2.2.2.2.2.2.2.2.2.2.2.2.2.2.2.2.2.2.2.2.2.2.2.2.2.1
theorem dX8_isGood_76 : decode cX8_isGood 76 = .ok (.aload_n 0, 1) := g113_X8_isGood.2.2.2.2.2.2.2.2.2.2.2.2.2.2.2.2.2.2.2.2.2.2.2.2.2.2.2.2.2.2.2.2.2.2.2.2.2.2.2.2.2.2.2.1
theorem dX8_isGood_77 : decode cX8_isGood 77 = .ok (.iconst 3, 1) := g113_X8_isGood.2.2.2.2.2.2.2.2.2.2.2.2.2.2.2.2.2.2.2.2.2.2.2.2.2.2.2.2.2.2.2.2.2.2.2.2.2.2.2.2.2.2.2.2.1
theorem dX8_isGood_78 : decode cX8_isGood 78 = .ok (.iconst 2, 1) := g113_X8_isGood.2.2.2.2.2.2.2.2.2.2.2.2.2.2.2.2.2.2.2.2.2.2.2.2.2.2.2.2.2.2.2.2.2.2.2.2.2.2.2.2.2.2.2.2.2.1
theorem dX8_isGood_79 : decode cX8_isGood 79 = .ok (.bipush 20, 2) := g113_X8_isGood.2.2.2.2.2.2.2.2.2.2.2.2.2.2.2.2.2.2.2.2.2.2.2.2.2.2.2.2.2.2.2.2.2.2.2.2.2.2.2.2.2.2.2.2.2.2.1
theorem dX8_isGood_81 : decode cX8_isGood 81 = .ok (.invokevirtual 82, 3) := g113_X8_isGood.2.2.2.2.2.2.2.2.2.2.2.2.2.2.2.2.2.2.2.2.2.2.2.2.2.2.2.2.2.2.2.2.2.2.2.2.2.2.2.2.2.2.2.2.2.2.2.1
theorem dX8_isGood_84 : decode cX8_isGood 84 = .ok (.ifCond .eq 24, 3) := g113_X8_isGood.2.2.2.2.2.2.2.2.2.2.2.2.2.2.2.2.2.2.2.2.2.2.2.2.2.2.2.2.2.2.2.2.2.2.2.2.2.2.2.2.2.2.2.2.2.2.2.2.1
theorem dX8_isGood_87 : decode cX8_isGood 87 = .ok (.aload_n 0, 1) := g113_X8_isGood.2.2.2.2.2.2.2.2.2.2.2.2.2.2.2.2.2.2.2.2.2.2.2.2.2.2.2.2.2.2.2.2.2.2.2.2.2.2.2.2.2.2.2.2.2.2.2.2.2.1
theorem dX8_isGood_88 : decode cX8_isGood 88 = .ok (.iconst 2, 1) := g113_X8_isGood.2.2.2.2.2.2.2.2.2.2.2.2.2.2.2.2.2.2.2.2.2.2.2.2.2.2.2.2.2.2.2.2.2.2.2.2.2.2.2.2.2.2.2.2.2.2.2.2.2.2.1
theorem dX8_isGood_89 : decode cX8_isGood 89 = .ok (.iconst 1, 1) := g113_X8_isGood.2.2.2.2.2.2.2.2.2.2.2.2.2.2.2.2.2.2.2.2.2.2.2.2.2.2.2.2.2.2.2.2.2.2.2.2.2.2.2.2.2.2.2.2.2.2.2.2.2.2.2.1
theorem dX8_isGood_90 : decode cX8_isGood 90 = .ok (.aload_n 0, 1) := g113_X8_isGood.2.2.2.2.2.2.2.2.2.2.2.2.2.2.2.2.2.2.2.2.2.2.2.2.2.2.2.2.2.2.2.2.2.2.2.2.2.2.2.2.2.2.2.2.2.2.2.2.2.2.2.2.1
theorem dX8_isGood_91 : decode cX8_isGood 91 = .ok (.getfield 42, 3) := g113_X8_isGood.2.2.2.2.2.2.2.2.2.2.2.2.2.2.2.2.2.2.2.2.2.2.2.2.2.2.2.2.2.2.2.2.2.2.2.2.2.2.2.2.2.2.2.2.2.2.2.2.2.2.2.2.2.1
theorem dX8_isGood_94 : decode cX8_isGood 94 = .ok (.iconst 3, 1) := g113_X8_isGood.2.2.2.2.2.2.2.2.2.2.2.2.2.2.2.2.2.2.2.2.2.2.2.2.2.2.2.2.2.2.2.2.2.2.2.2.2.2.2.2.2.2.2.2.2.2.2.2.2.2.2.2.2.2.1
theorem dX8_isGood_95 : decode cX8_isGood 95 = .ok (.iaload, 1) := g113_X8_isGood.2.2.2.2.2.2.2.2.2.2.2.2.2.2.2.2.2.2.2.2.2.2.2.2.2.2.2.2.2.2.2.2.2.2.2.2.2.2.2.2.2.2.2.2.2.2.2.2.2.2.2.2.2.2.2.1
theorem dX8_isGood_96 : decode cX8_isGood 96 = .ok (.iconst 1, 1) := g113_X8_isGood.2.2.2.2.2.2.2.2.2.2.2.2.2.2.2.2.2.2.2.2.2.2.2.2.2.2.2.2.2.2.2.2.2.2.2.2.2.2.2.2.2.2.2.2.2.2.2.2.2.2.2.2.2.2.2.2.1
theorem dX8_isGood_97 : decode cX8_isGood 97 = .ok (.isub, 1) := g113_X8_isGood.2.2.2.2.2.2.2.2.2.2.2.2.2.2.2.2.2.2.2.2.2.2.2.2.2.2.2.2.2.2.2.2.2.2.2.2.2.2.2.2.2.2.2.2.2.2.2.2.2.2.2.2.2.2.2.2.2.1
theorem dX8_isGood_98 : decode cX8_isGood 98 = .ok (.invokevirtual 82, 3) := g113_X8_isGood.2.2.2.2.2.2.2.2.2.2.2.2.2.2.2.2.2.2.2.2.2.2.2.2.2.2.2.2.2.2.2.2.2.2.2.2.2.2.2.2.2.2.2.2.2.2.2.2.2.2.2.2.2.2.2.2.2.2.1
theorem dX8_isGood_101 : decode cX8_isGood 101 = .ok (.ifCond .eq 7, 3) := g113_X8_isGood.2.2.2.2.2.2.2.2.2.2.2.2.2.2.2.2.2.2.2.2.2.2.2.2.2.2.2.2.2.2.2.2.2.2.2.2.2.2.2.2.2.2.2.2.2.2.2.2.2.2.2.2.2.2.2.2.2.2.2
set_option maxRecDepth 100000 in
theorem g114_X8_isGood : decode cX8_isGood 104 = .ok (.iconst 1, 1) ∧ decode cX8_isGood 105 = .ok (.goto 4, 3) ∧ decode cX8_isGood 108 = .ok (.iconst 0, 1) ∧ decode cX8_isGood 109 = .ok (.ireturn, 1) ∧ decode cX8_isGood 110 = .ok (.iload_n 1, 1) ∧ decode cX8_isGood 111 = .ok (.bipush 111, 2) ∧ decode cX8_isGood 113 = .ok (.if_icmp .ne 26, 3) ∧ decode cX8_isGood 116 = .ok (.aload_n 0, 1) ∧ decode cX8_isGood 117 = .ok (.getfield 13, 3) ∧ decode cX8_isGood 120 = .ok (.bipush 10, 2) ∧ decode cX8_isGood 122 = .ok (.aload_n 0, 1) ∧ decode cX8_isGood 123 = .ok (.getfield 42, 3) ∧ decode cX8_isGood 126 = .ok (.iconst 0, 1) ∧ decode cX8_isGood 127 = .ok (.iaload, 1) ∧ decode cX8_isGood 128 = .ok (.iastore, 1) ∧ decode cX8_isGood 129 = .ok (.aload_n 0, 1) ∧ decode cX8_isGood 130 = .ok (.iconst 0, 1) ∧ decode cX8_isGood 131 = .ok (.iconst 0, 1) ∧ decode cX8_isGood 132 = .ok (.sipush 999, 3) ∧ decode cX8_isGood 135 = .ok (.invokevirtual 82, 3) ∧ decode cX8_isGood 138 = .ok (.ireturn, 1) ∧ decode cX8_isGood 139 = .ok (.iload_n 1, 1) ∧ decode cX8_isGood 140 = .ok (.bipush 115, 2) ∧ decode cX8_isGood 142 = .ok (.if_icmp .ne 25, 3) ∧ decode cX8_isGood 145 = .ok (.aload_n 0, 1) ∧ decode cX8_isGood 146 = .ok (.getfield 13, 3) ∧ decode cX8_isGood 149 = .ok (.bipush 11, 2) ∧ decode cX8_isGood 151 = .ok (.aload_n 0, 1) ∧ decode cX8_isGood 152 = .ok (.getfield 42, 3) ∧ decode cX8_isGood 155 = .ok (.iconst 0, 1) ∧ decode cX8_isGood 156 = .ok (.iaload, 1) ∧ decode cX8_isGood 157 = .ok (.iastore, 1) ∧ decode cX8_isGood 158 = .ok (.aload_n 0, 1) ∧ decode cX8_isGood 159 = .ok (.iconst 0, 1) ∧ decode cX8_isGood 160 = .ok (.iconst 0, 1) ∧ decode cX8_isGood 161 = .ok (.bipush 99, 2) ∧ decode cX8_isGood 163 = .ok (.invokevirtual 82, 3) ∧ decode cX8_isGood 166 = .ok (.ireturn, 1) ∧ decode cX8_isGood 167 = .ok (.aload_n 0, 1) ∧ decode cX8_isGood 168 = .ok (.iconst 0, 1) ∧ decode cX8_isGood 169 = .ok (.iconst 0, 1) ∧ decode cX8_isGood 170 = .ok (.iconst 4, 1) ∧ decode cX8_isGood 171 = .ok (.invokevirtual 82, 3) ∧ decode cX8_isGood 174 = .ok (.ifCond .eq 57, 3) ∧ decode cX8_isGood 177 = .ok (.aload_n 0, 1) ∧ decode cX8_isGood 178 = .ok (.iconst 1, 1) ∧ decode cX8_isGood 179 = .ok (.iconst 0, 1) ∧ decode cX8_isGood 180 = .ok (.iconst 3, 1) ∧ decode cX8_isGood 181 = .ok (.invokevirtual 82, 3) ∧ decode cX8_isGood 184 = .ok (.ifCond .eq 47, 3) ∧ decode cX8_isGood 187 = .ok (.aload_n 0, 1) ∧ decode cX8_isGood 188 = .ok (.iconst 2, 1) ∧ decode cX8_isGood 189 = .ok (.iconst 1, 1) ∧ decode cX8_isGood 190 = .ok (.bipush 99, 2) ∧ decode cX8_isGood 192 = .ok (.invokevirtual 82, 3) ∧ decode cX8_isGood 195 = .ok (.ifCond .eq 36, 3) ∧ decode cX8_isGood 198 = .ok (.aload_n 0, 1) ∧ decode cX8_isGood 199 = .ok (.iconst 3, 1) ∧ decode cX8_isGood 200 = .ok (.iconst 0, 1) ∧ decode cX8_isGood 201 = .ok (.bipush 99, 2) := by decide +kernel
theorem dX8_isGood_104 : decode cX8_isGood 104 = .ok (.iconst 1, 1) := g114_X8_isGood.1
theorem dX8_isGood_105 : decode cX8_isGood 105 = .ok (.goto 4, 3) := g114_X8_isGood.2.1
theorem dX8_isGood_108 : decode cX8_isGood 108 = .ok (.iconst 0, 1) := g114_X8_isGood.2.2.1
theorem dX8_isGood_109 : decode cX8_isGood 109 = .ok (.ireturn, 1) := g114_X8_isGood.2.2.2.1
theorem dX8_isGood_110 : decode cX8_isGood 110 = .ok (.iload_n 1, 1) := g114_X8_isGood.2.2.2.2.1
theorem dX8_isGood_111 : decode cX8_isGood 111 = .ok (.bipush 111, 2) := g114_X8_isGood.2.2.2.2.2.1
theorem dX8_isGood_113 : decode cX8_isGood 113 = .ok (.if_icmp .ne 26, 3) := g114_X8_isGood.2.2.2.2.2.2.1
theorem dX8_isGood_116 : decode cX8_isGood 116 = .ok (.aload_n 0, 1) := g114_X8_isGood.2.2.2.2.2.2.2.1
theorem dX8_isGood_117 : decode cX8_isGood 117 = .ok (.getfield 13, 3) := g114_X8_isGood.2.2.2.2.2.2.2.2.1
theorem dX8_isGood_120 : decode cX8_isGood 120 = .ok (.bipush 10, 2) := g114_X8_isGood.2.2.2.2.2.2.2.2.2.1
theorem dX8_isGood_122 : decode cX8_isGood 122 = .ok (.aload_n 0, 1) := g114_X8_isGood.2.2.2.2.2.2.2.2.2.2.1
theorem dX8_isGood_123 : decode cX8_isGood 123 = .ok (.getfield 42, 3) := g114_X8_isGood.2.2.2.2.2.2.2.2.2.2.2.1
theorem dX8_isGood_126 : decode cX8_isGood 126 = .ok (.iconst 0, 1) := g114_X8_isGood.2.2.2.2.2.2.2.2.2.2.2.2.1
theorem dX8_isGood_127 : decode cX8_isGood 127 = .ok (.iaload, 1) := g114_X8_isGood.2.2.2.2.2.2.2.2.2.2.2.2.2.1
theorem dX8_isGood_128 : decode cX8_isGood 128 = .ok (.iastore, 1) := g114_X8_isGood.2.2.2.2.2.2.2.2.2.2.2.2.2.2.1
theorem dX8_isGood_129 : decode cX8_isGood 129 = .ok (.aload_n 0, 1) := g114_X8_isGood.2.2.2.2.2.2.2.2.2.2.2.2.2.2.2.1
theorem dX8_isGood_130 : decode cX8_isGood 130 = .ok (.iconst 0, 1) := g114_X8_isGood.2.2.2.2.2.2.2.2.2.2.2.2.2.2.2.2.1
theorem dX8_isGood_131 : decode cX8_isGood 131 = .ok (.iconst 0, 1) := g114_X8_isGood.2.2.2.2.2.2.2.2.2.2.2.2.2.2.2.2.2.1
theorem dX8_isGood_132 : decode cX8_isGood 132 = .ok (.sipush 999, 3) := g114_X8_isGood.2.2.2.2.2.2.2.2.2.2.2.2.2.2.2.2.2.2.1
theorem dX8_isGood_135 : decode cX8_isGood 135 = .ok (.invokevirtual 82, 3) := g114_X8_isGood.2.2.2.2.2.2.2.2.2.2.2.2.2.2.2.2.2.2.2.1
theorem dX8_isGood_138 : decode cX8_isGood 138 = .ok (.ireturn, 1) := g114_X8_isGood.2.2.2.2.2.2.2.2.2.2.2.2.2.2.2.2.2.2.2.2.1
theorem dX8_isGood_139 : decode cX8_isGood 139 = .ok (.iload_n 1, 1) := g114_X8_isGood.2.2.2.2.2.2.2.2.2.2.2.2.2.2.2.2.2.2.2.2.2.1
theorem dX8_isGood_140 : decode cX8_isGood 140 = .ok (.bipush 115, 2) := g114_X8_isGood.2.2.2.2.2.2.2.2.2.2.2.2.2.2.2.2.2.2.2.2.2.2.1
theorem dX8_isGood_142 : decode cX8_isGood 142 = .ok (.if_icmp .ne 25, 3) := g114_X8_isGood.2.2.2.2.2.2.2.2.2.2.2.2.2.2.2.2.2.2.2.2.2.2.2.1
theorem dX8_isGood_145 : decode cX8_isGood 145 = .ok (.aload_n 0, 1) := g114_X8_isGood.2.2.2.2.2.2.2.2.2.2.2.2.2.2.2.2.2.2.2.2.2.2.2.2.1
theorem dX8_isGood_146 : decode cX8_isGood 146 = .ok (.getfield 13, 3) := g114_X8_isGood.2.2.2.2.2.2.2.2.2.2.2.2.2.2.2.2.2.2.2.2.2.2.2.2.2.1
theorem dX8_isGood_149 : decode cX8_isGood 149 = .ok (.bipush 11, 2) := g114_X8_isGood.2.2.2.2.2.2.2.2.2.2.2.2.2.2.2.2.2.2.2.2.2.2.2.2.2.2.1
theorem dX8_isGood_151 : decode cX8_isGood 151 = .ok (.aload_n 0, 1) := g114_X8_isGood.2.2.2.2.2.2.2.2.2.2.2.2.2.2.2.2.2.2.2.2.2.2.2.2.2.2.2.1
theorem dX8_isGood_152 : decode cX8_isGood 152 = .ok (.getfield 42, 3) := g114_X8_isGood.2.2.2.2.2.2.2.2.2.2.2.2.2.2.2.2.2.2.2.2.2.2.2.2.2.2.2.2.1
theorem dX8_isGood_155 : decode cX8_isGood 155 = .ok (.iconst 0, 1) := g114_X8_isGood.2.2.2.2.2.2.2.2.2.2.2.2.2.2.2.2.2.2.2.2.2.2.2.2.2.2.2.2.2.1
theorem dX8_isGood_156 : decode cX8_isGood 156 = .ok (.iaload, 1) := g114_X8_isGood.2.2.2.2.2.2.2.2.2.2.2.2.2.2.2.2.2.2.2.2.2.2.2.2.2.2.2.2.2.2.1
theorem dX8_isGood_157 : decode cX8_isGood 157 = .ok (.iastore, 1) := g114_X8_isGood.2.2.2.2.2.2.2.2.2.2.2.2.2.2.2.2.2.2.2.2.2.2.2.2.2.2.2.2.2.2.2.1
theorem dX8_isGood_158 : decode cX8_isGood 158 = .ok (.aload_n 0, 1) := g114_X8_isGood.2.2.2.2.2.2.2.2.2.2.2.2.2.2.2.2.2.2.2.2.2.2.2.2.2.2.2.2.2.2.2.2.1
theorem dX8_isGood_159 : decode cX8_isGood 159 = .ok (.iconst 0, 1) := g114_X8_isGood.2.2.2.2.2.2.2.2.2.2.2.2.2.2.2.2.2.2.2.2.2.2.2.2.2.2.2.2.2.2.2.2.2.1
theorem dX8_isGood_160 : decode cX8_isGood 160 = .ok (.iconst 0, 1) := g114_X8_isGood.2.2.2.2.2.2.2.2.2.2.2.2.2.2.2.2.2.2.2.2.2.2.2.2.2.2.2.2.2.2.2.2.2.2.1
theorem dX8_isGood_161 : decode cX8_isGood 161 = .ok (.bipush 99, 2) := g114_X8_isGood.2.2.2.2.2.2.2.2.2.2.2.2.2.2.2.2.2.2.2.2.2.2.2.2.2.2.2.2.2.2.2.2.2.2.2.1
theorem dX8_isGood_163 : decode cX8_isGood 163 = .ok (.invokevirtual 82, 3) := g114_X8_isGood.2.2.2.2.2.2.2.2.2.2.2.2.2.2.2.2.2.2.2.2.2.2.2.2.2.2.2.2.2.2.2.2.2.2.2.2.1
theorem dX8_isGood_166 : decode cX8_isGood 166 = .ok (.ireturn, 1) := g114_X8_isGood.2.2.2.2.2.2.2.2.2.2.2.2.2.2.2.2.2.2.2.2.2.2.2.2.2.2.2.2.2.2.2.2.2.2.2.2.2.1
theorem dX8_isGood_167 : decode cX8_isGood 167 = .ok (.aload_n 0, 1) := g114_X8_isGood.2.2.2.2.2.2.2.2.2.2.2.2.2.2.2.2.2.2.2.2.2.2.2.2.2.2.2.2.2.2.2.2.2.2.2.2.2.2.1
theorem dX8_isGood_168 : decode cX8_isGood 168 = .ok (.iconst 0, 1) := g114_X8_isGood.2.2.2.2.2.2.2.2.2.2.2.2.2.2.2.2.2.2.2.2.2.2.2.2.2.2.2.2.2.2.2.2.2.2.2.2.2.2.2.1
theorem dX8_isGood_169 : decode cX8_isGood 169 = .ok (.iconst 0, 1) := g114_X8_isGood.2.2.2.2.2.2.2.2.2.2.2.2.2.2.2.2.2.2.2.2.2.2.2.2.2.2.2.2.2.2.2.2.2.2.2.2.2.2.2.2.1
theorem dX8_isGood_170 : decode cX8_isGood 170 = .ok (.iconst 4, 1) := g114_X8_isGood.2.2.2.2.2.2.2.2.2.2.2.2.2.2.2.2.2.2.2.2.2.2.2.2.2.2.2.2.2.2.2.2.2.2.2.2.2.2.2.2.2.1
theorem dX8_isGood_171 : decode cX8_isGood 171 = .ok (.invokevirtual 82, 3) := g114_X8_isGood.2.2.2.2.2.2.2.2.2.2.2.2.2.2.2.2.2.2.2.2.2.2.2.2.2.2.2.2.2.2.2.2.2.2.2.2.2.2.2.2.2.2.1
theorem dX8_isGood_174 : decode cX8_isGood 174 = .ok (.ifCond .eq 57, 3) := g114_X8_isGood.2.2.2.2.2.2.2.2.2.2.2.2.2.2.2.2.2.2.2.2.2.2.2.2.2.2.2.2.2.2.2.2.2.2.2.2.2.2.2.2.2.2.2.1
theorem dX8_isGood_177 : decode cX8_isGood 177 = .ok (.aload_n 0, 1) := g114_X8_isGood.2.2.2.2.2.2.2.2.2.2.2.2.2.2.2.2.2.2.2.2.2.2.2.2.2.2.2.2.2.2.2.2.2.2.2.2.2.2.2.2.2.2.2.2.1
theorem dX8_isGood_178 : decode cX8_isGood 178 = .ok (.iconst 1, 1) := g114_X8_isGood.2.2.2.2.2.2.2.2.2.2.2.2.2.2.2.2.2.2.2.2.2.2.2.2.2.2.2.2.2.2.2.2.2.2.2.2.2.2.2.2.2.2.2.2.2.1
theorem dX8_isGood_179 : decode cX8_isGood 179 = .ok (.iconst 0, 1) := g114_X8_isGood.2.2.2.2.2.2.2.2.2.2.2.2.2.2.2.2.2.2.2.2.2.2.2.2.2.2.2.2.2.2.2.2.2.2.2.2.2.2.2.2.2.2.2.2.2.2.1
theorem dX8_isGood_180 : decode cX8_isGood 180 = .ok (.iconst 3, 1) := g114_X8_isGood.2.2.2.2.2.2.2.2.2.2.2.2.2.2.2.2.2.2.2.2.2.2.2.2.2.2.2.2.2.2.2.2.2.2.2.2.2.2.2.2.2.2.2.2.2.2.2.1
theorem dX8_isGood_181 : decode cX8_isGood 181 = .ok (.invokevirtual 82, 3) := g114_X8_isGood.2.2.2.2.2.2.2.2.2.2.2.2.2.2.2.2.2.2.2.2.2.2.2.2.2.2.2.2.2.2.2.2.2.2.2.2.2.2.2.2.2.2.2.2.2.2.2.2.1
theorem dX8_isGood_184 : decode cX8_isGood 184 = .ok (.ifCond .eq 47, 3) := g114_X8_isGood.2.2.2.2.2.2.2.2.2.2.2.2.2.2.2.2.2.2.2.2.2.2.2.2.2.2.2.2.2.2.2.2.2.2.2.2.2.2.2.2.2.2.2.2.2.2.2.2.2.1
theorem dX8_isGood_187 : decode cX8_isGood 187 = .ok (.aload_n 0, 1) := g114_X8_isGood.2.2.2.2.2.2.2.2.2.2.2.2.2.2.2.2.2.2.2.2.2.2.2.2.2.2.2.2.2.2.2.2.2.2.2.2.2.2.2.2.2.2.2.2.2.2.2.2.2.2.1
theorem dX8_isGood_188 : decode cX8_isGood 188 = .ok (.iconst 2, 1) := g114_X8_isGood.2.2.2.2.2.2.2.2.2.2.2.2.2.2.2.2.2.2.2.2.2.2.2.2.2.2.2.2.2.2.2.2.2.2.2.2.2.2.2.2.2.2.2.2.2.2.2.2.2.2.2.1
theorem dX8_isGood_189 : decode cX8_isGood 189 = .ok (.iconst 1, 1) := g114_X8_isGood.2.2.2.2.2.2.2.2.2.2.2.2.2.2.2.2.2.2.2.2.2.2.2.2.2.2.2.2.2.2.2.2.2.2.2.2.2.2.2.2.2.2.2.2.2.2.2.2.2.2.2.2.1
theorem dX8_isGood_190 : decode cX8_isGood 190 = .ok (.bipush 99, 2) := g114_X8_isGood.2.2.2.2.2.2.2.2.2.2.2.2.2.2.2.2.2.2.2.2.2.2.2.2.2.2.2.2.2.2.2.2.2.2.2.2.2.2.2.2.2.2.2.2.2.2.2.2.2.2.2.2.2.1
theorem dX8_isGood_192 : decode cX8_isGood 192 = .ok (.invokevirtual 82, 3) := g114_X8_isGood.2.2.2.2.2.2.2.2.2.2.2.2.2.2.2.2.2.2.2.2.2.2.2.2.2.2.2.2.2.2.2.2.2.2.2.2.2.2.2.2.2.2.2.2.2.2.2.2.2.2.2.2.2.2.1
theorem dX8_isGood_195 : decode cX8_isGood 195 = .ok (.ifCond .eq 36, 3) := g114_X8_isGood.2.2.2.2.2.2.2.2.2.2.2.2.2.2.2.2.2.2.2.2.2.2.2.2.2.2.2.2.2.2.2.2.2.2.2.2.2.2.2.2.2.2.2.2.2.2.2.2.2.2.2.2.2.2.2.1
theorem dX8_isGood_198 : decode cX8_isGood 198 = .ok (.aload_n 0, 1) := g114_X8_isGood.2.2.2.2.2.2.2.2.2.2.2.2.2.2.2.2.2.2.2.2.2.2.2.2.2.2.2.2.2.2.2.2.2.2.2.2.2.2.2.2.2.2.2.2.2.2.2.2.2.2.2.2.2.2.2.2.1
theorem dX8_isGood_199 : decode cX8_isGood 199 = .ok (.iconst 3, 1) := g114_X8_isGood.2.2.2.2.2.2.2.2.2.2.2.2.2.2.2.2.2.2.2.2.2.2.2.2.2.2.2.2.2.2.2.2.2.2.2.2.2.2.2.2.2.2.2.2.2.2.2.2.2.2.2.2.2.2.2.2.2.1
theorem dX8_isGood_200 : decode cX8_isGood 200 = .ok (.iconst 0, 1) := g114_X8_isGood.2.2.2.2.2.2.2.2.2.2.2.2.2.2.2.2.2.2.2.2.2.2.2.2.2.2.2.2.2.2.2.2.2.2.2.2.2.2.2.2.2.2.2.2.2.2.2.2.2.2.2.2.2.2.2.2.2.2.1
theorem dX8_isGood_201 : decode cX8_isGood 201 = .ok (.bipush 99, 2) := g114_X8_isGood.2.2.2.2.2.2.2.2.2.2.2.2.2.2.2.2.2.2.2.2.2.2.2.2.2.2.2.2.2.2.2.2.2.2.2.2.2.2.2.2.2.2.2.2.2.2.2.2.2.2.2.2.2.2.2.2.2.2.2
set_option maxRecDepth 100000 in
theorem g115_X8_isGood : decode cX8_isGood 203 = .ok (.invokevirtual 82, 3) ∧ decode cX8_isGood 206 = .ok (.ifCond .eq 25, 3) ∧ decode cX8_isGood 209 = .ok (.aload_n 0, 1) ∧ decode cX8_isGood 210 = .ok (.iconst 4, 1) ∧ decode cX8_isGood 211 = .ok (.iconst 0, 1) ∧ decode cX8_isGood 212 = .ok (.bipush 99, 2) ∧ decode cX8_isGood 214 = .ok (.invokevirtual 82, 3) ∧ decode cX8_isGood 217 = .ok (.ifCond .eq 14, 3) ∧ decode cX8_isGood 220 = .ok (.aload_n 0, 1) ∧ decode cX8_isGood 221 = .ok (.getfield 17, 3) ∧ decode cX8_isGood 224 = .ok (.iconst 1, 1) ∧ decode cX8_isGood 225 = .ok (.iaload, 1) ∧ decode cX8_isGood 226 = .ok (.bipush 6, 2) ∧ decode cX8_isGood 228 = .ok (.if_icmp .ne 5, 3) ∧ decode cX8_isGood 231 = .ok (.iconst 0, 1) ∧ decode cX8_isGood 232 = .ok (.ireturn, 1) ∧ decode cX8_isGood 233 = .ok (.iconst 0, 1) ∧ decode cX8_isGood 234 = .ok (.istore_n 2, 1) ∧ decode cX8_isGood 235 = .ok (.iload_n 2, 1) ∧ decode cX8_isGood 236 = .ok (.iconst 5, 1) ∧ decode cX8_isGood 237 = .ok (.if_icmp .ge 33, 3) ∧ decode cX8_isGood 240 = .ok (.aload_n 0, 1) ∧ decode cX8_isGood 241 = .ok (.getfield 20, 3) ∧ decode cX8_isGood 244 = .ok (.bipush 30, 2) ∧ decode cX8_isGood 246 = .ok (.iconst 5, 1) ∧ decode cX8_isGood 247 = .ok (.aload_n 0, 1) ∧ decode cX8_isGood 248 = .ok (.getfield 17, 3) ∧ decode cX8_isGood 251 = .ok (.iconst 1, 1) ∧ decode cX8_isGood 252 = .ok (.iaload, 1) ∧ decode cX8_isGood 253 = .ok (.imul, 1) ∧ decode cX8_isGood 254 = .ok (.iadd, 1) ∧ decode cX8_isGood 255 = .ok (.iload_n 2, 1) ∧ decode cX8_isGood 256 = .ok (.iadd, 1) ∧ decode cX8_isGood 257 = .ok (.aload_n 0, 1) ∧ decode cX8_isGood 258 = .ok (.getfield 42, 3) ∧ decode cX8_isGood 261 = .ok (.iload_n 2, 1) ∧ decode cX8_isGood 262 = .ok (.iaload, 1) ∧ decode cX8_isGood 263 = .ok (.iastore, 1) ∧ decode cX8_isGood 264 = .ok (.iinc 2 1, 3) ∧ decode cX8_isGood 267 = .ok (.goto (-32), 3) ∧ decode cX8_isGood 270 = .ok (.aload_n 0, 1) ∧ decode cX8_isGood 271 = .ok (.getfield 17, 3) ∧ decode cX8_isGood 274 = .ok (.iconst 1, 1) ∧ decode cX8_isGood 275 = .ok (.dup2, 1) ∧ decode cX8_isGood 276 = .ok (.iaload, 1) ∧ decode cX8_isGood 277 = .ok (.iconst 1, 1) ∧ decode cX8_isGood 278 = .ok (.iadd, 1) ∧ decode cX8_isGood 279 = .ok (.iastore, 1) ∧ decode cX8_isGood 280 = .ok (.iconst 1, 1) ∧ decode cX8_isGood 281 = .ok (.ireturn, 1) := by decide +kernel
theorem dX8_isGood_203 : decode cX8_isGood 203 = .ok (.invokevirtual 82, 3) := g115_X8_isGood.1
theorem dX8_isGood_206 : decode cX8_isGood 206 = .ok (.ifCond .eq 25, 3) := g115_X8_isGood.2.1
theorem dX8_isGood_209 : decode cX8_isGood 209 = .ok (.aload_n 0, 1) := g115_X8_isGood.2.2.1
theorem dX8_isGood_210 : decode cX8_isGood 210 = .ok (.iconst 4, 1) := g115_X8_isGood.2.2.2.1
theorem dX8_isGood_211 : decode cX8_isGood 211 = .ok (.iconst 0, 1) := g115_X8_isGood.2.2.2.2.1
theorem dX8_isGood_212 : decode cX8_isGood 212 = .ok (.bipush 99, 2) := g115_X8_isGood.2.2.2.2.2.1
theorem dX8_isGood_214 : decode cX8_isGood 214 = .ok (.invokevirtual 82, 3) := g115_X8_isGood.2.2.2.2.2.2.1
theorem dX8_isGood_217 : decode cX8_isGood 217 = .ok (.ifCond .eq 14, 3) := g115_X8_isGood.2.2.2.2.2.2.2.1
theorem dX8_isGood_220 : decode cX8_isGood 220 = .ok (.aload_n 0, 1) := g115_X8_isGood.2.2.2.2.2.2.2.2.1
theorem dX8_isGood_221 : decode cX8_isGood 221 = .ok (.getfield 17, 3) := g115_X8_isGood.2.2.2.2.2.2.2.2.2.1
theorem dX8_isGood_224 : decode cX8_isGood 224 = .ok (.iconst 1, 1) := g115_X8_isGood.2.2.2.2.2.2.2.2.2.2.1
theorem dX8_isGood_225 : decode cX8_isGood 225 = .ok (.iaload, 1) := g115_X8_isGood.2.2.2.2.2.2.2.2.2.2.2.1
theorem dX8_isGood_226 : decode cX8_isGood 226 = .ok (.bipush 6, 2) := g115_X8_isGood.2.2.2.2.2.2.2.2.2.2.2.2.1
theorem dX8_isGood_228 : decode cX8_isGood 228 = .ok (.if_icmp .ne 5, 3) := g115_X8_isGood.2.2.2.2.2.2.2.2.2.2.2.2.2.1
theorem dX8_isGood_231 : decode cX8_isGood 231 = .ok (.iconst 0, 1) := g115_X8_isGood.2.2.2.2.2.2.2.2.2.2.2.2.2.2.1
theorem dX8_isGood_232 : decode cX8_isGood 232 = .ok (.ireturn, 1) := g115_X8_isGood.2.2.2.2.2.2.2.2.2.2.2.2.2.2.2.1
theorem dX8_isGood_233 : decode cX8_isGood 233 = .ok (.iconst 0, 1) := g115_X8_isGood.2.2.2.2.2.2.2.2.2.2.2.2.2.2.2.2.1
theorem dX8_isGood_234 : decode cX8_isGood 234 = .ok (.istore_n 2, 1) := g115_X8_isGood.2.2.2.2.2.2.2.2.2.2.2.2.2.2.2.2.2.1
theorem dX8_isGood_235 : decode cX8_isGood 235 = .ok (.iload_n 2, 1) := g115_X8_isGood.2.2.2.2.2.2.2.2.2.2.2.2.2.2.2.2.2.2.1
theorem dX8_isGood_236 : decode cX8_isGood 236 = .ok (.iconst 5, 1) := g115_X8_isGood.2.2.2.2.2.2.2.2.2.2.2.2.2.2.2.2.2.2.2.1
theorem dX8_isGood_237 : decode cX8_isGood 237 = .ok (.if_icmp .ge 33, 3) := g115_X8_isGood.2.2.2.2.2.2.2.2.2.2.2.2.2.2.2.2.2.2.2.2.1
theorem dX8_isGood_240 : decode cX8_isGood 240 = .ok (.aload_n 0, 1) := g115_X8_isGood.2.2.2.2.2.2.2.2.2.2.2.2.2.2.2.2.2.2.2.2.2.1
theorem dX8_isGood_241 : decode cX8_isGood 241 = .ok (.getfield 20, 3) := g115_X8_isGood.2.2.2.2.2.2.2.2.2.2.2.2.2.2.2.2.2.2.2.2.2.2.1
theorem dX8_isGood_244 : decode cX8_isGood 244 = .ok (.bipush 30, 2) := g115_X8_isGood.2.2.2.2.2.2.2.2.2.2.2.2.2.2.2.2.2.2.2.2.2.2.2.1
theorem dX8_isGood_246 : decode cX8_isGood 246 = .ok (.iconst 5, 1) := g115_X8_isGood.2.2.2.2.2.2.2.2.2.2.2.2.2.2.2.2.2.2.2.2.2.2.2.2.1
theorem dX8_isGood_247 : decode cX8_isGood 247 = .ok (.aload_n 0, 1) := g115_X8_isGood.2.2.2.2.2.2.2.2.2.2.2.2.2.2.2.2.2.2.2.2.2.2.2.2.2.1
theorem dX8_isGood_248 : decode cX8_isGood 248 = .ok (.getfield 17, 3) := g115_X8_isGood.2.2.2.2.2.2.2.2.2.2.2.2.2.2.2.2.2.2.2.2.2.2.2.2.2.2.1
theorem dX8_isGood_251 : decode cX8_isGood 251 = .ok (.iconst 1, 1) := g115_X8_isGood.2.2.2.2.2.2.2.2.2.2.2.2.2.2.2.2.2.2.2.2.2.2.2.2.2.2.2.1
theorem dX8_isGood_252 : decode cX8_isGood 252 = .ok (.iaload, 1) := g115_X8_isGood.2.2.2.2.2.2.2.2.2.2.2.2.2.2.2.2.2.2.2.2.2.2.2.2.2.2.2.2.1
theorem dX8_isGood_253 : decode cX8_isGood 253 = .ok (.imul, 1) := g115_X8_isGood.2.2.2.2.2.2.2.2.2.2.2.2.2.2.2.2.2.2.2.2.2.2.2.2.2.2.2.2.2.1
theorem dX8_isGood_254 : decode cX8_isGood 254 = .ok (.iadd, 1) := g115_X8_isGood.2.2.2.2.2.2.2.2.2.2.2.2.2.2.2.2.2.2.2.2.2.2.2.2.2.2.2.2.2.2.1
theorem dX8_isGood_255 : decode cX8_isGood 255 = .ok (.iload_n 2, 1) := g115_X8_isGood.2.2.2.2.2.2.2.2.2.2.2.2.2.2.2.2.2.2.2.2.2.2.2.2.2.2.2.2.2.2.2.1
theorem dX8_isGood_256 : decode cX8_isGood 256 = .ok (.iadd, 1) := g115_X8_isGood.2.2.2.2.2.2.2.2.2.2.2.2.2.2.2.2.2.2.2.2.2.2.2.2.2.2.2.2.2.2.2.2.1
theorem dX8_isGood_257 : decode cX8_isGood 257 = .ok (.aload_n 0, 1) := g115_X8_isGood.2.2.2.2.2.2.2.2.2.2.2.2.2.2.2.2.2.2.2.2.2.2.2.2.2.2.2.2.2.2.2.2.2.1
theorem dX8_isGood_258 : decode cX8_isGood 258 = .ok (.getfield 42, 3) := g115_X8_isGood.2.2.2.2.2.2.2.2.2.2.2.2.2.2.2.2.2.2.2.2.2.2.2.2.2.2.2.2.2.2.2.2.2.2.1
theorem dX8_isGood_261 : decode cX8_isGood 261 = .ok (.iload_n 2, 1) := g115_X8_isGood.2.2.2.2.2.2.2.2.2.2.2.2.2.2.2.2.2.2.2.2.2.2.2.2.2.2.2.2.2.2.2.2.2.2.2.1
theorem dX8_isGood_262 : decode cX8_isGood 262 = .ok (.iaload, 1) := g115_X8_isGood.2.2.2.2.2.2.2.2.2.2.2.2.2.2.2.2.2.2.2.2.2.2.2.2.2.2.2.2.2.2.2.2.2.2.2.2.1
theorem dX8_isGood_263 : decode cX8_isGood 263 = .ok (.iastore, 1) := g115_X8_isGood.2.2.2.2.2.2.2.2.2.2.2.2.2.2.2.2.2.2.2.2.2.2.2.2.2.2.2.2.2.2.2.2.2.2.2.2.2.1
theorem dX8_isGood_264 : decode cX8_isGood 264 = .ok (.iinc 2 1, 3) := g115_X8_isGood.2.2.2.2.2.2.2.2.2.2.2.2.2.2.2.2.2.2.2.2.2.2.2.2.2.2.2.2.2.2.2.2.2.2.2.2.2.2.1
theorem dX8_isGood_267 : decode cX8_isGood 267 = .ok (.goto (-32), 3) := g115_X8_isGood.2.2.2.2.2.2.2.2.2.2.2.2.2.2.2.2.2.2.2.2.2.2.2.2.2.2.2.2.2.2.2.2.2.2.2.2.2.2.2.1
theorem dX8_isGood_270 : decode cX8_isGood 270 = .ok (.aload_n 0, 1) := g115_X8_isGood.2.2.2.2.2.2.2.2.2.2.2.2.2.2.2.2.2.2.2.2.2.2.2.2.2.2.2.2.2.2.2.2.2.2.2.2.2.2.2.2.1
theorem dX8_isGood_271 : decode cX8_isGood 271 = .ok (.getfield 17, 3) := g115_X8_isGood.2.2.2.2.2.2.2.2.2.2.2.2.2.2.2.2.2.2.2.2.2.2.2.2.2.2.2.2.2.2.2.2.2.2.2.2.2.2.2.2.2.1
theorem dX8_isGood_274 : decode cX8_isGood 274 = .ok (.iconst 1, 1) := g115_X8_isGood.2.2.2.2.2.2.2.2.2.2.2.2.2.2.2.2.2.2.2.2.2.2.2.2.2.2.2.2.2.2.2.2.2.2.2.2.2.2.2.2.2.2.1
theorem dX8_isGood_275 : decode cX8_isGood 275 = .ok (.dup2, 1) := g115_X8_isGood.2.2.2.2.2.2.2.2.2.2.2.2.2.2.2.2.2.2.2.2.2.2.2.2.2.2.2.2.2.2.2.2.2.2.2.2.2.2.2.2.2.2.2.1
theorem dX8_isGood_276 : decode cX8_isGood 276 = .ok (.iaload, 1) := g115_X8_isGood.2.2.2.2.2.2.2.2.2.2.2.2.2.2.2.2.2.2.2.2.2.2.2.2.2.2.2.2.2.2.2.2.2.2.2.2.2.2.2.2.2.2.2.2.1
theorem dX8_isGood_277 : decode cX8_isGood 277 = .ok (.iconst 1, 1) := g115_X8_isGood.2.2.2.2.2.2.2.2.2.2.2.2.2.2.2.2.2.2.2.2.2.2.2.2.2.2.2.2.2.2.2.2.2.2.2.2.2.2.2.2.2.2.2.2.2.1
theorem dX8_isGood_278 : decode cX8_isGood 278 = .ok (.iadd, 1) := g115_X8_isGood.2.2.2.2.2.2.2.2.2.2.2.2.2.2.2.2.2.2.2.2.2.2.2.2.2.2.2.2.2.2.2.2.2.2.2.2.2.2.2.2.2.2.2.2.2.2.1
theorem dX8_isGood_279 : decode cX8_isGood 279 = .ok (.iastore, 1) := g115_X8_isGood.2.2.2.2.2.2.2.2.2.2.2.2.2.2.2.2.2.2.2.2.2.2.2.2.2.2.2.2.2.2.2.2.2.2.2.2.2.2.2.2.2.2.2.2.2.2.2.1
theorem dX8_isGood_280 : decode cX8_isGood 280 = .ok (.iconst 1, 1) := g115_X8_isGood.2.2.2.2.2.2.2.2.2.2.2.2.2.2.2.2.2.2.2.2.2.2.2.2.2.2.2.2.2.2.2.2.2.2.2.2.2.2.2.2.2.2.2.2.2.2.2.2.1
theorem dX8_isGood_281 : decode cX8_isGood 281 = .ok (.ireturn, 1) := g115_X8_isGood.2.2.2.2.2.2.2.2.2.2.2.2.2.2.2.2.2.2.2.2.2.2.2.2.2.2.2.2.2.2.2.2.2.2.2.2.2.2.2.2.2.2.2.2.2.2.2.2.2
set_option maxRecDepth 100000 in
theorem g116_X8_begins : decode cX8_begins 0 = .ok (.aload_n 0, 1) ∧ decode cX8_begins 1 = .ok (.getfield 17, 3) ∧ decode cX8_begins 4 = .ok (.iconst 1, 1) ∧ decode cX8_begins 5 = .ok (.iconst 0, 1) ∧ decode cX8_begins 6 = .ok (.iastore, 1) ∧ decode cX8_begins 7 = .ok (.aload_n 0, 1) ∧ decode cX8_begins 8 = .ok (.getfield 13, 3) ∧ decode cX8_begins 11 = .ok (.bipush 6, 2) ∧ decode cX8_begins 13 = .ok (.sipush 745, 3) ∧ decode cX8_begins 16 = .ok (.iastore, 1) ∧ decode cX8_begins 17 = .ok (.aload_n 0, 1) ∧ decode cX8_begins 18 = .ok (.getfield 13, 3) ∧ decode cX8_begins 21 = .ok (.bipush 7, 2) ∧ decode cX8_begins 23 = .ok (.iconst 1, 1) ∧ decode cX8_begins 24 = .ok (.iastore, 1) ∧ decode cX8_begins 25 = .ok (.aload_n 0, 1) ∧ decode cX8_begins 26 = .ok (.getfield 13, 3) ∧ decode cX8_begins 29 = .ok (.bipush 8, 2) ∧ decode cX8_begins 31 = .ok (.iconst 1, 1) ∧ decode cX8_begins 32 = .ok (.iastore, 1) ∧ decode cX8_begins 33 = .ok (.aload_n 0, 1) ∧ decode cX8_begins 34 = .ok (.getfield 13, 3) ∧ decode cX8_begins 37 = .ok (.bipush 9, 2) ∧ decode cX8_begins 39 = .ok (.iconst 2, 1) ∧ decode cX8_begins 40 = .ok (.iastore, 1) ∧ decode cX8_begins 41 = .ok (.aload_n 0, 1) ∧ decode cX8_begins 42 = .ok (.getfield 13, 3) ∧ decode cX8_begins 45 = .ok (.bipush 10, 2) ∧ decode cX8_begins 47 = .ok (.iconst 0, 1) ∧ decode cX8_begins 48 = .ok (.iastore, 1) ∧ decode cX8_begins 49 = .ok (.aload_n 0, 1) ∧ decode cX8_begins 50 = .ok (.getfield 13, 3) ∧ decode cX8_begins 53 = .ok (.bipush 11, 2) ∧ decode cX8_begins 55 = .ok (.iconst 0, 1) ∧ decode cX8_begins 56 = .ok (.iastore, 1) ∧ decode cX8_begins 57 = .ok (.return_, 1) := by decide +kernel
theorem dX8_begins_0 : decode cX8_begins 0 = .ok (.aload_n 0, 1) := g116_X8_begins.1
theorem dX8_begins_1 : decode cX8_begins 1 = .ok (.getfield 17, 3) := g116_X8_begins.2.1
theorem dX8_begins_4 : decode cX8_begins 4 = .ok (.iconst 1, 1) := g116_X8_begins.2.2.1
theorem dX8_begins_5 : decode cX8_begins 5 = .ok (.iconst 0, 1) := g116_X8_begins.2.2.2.1
theorem dX8_begins_6 : decode cX8_begins 6 = .ok (.iastore, 1) := g116_X8_begins.2.2.2.2.1
theorem dX8_begins_7 : decode cX8_begins 7 = .ok (.aload_n 0, 1) := g116_X8_begins.2.2.2.2.2.1
theorem dX8_begins_8 : decode cX8_begins 8 = .ok (.getfield 13, 3) := g116_X8_begins.2.2.2.2.2.2.1
theorem dX8_begins_11 : decode cX8_begins 11 = .ok (.bipush 6, 2) := g116_X8_begins.2.2.2.2.2.2.2.1
theorem dX8_begins_13 : decode cX8_begins 13 = .ok (.sipush 745, 3) := g116_X8_begins.2.2.2.2.2.2.2.2.1
theorem dX8_begins_16 : decode cX8_begins 16 = .ok (.iastore, 1) := g116_X8_begins.2.2.2.2.2.2.2.2.2.1
theorem dX8_begins_17 : decode cX8_begins 17 = .ok (.aload_n 0, 1) := g116_X8_begins.2.2.2.2.2.2.2.2.2.2.1
theorem dX8_begins_18 : decode cX8_begins 18 = .ok (.getfield 13, 3) := g116_X8_begins.2.2.2.2.2.2.2.2.2.2.2.1
theorem dX8_begins_21 : decode cX8_begins 21 = .ok (.bipush 7, 2) := g116_X8_begins.2.2.2.2.2.2.2.2.2.2.2.2.1
theorem dX8_begins_23 : decode cX8_begins 23 = .ok (.iconst 1, 1) := g116_X8_begins.2.2.2.2.2.2.2.2.2.2.2.2.2.1
theorem dX8_begins_24 : decode cX8_begins 24 = .ok (.iastore, 1) := g116_X8_begins.2.2.2.2.2.2.2.2.2.2.2.2.2.2.1
theorem dX8_begins_25 : decode cX8_begins 25 = .ok (.aload_n 0, 1) := g116_X8_begins.2.2.2.2.2.2.2.2.2.2.2.2.2.2.2.1
theorem dX8_begins_26 : decode cX8_begins 26 = .ok (.getfield 13, 3) := g116_X8_begins.2.2.2.2.2.2.2.2.2.2.2.2.2.2.2.2.1
theorem dX8_begins_29 : decode cX8_begins 29 = .ok (.bipush 8, 2) := g116_X8_begins.2.2.2.2.2.2.2.2.2.2.2.2.2.2.2.2.2.1
theorem dX8_begins_31 : decode cX8_begins 31 = .ok (.iconst 1, 1) := g116_X8_begins.2.2.2.2.2.2.2.2.2.2.2.2.2.2.2.2.2.2.1
theorem dX8_begins_32 : decode cX8_begins 32 = .ok (.iastore, 1) := g116_X8_begins.2.2.2.2.2.2.2.2.2.2.2.2.2.2.2.2.2.2.2.1
theorem dX8_begins_33 : decode cX8_begins 33 = .ok (.aload_n 0, 1) := g116_X8_begins.2.2.2.2.2.2.2.2.2.2.2.2.2.2.2.2.2.2.2.2.1
theorem dX8_begins_34 : decode cX8_begins 34 = .ok (.getfield 13, 3) := g116_X8_begins.2.2.2.2.2.2.2.2.2.2.2.2.2.2.2.2.2.2.2.2.2.1
theorem dX8_begins_37 : decode cX8_begins 37 = .ok (.bipush 9, 2) := g116_X8_begins.2.2.2.2.2.2.2.2.2.2.2.2.2.2.2.2.2.2.2.2.2.2.1
theorem dX8_begins_39 : decode cX8_begins 39 = .ok (.iconst 2, 1) := g116_X8_begins.2.2.2.2.2.2.2.2.2.2.2.2.2.2.2.2.2.2.2.2.2.2.2.1
theorem dX8_begins_40 : decode cX8_begins 40 = .ok (.iastore, 1) := g116_X8_begins.2.2.2.2.2.2.2.2.2.2.2.2.2.2.2.2.2.2.2.2.2.2.2.2.1
theorem dX8_begins_41 : decode cX8_begins 41 = .ok (.aload_n 0, 1) := g116_X8_begins.2.2.2.2.2.2.2.2.2.2.2.2.2.2.2.2.2.2.2.2.2.2.2.2.2.1
theorem dX8_begins_42 : decode cX8_begins 42 = .ok (.getfield 13, 3) := g116_X8_begins.2.2.2.2.2.2.2.2.2.2.2.2.2.2.2.2.2.2.2.2.2.2.2.2.2.2.1
theorem dX8_begins_45 : decode cX8_begins 45 = .ok (.bipush 10, 2) := g116_X8_begins.2.2.2.2.2.2.2.2.2.2.2.2.2.2.2.2.2.2.2.2.2.2.2.2.2.2.2.1
theorem dX8_begins_47 : decode cX8_begins 47 = .ok (.iconst 0, 1) := g116_X8_begins.2.2.2.2.2.2.2.2.2.2.2.2.2.2.2.2.2.2.2.2.2.2.2.2.2.2.2.2.1
theorem dX8_begins_48 : decode cX8_begins 48 = .ok (.iastore, 1) := g116_X8_begins.2.2.2.2.2.2.2.2.2.2.2.2.2.2.2.2.2.2.2.2.2.2.2.2.2.2.2.2.2.1
theorem dX8_begins_49 : decode cX8_begins 49 = .ok (.aload_n 0, 1) := g116_X8_begins.2.2.2.2.2.2.2.2.2.2.2.2.2.2.2.2.2.2.2.2.2.2.2.2.2.2.2.2.2.2.1
theorem dX8_begins_50 : decode cX8_begins 50 = .ok (.getfield 13, 3) := g116_X8_begins.2.2.2.2.2.2.2.2.2.2.2.2.2.2.2.2.2.2.2.2.2.2.2.2.2.2.2.2.2.2.2.1
theorem dX8_begins_53 : decode cX8_begins 53 = .ok (.bipush 11, 2) := g116_X8_begins.2.2.2.2.2.2.2.2.2.2.2.2.2.2.2.2.2.2.2.2.2.2.2.2.2.2.2.2.2.2.2.2.1
theorem dX8_begins_55 : decode cX8_begins 55 = .ok (.iconst 0, 1) := g116_X8_begins.2.2.2.2.2.2.2.2.2.2.2.2.2.2.2.2.2.2.2.2.2.2.2.2.2.2.2.2.2.2.2.2.2.1
theorem dX8_begins_56 : decode cX8_begins 56 = .ok (.iastore, 1) := g116_X8_begins.2.2.2.2.2.2.2.2.2.2.2.2.2.2.2.2.2.2.2.2.2.2.2.2.2.2.2.2.2.2.2.2.2.2.1
theorem dX8_begins_57 : decode cX8_begins 57 = .ok (.return_, 1) := g116_X8_begins.2.2.2.2.2.2.2.2.2.2.2.2.2.2.2.2.2.2.2.2.2.2.2.2.2.2.2.2.2.2.2.2.2.2.2
set_option maxRecDepth 100000 in
theorem g117_X8_takes : decode cX8_takes 0 = .ok (.iconst 0, 1) ∧ decode cX8_takes 1 = .ok (.istore_n 1, 1) ∧ decode cX8_takes 2 = .ok (.iload_n 1, 1) ∧ decode cX8_takes 3 = .ok (.bipush 6, 2) ∧ decode cX8_takes 5 = .ok (.if_icmp .ge 24, 3) ∧ decode cX8_takes 8 = .ok (.aload_n 0, 1) ∧ decode cX8_takes 9 = .ok (.getfield 13, 3) ∧ decode cX8_takes 12 = .ok (.iload_n 1, 1) ∧ decode cX8_takes 13 = .ok (.aload_n 0, 1) ∧ decode cX8_takes 14 = .ok (.getfield 13, 3) ∧ decode cX8_takes 17 = .ok (.bipush 6, 2) ∧ decode cX8_takes 19 = .ok (.iload_n 1, 1) ∧ decode cX8_takes 20 = .ok (.iadd, 1) ∧ decode cX8_takes 21 = .ok (.iaload, 1) ∧ decode cX8_takes 22 = .ok (.iastore, 1) ∧ decode cX8_takes 23 = .ok (.iinc 1 1, 3) ∧ decode cX8_takes 26 = .ok (.goto (-24), 3) ∧ decode cX8_takes 29 = .ok (.aload_n 0, 1) ∧ decode cX8_takes 30 = .ok (.getfield 17, 3) ∧ decode cX8_takes 33 = .ok (.iconst 0, 1) ∧ decode cX8_takes 34 = .ok (.aload_n 0, 1) ∧ decode cX8_takes 35 = .ok (.getfield 17, 3) ∧ decode cX8_takes 38 = .ok (.iconst 1, 1) ∧ decode cX8_takes 39 = .ok (.iaload, 1) ∧ decode cX8_takes 40 = .ok (.iastore, 1) ∧ decode cX8_takes 41 = .ok (.iconst 0, 1) ∧ decode cX8_takes 42 = .ok (.istore_n 1, 1) ∧ decode cX8_takes 43 = .ok (.iload_n 1, 1) ∧ decode cX8_takes 44 = .ok (.bipush 30, 2) ∧ decode cX8_takes 46 = .ok (.if_icmp .ge 24, 3) ∧ decode cX8_takes 49 = .ok (.aload_n 0, 1) ∧ decode cX8_takes 50 = .ok (.getfield 20, 3) ∧ decode cX8_takes 53 = .ok (.iload_n 1, 1) ∧ decode cX8_takes 54 = .ok (.aload_n 0, 1) ∧ decode cX8_takes 55 = .ok (.getfield 20, 3) ∧ decode cX8_takes 58 = .ok (.bipush 30, 2) ∧ decode cX8_takes 60 = .ok (.iload_n 1, 1) ∧ decode cX8_takes 61 = .ok (.iadd, 1) ∧ decode cX8_takes 62 = .ok (.iaload, 1) ∧ decode cX8_takes 63 = .ok (.iastore, 1) ∧ decode cX8_takes 64 = .ok (.iinc 1 1, 3) ∧ decode cX8_takes 67 = .ok (.goto (-24), 3) ∧ decode cX8_takes 70 = .ok (.iconst 0, 1) ∧ decode cX8_takes 71 = .ok (.istore_n 1, 1) ∧ decode cX8_takes 72 = .ok (.iload_n 1, 1) ∧ decode cX8_takes 73 = .ok (.bipush 6, 2) ∧ decode cX8_takes 75 = .ok (.if_icmp .ge 25, 3) ∧ decode cX8_takes 78 = .ok (.aload_n 0, 1) ∧ decode cX8_takes 79 = .ok (.getfield 23, 3) ∧ decode cX8_takes 82 = .ok (.iload_n 1, 1) ∧ decode cX8_takes 83 = .ok (.aload_n 0, 1) ∧ decode cX8_takes 84 = .ok (.getfield 20, 3) ∧ decode cX8_takes 87 = .ok (.iconst 5, 1) ∧ decode cX8_takes 88 = .ok (.iload_n 1, 1) ∧ decode cX8_takes 89 = .ok (.imul, 1) ∧ decode cX8_takes 90 = .ok (.iconst 1, 1) ∧ decode cX8_takes 91 = .ok (.iadd, 1) ∧ decode cX8_takes 92 = .ok (.iaload, 1) ∧ decode cX8_takes 93 = .ok (.iastore, 1) ∧ decode cX8_takes 94 = .ok (.iinc 1 1, 3) := by decide +kernel
theorem dX8_takes_0 : decode cX8_takes 0 = .ok (.iconst 0, 1) := g117_X8_takes.1
theorem dX8_takes_1 : decode cX8_takes 1 = .ok (.istore_n 1, 1) := g117_X8_takes.2.1
theorem dX8_takes_2 : decode cX8_takes 2 = .ok (.iload_n 1, 1) := g117_X8_takes.2.2.1
theorem dX8_takes_3 : decode cX8_takes 3 = .ok (.bipush 6, 2) := g117_X8_takes.2.2.2.1
theorem dX8_takes_5 : decode cX8_takes 5 = .ok (.if_icmp .ge 24, 3) := g117_X8_takes.2.2.2.2.1
theorem dX8_takes_8 : decode cX8_takes 8 = .ok (.aload_n 0, 1) := g117_X8_takes.2.2.2.2.2.1
theorem dX8_takes_9 : decode cX8_takes 9 = .ok (.getfield 13, 3) := g117_X8_takes.2.2.2.2.2.2.1
theorem dX8_takes_12 : decode cX8_takes 12 = .ok (.iload_n 1, 1) := g117_X8_takes.2.2.2.2.2.2.2.1
theorem dX8_takes_13 : decode cX8_takes 13 = .ok (.aload_n 0, 1) := g117_X8_takes.2.2.2.2.2.2.2.2.1
theorem dX8_takes_14 : decode cX8_takes 14 = .ok (.getfield 13, 3) := g117_X8_takes.2.2.2.2.2.2.2.2.2.1
theorem dX8_takes_17 : decode cX8_takes 17 = .ok (.bipush 6, 2) := g117_X8_takes.2.2.2.2.2.2.2.2.2.2.1
theorem dX8_takes_19 : decode cX8_takes 19 = .ok (.iload_n 1, 1) := g117_X8_takes.2.2.2.2.2.2.2.2.2.2.2.1
theorem dX8_takes_20 : decode cX8_takes 20 = .ok (.iadd, 1) := g117_X8_takes.2.2.2.2.2.2.2.2.2.2.2.2.1
theorem dX8_takes_21 : decode cX8_takes 21 = .ok (.iaload, 1) := g117_X8_takes.2.2.2.2.2.2.2.2.2.2.2.2.2.1
theorem dX8_takes_22 : decode cX8_takes 22 = .ok (.iastore, 1) := g117_X8_takes.2.2.2.2.2.2.2.2.2.2.2.2.2.2.1
theorem dX8_takes_23 : decode cX8_takes 23 = .ok (.iinc 1 1, 3) := g117_X8_takes.2.2.2.2.2.2.2.2.2.2.2.2.2.2.2.1
theorem dX8_takes_26 : decode cX8_takes 26 = .ok (.goto (-24), 3) := g117_X8_takes.2.2.2.2.2.2.2.2.2.2.2.2.2.2.2.2.1
theorem dX8_takes_29 : decode cX8_takes 29 = .ok (.aload_n 0, 1) := g117_X8_takes.2.2.2.2.2.2.2.2.2.2.2.2.2.2.2.2.2.1
theorem dX8_takes_30 : decode cX8_takes 30 = .ok (.getfield 17, 3) := g117_X8_takes.2.2.2.2.2.2.2.2.2.2.2.2.2.2.2.2.2.2.1
theorem dX8_takes_33 : decode cX8_takes 33 = .ok (.iconst 0, 1) := g117_X8_takes.2.2.2.2.2.2.2.2.2.2.2.2.2.2.2.2.2.2.2.1
theorem dX8_takes_34 : decode cX8_takes 34 = .ok (.aload_n 0, 1) := g117_X8_takes.2.2.2.2.2.2.2.2.2.2.2.2.2.2.2.2.2.2.2.2.1
theorem dX8_takes_35 : decode cX8_takes 35 = .ok (.getfield 17, 3) := g117_X8_takes.2.2.2.2.2.2.2.2.2.2.2.2.2.2.2.2.2.2.2.2.2.1
theorem dX8_takes_38 : decode cX8_takes 38 = .ok (.iconst 1, 1) := g117_X8_takes.2.2.2.2.2.2.2.2.2.2.2.2.2.2.2.2.2.2.2.2.2.2.1
theorem dX8_takes_39 : decode cX8_takes 39 = .ok (.iaload, 1) := g117_X8_takes.2.2.2.2.2.2.2.2.2.2.2.2.2.2.2.2.2.2.2.2.2.2.2.1
theorem dX8_takes_40 : decode cX8_takes 40 = .ok (.iastore, 1) := g117_X8_takes.2.2.2.2.2.2.2.2.2.2.2.2.2.2.2.2.2.2.2.2.2.2.2.2.1
theorem dX8_takes_41 : decode cX8_takes 41 = .ok (.iconst 0, 1) := g117_X8_takes.2.2.2.2.2.2.2.2.2.2.2.2.2.2.2.2.2.2.2.2.2.2.2.2.2.1
theorem dX8_takes_42 : decode cX8_takes 42 = .ok (.istore_n 1, 1) := g117_X8_takes.2.2.2.2.2.2.2.2.2.2.2.2.2.2.2.2.2.2.2.2.2.2.2.2.2.2.1
theorem dX8_takes_43 : decode cX8_takes 43 = .ok (.iload_n 1, 1) := g117_X8_takes.2.2.2.2.2.2.2.2.2.2.2.2.2.2.2.2.2.2.2.2.2.2.2.2.2.2.2.1
theorem dX8_takes_44 : decode cX8_takes 44 = .ok (.bipush 30, 2) := g117_X8_takes.2.2.2.2.2.2.2.2.2.2.2.2.2.2.2.2.2.2.2.2.2.2.2.2.2.2.2.2.1
theorem dX8_takes_46 : decode cX8_takes 46 = .ok (.if_icmp .ge 24, 3) := g117_X8_takes.2.2.2.2.2.2.2.2.2.2.2.2.2.2.2.2.2.2.2.2.2.2.2.2.2.2.2.2.2.1
theorem dX8_takes_49 : decode cX8_takes 49 = .ok (.aload_n 0, 1) := g117_X8_takes.2.2.2.2.2.2.2.2.2.2.2.2.2.2.2.2.2.2.2.2.2.2.2.2.2.2.2.2.2.2.1
theorem dX8_takes_50 : decode cX8_takes 50 = .ok (.getfield 20, 3) := g117_X8_takes.2.2.2.2.2.2.2.2.2.2.2.2.2.2.2.2.2.2.2.2.2.2.2.2.2.2.2.2.2.2.2.1
theorem dX8_takes_53 : decode cX8_takes 53 = .ok (.iload_n 1, 1) := g117_X8_takes.2.2.2.2.2.2.2.2.2.2.2.2.2.2.2.2.2.2.2.2.2.2.2.2.2.2.2.2.2.2.2.2.1
theorem dX8_takes_54 : decode cX8_takes 54 = .ok (.aload_n 0, 1) := g117_X8_takes.2.2.2.2.2.2.2.2.2.2.2.2.2.2.2.2.2.2.2.2.2.2.2.2.2.2.2.2.2.2.2.2.2.1
theorem dX8_takes_55 : decode cX8_takes 55 = .ok (.getfield 20, 3) := g117_X8_takes.2.2.2.2.2.2.2.2.2.2.2.2.2.2.2.2.2.2.2.2.2.2.2.2.2.2.2.2.2.2.2.2.2.2.1
theorem dX8_takes_58 : decode cX8_takes 58 = .ok (.bipush 30, 2) := g117_X8_takes.2.2.2.2.2.2.2.2.2.2.2.2.2.2.2.2.2.2.2.2.2.2.2.2.2.2.2.2.2.2.2.2.2.2.2.1
theorem dX8_takes_60 : decode cX8_takes 60 = .ok (.iload_n 1, 1) := g117_X8_takes.2.2.2.2.2.2.2.2.2.2.2.2.2.2.2.2.2.2.2.2.2.2.2.2.2.2.2.2.2.2.2.2.2.2.2.2.1
theorem dX8_takes_61 : decode cX8_takes 61 = .ok (.iadd, 1) := g117_X8_takes.2.2.2.2.2.2.2.2.2.2.2.2.2.2.2.2.2.2.2.2.2.2.2.2.2.2.2.2.2.2.2.2.2.2.2.2.2.1
theorem dX8_takes_62 : decode cX8_takes 62 = .ok (.iaload, 1) := g117_X8_takes.2.2.2.2.2.2.2.2.2.2.2.2.2.2.2.2.2.2.2.2.2.2.2.2.2.2.2.2.2.2.2.2.2.2.2.2.2.2.1
theorem dX8_takes_63 : decode cX8_takes 63 = .ok (.iastore, 1) := g117_X8_takes.2.2.2.2.2.2.2.2.2.2.2.2.2.2.2.2.2.2.2.2.2.2.2.2.2.2.2.2.2.2.2.2.2.2.2.2.2.2.2.1
theorem dX8_takes_64 : decode cX8_takes 64 = .ok (.iinc 1 1, 3) := g117_X8_takes.2.2.2.2.2.2.2.2.2.2.2.2.2.2.2.2.2.2.2.2.2.2.2.2.2.2.2.2.2.2.2.2.2.2.2.2.2.2.2.2.1
theorem dX8_takes_67 : decode cX8_takes 67 = .ok (.goto (-24), 3) := g117_X8_takes.2.2.2.2.2.2.2.2.2.2.2.2.2.2.2.2.2.2.2.2.2.2.2.2.2.2.2.2.2.2.2.2.2.2.2.2.2.2.2.2.2.1
theorem dX8_takes_70 : decode cX8_takes 70 = .ok (.iconst 0, 1) := g117_X8_takes.2.2.2.2.2.2.2.2.2.2.2.2.2.2.2.2.2.2.2.2.2.2.2.2.2.2.2.2.2.2.2.2.2.2.2.2.2.2.2.2.2.2.1
theorem dX8_takes_71 : decode cX8_takes 71 = .ok (.istore_n 1, 1) := g117_X8_takes.2.2.2.2.2.2.2.2.2.2.2.2.2.2.2.2.2.2.2.2.2.2.2.2.2.2.2.2.2.2.2.2.2.2.2.2.2.2.2.2.2.2.2.1
theorem dX8_takes_72 : decode cX8_takes 72 = .ok (.iload_n 1, 1) := g117_X8_takes.2.2.2.2.2.2.2.2.2.2.2.2.2.2.2.2.2.2.2.2.2.2.2.2.2.2.2.2.2.2.2.2.2.2.2.2.2.2.2.2.2.2.2.2.1
theorem dX8_takes_73 : decode cX8_takes 73 = .ok (.bipush 6, 2) := g117_X8_takes.2.2.2.2.2.2.2.2.2.2.2.2.2.2.2.2.2.2.2.2.2.2.2.2.2.2.2.2.2.2.2.2.2.2.2.2.2.2.2.2.2.2.2.2.2.1
theorem dX8_takes_75 : decode cX8_takes 75 = .ok (.if_icmp .ge 25, 3) := g117_X8_takes.2.2.2.2.2.2.2.2.2.2.2.2.2.2.2.2.2.2.2.2.2.2.2.2.2.2.2.2.2.2.2.2.2.2.2.2.2.2.2.2.2.2.2.2.2.2.1
theorem dX8_takes_78 : decode cX8_takes 78 = .ok (.aload_n 0, 1) := g117_X8_takes.2.2.2.2.2.2.2.2.2.2.2.2.2.2.2.2.2.2.2.2.2.2.2.2.2.2.2.2.2.2.2.2.2.2.2.2.2.2.2.2.2.2.2.2.2.2.2.1
theorem dX8_takes_79 : decode cX8_takes 79 = .ok (.getfield 23, 3) := g117_X8_takes.2.2.2.2.2.2.2.2.2.2.2.2.2.2.2.2.2.2.2.2.2.2.2.2.2.2.2.2.2.2.2.2.2.2.2.2.2.2.2.2.2.2.2.2.2.2.2.2.1
theorem dX8_takes_82 : decode cX8_takes 82 = .ok (.iload_n 1, 1) := g117_X8_takes.2.2.2.2.2.2.2.2.2.2.2.2.2.2.2.2.2.2.2.2.2.2.2.2.2.2.2.2.2.2.2.2.2.2.2.2.2.2.2.2.2.2.2.2.2.2.2.2.2.1
theorem dX8_takes_83 : decode cX8_takes 83 = .ok (.aload_n 0, 1) := g117_X8_takes.2.2.2.2.2.2.2.2.2.2.2.2.2.2.2.2.2.2.2.2.2.2.2.2.2.2.2.2.2.2.2.2.2.2.2.2.2.2.2.2.2.2.2.2.2.2.2.2.2.2.1
theorem dX8_takes_84 : decode cX8_takes 84 = .ok (.getfield 20, 3) := g117_X8_takes.2.2.2.2.2.2.2.2.2.2.2.2.2.2.2.2.2.2.2.2.2.2.2.2.2.2.2.2.2.2.2.2.2.2.2.2.2.2.2.2.2.2.2.2.2.2.2.2.2.2.2.1
theorem dX8_takes_87 : decode cX8_takes 87 = .ok (.iconst 5, 1) := g117_X8_takes.2.2.2.2.2.2.2.2.2.2.2.2.2.2.2.2.2.2.2.2.2.2.2.2.2.2.2.2.2.2.2.2.2.2.2.2.2.2.2.2.2.2.2.2.2.2.2.2.2.2.2.2.1
theorem dX8_takes_88 : decode cX8_takes 88 = .ok (.iload_n 1, 1) := g117_X8_takes.2.2.2.2.2.2.2.2.2.2.2.2.2.2.2.2.2.2.2.2.2.2.2.2.2.2.2.2.2.2.2.2.2.2.2.2.2.2.2.2.2.2.2.2.2.2.2.2.2.2.2.2.2.1
theorem dX8_takes_89 : decode cX8_takes 89 = .ok (.imul, 1) := g117_X8_takes.2.2.2.2.2.2.2.2.2.2.2.2.2.2.2.2.2.2.2.2.2.2.2.2.2.2.2.2.2.2.2.2.2.2.2.2.2.2.2.2.2.2.2.2.2.2.2.2.2.2.2.2.2.2.1
theorem dX8_takes_90 : decode cX8_takes 90 = .ok (.iconst 1, 1) := g117_X8_takes.2.2.2.2.2.2.2.2.2.2.2.2.2.2.2.2.2.2.2.2.2.2.2.2.2.2.2.2.2.2.2.2.2.2.2.2.2.2.2.2.2.2.2.2.2.2.2.2.2.2.2.2.2.2.2.1
theorem dX8_takes_91 : decode cX8_takes 91 = .ok (.iadd, 1) := g117_X8_takes.2.2.2.2.2.2.2.2.2.2.2.2.2.2.2.2.2.2.2.2.2.2.2.2.2.2.2.2.2.2.2.2.2.2.2.2.2.2.2.2.2.2.2.2.2.2.2.2.2.2.2.2.2.2.2.2.1
theorem dX8_takes_92 : decode cX8_takes 92 = .ok (.iaload, 1) := g117_X8_takes.2.2.2.2.2.2.2.2.2.2.2.2.2.2.2.2.2.2.2.2.2.2.2.2.2.2.2.2.2.2.2.2.2.2.2.2.2.2.2.2.2.2.2.2.2.2.2.2.2.2.2.2.2.2.2.2.2.1
theorem dX8_takes_93 : decode cX8_takes 93 = .ok (.iastore, 1) := g117_X8_takes.2.2.2.2.2.2.2.2.2.2.2.2.2.2.2.2.2.2.2.2.2.2.2.2.2.2.2.2.2.2.2.2.2.2.2.2.2.2.2.2.2.2.2.2.2.2.2.2.2.2.2.2.2.2.2.2.2.2.1
theorem dX8_takes_94 : decode cX8_takes 94 = .ok (.iinc 1 1, 3) := g117_X8_takes.2.2.2.2.2.2.2.2.2.2.2.2.2.2.2.2.2.2.2.2.2.2.2.2.2.2.2.2.2.2.2.2.2.2.2.2.2.2.2.2.2.2.2.2.2.2.2.2.2.2.2.2.2.2.2.2.2.2.2
set_option maxRecDepth 100000 in
theorem g118_X8_takes : decode cX8_takes 97 = .ok (.goto (-25), 3) ∧ decode cX8_takes 100 = .ok (.iconst 0, 1) ∧ decode cX8_takes 101 = .ok (.istore_n 1, 1) ∧ decode cX8_takes 102 = .ok (.iload_n 1, 1) ∧ decode cX8_takes 103 = .ok (.iconst 4, 1) ∧ decode cX8_takes 104 = .ok (.if_icmp .ge 16, 3) ∧ decode cX8_takes 107 = .ok (.aload_n 0, 1) ∧ decode cX8_takes 108 = .ok (.getfield 26, 3) ∧ decode cX8_takes 111 = .ok (.iload_n 1, 1) ∧ decode cX8_takes 112 = .ok (.lconst 0, 1) ∧ decode cX8_takes 113 = .ok (.lastore, 1) ∧ decode cX8_takes 114 = .ok (.iinc 1 1, 3) ∧ decode cX8_takes 117 = .ok (.goto (-15), 3) ∧ decode cX8_takes 120 = .ok (.aload_n 0, 1) ∧ decode cX8_takes 121 = .ok (.iconst 0, 1) ∧ decode cX8_takes 122 = .ok (.putfield 86, 3) ∧ decode cX8_takes 125 = .ok (.aload_n 0, 1) ∧ decode cX8_takes 126 = .ok (.iconst 0, 1) ∧ decode cX8_takes 127 = .ok (.putfield 89, 3) ∧ decode cX8_takes 130 = .ok (.aload_n 0, 1) ∧ decode cX8_takes 131 = .ok (.iconst 0, 1) ∧ decode cX8_takes 132 = .ok (.putfield 92, 3) ∧ decode cX8_takes 135 = .ok (.aload_n 0, 1) ∧ decode cX8_takes 136 = .ok (.iconst 0, 1) ∧ decode cX8_takes 137 = .ok (.putfield 95, 3) ∧ decode cX8_takes 140 = .ok (.return_, 1) := by decide +kernel
theorem dX8_takes_97 : decode cX8_takes 97 = .ok (.goto (-25), 3) := g118_X8_takes.1
theorem dX8_takes_100 : decode cX8_takes 100 = .ok (.iconst 0, 1) := g118_X8_takes.2.1
theorem dX8_takes_101 : decode cX8_takes 101 = .ok (.istore_n 1, 1) := g118_X8_takes.2.2.1
theorem dX8_takes_102 : decode cX8_takes 102 = .ok (.iload_n 1, 1) := g118_X8_takes.2.2.2.1
theorem dX8_takes_103 : decode cX8_takes 103 = .ok (.iconst 4, 1) := g118_X8_takes.2.2.2.2.1
theorem dX8_takes_104 : decode cX8_takes 104 = .ok (.if_icmp .ge 16, 3) := g118_X8_takes.2.2.2.2.2.1
theorem dX8_takes_107 : decode cX8_takes 107 = .ok (.aload_n 0, 1) := g118_X8_takes.2.2.2.2.2.2.1
theorem dX8_takes_108 : decode cX8_takes 108 = .ok (.getfield 26, 3) := g118_X8_takes.2.2.2.2.2.2.2.1
theorem dX8_takes_111 : decode cX8_takes 111 = .ok (.iload_n 1, 1) := g118_X8_takes.2.2.2.2.2.2.2.2.1
theorem dX8_takes_112 : decode cX8_takes 112 = .ok (.lconst 0, 1) := g118_X8_takes.2.2.2.2.2.2.2.2.2.1
theorem dX8_takes_113 : decode cX8_takes 113 = .ok (.lastore, 1) := g118_X8_takes.2.2.2.2.2.2.2.2.2.2.1
theorem dX8_takes_114 : decode cX8_takes 114 = .ok (.iinc 1 1, 3) := g118_X8_takes.2.2.2.2.2.2.2.2.2.2.2.1
theorem dX8_takes_117 : decode cX8_takes 117 = .ok (.goto (-15), 3) := g118_X8_takes.2.2.2.2.2.2.2.2.2.2.2.2.1
theorem dX8_takes_120 : decode cX8_takes 120 = .ok (.aload_n 0, 1) := g118_X8_takes.2.2.2.2.2.2.2.2.2.2.2.2.2.1
theorem dX8_takes_121 : decode cX8_takes 121 = .ok (.iconst 0, 1) := g118_X8_takes.2.2.2.2.2.2.2.2.2.2.2.2.2.2.1
theorem dX8_takes_122 : decode cX8_takes 122 = .ok (.putfield 86, 3) := g118_X8_takes.2.2.2.2.2.2.2.2.2.2.2.2.2.2.2.1
theorem dX8_takes_125 : decode cX8_takes 125 = .ok (.aload_n 0, 1) := g118_X8_takes.2.2.2.2.2.2.2.2.2.2.2.2.2.2.2.2.1
theorem dX8_takes_126 : decode cX8_takes 126 = .ok (.iconst 0, 1) := g118_X8_takes.2.2.2.2.2.2.2.2.2.2.2.2.2.2.2.2.2.1
theorem dX8_takes_127 : decode cX8_takes 127 = .ok (.putfield 89, 3) := g118_X8_takes.2.2.2.2.2.2.2.2.2.2.2.2.2.2.2.2.2.2.1
theorem dX8_takes_130 : decode cX8_takes 130 = .ok (.aload_n 0, 1) := g118_X8_takes.2.2.2.2.2.2.2.2.2.2.2.2.2.2.2.2.2.2.2.1
theorem dX8_takes_131 : decode cX8_takes 131 = .ok (.iconst 0, 1) := g118_X8_takes.2.2.2.2.2.2.2.2.2.2.2.2.2.2.2.2.2.2.2.2.1
theorem dX8_takes_132 : decode cX8_takes 132 = .ok (.putfield 92, 3) := g118_X8_takes.2.2.2.2.2.2.2.2.2.2.2.2.2.2.2.2.2.2.2.2.2.1
theorem dX8_takes_135 : decode cX8_takes 135 = .ok (.aload_n 0, 1) := g118_X8_takes.2.2.2.2.2.2.2.2.2.2.2.2.2.2.2.2.2.2.2.2.2.2.1
theorem dX8_takes_136 : decode cX8_takes 136 = .ok (.iconst 0, 1) := g118_X8_takes.2.2.2.2.2.2.2.2.2.2.2.2.2.2.2.2.2.2.2.2.2.2.2.1
theorem dX8_takes_137 : decode cX8_takes 137 = .ok (.putfield 95, 3) := g118_X8_takes.2.2.2.2.2.2.2.2.2.2.2.2.2.2.2.2.2.2.2.2.2.2.2.2.1
theorem dX8_takes_140 : decode cX8_takes 140 = .ok (.return_, 1) := g118_X8_takes.2.2.2.2.2.2.2.2.2.2.2.2.2.2.2.2.2.2.2.2.2.2.2.2.2
set_option maxRecDepth 100000 in
theorem g119_X8_fault : decode cX8_fault 0 = .ok (.aload_n 0, 1) ∧ decode cX8_fault 1 = .ok (.iconst 0, 1) ∧ decode cX8_fault 2 = .ok (.putfield 61, 3) ∧ decode cX8_fault 5 = .ok (.aload_n 0, 1) ∧ decode cX8_fault 6 = .ok (.invokevirtual 45, 3) ∧ decode cX8_fault 9 = .ok (.aload_n 0, 1) ∧ decode cX8_fault 10 = .ok (.getfield 61, 3) ∧ decode cX8_fault 13 = .ok (.aload_n 0, 1) ∧ decode cX8_fault 14 = .ok (.getfield 57, 3) ∧ decode cX8_fault 17 = .ok (.if_icmp .ge 20, 3) ∧ decode cX8_fault 20 = .ok (.aload_n 0, 1) ∧ decode cX8_fault 21 = .ok (.getfield 61, 3) ∧ decode cX8_fault 24 = .ok (.istore_n 1, 1) ∧ decode cX8_fault 25 = .ok (.aload_n 0, 1) ∧ decode cX8_fault 26 = .ok (.invokevirtual 98, 3) ∧ decode cX8_fault 29 = .ok (.ifCond .ne 5, 3) ∧ decode cX8_fault 32 = .ok (.iload_n 1, 1) ∧ decode cX8_fault 33 = .ok (.ireturn, 1) ∧ decode cX8_fault 34 = .ok (.goto (-25), 3) ∧ decode cX8_fault 37 = .ok (.bipush (-4), 2) ∧ decode cX8_fault 39 = .ok (.ireturn, 1) := by decide +kernel
theorem dX8_fault_0 : decode cX8_fault 0 = .ok (.aload_n 0, 1) := g119_X8_fault.1
theorem dX8_fault_1 : decode cX8_fault 1 = .ok (.iconst 0, 1) := g119_X8_fault.2.1
theorem dX8_fault_2 : decode cX8_fault 2 = .ok (.putfield 61, 3) := g119_X8_fault.2.2.1
theorem dX8_fault_5 : decode cX8_fault 5 = .ok (.aload_n 0, 1) := g119_X8_fault.2.2.2.1
theorem dX8_fault_6 : decode cX8_fault 6 = .ok (.invokevirtual 45, 3) := g119_X8_fault.2.2.2.2.1
theorem dX8_fault_9 : decode cX8_fault 9 = .ok (.aload_n 0, 1) := g119_X8_fault.2.2.2.2.2.1
theorem dX8_fault_10 : decode cX8_fault 10 = .ok (.getfield 61, 3) := g119_X8_fault.2.2.2.2.2.2.1
theorem dX8_fault_13 : decode cX8_fault 13 = .ok (.aload_n 0, 1) := g119_X8_fault.2.2.2.2.2.2.2.1
theorem dX8_fault_14 : decode cX8_fault 14 = .ok (.getfield 57, 3) := g119_X8_fault.2.2.2.2.2.2.2.2.1
theorem dX8_fault_17 : decode cX8_fault 17 = .ok (.if_icmp .ge 20, 3) := g119_X8_fault.2.2.2.2.2.2.2.2.2.1
theorem dX8_fault_20 : decode cX8_fault 20 = .ok (.aload_n 0, 1) := g119_X8_fault.2.2.2.2.2.2.2.2.2.2.1
theorem dX8_fault_21 : decode cX8_fault 21 = .ok (.getfield 61, 3) := g119_X8_fault.2.2.2.2.2.2.2.2.2.2.2.1
theorem dX8_fault_24 : decode cX8_fault 24 = .ok (.istore_n 1, 1) := g119_X8_fault.2.2.2.2.2.2.2.2.2.2.2.2.1
theorem dX8_fault_25 : decode cX8_fault 25 = .ok (.aload_n 0, 1) := g119_X8_fault.2.2.2.2.2.2.2.2.2.2.2.2.2.1
theorem dX8_fault_26 : decode cX8_fault 26 = .ok (.invokevirtual 98, 3) := g119_X8_fault.2.2.2.2.2.2.2.2.2.2.2.2.2.2.1
theorem dX8_fault_29 : decode cX8_fault 29 = .ok (.ifCond .ne 5, 3) := g119_X8_fault.2.2.2.2.2.2.2.2.2.2.2.2.2.2.2.1
theorem dX8_fault_32 : decode cX8_fault 32 = .ok (.iload_n 1, 1) := g119_X8_fault.2.2.2.2.2.2.2.2.2.2.2.2.2.2.2.2.1
theorem dX8_fault_33 : decode cX8_fault 33 = .ok (.ireturn, 1) := g119_X8_fault.2.2.2.2.2.2.2.2.2.2.2.2.2.2.2.2.2.1
theorem dX8_fault_34 : decode cX8_fault 34 = .ok (.goto (-25), 3) := g119_X8_fault.2.2.2.2.2.2.2.2.2.2.2.2.2.2.2.2.2.2.1
theorem dX8_fault_37 : decode cX8_fault 37 = .ok (.bipush (-4), 2) := g119_X8_fault.2.2.2.2.2.2.2.2.2.2.2.2.2.2.2.2.2.2.2.1
theorem dX8_fault_39 : decode cX8_fault 39 = .ok (.ireturn, 1) := g119_X8_fault.2.2.2.2.2.2.2.2.2.2.2.2.2.2.2.2.2.2.2.2
set_option maxRecDepth 100000 in
theorem g120_X8_lay : decode cX8_lay 0 = .ok (.aload_n 0, 1) ∧ decode cX8_lay 1 = .ok (.invokevirtual 102, 3) ∧ decode cX8_lay 4 = .ok (.bipush (-4), 2) ∧ decode cX8_lay 6 = .ok (.if_icmp .ne 12, 3) ∧ decode cX8_lay 9 = .ok (.aload_n 0, 1) ∧ decode cX8_lay 10 = .ok (.getfield 17, 3) ∧ decode cX8_lay 13 = .ok (.iconst 1, 1) ∧ decode cX8_lay 14 = .ok (.iaload, 1) ∧ decode cX8_lay 15 = .ok (.ifCond .ne 6, 3) ∧ decode cX8_lay 18 = .ok (.bipush (-2), 2) ∧ decode cX8_lay 20 = .ok (.ireturn, 1) ∧ decode cX8_lay 21 = .ok (.aload_n 0, 1) ∧ decode cX8_lay 22 = .ok (.invokevirtual 48, 3) ∧ decode cX8_lay 25 = .ok (.aload_n 0, 1) ∧ decode cX8_lay 26 = .ok (.getfield 17, 3) ∧ decode cX8_lay 29 = .ok (.iconst 0, 1) ∧ decode cX8_lay 30 = .ok (.iaload, 1) ∧ decode cX8_lay 31 = .ok (.ireturn, 1) := by decide +kernel
theorem dX8_lay_0 : decode cX8_lay 0 = .ok (.aload_n 0, 1) := g120_X8_lay.1
theorem dX8_lay_1 : decode cX8_lay 1 = .ok (.invokevirtual 102, 3) := g120_X8_lay.2.1
theorem dX8_lay_4 : decode cX8_lay 4 = .ok (.bipush (-4), 2) := g120_X8_lay.2.2.1
theorem dX8_lay_6 : decode cX8_lay 6 = .ok (.if_icmp .ne 12, 3) := g120_X8_lay.2.2.2.1
theorem dX8_lay_9 : decode cX8_lay 9 = .ok (.aload_n 0, 1) := g120_X8_lay.2.2.2.2.1
theorem dX8_lay_10 : decode cX8_lay 10 = .ok (.getfield 17, 3) := g120_X8_lay.2.2.2.2.2.1
theorem dX8_lay_13 : decode cX8_lay 13 = .ok (.iconst 1, 1) := g120_X8_lay.2.2.2.2.2.2.1
theorem dX8_lay_14 : decode cX8_lay 14 = .ok (.iaload, 1) := g120_X8_lay.2.2.2.2.2.2.2.1
theorem dX8_lay_15 : decode cX8_lay 15 = .ok (.ifCond .ne 6, 3) := g120_X8_lay.2.2.2.2.2.2.2.2.1
theorem dX8_lay_18 : decode cX8_lay 18 = .ok (.bipush (-2), 2) := g120_X8_lay.2.2.2.2.2.2.2.2.2.1
theorem dX8_lay_20 : decode cX8_lay 20 = .ok (.ireturn, 1) := g120_X8_lay.2.2.2.2.2.2.2.2.2.2.1
theorem dX8_lay_21 : decode cX8_lay 21 = .ok (.aload_n 0, 1) := g120_X8_lay.2.2.2.2.2.2.2.2.2.2.2.1
theorem dX8_lay_22 : decode cX8_lay 22 = .ok (.invokevirtual 48, 3) := g120_X8_lay.2.2.2.2.2.2.2.2.2.2.2.2.1
theorem dX8_lay_25 : decode cX8_lay 25 = .ok (.aload_n 0, 1) := g120_X8_lay.2.2.2.2.2.2.2.2.2.2.2.2.2.1
theorem dX8_lay_26 : decode cX8_lay 26 = .ok (.getfield 17, 3) := g120_X8_lay.2.2.2.2.2.2.2.2.2.2.2.2.2.2.1
theorem dX8_lay_29 : decode cX8_lay 29 = .ok (.iconst 0, 1) := g120_X8_lay.2.2.2.2.2.2.2.2.2.2.2.2.2.2.2.1
theorem dX8_lay_30 : decode cX8_lay 30 = .ok (.iaload, 1) := g120_X8_lay.2.2.2.2.2.2.2.2.2.2.2.2.2.2.2.2.1
theorem dX8_lay_31 : decode cX8_lay 31 = .ok (.ireturn, 1) := g120_X8_lay.2.2.2.2.2.2.2.2.2.2.2.2.2.2.2.2.2
set_option maxRecDepth 100000 in
theorem g121_X8_isAct : decode cX8_isAct 0 = .ok (.iload_n 1, 1) ∧ decode cX8_isAct 1 = .ok (.i2l, 1) ∧ decode cX8_isAct 2 = .ok (.lconst 0, 1) ∧ decode cX8_isAct 3 = .ok (.aload_n 0, 1) ∧ decode cX8_isAct 4 = .ok (.getfield 17, 3) ∧ decode cX8_isAct 7 = .ok (.iconst 0, 1) ∧ decode cX8_isAct 8 = .ok (.iaload, 1) ∧ decode cX8_isAct 9 = .ok (.iconst 1, 1) ∧ decode cX8_isAct 10 = .ok (.isub, 1) ∧ decode cX8_isAct 11 = .ok (.i2l, 1) ∧ decode cX8_isAct 12 = .ok (.invokestatic 53, 3) ∧ decode cX8_isAct 15 = .ok (.ireturn, 1) := by decide +kernel
theorem dX8_isAct_0 : decode cX8_isAct 0 = .ok (.iload_n 1, 1) := g121_X8_isAct.1
theorem dX8_isAct_1 : decode cX8_isAct 1 = .ok (.i2l, 1) := g121_X8_isAct.2.1
theorem dX8_isAct_2 : decode cX8_isAct 2 = .ok (.lconst 0, 1) := g121_X8_isAct.2.2.1
theorem dX8_isAct_3 : decode cX8_isAct 3 = .ok (.aload_n 0, 1) := g121_X8_isAct.2.2.2.1
theorem dX8_isAct_4 : decode cX8_isAct 4 = .ok (.getfield 17, 3) := g121_X8_isAct.2.2.2.2.1
theorem dX8_isAct_7 : decode cX8_isAct 7 = .ok (.iconst 0, 1) := g121_X8_isAct.2.2.2.2.2.1
theorem dX8_isAct_8 : decode cX8_isAct 8 = .ok (.iaload, 1) := g121_X8_isAct.2.2.2.2.2.2.1
theorem dX8_isAct_9 : decode cX8_isAct 9 = .ok (.iconst 1, 1) := g121_X8_isAct.2.2.2.2.2.2.2.1
theorem dX8_isAct_10 : decode cX8_isAct 10 = .ok (.isub, 1) := g121_X8_isAct.2.2.2.2.2.2.2.2.1
theorem dX8_isAct_11 : decode cX8_isAct 11 = .ok (.i2l, 1) := g121_X8_isAct.2.2.2.2.2.2.2.2.2.1
theorem dX8_isAct_12 : decode cX8_isAct 12 = .ok (.invokestatic 53, 3) := g121_X8_isAct.2.2.2.2.2.2.2.2.2.2.1
theorem dX8_isAct_15 : decode cX8_isAct 15 = .ok (.ireturn, 1) := g121_X8_isAct.2.2.2.2.2.2.2.2.2.2.2
set_option maxRecDepth 100000 in
theorem g122_X8_isMinute : decode cX8_isMinute 0 = .ok (.lload_n 0, 1) ∧ decode cX8_isMinute 1 = .ok (.lconst 0, 1) ∧ decode cX8_isMinute 2 = .ok (.ldc2_w 105, 3) ∧ decode cX8_isMinute 5 = .ok (.invokestatic 53, 3) ∧ decode cX8_isMinute 8 = .ok (.ireturn, 1) := by decide +kernel
theorem dX8_isMinute_0 : decode cX8_isMinute 0 = .ok (.lload_n 0, 1) := g122_X8_isMinute.1
theorem dX8_isMinute_1 : decode cX8_isMinute 1 = .ok (.lconst 0, 1) := g122_X8_isMinute.2.1
theorem dX8_isMinute_2 : decode cX8_isMinute 2 = .ok (.ldc2_w 105, 3) := g122_X8_isMinute.2.2.1
theorem dX8_isMinute_5 : decode cX8_isMinute 5 = .ok (.invokestatic 53, 3) := g122_X8_isMinute.2.2.2.1
theorem dX8_isMinute_8 : decode cX8_isMinute 8 = .ok (.ireturn, 1) := g122_X8_isMinute.2.2.2.2
set_option maxRecDepth 100000 in
theorem g123_X8_act : decode cX8_act 0 = .ok (.aload_n 0, 1) ∧ decode cX8_act 1 = .ok (.iload_n 1, 1) ∧ decode cX8_act 2 = .ok (.invokevirtual 107, 3) ∧ decode cX8_act 5 = .ok (.ifCond .eq 15, 3) ∧ decode cX8_act 8 = .ok (.iload_n 2, 1) ∧ decode cX8_act 9 = .ok (.i2l, 1) ∧ decode cX8_act 10 = .ok (.lconst 0, 1) ∧ decode cX8_act 11 = .ok (.ldc2_w 110, 3) ∧ decode cX8_act 14 = .ok (.invokestatic 53, 3) ∧ decode cX8_act 17 = .ok (.ifCond .ne 7, 3) ∧ decode cX8_act 20 = .ok (.iconst (-1), 1) ∧ decode cX8_act 21 = .ok (.goto 27, 3) ∧ decode cX8_act 24 = .ok (.iload_n 2, 1) ∧ decode cX8_act 25 = .ok (.iconst 1, 1) ∧ decode cX8_act 26 = .ok (.if_icmp .ne 12, 3) ∧ decode cX8_act 29 = .ok (.aload_n 0, 1) ∧ decode cX8_act 30 = .ok (.getfield 23, 3) ∧ decode cX8_act 33 = .ok (.iload_n 1, 1) ∧ decode cX8_act 34 = .ok (.iaload, 1) ∧ decode cX8_act 35 = .ok (.goto 13, 3) ∧ decode cX8_act 38 = .ok (.aload_n 0, 1) ∧ decode cX8_act 39 = .ok (.getfield 20, 3) ∧ decode cX8_act 42 = .ok (.iconst 5, 1) ∧ decode cX8_act 43 = .ok (.iload_n 1, 1) ∧ decode cX8_act 44 = .ok (.imul, 1) ∧ decode cX8_act 45 = .ok (.iload_n 2, 1) ∧ decode cX8_act 46 = .ok (.iadd, 1) ∧ decode cX8_act 47 = .ok (.iaload, 1) ∧ decode cX8_act 48 = .ok (.ireturn, 1) := by decide +kernel
theorem dX8_act_0 : decode cX8_act 0 = .ok (.aload_n 0, 1) := g123_X8_act.1
theorem dX8_act_1 : decode cX8_act 1 = .ok (.iload_n 1, 1) := g123_X8_act.2.1
theorem dX8_act_2 : decode cX8_act 2 = .ok (.invokevirtual 107, 3) := g123_X8_act.2.2.1
theorem dX8_act_5 : decode cX8_act 5 = .ok (.ifCond .eq 15, 3) := g123_X8_act.2.2.2.1
theorem dX8_act_8 : decode cX8_act 8 = .ok (.iload_n 2, 1) := g123_X8_act.2.2.2.2.1
theorem dX8_act_9 : decode cX8_act 9 = .ok (.i2l, 1) := g123_X8_act.2.2.2.2.2.1
theorem dX8_act_10 : decode cX8_act 10 = .ok (.lconst 0, 1) := g123_X8_act.2.2.2.2.2.2.1
theorem dX8_act_11 : decode cX8_act 11 = .ok (.ldc2_w 110, 3) := g123_X8_act.2.2.2.2.2.2.2.1
theorem dX8_act_14 : decode cX8_act 14 = .ok (.invokestatic 53, 3) := g123_X8_act.2.2.2.2.2.2.2.2.1
theorem dX8_act_17 : decode cX8_act 17 = .ok (.ifCond .ne 7, 3) := g123_X8_act.2.2.2.2.2.2.2.2.2.1
theorem dX8_act_20 : decode cX8_act 20 = .ok (.iconst (-1), 1) := g123_X8_act.2.2.2.2.2.2.2.2.2.2.1
theorem dX8_act_21 : decode cX8_act 21 = .ok (.goto 27, 3) := g123_X8_act.2.2.2.2.2.2.2.2.2.2.2.1
theorem dX8_act_24 : decode cX8_act 24 = .ok (.iload_n 2, 1) := g123_X8_act.2.2.2.2.2.2.2.2.2.2.2.2.1
theorem dX8_act_25 : decode cX8_act 25 = .ok (.iconst 1, 1) := g123_X8_act.2.2.2.2.2.2.2.2.2.2.2.2.2.1
theorem dX8_act_26 : decode cX8_act 26 = .ok (.if_icmp .ne 12, 3) := g123_X8_act.2.2.2.2.2.2.2.2.2.2.2.2.2.2.1
theorem dX8_act_29 : decode cX8_act 29 = .ok (.aload_n 0, 1) := g123_X8_act.2.2.2.2.2.2.2.2.2.2.2.2.2.2.2.1
theorem dX8_act_30 : decode cX8_act 30 = .ok (.getfield 23, 3) := g123_X8_act.2.2.2.2.2.2.2.2.2.2.2.2.2.2.2.2.1
theorem dX8_act_33 : decode cX8_act 33 = .ok (.iload_n 1, 1) := g123_X8_act.2.2.2.2.2.2.2.2.2.2.2.2.2.2.2.2.2.1
theorem dX8_act_34 : decode cX8_act 34 = .ok (.iaload, 1) := g123_X8_act.2.2.2.2.2.2.2.2.2.2.2.2.2.2.2.2.2.2.1
theorem dX8_act_35 : decode cX8_act 35 = .ok (.goto 13, 3) := g123_X8_act.2.2.2.2.2.2.2.2.2.2.2.2.2.2.2.2.2.2.2.1
theorem dX8_act_38 : decode cX8_act 38 = .ok (.aload_n 0, 1) := g123_X8_act.2.2.2.2.2.2.2.2.2.2.2.2.2.2.2.2.2.2.2.2.1
theorem dX8_act_39 : decode cX8_act 39 = .ok (.getfield 20, 3) := g123_X8_act.2.2.2.2.2.2.2.2.2.2.2.2.2.2.2.2.2.2.2.2.2.1
theorem dX8_act_42 : decode cX8_act 42 = .ok (.iconst 5, 1) := g123_X8_act.2.2.2.2.2.2.2.2.2.2.2.2.2.2.2.2.2.2.2.2.2.2.1
theorem dX8_act_43 : decode cX8_act 43 = .ok (.iload_n 1, 1) := g123_X8_act.2.2.2.2.2.2.2.2.2.2.2.2.2.2.2.2.2.2.2.2.2.2.2.1
theorem dX8_act_44 : decode cX8_act 44 = .ok (.imul, 1) := g123_X8_act.2.2.2.2.2.2.2.2.2.2.2.2.2.2.2.2.2.2.2.2.2.2.2.2.1
theorem dX8_act_45 : decode cX8_act 45 = .ok (.iload_n 2, 1) := g123_X8_act.2.2.2.2.2.2.2.2.2.2.2.2.2.2.2.2.2.2.2.2.2.2.2.2.2.1
theorem dX8_act_46 : decode cX8_act 46 = .ok (.iadd, 1) := g123_X8_act.2.2.2.2.2.2.2.2.2.2.2.2.2.2.2.2.2.2.2.2.2.2.2.2.2.2.1
theorem dX8_act_47 : decode cX8_act 47 = .ok (.iaload, 1) := g123_X8_act.2.2.2.2.2.2.2.2.2.2.2.2.2.2.2.2.2.2.2.2.2.2.2.2.2.2.2.1
theorem dX8_act_48 : decode cX8_act 48 = .ok (.ireturn, 1) := g123_X8_act.2.2.2.2.2.2.2.2.2.2.2.2.2.2.2.2.2.2.2.2.2.2.2.2.2.2.2.2
set_option maxRecDepth 100000 in
theorem g124_X8_year : decode cX8_year 0 = .ok (.iload_n 1, 1) ∧ decode cX8_year 1 = .ok (.i2l, 1) ∧ decode cX8_year 2 = .ok (.lconst 0, 1) ∧ decode cX8_year 3 = .ok (.ldc2_w 112, 3) ∧ decode cX8_year 6 = .ok (.invokestatic 53, 3) ∧ decode cX8_year 9 = .ok (.ifCond .ne 5, 3) ∧ decode cX8_year 12 = .ok (.iconst (-1), 1) ∧ decode cX8_year 13 = .ok (.ireturn, 1) ∧ decode cX8_year 14 = .ok (.aload_n 0, 1) ∧ decode cX8_year 15 = .ok (.getfield 26, 3) ∧ decode cX8_year 18 = .ok (.iconst 1, 1) ∧ decode cX8_year 19 = .ok (.laload, 1) ∧ decode cX8_year 20 = .ok (.l2i, 1) ∧ decode cX8_year 21 = .ok (.istore_n 2, 1) ∧ decode cX8_year 22 = .ok (.aload_n 0, 1) ∧ decode cX8_year 23 = .ok (.getfield 26, 3) ∧ decode cX8_year 26 = .ok (.iconst 1, 1) ∧ decode cX8_year 27 = .ok (.iload_n 1, 1) ∧ decode cX8_year 28 = .ok (.i2l, 1) ∧ decode cX8_year 29 = .ok (.lastore, 1) ∧ decode cX8_year 30 = .ok (.iload_n 2, 1) ∧ decode cX8_year 31 = .ok (.ireturn, 1) := by decide +kernel
theorem dX8_year_0 : decode cX8_year 0 = .ok (.iload_n 1, 1) := g124_X8_year.1
theorem dX8_year_1 : decode cX8_year 1 = .ok (.i2l, 1) := g124_X8_year.2.1
theorem dX8_year_2 : decode cX8_year 2 = .ok (.lconst 0, 1) := g124_X8_year.2.2.1
theorem dX8_year_3 : decode cX8_year 3 = .ok (.ldc2_w 112, 3) := g124_X8_year.2.2.2.1
theorem dX8_year_6 : decode cX8_year 6 = .ok (.invokestatic 53, 3) := g124_X8_year.2.2.2.2.1
theorem dX8_year_9 : decode cX8_year 9 = .ok (.ifCond .ne 5, 3) := g124_X8_year.2.2.2.2.2.1
theorem dX8_year_12 : decode cX8_year 12 = .ok (.iconst (-1), 1) := g124_X8_year.2.2.2.2.2.2.1
theorem dX8_year_13 : decode cX8_year 13 = .ok (.ireturn, 1) := g124_X8_year.2.2.2.2.2.2.2.1
theorem dX8_year_14 : decode cX8_year 14 = .ok (.aload_n 0, 1) := g124_X8_year.2.2.2.2.2.2.2.2.1
theorem dX8_year_15 : decode cX8_year 15 = .ok (.getfield 26, 3) := g124_X8_year.2.2.2.2.2.2.2.2.2.1
theorem dX8_year_18 : decode cX8_year 18 = .ok (.iconst 1, 1) := g124_X8_year.2.2.2.2.2.2.2.2.2.2.1
theorem dX8_year_19 : decode cX8_year 19 = .ok (.laload, 1) := g124_X8_year.2.2.2.2.2.2.2.2.2.2.2.1
theorem dX8_year_20 : decode cX8_year 20 = .ok (.l2i, 1) := g124_X8_year.2.2.2.2.2.2.2.2.2.2.2.2.1
theorem dX8_year_21 : decode cX8_year 21 = .ok (.istore_n 2, 1) := g124_X8_year.2.2.2.2.2.2.2.2.2.2.2.2.2.1
theorem dX8_year_22 : decode cX8_year 22 = .ok (.aload_n 0, 1) := g124_X8_year.2.2.2.2.2.2.2.2.2.2.2.2.2.2.1
theorem dX8_year_23 : decode cX8_year 23 = .ok (.getfield 26, 3) := g124_X8_year.2.2.2.2.2.2.2.2.2.2.2.2.2.2.2.1
theorem dX8_year_26 : decode cX8_year 26 = .ok (.iconst 1, 1) := g124_X8_year.2.2.2.2.2.2.2.2.2.2.2.2.2.2.2.2.1
theorem dX8_year_27 : decode cX8_year 27 = .ok (.iload_n 1, 1) := g124_X8_year.2.2.2.2.2.2.2.2.2.2.2.2.2.2.2.2.2.1
theorem dX8_year_28 : decode cX8_year 28 = .ok (.i2l, 1) := g124_X8_year.2.2.2.2.2.2.2.2.2.2.2.2.2.2.2.2.2.2.1
theorem dX8_year_29 : decode cX8_year 29 = .ok (.lastore, 1) := g124_X8_year.2.2.2.2.2.2.2.2.2.2.2.2.2.2.2.2.2.2.2.1
theorem dX8_year_30 : decode cX8_year 30 = .ok (.iload_n 2, 1) := g124_X8_year.2.2.2.2.2.2.2.2.2.2.2.2.2.2.2.2.2.2.2.2.1
theorem dX8_year_31 : decode cX8_year 31 = .ok (.ireturn, 1) := g124_X8_year.2.2.2.2.2.2.2.2.2.2.2.2.2.2.2.2.2.2.2.2.2
set_option maxRecDepth 100000 in
theorem g125_X8_ruler : decode cX8_ruler 0 = .ok (.aload_n 0, 1) ∧ decode cX8_ruler 1 = .ok (.getfield 13, 3) ∧ decode cX8_ruler 4 = .ok (.iconst 1, 1) ∧ decode cX8_ruler 5 = .ok (.iaload, 1) ∧ decode cX8_ruler 6 = .ok (.aload_n 0, 1) ∧ decode cX8_ruler 7 = .ok (.getfield 13, 3) ∧ decode cX8_ruler 10 = .ok (.iconst 3, 1) ∧ decode cX8_ruler 11 = .ok (.iaload, 1) ∧ decode cX8_ruler 12 = .ok (.imul, 1) ∧ decode cX8_ruler 13 = .ok (.i2l, 1) ∧ decode cX8_ruler 14 = .ok (.lstore_n 3, 1) ∧ decode cX8_ruler 15 = .ok (.aload_n 0, 1) ∧ decode cX8_ruler 16 = .ok (.getfield 13, 3) ∧ decode cX8_ruler 19 = .ok (.iconst 0, 1) ∧ decode cX8_ruler 20 = .ok (.iaload, 1) ∧ decode cX8_ruler 21 = .ok (.aload_n 0, 1) ∧ decode cX8_ruler 22 = .ok (.getfield 13, 3) ∧ decode cX8_ruler 25 = .ok (.iconst 3, 1) ∧ decode cX8_ruler 26 = .ok (.iaload, 1) ∧ decode cX8_ruler 27 = .ok (.imul, 1) ∧ decode cX8_ruler 28 = .ok (.i2l, 1) ∧ decode cX8_ruler 29 = .ok (.lstore 5, 2) ∧ decode cX8_ruler 31 = .ok (.aload_n 0, 1) ∧ decode cX8_ruler 32 = .ok (.getfield 13, 3) ∧ decode cX8_ruler 35 = .ok (.iconst 0, 1) ∧ decode cX8_ruler 36 = .ok (.iaload, 1) ∧ decode cX8_ruler 37 = .ok (.aload_n 0, 1) ∧ decode cX8_ruler 38 = .ok (.getfield 13, 3) ∧ decode cX8_ruler 41 = .ok (.iconst 2, 1) ∧ decode cX8_ruler 42 = .ok (.iaload, 1) ∧ decode cX8_ruler 43 = .ok (.imul, 1) ∧ decode cX8_ruler 44 = .ok (.i2l, 1) ∧ decode cX8_ruler 45 = .ok (.lstore 7, 2) ∧ decode cX8_ruler 47 = .ok (.lload_n 1, 1) ∧ decode cX8_ruler 48 = .ok (.aload_n 0, 1) ∧ decode cX8_ruler 49 = .ok (.getfield 13, 3) ∧ decode cX8_ruler 52 = .ok (.iconst 4, 1) ∧ decode cX8_ruler 53 = .ok (.iaload, 1) ∧ decode cX8_ruler 54 = .ok (.i2l, 1) ∧ decode cX8_ruler 55 = .ok (.lsub, 1) ∧ decode cX8_ruler 56 = .ok (.aload_n 0, 1) ∧ decode cX8_ruler 57 = .ok (.getfield 13, 3) ∧ decode cX8_ruler 60 = .ok (.iconst 5, 1) ∧ decode cX8_ruler 61 = .ok (.iaload, 1) ∧ decode cX8_ruler 62 = .ok (.i2l, 1) ∧ decode cX8_ruler 63 = .ok (.aload_n 0, 1) ∧ decode cX8_ruler 64 = .ok (.getfield 26, 3) ∧ decode cX8_ruler 67 = .ok (.iconst 1, 1) ∧ decode cX8_ruler 68 = .ok (.laload, 1) ∧ decode cX8_ruler 69 = .ok (.lmul, 1) ∧ decode cX8_ruler 70 = .ok (.lsub, 1) ∧ decode cX8_ruler 71 = .ok (.lload_n 3, 1) ∧ decode cX8_ruler 72 = .ok (.lmul, 1) ∧ decode cX8_ruler 73 = .ok (.lload 5, 2) ∧ decode cX8_ruler 75 = .ok (.lrem, 1) ∧ decode cX8_ruler 76 = .ok (.lstore 9, 2) ∧ decode cX8_ruler 78 = .ok (.lload 9, 2) ∧ decode cX8_ruler 80 = .ok (.lconst 0, 1) ∧ decode cX8_ruler 81 = .ok (.lcmp, 1) ∧ decode cX8_ruler 82 = .ok (.ifCond .ge 11, 3) := by decide +kernel
theorem dX8_ruler_0 : decode cX8_ruler 0 = .ok (.aload_n 0, 1) := g125_X8_ruler.1
theorem dX8_ruler_1 : decode cX8_ruler 1 = .ok (.getfield 13, 3) := g125_X8_ruler.2.1
theorem dX8_ruler_4 : decode cX8_ruler 4 = .ok (.iconst 1, 1) := g125_X8_ruler.2.2.1
theorem dX8_ruler_5 : decode cX8_ruler 5 = .ok (.iaload, 1) := g125_X8_ruler.2.2.2.1
theorem dX8_ruler_6 : decode cX8_ruler 6 = .ok (.aload_n 0, 1) := g125_X8_ruler.2.2.2.2.1
theorem dX8_ruler_7 : decode cX8_ruler 7 = .ok (.getfield 13, 3) := g125_X8_ruler.2.2.2.2.2.1
theorem dX8_ruler_10 : decode cX8_ruler 10 = .ok (.iconst 3, 1) := g125_X8_ruler.2.2.2.2.2.2.1
theorem dX8_ruler_11 : decode cX8_ruler 11 = .ok (.iaload, 1) := g125_X8_ruler.2.2.2.2.2.2.2.1
theorem dX8_ruler_12 : decode cX8_ruler 12 = .ok (.imul, 1) := g125_X8_ruler.2.2.2.2.2.2.2.2.1
theorem dX8_ruler_13 : decode cX8_ruler 13 = .ok (.i2l, 1) := g125_X8_ruler.2.2.2.2.2.2.2.2.2.1
theorem dX8_ruler_14 : decode cX8_ruler 14 = .ok (.lstore_n 3, 1) := g125_X8_ruler.2.2.2.2.2.2.2.2.2.2.1
theorem dX8_ruler_15 : decode cX8_ruler 15 = .ok (.aload_n 0, 1) := g125_X8_ruler.2.2.2.2.2.2.2.2.2.2.2.1
theorem dX8_ruler_16 : decode cX8_ruler 16 = .ok (.getfield 13, 3) := g125_X8_ruler.2.2.2.2.2.2.2.2.2.2.2.2.1
theorem dX8_ruler_19 : decode cX8_ruler 19 = .ok (.iconst 0, 1) := g125_X8_ruler.2.2.2.2.2.2.2.2.2.2.2.2.2.1
theorem dX8_ruler_20 : decode cX8_ruler 20 = .ok (.iaload, 1) := g125_X8_ruler.2.2.2.2.2.2.2.2.2.2.2.2.2.2.1
theorem dX8_ruler_21 : decode cX8_ruler 21 = .ok (.aload_n 0, 1) := g125_X8_ruler.2.2.2.2.2.2.2.2.2.2.2.2.2.2.2.1
theorem dX8_ruler_22 : decode cX8_ruler 22 = .ok (.getfield 13, 3) := g125_X8_ruler.2.2.2.2.2.2.2.2.2.2.2.2.2.2.2.2.1
theorem dX8_ruler_25 : decode cX8_ruler 25 = .ok (.iconst 3, 1) := g125_X8_ruler.2.2.2.2.2.2.2.2.2.2.2.2.2.2.2.2.2.1
theorem dX8_ruler_26 : decode cX8_ruler 26 = .ok (.iaload, 1) := g125_X8_ruler.2.2.2.2.2.2.2.2.2.2.2.2.2.2.2.2.2.2.1
theorem dX8_ruler_27 : decode cX8_ruler 27 = .ok (.imul, 1) := g125_X8_ruler.2.2.2.2.2.2.2.2.2.2.2.2.2.2.2.2.2.2.2.1
theorem dX8_ruler_28 : decode cX8_ruler 28 = .ok (.i2l, 1) := g125_X8_ruler.2.2.2.2.2.2.2.2.2.2.2.2.2.2.2.2.2.2.2.2.1
theorem dX8_ruler_29 : decode cX8_ruler 29 = .ok (.lstore 5, 2) := g125_X8_ruler.2.2.2.2.2.2.2.2.2.2.2.2.2.2.2.2.2.2.2.2.2.1
theorem dX8_ruler_31 : decode cX8_ruler 31 = .ok (.aload_n 0, 1) := g125_X8_ruler.2.2.2.2.2.2.2.2.2.2.2.2.2.2.2.2.2.2.2.2.2.2.1
theorem dX8_ruler_32 : decode cX8_ruler 32 = .ok (.getfield 13, 3) := g125_X8_ruler.2.2.2.2.2.2.2.2.2.2.2.2.2.2.2.2.2.2.2.2.2.2.2.1
theorem dX8_ruler_35 : decode cX8_ruler 35 = .ok (.iconst 0, 1) := g125_X8_ruler.2.2.2.2.2.2.2.2.2.2.2.2.2.2.2.2.2.2.2.2.2.2.2.2.1
theorem dX8_ruler_36 : decode cX8_ruler 36 = .ok (.iaload, 1) := g125_X8_ruler.2.2.2.2.2.2.2.2.2.2.2.2.2.2.2.2.2.2.2.2.2.2.2.2.2.1
theorem dX8_ruler_37 : decode cX8_ruler 37 = .ok (.aload_n 0, 1) := g125_X8_ruler.2.2.2.2.2.2.2.2.2.2.2.2.2.2.2.2.2.2.2.2.2.2.2.2.2.2.1
theorem dX8_ruler_38 : decode cX8_ruler 38 = .ok (.getfield 13, 3) := g125_X8_ruler.2.2.2.2.2.2.2.2.2.2.2.2.2.2.2.2.2.2.2.2.2.2.2.2.2.2.2.1
theorem dX8_ruler_41 : decode cX8_ruler 41 = .ok (.iconst 2, 1) := g125_X8_ruler.2.2.2.2.2.2.2.2.2.2.2.2.2.2.2.2.2.2.2.2.2.2.2.2.2.2.2.2.1
theorem dX8_ruler_42 : decode cX8_ruler 42 = .ok (.iaload, 1) := g125_X8_ruler.2.2.2.2.2.2.2.2.2.2.2.2.2.2.2.2.2.2.2.2.2.2.2.2.2.2.2.2.2.1
theorem dX8_ruler_43 : decode cX8_ruler 43 = .ok (.imul, 1) := g125_X8_ruler.2.2.2.2.2.2.2.2.2.2.2.2.2.2.2.2.2.2.2.2.2.2.2.2.2.2.2.2.2.2.1
theorem dX8_ruler_44 : decode cX8_ruler 44 = .ok (.i2l, 1) := g125_X8_ruler.2.2.2.2.2.2.2.2.2.2.2.2.2.2.2.2.2.2.2.2.2.2.2.2.2.2.2.2.2.2.2.1
theorem dX8_ruler_45 : decode cX8_ruler 45 = .ok (.lstore 7, 2) := g125_X8_ruler.2.2.2.2.2.2.2.2.2.2.2.2.2.2.2.2.2.2.2.2.2.2.2.2.2.2.2.2.2.2.2.2.1
theorem dX8_ruler_47 : decode cX8_ruler 47 = .ok (.lload_n 1, 1) := g125_X8_ruler.2.2.2.2.2.2.2.2.2.2.2.2.2.2.2.2.2.2.2.2.2.2.2.2.2.2.2.2.2.2.2.2.2.1
theorem dX8_ruler_48 : decode cX8_ruler 48 = .ok (.aload_n 0, 1) := g125_X8_ruler.2.2.2.2.2.2.2.2.2.2.2.2.2.2.2.2.2.2.2.2.2.2.2.2.2.2.2.2.2.2.2.2.2.2.1
theorem dX8_ruler_49 : decode cX8_ruler 49 = .ok (.getfield 13, 3) := g125_X8_ruler.2.2.2.2.2.2.2.2.2.2.2.2.2.2.2.2.2.2.2.2.2.2.2.2.2.2.2.2.2.2.2.2.2.2.2.1
theorem dX8_ruler_52 : decode cX8_ruler 52 = .ok (.iconst 4, 1) := g125_X8_ruler.2.2.2.2.2.2.2.2.2.2.2.2.2.2.2.2.2.2.2.2.2.2.2.2.2.2.2.2.2.2.2.2.2.2.2.2.1
theorem dX8_ruler_53 : decode cX8_ruler 53 = .ok (.iaload, 1) := g125_X8_ruler.2.2.2.2.2.2.2.2.2.2.2.2.2.2.2.2.2.2.2.2.2.2.2.2.2.2.2.2.2.2.2.2.2.2.2.2.2.1
theorem dX8_ruler_54 : decode cX8_ruler 54 = .ok (.i2l, 1) := g125_X8_ruler.2.2.2.2.2.2.2.2.2.2.2.2.2.2.2.2.2.2.2.2.2.2.2.2.2.2.2.2.2.2.2.2.2.2.2.2.2.2.1
theorem dX8_ruler_55 : decode cX8_ruler 55 = .ok (.lsub, 1) := g125_X8_ruler.2.2.2.2.2.2.2.2.2.2.2.2.2.2.2.2.2.2.2.2.2.2.2.2.2.2.2.2.2.2.2.2.2.2.2.2.2.2.2.1
theorem dX8_ruler_56 : decode cX8_ruler 56 = .ok (.aload_n 0, 1) := g125_X8_ruler.2.2.2.2.2.2.2.2.2.2.2.2.2.2.2.2.2.2.2.2.2.2.2.2.2.2.2.2.2.2.2.2.2.2.2.2.2.2.2.2.1
theorem dX8_ruler_57 : decode cX8_ruler 57 = .ok (.getfield 13, 3) := g125_X8_ruler.2.2.2.2.2.2.2.2.2.2.2.2.2.2.2.2.2.2.2.2.2.2.2.2.2.2.2.2.2.2.2.2.2.2.2.2.2.2.2.2.2.1
theorem dX8_ruler_60 : decode cX8_ruler 60 = .ok (.iconst 5, 1) := g125_X8_ruler.2.2.2.2.2.2.2.2.2.2.2.2.2.2.2.2.2.2.2.2.2.2.2.2.2.2.2.2.2.2.2.2.2.2.2.2.2.2.2.2.2.2.1
theorem dX8_ruler_61 : decode cX8_ruler 61 = .ok (.iaload, 1) := g125_X8_ruler.2.2.2.2.2.2.2.2.2.2.2.2.2.2.2.2.2.2.2.2.2.2.2.2.2.2.2.2.2.2.2.2.2.2.2.2.2.2.2.2.2.2.2.1
theorem dX8_ruler_62 : decode cX8_ruler 62 = .ok (.i2l, 1) := g125_X8_ruler.2.2.2.2.2.2.2.2.2.2.2.2.2.2.2.2.2.2.2.2.2.2.2.2.2.2.2.2.2.2.2.2.2.2.2.2.2.2.2.2.2.2.2.2.1
theorem dX8_ruler_63 : decode cX8_ruler 63 = .ok (.aload_n 0, 1) := g125_X8_ruler.2.2.2.2.2.2.2.2.2.2.2.2.2.2.2.2.2.2.2.2.2.2.2.2.2.2.2.2.2.2.2.2.2.2.2.2.2.2.2.2.2.2.2.2.2.1
theorem dX8_ruler_64 : decode cX8_ruler 64 = .ok (.getfield 26, 3) := g125_X8_ruler.2.2.2.2.2.2.2.2.2.2.2.2.2.2.2.2.2.2.2.2.2.2.2.2.2.2.2.2.2.2.2.2.2.2.2.2.2.2.2.2.2.2.2.2.2.2.1
theorem dX8_ruler_67 : decode cX8_ruler 67 = .ok (.iconst 1, 1) := g125_X8_ruler.2.2.2.2.2.2.2.2.2.2.2.2.2.2.2.2.2.2.2.2.2.2.2.2.2.2.2.2.2.2.2.2.2.2.2.2.2.2.2.2.2.2.2.2.2.2.2.1
theorem dX8_ruler_68 : decode cX8_ruler 68 = .ok (.laload, 1) := g125_X8_ruler.2.2.2.2.2.2.2.2.2.2.2.2.2.2.2.2.2.2.2.2.2.2.2.2.2.2.2.2.2.2.2.2.2.2.2.2.2.2.2.2.2.2.2.2.2.2.2.2.1
theorem dX8_ruler_69 : decode cX8_ruler 69 = .ok (.lmul, 1) := g125_X8_ruler.2.2.2.2.2.2.2.2.2.2.2.2.2.2.2.2.2.2.2.2.2.2.2.2.2.2.2.2.2.2.2.2.2.2.2.2.2.2.2.2.2.2.2.2.2.2.2.2.2.1
theorem dX8_ruler_70 : decode cX8_ruler 70 = .ok (.lsub, 1) := g125_X8_ruler.2.2.2.2.2.2.2.2.2.2.2.2.2.2.2.2.2.2.2.2.2.2.2.2.2.2.2.2.2.2.2.2.2.2.2.2.2.2.2.2.2.2.2.2.2.2.2.2.2.2.1
theorem dX8_ruler_71 : decode cX8_ruler 71 = .ok (.lload_n 3, 1) := g125_X8_ruler.2.2.2.2.2.2.2.2.2.2.2.2.2.2.2.2.2.2.2.2.2.2.2.2.2.2.2.2.2.2.2.2.2.2.2.2.2.2.2.2.2.2.2.2.2.2.2.2.2.2.2.1
theorem dX8_ruler_72 : decode cX8_ruler 72 = .ok (.lmul, 1) := g125_X8_ruler.2.2.2.2.2.2.2.2.2.2.2.2.2.2.2.2.2.2.2.2.2.2.2.2.2.2.2.2.2.2.2.2.2.2.2.2.2.2.2.2.2.2.2.2.2.2.2.2.2.2.2.2.1
theorem dX8_ruler_73 : decode cX8_ruler 73 = .ok (.lload 5, 2) := g125_X8_ruler.2.2.2.2.2.2.2.2.2.2.2.2.2.2.2.2.2.2.2.2.2.2.2.2.2.2.2.2.2.2.2.2.2.2.2.2.2.2.2.2.2.2.2.2.2.2.2.2.2.2.2.2.2.1
theorem dX8_ruler_75 : decode cX8_ruler 75 = .ok (.lrem, 1) := g125_X8_ruler.2.2.2.2.2.2.2.2.2.2.2.2.2.2.2.2.2.2.2.2.2.2.2.2.2.2.2.2.2.2.2.2.2.2.2.2.2.2.2.2.2.2.2.2.2.2.2.2.2.2.2.2.2.2.1
theorem dX8_ruler_76 : decode cX8_ruler 76 = .ok (.lstore 9, 2) := g125_X8_ruler.2.2.2.2.2.2.2.2.2.2.2.2.2.2.2.2.2.2.2.2.2.2.2.2.2.2.2.2.2.2.2.2.2.2.2.2.2.2.2.2.2.2.2.2.2.2.2.2.2.2.2.2.2.2.2.1
theorem dX8_ruler_78 : decode cX8_ruler 78 = .ok (.lload 9, 2) := g125_X8_ruler.2.2.2.2.2.2.2.2.2.2.2.2.2.2.2.2.2.2.2.2.2.2.2.2.2.2.2.2.2.2.2.2.2.2.2.2.2.2.2.2.2.2.2.2.2.2.2.2.2.2.2.2.2.2.2.2.1
theorem dX8_ruler_80 : decode cX8_ruler 80 = .ok (.lconst 0, 1) := g125_X8_ruler.2.2.2.2.2.2.2.2.2.2.2.2.2.2.2.2.2.2.2.2.2.2.2.2.2.2.2.2.2.2.2.2.2.2.2.2.2.2.2.2.2.2.2.2.2.2.2.2.2.2.2.2.2.2.2.2.2.1
theorem dX8_ruler_81 : decode cX8_ruler 81 = .ok (.lcmp, 1) := g125_X8_ruler.2.2.2.2.2.2.2.2.2.2.2.2.2.2.2.2.2.2.2.2.2.2.2.2.2.2.2.2.2.2.2.2.2.2.2.2.2.2.2.2.2.2.2.2.2.2.2.2.2.2.2.2.2.2.2.2.2.2.1
theorem dX8_ruler_82 : decode cX8_ruler 82 = .ok (.ifCond .ge 11, 3) := g125_X8_ruler.2.2.2.2.2.2.2.2.2.2.2.2.2.2.2.2.2.2.2.2.2.2.2.2.2.2.2.2.2.2.2.2.2.2.2.2.2.2.2.2.2.2.2.2.2.2.2.2.2.2.2.2.2.2.2.2.2.2.2
set_option maxRecDepth 100000 in
theorem g126_X8_ruler : decode cX8_ruler 85 = .ok (.lload 9, 2) ∧ decode cX8_ruler 87 = .ok (.lload 5, 2) ∧ decode cX8_ruler 89 = .ok (.ladd, 1) ∧ decode cX8_ruler 90 = .ok (.goto 5, 3) ∧ decode cX8_ruler 93 = .ok (.lload 9, 2) ∧ decode cX8_ruler 95 = .ok (.lstore 9, 2) ∧ decode cX8_ruler 97 = .ok (.lload 9, 2) ∧ decode cX8_ruler 99 = .ok (.lconst 0, 1) ∧ decode cX8_ruler 100 = .ok (.lcmp, 1) ∧ decode cX8_ruler 101 = .ok (.ifCond .eq 31, 3) ∧ decode cX8_ruler 104 = .ok (.lload 5, 2) ∧ decode cX8_ruler 106 = .ok (.lload 9, 2) ∧ decode cX8_ruler 108 = .ok (.lsub, 1) ∧ decode cX8_ruler 109 = .ok (.lload_n 3, 1) ∧ decode cX8_ruler 110 = .ok (.lcmp, 1) ∧ decode cX8_ruler 111 = .ok (.ifCond .lt 21, 3) ∧ decode cX8_ruler 114 = .ok (.lload 9, 2) ∧ decode cX8_ruler 116 = .ok (.lload 7, 2) ∧ decode cX8_ruler 118 = .ok (.lcmp, 1) ∧ decode cX8_ruler 119 = .ok (.ifCond .gt 15, 3) ∧ decode cX8_ruler 122 = .ok (.lload 7, 2) ∧ decode cX8_ruler 124 = .ok (.lload 9, 2) ∧ decode cX8_ruler 126 = .ok (.lsub, 1) ∧ decode cX8_ruler 127 = .ok (.lload_n 3, 1) ∧ decode cX8_ruler 128 = .ok (.lcmp, 1) ∧ decode cX8_ruler 129 = .ok (.ifCond .ge 5, 3) ∧ decode cX8_ruler 132 = .ok (.iconst 2, 1) ∧ decode cX8_ruler 133 = .ok (.ireturn, 1) ∧ decode cX8_ruler 134 = .ok (.lload 9, 2) ∧ decode cX8_ruler 136 = .ok (.lload 7, 2) ∧ decode cX8_ruler 138 = .ok (.lcmp, 1) ∧ decode cX8_ruler 139 = .ok (.ifCond .ge 7, 3) ∧ decode cX8_ruler 142 = .ok (.iconst 0, 1) ∧ decode cX8_ruler 143 = .ok (.goto 4, 3) ∧ decode cX8_ruler 146 = .ok (.iconst 1, 1) ∧ decode cX8_ruler 147 = .ok (.ireturn, 1) := by decide +kernel
theorem dX8_ruler_85 : decode cX8_ruler 85 = .ok (.lload 9, 2) := g126_X8_ruler.1
theorem dX8_ruler_87 : decode cX8_ruler 87 = .ok (.lload 5, 2) := g126_X8_ruler.2.1
theorem dX8_ruler_89 : decode cX8_ruler 89 = .ok (.ladd, 1) := g126_X8_ruler.2.2.1
theorem dX8_ruler_90 : decode cX8_ruler 90 = .ok (.goto 5, 3) := g126_X8_ruler.2.2.2.1
theorem dX8_ruler_93 : decode cX8_ruler 93 = .ok (.lload 9, 2) := g126_X8_ruler.2.2.2.2.1
theorem dX8_ruler_95 : decode cX8_ruler 95 = .ok (.lstore 9, 2) := g126_X8_ruler.2.2.2.2.2.1
theorem dX8_ruler_97 : decode cX8_ruler 97 = .ok (.lload 9, 2) := g126_X8_ruler.2.2.2.2.2.2.1
theorem dX8_ruler_99 : decode cX8_ruler 99 = .ok (.lconst 0, 1) := g126_X8_ruler.2.2.2.2.2.2.2.1
theorem dX8_ruler_100 : decode cX8_ruler 100 = .ok (.lcmp, 1) := g126_X8_ruler.2.2.2.2.2.2.2.2.1
theorem dX8_ruler_101 : decode cX8_ruler 101 = .ok (.ifCond .eq 31, 3) := g126_X8_ruler.2.2.2.2.2.2.2.2.2.1
theorem dX8_ruler_104 : decode cX8_ruler 104 = .ok (.lload 5, 2) := g126_X8_ruler.2.2.2.2.2.2.2.2.2.2.1
theorem dX8_ruler_106 : decode cX8_ruler 106 = .ok (.lload 9, 2) := g126_X8_ruler.2.2.2.2.2.2.2.2.2.2.2.1
theorem dX8_ruler_108 : decode cX8_ruler 108 = .ok (.lsub, 1) := g126_X8_ruler.2.2.2.2.2.2.2.2.2.2.2.2.1
theorem dX8_ruler_109 : decode cX8_ruler 109 = .ok (.lload_n 3, 1) := g126_X8_ruler.2.2.2.2.2.2.2.2.2.2.2.2.2.1
theorem dX8_ruler_110 : decode cX8_ruler 110 = .ok (.lcmp, 1) := g126_X8_ruler.2.2.2.2.2.2.2.2.2.2.2.2.2.2.1
theorem dX8_ruler_111 : decode cX8_ruler 111 = .ok (.ifCond .lt 21, 3) := g126_X8_ruler.2.2.2.2.2.2.2.2.2.2.2.2.2.2.2.1
theorem dX8_ruler_114 : decode cX8_ruler 114 = .ok (.lload 9, 2) := g126_X8_ruler.2.2.2.2.2.2.2.2.2.2.2.2.2.2.2.2.1
theorem dX8_ruler_116 : decode cX8_ruler 116 = .ok (.lload 7, 2) := g126_X8_ruler.2.2.2.2.2.2.2.2.2.2.2.2.2.2.2.2.2.1
theorem dX8_ruler_118 : decode cX8_ruler 118 = .ok (.lcmp, 1) := g126_X8_ruler.2.2.2.2.2.2.2.2.2.2.2.2.2.2.2.2.2.2.1
theorem dX8_ruler_119 : decode cX8_ruler 119 = .ok (.ifCond .gt 15, 3) := g126_X8_ruler.2.2.2.2.2.2.2.2.2.2.2.2.2.2.2.2.2.2.2.1
theorem dX8_ruler_122 : decode cX8_ruler 122 = .ok (.lload 7, 2) := g126_X8_ruler.2.2.2.2.2.2.2.2.2.2.2.2.2.2.2.2.2.2.2.2.1
theorem dX8_ruler_124 : decode cX8_ruler 124 = .ok (.lload 9, 2) := g126_X8_ruler.2.2.2.2.2.2.2.2.2.2.2.2.2.2.2.2.2.2.2.2.2.1
theorem dX8_ruler_126 : decode cX8_ruler 126 = .ok (.lsub, 1) := g126_X8_ruler.2.2.2.2.2.2.2.2.2.2.2.2.2.2.2.2.2.2.2.2.2.2.1
theorem dX8_ruler_127 : decode cX8_ruler 127 = .ok (.lload_n 3, 1) := g126_X8_ruler.2.2.2.2.2.2.2.2.2.2.2.2.2.2.2.2.2.2.2.2.2.2.2.1
theorem dX8_ruler_128 : decode cX8_ruler 128 = .ok (.lcmp, 1) := g126_X8_ruler.2.2.2.2.2.2.2.2.2.2.2.2.2.2.2.2.2.2.2.2.2.2.2.2.1
theorem dX8_ruler_129 : decode cX8_ruler 129 = .ok (.ifCond .ge 5, 3) := g126_X8_ruler.2.2.2.2.2.2.2.2.2.2.2.2.2.2.2.2.2.2.2.2.2.2.2.2.2.1
theorem dX8_ruler_132 : decode cX8_ruler 132 = .ok (.iconst 2, 1) := g126_X8_ruler.2.2.2.2.2.2.2.2.2.2.2.2.2.2.2.2.2.2.2.2.2.2.2.2.2.2.1
theorem dX8_ruler_133 : decode cX8_ruler 133 = .ok (.ireturn, 1) := g126_X8_ruler.2.2.2.2.2.2.2.2.2.2.2.2.2.2.2.2.2.2.2.2.2.2.2.2.2.2.2.1
theorem dX8_ruler_134 : decode cX8_ruler 134 = .ok (.lload 9, 2) := g126_X8_ruler.2.2.2.2.2.2.2.2.2.2.2.2.2.2.2.2.2.2.2.2.2.2.2.2.2.2.2.2.1
theorem dX8_ruler_136 : decode cX8_ruler 136 = .ok (.lload 7, 2) := g126_X8_ruler.2.2.2.2.2.2.2.2.2.2.2.2.2.2.2.2.2.2.2.2.2.2.2.2.2.2.2.2.2.1
theorem dX8_ruler_138 : decode cX8_ruler 138 = .ok (.lcmp, 1) := g126_X8_ruler.2.2.2.2.2.2.2.2.2.2.2.2.2.2.2.2.2.2.2.2.2.2.2.2.2.2.2.2.2.2.1
theorem dX8_ruler_139 : decode cX8_ruler 139 = .ok (.ifCond .ge 7, 3) := g126_X8_ruler.2.2.2.2.2.2.2.2.2.2.2.2.2.2.2.2.2.2.2.2.2.2.2.2.2.2.2.2.2.2.2.1
theorem dX8_ruler_142 : decode cX8_ruler 142 = .ok (.iconst 0, 1) := g126_X8_ruler.2.2.2.2.2.2.2.2.2.2.2.2.2.2.2.2.2.2.2.2.2.2.2.2.2.2.2.2.2.2.2.2.1
theorem dX8_ruler_143 : decode cX8_ruler 143 = .ok (.goto 4, 3) := g126_X8_ruler.2.2.2.2.2.2.2.2.2.2.2.2.2.2.2.2.2.2.2.2.2.2.2.2.2.2.2.2.2.2.2.2.2.1
theorem dX8_ruler_146 : decode cX8_ruler 146 = .ok (.iconst 1, 1) := g126_X8_ruler.2.2.2.2.2.2.2.2.2.2.2.2.2.2.2.2.2.2.2.2.2.2.2.2.2.2.2.2.2.2.2.2.2.2.1
theorem dX8_ruler_147 : decode cX8_ruler 147 = .ok (.ireturn, 1) := g126_X8_ruler.2.2.2.2.2.2.2.2.2.2.2.2.2.2.2.2.2.2.2.2.2.2.2.2.2.2.2.2.2.2.2.2.2.2.2
set_option maxRecDepth 100000 in
theorem g127_X8_rules : decode cX8_rules 0 = .ok (.lload_n 1, 1) ∧ decode cX8_rules 1 = .ok (.invokestatic 114, 3) ∧ decode cX8_rules 4 = .ok (.ifCond .eq 11, 3) ∧ decode cX8_rules 7 = .ok (.aload_n 0, 1) ∧ decode cX8_rules 8 = .ok (.lload_n 1, 1) ∧ decode cX8_rules 9 = .ok (.invokevirtual 118, 3) ∧ decode cX8_rules 12 = .ok (.goto 4, 3) ∧ decode cX8_rules 15 = .ok (.iconst (-1), 1) ∧ decode cX8_rules 16 = .ok (.ireturn, 1) := by decide +kernel
theorem dX8_rules_0 : decode cX8_rules 0 = .ok (.lload_n 1, 1) := g127_X8_rules.1
theorem dX8_rules_1 : decode cX8_rules 1 = .ok (.invokestatic 114, 3) := g127_X8_rules.2.1
theorem dX8_rules_4 : decode cX8_rules 4 = .ok (.ifCond .eq 11, 3) := g127_X8_rules.2.2.1
theorem dX8_rules_7 : decode cX8_rules 7 = .ok (.aload_n 0, 1) := g127_X8_rules.2.2.2.1
theorem dX8_rules_8 : decode cX8_rules 8 = .ok (.lload_n 1, 1) := g127_X8_rules.2.2.2.2.1
theorem dX8_rules_9 : decode cX8_rules 9 = .ok (.invokevirtual 118, 3) := g127_X8_rules.2.2.2.2.2.1
theorem dX8_rules_12 : decode cX8_rules 12 = .ok (.goto 4, 3) := g127_X8_rules.2.2.2.2.2.2.1
theorem dX8_rules_15 : decode cX8_rules 15 = .ok (.iconst (-1), 1) := g127_X8_rules.2.2.2.2.2.2.2.1
theorem dX8_rules_16 : decode cX8_rules 16 = .ok (.ireturn, 1) := g127_X8_rules.2.2.2.2.2.2.2.2
set_option maxRecDepth 100000 in
theorem g128_X8_counted : decode cX8_counted 0 = .ok (.iconst 0, 1) ∧ decode cX8_counted 1 = .ok (.istore 5, 2) ∧ decode cX8_counted 3 = .ok (.iconst 0, 1) ∧ decode cX8_counted 4 = .ok (.istore 6, 2) ∧ decode cX8_counted 6 = .ok (.iload 6, 2) ∧ decode cX8_counted 8 = .ok (.iload_n 3, 1) ∧ decode cX8_counted 9 = .ok (.if_icmp .ge 33, 3) ∧ decode cX8_counted 12 = .ok (.iload 5, 2) ∧ decode cX8_counted 14 = .ok (.aload_n 0, 1) ∧ decode cX8_counted 15 = .ok (.lload_n 1, 1) ∧ decode cX8_counted 16 = .ok (.iload 6, 2) ∧ decode cX8_counted 18 = .ok (.i2l, 1) ∧ decode cX8_counted 19 = .ok (.ladd, 1) ∧ decode cX8_counted 20 = .ok (.invokevirtual 118, 3) ∧ decode cX8_counted 23 = .ok (.iload 4, 2) ∧ decode cX8_counted 25 = .ok (.if_icmp .ne 7, 3) ∧ decode cX8_counted 28 = .ok (.iconst 1, 1) ∧ decode cX8_counted 29 = .ok (.goto 4, 3) ∧ decode cX8_counted 32 = .ok (.iconst 0, 1) ∧ decode cX8_counted 33 = .ok (.iadd, 1) ∧ decode cX8_counted 34 = .ok (.istore 5, 2) ∧ decode cX8_counted 36 = .ok (.iinc 6 1, 3) ∧ decode cX8_counted 39 = .ok (.goto (-33), 3) ∧ decode cX8_counted 42 = .ok (.iload 5, 2) ∧ decode cX8_counted 44 = .ok (.ireturn, 1) := by decide +kernel
theorem dX8_counted_0 : decode cX8_counted 0 = .ok (.iconst 0, 1) := g128_X8_counted.1
theorem dX8_counted_1 : decode cX8_counted 1 = .ok (.istore 5, 2) := g128_X8_counted.2.1
theorem dX8_counted_3 : decode cX8_counted 3 = .ok (.iconst 0, 1) := g128_X8_counted.2.2.1
theorem dX8_counted_4 : decode cX8_counted 4 = .ok (.istore 6, 2) := g128_X8_counted.2.2.2.1
theorem dX8_counted_6 : decode cX8_counted 6 = .ok (.iload 6, 2) := g128_X8_counted.2.2.2.2.1
theorem dX8_counted_8 : decode cX8_counted 8 = .ok (.iload_n 3, 1) := g128_X8_counted.2.2.2.2.2.1
theorem dX8_counted_9 : decode cX8_counted 9 = .ok (.if_icmp .ge 33, 3) := g128_X8_counted.2.2.2.2.2.2.1
theorem dX8_counted_12 : decode cX8_counted 12 = .ok (.iload 5, 2) := g128_X8_counted.2.2.2.2.2.2.2.1
theorem dX8_counted_14 : decode cX8_counted 14 = .ok (.aload_n 0, 1) := g128_X8_counted.2.2.2.2.2.2.2.2.1
theorem dX8_counted_15 : decode cX8_counted 15 = .ok (.lload_n 1, 1) := g128_X8_counted.2.2.2.2.2.2.2.2.2.1
theorem dX8_counted_16 : decode cX8_counted 16 = .ok (.iload 6, 2) := g128_X8_counted.2.2.2.2.2.2.2.2.2.2.1
theorem dX8_counted_18 : decode cX8_counted 18 = .ok (.i2l, 1) := g128_X8_counted.2.2.2.2.2.2.2.2.2.2.2.1
theorem dX8_counted_19 : decode cX8_counted 19 = .ok (.ladd, 1) := g128_X8_counted.2.2.2.2.2.2.2.2.2.2.2.2.1
theorem dX8_counted_20 : decode cX8_counted 20 = .ok (.invokevirtual 118, 3) := g128_X8_counted.2.2.2.2.2.2.2.2.2.2.2.2.2.1
theorem dX8_counted_23 : decode cX8_counted 23 = .ok (.iload 4, 2) := g128_X8_counted.2.2.2.2.2.2.2.2.2.2.2.2.2.2.1
theorem dX8_counted_25 : decode cX8_counted 25 = .ok (.if_icmp .ne 7, 3) := g128_X8_counted.2.2.2.2.2.2.2.2.2.2.2.2.2.2.2.1
theorem dX8_counted_28 : decode cX8_counted 28 = .ok (.iconst 1, 1) := g128_X8_counted.2.2.2.2.2.2.2.2.2.2.2.2.2.2.2.2.1
theorem dX8_counted_29 : decode cX8_counted 29 = .ok (.goto 4, 3) := g128_X8_counted.2.2.2.2.2.2.2.2.2.2.2.2.2.2.2.2.2.1
theorem dX8_counted_32 : decode cX8_counted 32 = .ok (.iconst 0, 1) := g128_X8_counted.2.2.2.2.2.2.2.2.2.2.2.2.2.2.2.2.2.2.1
theorem dX8_counted_33 : decode cX8_counted 33 = .ok (.iadd, 1) := g128_X8_counted.2.2.2.2.2.2.2.2.2.2.2.2.2.2.2.2.2.2.2.1
theorem dX8_counted_34 : decode cX8_counted 34 = .ok (.istore 5, 2) := g128_X8_counted.2.2.2.2.2.2.2.2.2.2.2.2.2.2.2.2.2.2.2.2.1
theorem dX8_counted_36 : decode cX8_counted 36 = .ok (.iinc 6 1, 3) := g128_X8_counted.2.2.2.2.2.2.2.2.2.2.2.2.2.2.2.2.2.2.2.2.2.1
theorem dX8_counted_39 : decode cX8_counted 39 = .ok (.goto (-33), 3) := g128_X8_counted.2.2.2.2.2.2.2.2.2.2.2.2.2.2.2.2.2.2.2.2.2.2.1
theorem dX8_counted_42 : decode cX8_counted 42 = .ok (.iload 5, 2) := g128_X8_counted.2.2.2.2.2.2.2.2.2.2.2.2.2.2.2.2.2.2.2.2.2.2.2.1
theorem dX8_counted_44 : decode cX8_counted 44 = .ok (.ireturn, 1) := g128_X8_counted.2.2.2.2.2.2.2.2.2.2.2.2.2.2.2.2.2.2.2.2.2.2.2.2
set_option maxRecDepth 100000 in
theorem g129_X8_minutes : decode cX8_minutes 0 = .ok (.lload_n 1, 1) ∧ decode cX8_minutes 1 = .ok (.invokestatic 114, 3) ∧ decode cX8_minutes 4 = .ok (.ifCond .eq 39, 3) ∧ decode cX8_minutes 7 = .ok (.iload_n 3, 1) ∧ decode cX8_minutes 8 = .ok (.i2l, 1) ∧ decode cX8_minutes 9 = .ok (.lconst 0, 1) ∧ decode cX8_minutes 10 = .ok (.ldc2_w 122, 3) ∧ decode cX8_minutes 13 = .ok (.invokestatic 53, 3) ∧ decode cX8_minutes 16 = .ok (.ifCond .eq 27, 3) ∧ decode cX8_minutes 19 = .ok (.iload 4, 2) ∧ decode cX8_minutes 21 = .ok (.i2l, 1) ∧ decode cX8_minutes 22 = .ok (.lconst 0, 1) ∧ decode cX8_minutes 23 = .ok (.ldc2_w 124, 3) ∧ decode cX8_minutes 26 = .ok (.invokestatic 53, 3) ∧ decode cX8_minutes 29 = .ok (.ifCond .eq 14, 3) ∧ decode cX8_minutes 32 = .ok (.aload_n 0, 1) ∧ decode cX8_minutes 33 = .ok (.lload_n 1, 1) ∧ decode cX8_minutes 34 = .ok (.iload_n 3, 1) ∧ decode cX8_minutes 35 = .ok (.iload 4, 2) ∧ decode cX8_minutes 37 = .ok (.invokevirtual 126, 3) ∧ decode cX8_minutes 40 = .ok (.goto 4, 3) ∧ decode cX8_minutes 43 = .ok (.iconst (-1), 1) ∧ decode cX8_minutes 44 = .ok (.ireturn, 1) := by decide +kernel
theorem dX8_minutes_0 : decode cX8_minutes 0 = .ok (.lload_n 1, 1) := g129_X8_minutes.1
theorem dX8_minutes_1 : decode cX8_minutes 1 = .ok (.invokestatic 114, 3) := g129_X8_minutes.2.1
theorem dX8_minutes_4 : decode cX8_minutes 4 = .ok (.ifCond .eq 39, 3) := g129_X8_minutes.2.2.1
theorem dX8_minutes_7 : decode cX8_minutes 7 = .ok (.iload_n 3, 1) := g129_X8_minutes.2.2.2.1
theorem dX8_minutes_8 : decode cX8_minutes 8 = .ok (.i2l, 1) := g129_X8_minutes.2.2.2.2.1
theorem dX8_minutes_9 : decode cX8_minutes 9 = .ok (.lconst 0, 1) := g129_X8_minutes.2.2.2.2.2.1
theorem dX8_minutes_10 : decode cX8_minutes 10 = .ok (.ldc2_w 122, 3) := g129_X8_minutes.2.2.2.2.2.2.1
theorem dX8_minutes_13 : decode cX8_minutes 13 = .ok (.invokestatic 53, 3) := g129_X8_minutes.2.2.2.2.2.2.2.1
theorem dX8_minutes_16 : decode cX8_minutes 16 = .ok (.ifCond .eq 27, 3) := g129_X8_minutes.2.2.2.2.2.2.2.2.1
theorem dX8_minutes_19 : decode cX8_minutes 19 = .ok (.iload 4, 2) := g129_X8_minutes.2.2.2.2.2.2.2.2.2.1
theorem dX8_minutes_21 : decode cX8_minutes 21 = .ok (.i2l, 1) := g129_X8_minutes.2.2.2.2.2.2.2.2.2.2.1
theorem dX8_minutes_22 : decode cX8_minutes 22 = .ok (.lconst 0, 1) := g129_X8_minutes.2.2.2.2.2.2.2.2.2.2.2.1
theorem dX8_minutes_23 : decode cX8_minutes 23 = .ok (.ldc2_w 124, 3) := g129_X8_minutes.2.2.2.2.2.2.2.2.2.2.2.2.1
theorem dX8_minutes_26 : decode cX8_minutes 26 = .ok (.invokestatic 53, 3) := g129_X8_minutes.2.2.2.2.2.2.2.2.2.2.2.2.2.1
theorem dX8_minutes_29 : decode cX8_minutes 29 = .ok (.ifCond .eq 14, 3) := g129_X8_minutes.2.2.2.2.2.2.2.2.2.2.2.2.2.2.1
theorem dX8_minutes_32 : decode cX8_minutes 32 = .ok (.aload_n 0, 1) := g129_X8_minutes.2.2.2.2.2.2.2.2.2.2.2.2.2.2.2.1
theorem dX8_minutes_33 : decode cX8_minutes 33 = .ok (.lload_n 1, 1) := g129_X8_minutes.2.2.2.2.2.2.2.2.2.2.2.2.2.2.2.2.1
theorem dX8_minutes_34 : decode cX8_minutes 34 = .ok (.iload_n 3, 1) := g129_X8_minutes.2.2.2.2.2.2.2.2.2.2.2.2.2.2.2.2.2.1
theorem dX8_minutes_35 : decode cX8_minutes 35 = .ok (.iload 4, 2) := g129_X8_minutes.2.2.2.2.2.2.2.2.2.2.2.2.2.2.2.2.2.2.1
theorem dX8_minutes_37 : decode cX8_minutes 37 = .ok (.invokevirtual 126, 3) := g129_X8_minutes.2.2.2.2.2.2.2.2.2.2.2.2.2.2.2.2.2.2.2.1
theorem dX8_minutes_40 : decode cX8_minutes 40 = .ok (.goto 4, 3) := g129_X8_minutes.2.2.2.2.2.2.2.2.2.2.2.2.2.2.2.2.2.2.2.2.1
theorem dX8_minutes_43 : decode cX8_minutes 43 = .ok (.iconst (-1), 1) := g129_X8_minutes.2.2.2.2.2.2.2.2.2.2.2.2.2.2.2.2.2.2.2.2.2.1
theorem dX8_minutes_44 : decode cX8_minutes 44 = .ok (.ireturn, 1) := g129_X8_minutes.2.2.2.2.2.2.2.2.2.2.2.2.2.2.2.2.2.2.2.2.2.2
set_option maxRecDepth 100000 in
theorem g130_X8_next : decode cX8_next 0 = .ok (.lload_n 1, 1) ∧ decode cX8_next 1 = .ok (.invokestatic 114, 3) ∧ decode cX8_next 4 = .ok (.ifCond .eq 15, 3) ∧ decode cX8_next 7 = .ok (.iload_n 3, 1) ∧ decode cX8_next 8 = .ok (.i2l, 1) ∧ decode cX8_next 9 = .ok (.lconst 0, 1) ∧ decode cX8_next 10 = .ok (.ldc2_w 124, 3) ∧ decode cX8_next 13 = .ok (.invokestatic 53, 3) ∧ decode cX8_next 16 = .ok (.ifCond .ne 7, 3) ∧ decode cX8_next 19 = .ok (.ldc2_w 130, 3) ∧ decode cX8_next 22 = .ok (.lreturn, 1) ∧ decode cX8_next 23 = .ok (.lload_n 1, 1) ∧ decode cX8_next 24 = .ok (.lstore 4, 2) ∧ decode cX8_next 26 = .ok (.lload 4, 2) ∧ decode cX8_next 28 = .ok (.lload_n 1, 1) ∧ decode cX8_next 29 = .ok (.ldc2_w 132, 3) ∧ decode cX8_next 32 = .ok (.ladd, 1) ∧ decode cX8_next 33 = .ok (.lcmp, 1) ∧ decode cX8_next 34 = .ok (.ifCond .gt 25, 3) ∧ decode cX8_next 37 = .ok (.aload_n 0, 1) ∧ decode cX8_next 38 = .ok (.lload 4, 2) ∧ decode cX8_next 40 = .ok (.invokevirtual 118, 3) ∧ decode cX8_next 43 = .ok (.iload_n 3, 1) ∧ decode cX8_next 44 = .ok (.if_icmp .ne 6, 3) ∧ decode cX8_next 47 = .ok (.lload 4, 2) ∧ decode cX8_next 49 = .ok (.lreturn, 1) ∧ decode cX8_next 50 = .ok (.lload 4, 2) ∧ decode cX8_next 52 = .ok (.lconst 1, 1) ∧ decode cX8_next 53 = .ok (.ladd, 1) ∧ decode cX8_next 54 = .ok (.lstore 4, 2) ∧ decode cX8_next 56 = .ok (.goto (-30), 3) ∧ decode cX8_next 59 = .ok (.ldc2_w 134, 3) ∧ decode cX8_next 62 = .ok (.lreturn, 1) := by decide +kernel
theorem dX8_next_0 : decode cX8_next 0 = .ok (.lload_n 1, 1) := g130_X8_next.1
theorem dX8_next_1 : decode cX8_next 1 = .ok (.invokestatic 114, 3) := g130_X8_next.2.1
theorem dX8_next_4 : decode cX8_next 4 = .ok (.ifCond .eq 15, 3) := g130_X8_next.2.2.1
theorem dX8_next_7 : decode cX8_next 7 = .ok (.iload_n 3, 1) := g130_X8_next.2.2.2.1
theorem dX8_next_8 : decode cX8_next 8 = .ok (.i2l, 1) := g130_X8_next.2.2.2.2.1
theorem dX8_next_9 : decode cX8_next 9 = .ok (.lconst 0, 1) := g130_X8_next.2.2.2.2.2.1
theorem dX8_next_10 : decode cX8_next 10 = .ok (.ldc2_w 124, 3) := g130_X8_next.2.2.2.2.2.2.1
theorem dX8_next_13 : decode cX8_next 13 = .ok (.invokestatic 53, 3) := g130_X8_next.2.2.2.2.2.2.2.1
theorem dX8_next_16 : decode cX8_next 16 = .ok (.ifCond .ne 7, 3) := g130_X8_next.2.2.2.2.2.2.2.2.1
theorem dX8_next_19 : decode cX8_next 19 = .ok (.ldc2_w 130, 3) := g130_X8_next.2.2.2.2.2.2.2.2.2.1
theorem dX8_next_22 : decode cX8_next 22 = .ok (.lreturn, 1) := g130_X8_next.2.2.2.2.2.2.2.2.2.2.1
theorem dX8_next_23 : decode cX8_next 23 = .ok (.lload_n 1, 1) := g130_X8_next.2.2.2.2.2.2.2.2.2.2.2.1
theorem dX8_next_24 : decode cX8_next 24 = .ok (.lstore 4, 2) := g130_X8_next.2.2.2.2.2.2.2.2.2.2.2.2.1
theorem dX8_next_26 : decode cX8_next 26 = .ok (.lload 4, 2) := g130_X8_next.2.2.2.2.2.2.2.2.2.2.2.2.2.1
theorem dX8_next_28 : decode cX8_next 28 = .ok (.lload_n 1, 1) := g130_X8_next.2.2.2.2.2.2.2.2.2.2.2.2.2.2.1
theorem dX8_next_29 : decode cX8_next 29 = .ok (.ldc2_w 132, 3) := g130_X8_next.2.2.2.2.2.2.2.2.2.2.2.2.2.2.2.1
theorem dX8_next_32 : decode cX8_next 32 = .ok (.ladd, 1) := g130_X8_next.2.2.2.2.2.2.2.2.2.2.2.2.2.2.2.2.1
theorem dX8_next_33 : decode cX8_next 33 = .ok (.lcmp, 1) := g130_X8_next.2.2.2.2.2.2.2.2.2.2.2.2.2.2.2.2.2.1
theorem dX8_next_34 : decode cX8_next 34 = .ok (.ifCond .gt 25, 3) := g130_X8_next.2.2.2.2.2.2.2.2.2.2.2.2.2.2.2.2.2.2.1
theorem dX8_next_37 : decode cX8_next 37 = .ok (.aload_n 0, 1) := g130_X8_next.2.2.2.2.2.2.2.2.2.2.2.2.2.2.2.2.2.2.2.1
theorem dX8_next_38 : decode cX8_next 38 = .ok (.lload 4, 2) := g130_X8_next.2.2.2.2.2.2.2.2.2.2.2.2.2.2.2.2.2.2.2.2.1
theorem dX8_next_40 : decode cX8_next 40 = .ok (.invokevirtual 118, 3) := g130_X8_next.2.2.2.2.2.2.2.2.2.2.2.2.2.2.2.2.2.2.2.2.2.1
theorem dX8_next_43 : decode cX8_next 43 = .ok (.iload_n 3, 1) := g130_X8_next.2.2.2.2.2.2.2.2.2.2.2.2.2.2.2.2.2.2.2.2.2.2.1
theorem dX8_next_44 : decode cX8_next 44 = .ok (.if_icmp .ne 6, 3) := g130_X8_next.2.2.2.2.2.2.2.2.2.2.2.2.2.2.2.2.2.2.2.2.2.2.2.1
theorem dX8_next_47 : decode cX8_next 47 = .ok (.lload 4, 2) := g130_X8_next.2.2.2.2.2.2.2.2.2.2.2.2.2.2.2.2.2.2.2.2.2.2.2.2.1
theorem dX8_next_49 : decode cX8_next 49 = .ok (.lreturn, 1) := g130_X8_next.2.2.2.2.2.2.2.2.2.2.2.2.2.2.2.2.2.2.2.2.2.2.2.2.2.1
theorem dX8_next_50 : decode cX8_next 50 = .ok (.lload 4, 2) := g130_X8_next.2.2.2.2.2.2.2.2.2.2.2.2.2.2.2.2.2.2.2.2.2.2.2.2.2.2.1
theorem dX8_next_52 : decode cX8_next 52 = .ok (.lconst 1, 1) := g130_X8_next.2.2.2.2.2.2.2.2.2.2.2.2.2.2.2.2.2.2.2.2.2.2.2.2.2.2.2.1
theorem dX8_next_53 : decode cX8_next 53 = .ok (.ladd, 1) := g130_X8_next.2.2.2.2.2.2.2.2.2.2.2.2.2.2.2.2.2.2.2.2.2.2.2.2.2.2.2.2.1
theorem dX8_next_54 : decode cX8_next 54 = .ok (.lstore 4, 2) := g130_X8_next.2.2.2.2.2.2.2.2.2.2.2.2.2.2.2.2.2.2.2.2.2.2.2.2.2.2.2.2.2.1
theorem dX8_next_56 : decode cX8_next 56 = .ok (.goto (-30), 3) := g130_X8_next.2.2.2.2.2.2.2.2.2.2.2.2.2.2.2.2.2.2.2.2.2.2.2.2.2.2.2.2.2.2.1
theorem dX8_next_59 : decode cX8_next 59 = .ok (.ldc2_w 134, 3) := g130_X8_next.2.2.2.2.2.2.2.2.2.2.2.2.2.2.2.2.2.2.2.2.2.2.2.2.2.2.2.2.2.2.2.1
theorem dX8_next_62 : decode cX8_next 62 = .ok (.lreturn, 1) := g130_X8_next.2.2.2.2.2.2.2.2.2.2.2.2.2.2.2.2.2.2.2.2.2.2.2.2.2.2.2.2.2.2.2.2
set_option maxRecDepth 100000 in
theorem g131_X8_isKings : decode cX8_isKings 0 = .ok (.aload_n 0, 1) ∧ decode cX8_isKings 1 = .ok (.lload_n 2, 1) ∧ decode cX8_isKings 2 = .ok (.invokevirtual 118, 3) ∧ decode cX8_isKings 5 = .ok (.istore 4, 2) ∧ decode cX8_isKings 7 = .ok (.iload 4, 2) ∧ decode cX8_isKings 9 = .ok (.iconst 2, 1) ∧ decode cX8_isKings 10 = .ok (.if_icmp .ge 22, 3) ∧ decode cX8_isKings 13 = .ok (.aload_n 0, 1) ∧ decode cX8_isKings 14 = .ok (.getfield 23, 3) ∧ decode cX8_isKings 17 = .ok (.iload_n 1, 1) ∧ decode cX8_isKings 18 = .ok (.iaload, 1) ∧ decode cX8_isKings 19 = .ok (.iload 4, 2) ∧ decode cX8_isKings 21 = .ok (.ishr, 1) ∧ decode cX8_isKings 22 = .ok (.iconst 1, 1) ∧ decode cX8_isKings 23 = .ok (.iand, 1) ∧ decode cX8_isKings 24 = .ok (.iconst 1, 1) ∧ decode cX8_isKings 25 = .ok (.if_icmp .ne 7, 3) ∧ decode cX8_isKings 28 = .ok (.iconst 1, 1) ∧ decode cX8_isKings 29 = .ok (.goto 4, 3) ∧ decode cX8_isKings 32 = .ok (.iconst 0, 1) ∧ decode cX8_isKings 33 = .ok (.ireturn, 1) := by decide +kernel
theorem dX8_isKings_0 : decode cX8_isKings 0 = .ok (.aload_n 0, 1) := g131_X8_isKings.1
theorem dX8_isKings_1 : decode cX8_isKings 1 = .ok (.lload_n 2, 1) := g131_X8_isKings.2.1
theorem dX8_isKings_2 : decode cX8_isKings 2 = .ok (.invokevirtual 118, 3) := g131_X8_isKings.2.2.1
theorem dX8_isKings_5 : decode cX8_isKings 5 = .ok (.istore 4, 2) := g131_X8_isKings.2.2.2.1
theorem dX8_isKings_7 : decode cX8_isKings 7 = .ok (.iload 4, 2) := g131_X8_isKings.2.2.2.2.1
theorem dX8_isKings_9 : decode cX8_isKings 9 = .ok (.iconst 2, 1) := g131_X8_isKings.2.2.2.2.2.1
theorem dX8_isKings_10 : decode cX8_isKings 10 = .ok (.if_icmp .ge 22, 3) := g131_X8_isKings.2.2.2.2.2.2.1
theorem dX8_isKings_13 : decode cX8_isKings 13 = .ok (.aload_n 0, 1) := g131_X8_isKings.2.2.2.2.2.2.2.1
theorem dX8_isKings_14 : decode cX8_isKings 14 = .ok (.getfield 23, 3) := g131_X8_isKings.2.2.2.2.2.2.2.2.1
theorem dX8_isKings_17 : decode cX8_isKings 17 = .ok (.iload_n 1, 1) := g131_X8_isKings.2.2.2.2.2.2.2.2.2.1
theorem dX8_isKings_18 : decode cX8_isKings 18 = .ok (.iaload, 1) := g131_X8_isKings.2.2.2.2.2.2.2.2.2.2.1
theorem dX8_isKings_19 : decode cX8_isKings 19 = .ok (.iload 4, 2) := g131_X8_isKings.2.2.2.2.2.2.2.2.2.2.2.1
theorem dX8_isKings_21 : decode cX8_isKings 21 = .ok (.ishr, 1) := g131_X8_isKings.2.2.2.2.2.2.2.2.2.2.2.2.1
theorem dX8_isKings_22 : decode cX8_isKings 22 = .ok (.iconst 1, 1) := g131_X8_isKings.2.2.2.2.2.2.2.2.2.2.2.2.2.1
theorem dX8_isKings_23 : decode cX8_isKings 23 = .ok (.iand, 1) := g131_X8_isKings.2.2.2.2.2.2.2.2.2.2.2.2.2.2.1
theorem dX8_isKings_24 : decode cX8_isKings 24 = .ok (.iconst 1, 1) := g131_X8_isKings.2.2.2.2.2.2.2.2.2.2.2.2.2.2.2.1
theorem dX8_isKings_25 : decode cX8_isKings 25 = .ok (.if_icmp .ne 7, 3) := g131_X8_isKings.2.2.2.2.2.2.2.2.2.2.2.2.2.2.2.2.1
theorem dX8_isKings_28 : decode cX8_isKings 28 = .ok (.iconst 1, 1) := g131_X8_isKings.2.2.2.2.2.2.2.2.2.2.2.2.2.2.2.2.2.1
theorem dX8_isKings_29 : decode cX8_isKings 29 = .ok (.goto 4, 3) := g131_X8_isKings.2.2.2.2.2.2.2.2.2.2.2.2.2.2.2.2.2.2.1
theorem dX8_isKings_32 : decode cX8_isKings 32 = .ok (.iconst 0, 1) := g131_X8_isKings.2.2.2.2.2.2.2.2.2.2.2.2.2.2.2.2.2.2.2.1
theorem dX8_isKings_33 : decode cX8_isKings 33 = .ok (.ireturn, 1) := g131_X8_isKings.2.2.2.2.2.2.2.2.2.2.2.2.2.2.2.2.2.2.2.2
set_option maxRecDepth 100000 in
theorem g132_X8_isLawful : decode cX8_isLawful 0 = .ok (.aload_n 0, 1) ∧ decode cX8_isLawful 1 = .ok (.getfield 20, 3) ∧ decode cX8_isLawful 4 = .ok (.iconst 5, 1) ∧ decode cX8_isLawful 5 = .ok (.iload_n 1, 1) ∧ decode cX8_isLawful 6 = .ok (.imul, 1) ∧ decode cX8_isLawful 7 = .ok (.iconst 0, 1) ∧ decode cX8_isLawful 8 = .ok (.iadd, 1) ∧ decode cX8_isLawful 9 = .ok (.iaload, 1) ∧ decode cX8_isLawful 10 = .ok (.istore 4, 2) ∧ decode cX8_isLawful 12 = .ok (.iload 4, 2) ∧ decode cX8_isLawful 14 = .ok (.iconst 3, 1) ∧ decode cX8_isLawful 15 = .ok (.if_icmp .ne 28, 3) ∧ decode cX8_isLawful 18 = .ok (.aload_n 0, 1) ∧ decode cX8_isLawful 19 = .ok (.getfield 23, 3) ∧ decode cX8_isLawful 22 = .ok (.iload_n 1, 1) ∧ decode cX8_isLawful 23 = .ok (.iaload, 1) ∧ decode cX8_isLawful 24 = .ok (.iconst 3, 1) ∧ decode cX8_isLawful 25 = .ok (.if_icmp .ne 16, 3) ∧ decode cX8_isLawful 28 = .ok (.aload_n 0, 1) ∧ decode cX8_isLawful 29 = .ok (.lload_n 2, 1) ∧ decode cX8_isLawful 30 = .ok (.invokevirtual 118, 3) ∧ decode cX8_isLawful 33 = .ok (.iconst 2, 1) ∧ decode cX8_isLawful 34 = .ok (.if_icmp .ge 7, 3) ∧ decode cX8_isLawful 37 = .ok (.iconst 1, 1) ∧ decode cX8_isLawful 38 = .ok (.goto 4, 3) ∧ decode cX8_isLawful 41 = .ok (.iconst 0, 1) ∧ decode cX8_isLawful 42 = .ok (.ireturn, 1) ∧ decode cX8_isLawful 43 = .ok (.iload 4, 2) ∧ decode cX8_isLawful 45 = .ok (.iconst 4, 1) ∧ decode cX8_isLawful 46 = .ok (.if_icmp .ne 27, 3) ∧ decode cX8_isLawful 49 = .ok (.aload_n 0, 1) ∧ decode cX8_isLawful 50 = .ok (.getfield 23, 3) ∧ decode cX8_isLawful 53 = .ok (.iload_n 1, 1) ∧ decode cX8_isLawful 54 = .ok (.iaload, 1) ∧ decode cX8_isLawful 55 = .ok (.ifCond .le 16, 3) ∧ decode cX8_isLawful 58 = .ok (.aload_n 0, 1) ∧ decode cX8_isLawful 59 = .ok (.lload_n 2, 1) ∧ decode cX8_isLawful 60 = .ok (.invokevirtual 118, 3) ∧ decode cX8_isLawful 63 = .ok (.iconst 2, 1) ∧ decode cX8_isLawful 64 = .ok (.if_icmp .ne 7, 3) ∧ decode cX8_isLawful 67 = .ok (.iconst 1, 1) ∧ decode cX8_isLawful 68 = .ok (.goto 4, 3) ∧ decode cX8_isLawful 71 = .ok (.iconst 0, 1) ∧ decode cX8_isLawful 72 = .ok (.ireturn, 1) ∧ decode cX8_isLawful 73 = .ok (.iconst 1, 1) ∧ decode cX8_isLawful 74 = .ok (.istore 5, 2) ∧ decode cX8_isLawful 76 = .ok (.iconst 0, 1) ∧ decode cX8_isLawful 77 = .ok (.istore 6, 2) ∧ decode cX8_isLawful 79 = .ok (.iload 6, 2) ∧ decode cX8_isLawful 81 = .ok (.iload 4, 2) ∧ decode cX8_isLawful 83 = .ok (.iconst 1, 1) ∧ decode cX8_isLawful 84 = .ok (.if_icmp .ne 16, 3) ∧ decode cX8_isLawful 87 = .ok (.aload_n 0, 1) ∧ decode cX8_isLawful 88 = .ok (.getfield 20, 3) ∧ decode cX8_isLawful 91 = .ok (.iconst 5, 1) ∧ decode cX8_isLawful 92 = .ok (.iload_n 1, 1) ∧ decode cX8_isLawful 93 = .ok (.imul, 1) ∧ decode cX8_isLawful 94 = .ok (.iconst 2, 1) ∧ decode cX8_isLawful 95 = .ok (.iadd, 1) ∧ decode cX8_isLawful 96 = .ok (.iaload, 1) := by decide +kernel
theorem dX8_isLawful_0 : decode cX8_isLawful 0 = .ok (.aload_n 0, 1) := g132_X8_isLawful.1
theorem dX8_isLawful_1 : decode cX8_isLawful 1 = .ok (.getfield 20, 3) := g132_X8_isLawful.2.1
theorem dX8_isLawful_4 : decode cX8_isLawful 4 = .ok (.iconst 5, 1) := g132_X8_isLawful.2.2.1
theorem dX8_isLawful_5 : decode cX8_isLawful 5 = .ok (.iload_n 1, 1) := g132_X8_isLawful.2.2.2.1
theorem dX8_isLawful_6 : decode cX8_isLawful 6 = .ok (.imul, 1) := g132_X8_isLawful.2.2.2.2.1
theorem dX8_isLawful_7 : decode cX8_isLawful 7 = .ok (.iconst 0, 1) := g132_X8_isLawful.2.2.2.2.2.1
theorem dX8_isLawful_8 : decode cX8_isLawful 8 = .ok (.iadd, 1) := g132_X8_isLawful.2.2.2.2.2.2.1
theorem dX8_isLawful_9 : decode cX8_isLawful 9 = .ok (.iaload, 1) := g132_X8_isLawful.2.2.2.2.2.2.2.1
theorem dX8_isLawful_10 : decode cX8_isLawful 10 = .ok (.istore 4, 2) := g132_X8_isLawful.2.2.2.2.2.2.2.2.1
theorem dX8_isLawful_12 : decode cX8_isLawful 12 = .ok (.iload 4, 2) := g132_X8_isLawful.2.2.2.2.2.2.2.2.2.1
theorem dX8_isLawful_14 : decode cX8_isLawful 14 = .ok (.iconst 3, 1) := g132_X8_isLawful.2.2.2.2.2.2.2.2.2.2.1
theorem dX8_isLawful_15 : decode cX8_isLawful 15 = .ok (.if_icmp .ne 28, 3) := g132_X8_isLawful.2.2.2.2.2.2.2.2.2.2.2.1
theorem dX8_isLawful_18 : decode cX8_isLawful 18 = .ok (.aload_n 0, 1) := g132_X8_isLawful.2.2.2.2.2.2.2.2.2.2.2.2.1
theorem dX8_isLawful_19 : decode cX8_isLawful 19 = .ok (.getfield 23, 3) := g132_X8_isLawful.2.2.2.2.2.2.2.2.2.2.2.2.2.1
theorem dX8_isLawful_22 : decode cX8_isLawful 22 = .ok (.iload_n 1, 1) := g132_X8_isLawful.2.2.2.2.2.2.2.2.2.2.2.2.2.2.1
theorem dX8_isLawful_23 : decode cX8_isLawful 23 = .ok (.iaload, 1) := g132_X8_isLawful.2.2.2.2.2.2.2.2.2.2.2.2.2.2.2.1
theorem dX8_isLawful_24 : decode cX8_isLawful 24 = .ok (.iconst 3, 1) := g132_X8_isLawful.2.2.2.2.2.2.2.2.2.2.2.2.2.2.2.2.1
theorem dX8_isLawful_25 : decode cX8_isLawful 25 = .ok (.if_icmp .ne 16, 3) := g132_X8_isLawful.2.2.2.2.2.2.2.2.2.2.2.2.2.2.2.2.2.1
theorem dX8_isLawful_28 : decode cX8_isLawful 28 = .ok (.aload_n 0, 1) := g132_X8_isLawful.2.2.2.2.2.2.2.2.2.2.2.2.2.2.2.2.2.2.1
theorem dX8_isLawful_29 : decode cX8_isLawful 29 = .ok (.lload_n 2, 1) := g132_X8_isLawful.2.2.2.2.2.2.2.2.2.2.2.2.2.2.2.2.2.2.2.1
theorem dX8_isLawful_30 : decode cX8_isLawful 30 = .ok (.invokevirtual 118, 3) := g132_X8_isLawful.2.2.2.2.2.2.2.2.2.2.2.2.2.2.2.2.2.2.2.2.1
theorem dX8_isLawful_33 : decode cX8_isLawful 33 = .ok (.iconst 2, 1) := g132_X8_isLawful.2.2.2.2.2.2.2.2.2.2.2.2.2.2.2.2.2.2.2.2.2.1
theorem dX8_isLawful_34 : decode cX8_isLawful 34 = .ok (.if_icmp .ge 7, 3) := g132_X8_isLawful.2.2.2.2.2.2.2.2.2.2.2.2.2.2.2.2.2.2.2.2.2.2.1
theorem dX8_isLawful_37 : decode cX8_isLawful 37 = .ok (.iconst 1, 1) := g132_X8_isLawful.2.2.2.2.2.2.2.2.2.2.2.2.2.2.2.2.2.2.2.2.2.2.2.1
theorem dX8_isLawful_38 : decode cX8_isLawful 38 = .ok (.goto 4, 3) := g132_X8_isLawful.2.2.2.2.2.2.2.2.2.2.2.2.2.2.2.2.2.2.2.2.2.2.2.2.1
theorem dX8_isLawful_41 : decode cX8_isLawful 41 = .ok (.iconst 0, 1) := g132_X8_isLawful.2.2.2.2.2.2.2.2.2.2.2.2.2.2.2.2.2.2.2.2.2.2.2.2.2.1
theorem dX8_isLawful_42 : decode cX8_isLawful 42 = .ok (.ireturn, 1) := g132_X8_isLawful.2.2.2.2.2.2.2.2.2.2.2.2.2.2.2.2.2.2.2.2.2.2.2.2.2.2.1
theorem dX8_isLawful_43 : decode cX8_isLawful 43 = .ok (.iload 4, 2) := g132_X8_isLawful.2.2.2.2.2.2.2.2.2.2.2.2.2.2.2.2.2.2.2.2.2.2.2.2.2.2.2.1
theorem dX8_isLawful_45 : decode cX8_isLawful 45 = .ok (.iconst 4, 1) := g132_X8_isLawful.2.2.2.2.2.2.2.2.2.2.2.2.2.2.2.2.2.2.2.2.2.2.2.2.2.2.2.2.1
theorem dX8_isLawful_46 : decode cX8_isLawful 46 = .ok (.if_icmp .ne 27, 3) := g132_X8_isLawful.2.2.2.2.2.2.2.2.2.2.2.2.2.2.2.2.2.2.2.2.2.2.2.2.2.2.2.2.2.1
theorem dX8_isLawful_49 : decode cX8_isLawful 49 = .ok (.aload_n 0, 1) := g132_X8_isLawful.2.2.2.2.2.2.2.2.2.2.2.2.2.2.2.2.2.2.2.2.2.2.2.2.2.2.2.2.2.2.1
theorem dX8_isLawful_50 : decode cX8_isLawful 50 = .ok (.getfield 23, 3) := g132_X8_isLawful.2.2.2.2.2.2.2.2.2.2.2.2.2.2.2.2.2.2.2.2.2.2.2.2.2.2.2.2.2.2.2.1
theorem dX8_isLawful_53 : decode cX8_isLawful 53 = .ok (.iload_n 1, 1) := g132_X8_isLawful.2.2.2.2.2.2.2.2.2.2.2.2.2.2.2.2.2.2.2.2.2.2.2.2.2.2.2.2.2.2.2.2.1
theorem dX8_isLawful_54 : decode cX8_isLawful 54 = .ok (.iaload, 1) := g132_X8_isLawful.2.2.2.2.2.2.2.2.2.2.2.2.2.2.2.2.2.2.2.2.2.2.2.2.2.2.2.2.2.2.2.2.2.1
theorem dX8_isLawful_55 : decode cX8_isLawful 55 = .ok (.ifCond .le 16, 3) := g132_X8_isLawful.2.2.2.2.2.2.2.2.2.2.2.2.2.2.2.2.2.2.2.2.2.2.2.2.2.2.2.2.2.2.2.2.2.2.1
theorem dX8_isLawful_58 : decode cX8_isLawful 58 = .ok (.aload_n 0, 1) := g132_X8_isLawful.2.2.2.2.2.2.2.2.2.2.2.2.2.2.2.2.2.2.2.2.2.2.2.2.2.2.2.2.2.2.2.2.2.2.2.1
theorem dX8_isLawful_59 : decode cX8_isLawful 59 = .ok (.lload_n 2, 1) := g132_X8_isLawful.2.2.2.2.2.2.2.2.2.2.2.2.2.2.2.2.2.2.2.2.2.2.2.2.2.2.2.2.2.2.2.2.2.2.2.2.1
theorem dX8_isLawful_60 : decode cX8_isLawful 60 = .ok (.invokevirtual 118, 3) := g132_X8_isLawful.2.2.2.2.2.2.2.2.2.2.2.2.2.2.2.2.2.2.2.2.2.2.2.2.2.2.2.2.2.2.2.2.2.2.2.2.2.1
theorem dX8_isLawful_63 : decode cX8_isLawful 63 = .ok (.iconst 2, 1) := g132_X8_isLawful.2.2.2.2.2.2.2.2.2.2.2.2.2.2.2.2.2.2.2.2.2.2.2.2.2.2.2.2.2.2.2.2.2.2.2.2.2.2.1
theorem dX8_isLawful_64 : decode cX8_isLawful 64 = .ok (.if_icmp .ne 7, 3) := g132_X8_isLawful.2.2.2.2.2.2.2.2.2.2.2.2.2.2.2.2.2.2.2.2.2.2.2.2.2.2.2.2.2.2.2.2.2.2.2.2.2.2.2.1
theorem dX8_isLawful_67 : decode cX8_isLawful 67 = .ok (.iconst 1, 1) := g132_X8_isLawful.2.2.2.2.2.2.2.2.2.2.2.2.2.2.2.2.2.2.2.2.2.2.2.2.2.2.2.2.2.2.2.2.2.2.2.2.2.2.2.2.1
theorem dX8_isLawful_68 : decode cX8_isLawful 68 = .ok (.goto 4, 3) := g132_X8_isLawful.2.2.2.2.2.2.2.2.2.2.2.2.2.2.2.2.2.2.2.2.2.2.2.2.2.2.2.2.2.2.2.2.2.2.2.2.2.2.2.2.2.1
theorem dX8_isLawful_71 : decode cX8_isLawful 71 = .ok (.iconst 0, 1) := g132_X8_isLawful.2.2.2.2.2.2.2.2.2.2.2.2.2.2.2.2.2.2.2.2.2.2.2.2.2.2.2.2.2.2.2.2.2.2.2.2.2.2.2.2.2.2.1
theorem dX8_isLawful_72 : decode cX8_isLawful 72 = .ok (.ireturn, 1) := g132_X8_isLawful.2.2.2.2.2.2.2.2.2.2.2.2.2.2.2.2.2.2.2.2.2.2.2.2.2.2.2.2.2.2.2.2.2.2.2.2.2.2.2.2.2.2.2.1
theorem dX8_isLawful_73 : decode cX8_isLawful 73 = .ok (.iconst 1, 1) := g132_X8_isLawful.2.2.2.2.2.2.2.2.2.2.2.2.2.2.2.2.2.2.2.2.2.2.2.2.2.2.2.2.2.2.2.2.2.2.2.2.2.2.2.2.2.2.2.2.1
theorem dX8_isLawful_74 : decode cX8_isLawful 74 = .ok (.istore 5, 2) := g132_X8_isLawful.2.2.2.2.2.2.2.2.2.2.2.2.2.2.2.2.2.2.2.2.2.2.2.2.2.2.2.2.2.2.2.2.2.2.2.2.2.2.2.2.2.2.2.2.2.1
theorem dX8_isLawful_76 : decode cX8_isLawful 76 = .ok (.iconst 0, 1) := g132_X8_isLawful.2.2.2.2.2.2.2.2.2.2.2.2.2.2.2.2.2.2.2.2.2.2.2.2.2.2.2.2.2.2.2.2.2.2.2.2.2.2.2.2.2.2.2.2.2.2.1
theorem dX8_isLawful_77 : decode cX8_isLawful 77 = .ok (.istore 6, 2) := g132_X8_isLawful.2.2.2.2.2.2.2.2.2.2.2.2.2.2.2.2.2.2.2.2.2.2.2.2.2.2.2.2.2.2.2.2.2.2.2.2.2.2.2.2.2.2.2.2.2.2.2.1
theorem dX8_isLawful_79 : decode cX8_isLawful 79 = .ok (.iload 6, 2) := g132_X8_isLawful.2.2.2.2.2.2.2.2.2.2.2.2.2.2.2.2.2.2.2.2.2.2.2.2.2.2.2.2.2.2.2.2.2.2.2.2.2.2.2.2.2.2.2.2.2.2.2.2.1
theorem dX8_isLawful_81 : decode cX8_isLawful 81 = .ok (.iload 4, 2) := g132_X8_isLawful.2.2.2.2.2.2.2.2.2.2.2.2.2.2.2.2.2.2.2.2.2.2.2.2.2.2.2.2.2.2.2.2.2.2.2.2.2.2.2.2.2.2.2.2.2.2.2.2.2.1
theorem dX8_isLawful_83 : decode cX8_isLawful 83 = .ok (.iconst 1, 1) := g132_X8_isLawful.2.2.2.2.2.2.2.2.2.2.2.2.2.2.2.2.2.2.2.2.2.2.2.2.2.2.2.2.2.2.2.2.2.2.2.2.2.2.2.2.2.2.2.2.2.2.2.2.2.2.1
theorem dX8_isLawful_84 : decode cX8_isLawful 84 = .ok (.if_icmp .ne 16, 3) := g132_X8_isLawful.2.2.2.2.2.2.2.2.2.2.2.2.2.2.2.2.2.2.2.2.2.2.2.2.2.2.2.2.2.2.2.2.2.2.2.2.2.2.2.2.2.2.2.2.2.2.2.2.2.2.2.1
theorem dX8_isLawful_87 : decode cX8_isLawful 87 = .ok (.aload_n 0, 1) := g132_X8_isLawful.2.2.2.2.2.2.2.2.2.2.2.2.2.2.2.2.2.2.2.2.2.2.2.2.2.2.2.2.2.2.2.2.2.2.2.2.2.2.2.2.2.2.2.2.2.2.2.2.2.2.2.2.1
theorem dX8_isLawful_88 : decode cX8_isLawful 88 = .ok (.getfield 20, 3) := g132_X8_isLawful.2.2.2.2.2.2.2.2.2.2.2.2.2.2.2.2.2.2.2.2.2.2.2.2.2.2.2.2.2.2.2.2.2.2.2.2.2.2.2.2.2.2.2.2.2.2.2.2.2.2.2.2.2.1
theorem dX8_isLawful_91 : decode cX8_isLawful 91 = .ok (.iconst 5, 1) := g132_X8_isLawful.2.2.2.2.2.2.2.2.2.2.2.2.2.2.2.2.2.2.2.2.2.2.2.2.2.2.2.2.2.2.2.2.2.2.2.2.2.2.2.2.2.2.2.2.2.2.2.2.2.2.2.2.2.2.1
theorem dX8_isLawful_92 : decode cX8_isLawful 92 = .ok (.iload_n 1, 1) := g132_X8_isLawful.2.2.2.2.2.2.2.2.2.2.2.2.2.2.2.2.2.2.2.2.2.2.2.2.2.2.2.2.2.2.2.2.2.2.2.2.2.2.2.2.2.2.2.2.2.2.2.2.2.2.2.2.2.2.2.1
theorem dX8_isLawful_93 : decode cX8_isLawful 93 = .ok (.imul, 1) := g132_X8_isLawful.2.2.2.2.2.2.2.2.2.2.2.2.2.2.2.2.2.2.2.2.2.2.2.2.2.2.2.2.2.2.2.2.2.2.2.2.2.2.2.2.2.2.2.2.2.2.2.2.2.2.2.2.2.2.2.2.1
theorem dX8_isLawful_94 : decode cX8_isLawful 94 = .ok (.iconst 2, 1) := g132_X8_isLawful.2.2.2.2.2.2.2.2.2.2.2.2.2.2.2.2.2.2.2.2.2.2.2.2.2.2.2.2.2.2.2.2.2.2.2.2.2.2.2.2.2.2.2.2.2.2.2.2.2.2.2.2.2.2.2.2.2.1
theorem dX8_isLawful_95 : decode cX8_isLawful 95 = .ok (.iadd, 1) := g132_X8_isLawful.2.2.2.2.2.2.2.2.2.2.2.2.2.2.2.2.2.2.2.2.2.2.2.2.2.2.2.2.2.2.2.2.2.2.2.2.2.2.2.2.2.2.2.2.2.2.2.2.2.2.2.2.2.2.2.2.2.2.1
theorem dX8_isLawful_96 : decode cX8_isLawful 96 = .ok (.iaload, 1) := g132_X8_isLawful.2.2.2.2.2.2.2.2.2.2.2.2.2.2.2.2.2.2.2.2.2.2.2.2.2.2.2.2.2.2.2.2.2.2.2.2.2.2.2.2.2.2.2.2.2.2.2.2.2.2.2.2.2.2.2.2.2.2.2
set_option maxRecDepth 100000 in
theorem g133_X8_isLawful : decode cX8_isLawful 97 = .ok (.goto 4, 3) ∧ decode cX8_isLawful 100 = .ok (.iconst 1, 1) ∧ decode cX8_isLawful 101 = .ok (.if_icmp .ge 26, 3) ∧ decode cX8_isLawful 104 = .ok (.iload 5, 2) ∧ decode cX8_isLawful 106 = .ok (.ifCond .eq 21, 3) ∧ decode cX8_isLawful 109 = .ok (.aload_n 0, 1) ∧ decode cX8_isLawful 110 = .ok (.iload_n 1, 1) ∧ decode cX8_isLawful 111 = .ok (.lload_n 2, 1) ∧ decode cX8_isLawful 112 = .ok (.iload 6, 2) ∧ decode cX8_isLawful 114 = .ok (.i2l, 1) ∧ decode cX8_isLawful 115 = .ok (.ladd, 1) ∧ decode cX8_isLawful 116 = .ok (.invokevirtual 136, 3) ∧ decode cX8_isLawful 119 = .ok (.istore 5, 2) ∧ decode cX8_isLawful 121 = .ok (.iinc 6 1, 3) ∧ decode cX8_isLawful 124 = .ok (.goto (-45), 3) ∧ decode cX8_isLawful 127 = .ok (.iload 5, 2) ∧ decode cX8_isLawful 129 = .ok (.ireturn, 1) := by decide +kernel
theorem dX8_isLawful_97 : decode cX8_isLawful 97 = .ok (.goto 4, 3) := g133_X8_isLawful.1
theorem dX8_isLawful_100 : decode cX8_isLawful 100 = .ok (.iconst 1, 1) := g133_X8_isLawful.2.1
theorem dX8_isLawful_101 : decode cX8_isLawful 101 = .ok (.if_icmp .ge 26, 3) := g133_X8_isLawful.2.2.1
theorem dX8_isLawful_104 : decode cX8_isLawful 104 = .ok (.iload 5, 2) := g133_X8_isLawful.2.2.2.1
theorem dX8_isLawful_106 : decode cX8_isLawful 106 = .ok (.ifCond .eq 21, 3) := g133_X8_isLawful.2.2.2.2.1
theorem dX8_isLawful_109 : decode cX8_isLawful 109 = .ok (.aload_n 0, 1) := g133_X8_isLawful.2.2.2.2.2.1
theorem dX8_isLawful_110 : decode cX8_isLawful 110 = .ok (.iload_n 1, 1) := g133_X8_isLawful.2.2.2.2.2.2.1
theorem dX8_isLawful_111 : decode cX8_isLawful 111 = .ok (.lload_n 2, 1) := g133_X8_isLawful.2.2.2.2.2.2.2.1
theorem dX8_isLawful_112 : decode cX8_isLawful 112 = .ok (.iload 6, 2) := g133_X8_isLawful.2.2.2.2.2.2.2.2.1
theorem dX8_isLawful_114 : decode cX8_isLawful 114 = .ok (.i2l, 1) := g133_X8_isLawful.2.2.2.2.2.2.2.2.2.1
theorem dX8_isLawful_115 : decode cX8_isLawful 115 = .ok (.ladd, 1) := g133_X8_isLawful.2.2.2.2.2.2.2.2.2.2.1
theorem dX8_isLawful_116 : decode cX8_isLawful 116 = .ok (.invokevirtual 136, 3) := g133_X8_isLawful.2.2.2.2.2.2.2.2.2.2.2.1
theorem dX8_isLawful_119 : decode cX8_isLawful 119 = .ok (.istore 5, 2) := g133_X8_isLawful.2.2.2.2.2.2.2.2.2.2.2.2.1
theorem dX8_isLawful_121 : decode cX8_isLawful 121 = .ok (.iinc 6 1, 3) := g133_X8_isLawful.2.2.2.2.2.2.2.2.2.2.2.2.2.1
theorem dX8_isLawful_124 : decode cX8_isLawful 124 = .ok (.goto (-45), 3) := g133_X8_isLawful.2.2.2.2.2.2.2.2.2.2.2.2.2.2.1
theorem dX8_isLawful_127 : decode cX8_isLawful 127 = .ok (.iload 5, 2) := g133_X8_isLawful.2.2.2.2.2.2.2.2.2.2.2.2.2.2.2.1
theorem dX8_isLawful_129 : decode cX8_isLawful 129 = .ok (.ireturn, 1) := g133_X8_isLawful.2.2.2.2.2.2.2.2.2.2.2.2.2.2.2.2
set_option maxRecDepth 100000 in
theorem g134_X8_lawful : decode cX8_lawful 0 = .ok (.aload_n 0, 1) ∧ decode cX8_lawful 1 = .ok (.iload_n 1, 1) ∧ decode cX8_lawful 2 = .ok (.invokevirtual 107, 3) ∧ decode cX8_lawful 5 = .ok (.ifCond .eq 10, 3) ∧ decode cX8_lawful 8 = .ok (.lload_n 2, 1) ∧ decode cX8_lawful 9 = .ok (.invokestatic 114, 3) ∧ decode cX8_lawful 12 = .ok (.ifCond .ne 7, 3) ∧ decode cX8_lawful 15 = .ok (.iconst (-1), 1) ∧ decode cX8_lawful 16 = .ok (.goto 17, 3) ∧ decode cX8_lawful 19 = .ok (.aload_n 0, 1) ∧ decode cX8_lawful 20 = .ok (.iload_n 1, 1) ∧ decode cX8_lawful 21 = .ok (.lload_n 2, 1) ∧ decode cX8_lawful 22 = .ok (.invokevirtual 140, 3) ∧ decode cX8_lawful 25 = .ok (.ifCond .eq 7, 3) ∧ decode cX8_lawful 28 = .ok (.iconst 1, 1) ∧ decode cX8_lawful 29 = .ok (.goto 4, 3) ∧ decode cX8_lawful 32 = .ok (.iconst 0, 1) ∧ decode cX8_lawful 33 = .ok (.ireturn, 1) := by decide +kernel
theorem dX8_lawful_0 : decode cX8_lawful 0 = .ok (.aload_n 0, 1) := g134_X8_lawful.1
theorem dX8_lawful_1 : decode cX8_lawful 1 = .ok (.iload_n 1, 1) := g134_X8_lawful.2.1
theorem dX8_lawful_2 : decode cX8_lawful 2 = .ok (.invokevirtual 107, 3) := g134_X8_lawful.2.2.1
theorem dX8_lawful_5 : decode cX8_lawful 5 = .ok (.ifCond .eq 10, 3) := g134_X8_lawful.2.2.2.1
theorem dX8_lawful_8 : decode cX8_lawful 8 = .ok (.lload_n 2, 1) := g134_X8_lawful.2.2.2.2.1
theorem dX8_lawful_9 : decode cX8_lawful 9 = .ok (.invokestatic 114, 3) := g134_X8_lawful.2.2.2.2.2.1
theorem dX8_lawful_12 : decode cX8_lawful 12 = .ok (.ifCond .ne 7, 3) := g134_X8_lawful.2.2.2.2.2.2.1
theorem dX8_lawful_15 : decode cX8_lawful 15 = .ok (.iconst (-1), 1) := g134_X8_lawful.2.2.2.2.2.2.2.1
theorem dX8_lawful_16 : decode cX8_lawful 16 = .ok (.goto 17, 3) := g134_X8_lawful.2.2.2.2.2.2.2.2.1
theorem dX8_lawful_19 : decode cX8_lawful 19 = .ok (.aload_n 0, 1) := g134_X8_lawful.2.2.2.2.2.2.2.2.2.1
theorem dX8_lawful_20 : decode cX8_lawful 20 = .ok (.iload_n 1, 1) := g134_X8_lawful.2.2.2.2.2.2.2.2.2.2.1
theorem dX8_lawful_21 : decode cX8_lawful 21 = .ok (.lload_n 2, 1) := g134_X8_lawful.2.2.2.2.2.2.2.2.2.2.2.1
theorem dX8_lawful_22 : decode cX8_lawful 22 = .ok (.invokevirtual 140, 3) := g134_X8_lawful.2.2.2.2.2.2.2.2.2.2.2.2.1
theorem dX8_lawful_25 : decode cX8_lawful 25 = .ok (.ifCond .eq 7, 3) := g134_X8_lawful.2.2.2.2.2.2.2.2.2.2.2.2.2.1
theorem dX8_lawful_28 : decode cX8_lawful 28 = .ok (.iconst 1, 1) := g134_X8_lawful.2.2.2.2.2.2.2.2.2.2.2.2.2.2.1
theorem dX8_lawful_29 : decode cX8_lawful 29 = .ok (.goto 4, 3) := g134_X8_lawful.2.2.2.2.2.2.2.2.2.2.2.2.2.2.2.1
theorem dX8_lawful_32 : decode cX8_lawful 32 = .ok (.iconst 0, 1) := g134_X8_lawful.2.2.2.2.2.2.2.2.2.2.2.2.2.2.2.2.1
theorem dX8_lawful_33 : decode cX8_lawful 33 = .ok (.ireturn, 1) := g134_X8_lawful.2.2.2.2.2.2.2.2.2.2.2.2.2.2.2.2.2
set_option maxRecDepth 100000 in
theorem g135_X8_lasts : decode cX8_lasts 0 = .ok (.aload_n 0, 1) ∧ decode cX8_lasts 1 = .ok (.getfield 20, 3) ∧ decode cX8_lasts 4 = .ok (.iconst 5, 1) ∧ decode cX8_lasts 5 = .ok (.iload_n 1, 1) ∧ decode cX8_lasts 6 = .ok (.imul, 1) ∧ decode cX8_lasts 7 = .ok (.iconst 0, 1) ∧ decode cX8_lasts 8 = .ok (.iadd, 1) ∧ decode cX8_lasts 9 = .ok (.iaload, 1) ∧ decode cX8_lasts 10 = .ok (.istore_n 2, 1) ∧ decode cX8_lasts 11 = .ok (.iload_n 2, 1) ∧ decode cX8_lasts 12 = .ok (.iconst 1, 1) ∧ decode cX8_lasts 13 = .ok (.if_icmp .eq 8, 3) ∧ decode cX8_lasts 16 = .ok (.iload_n 2, 1) ∧ decode cX8_lasts 17 = .ok (.iconst 2, 1) ∧ decode cX8_lasts 18 = .ok (.if_icmp .ne 16, 3) ∧ decode cX8_lasts 21 = .ok (.aload_n 0, 1) ∧ decode cX8_lasts 22 = .ok (.getfield 20, 3) ∧ decode cX8_lasts 25 = .ok (.iconst 5, 1) ∧ decode cX8_lasts 26 = .ok (.iload_n 1, 1) ∧ decode cX8_lasts 27 = .ok (.imul, 1) ∧ decode cX8_lasts 28 = .ok (.iconst 2, 1) ∧ decode cX8_lasts 29 = .ok (.iadd, 1) ∧ decode cX8_lasts 30 = .ok (.iaload, 1) ∧ decode cX8_lasts 31 = .ok (.goto 4, 3) ∧ decode cX8_lasts 34 = .ok (.iconst 1, 1) ∧ decode cX8_lasts 35 = .ok (.ireturn, 1) := by decide +kernel
theorem dX8_lasts_0 : decode cX8_lasts 0 = .ok (.aload_n 0, 1) := g135_X8_lasts.1
theorem dX8_lasts_1 : decode cX8_lasts 1 = .ok (.getfield 20, 3) := g135_X8_lasts.2.1
theorem dX8_lasts_4 : decode cX8_lasts 4 = .ok (.iconst 5, 1) := g135_X8_lasts.2.2.1
theorem dX8_lasts_5 : decode cX8_lasts 5 = .ok (.iload_n 1, 1) := g135_X8_lasts.2.2.2.1
theorem dX8_lasts_6 : decode cX8_lasts 6 = .ok (.imul, 1) := g135_X8_lasts.2.2.2.2.1
theorem dX8_lasts_7 : decode cX8_lasts 7 = .ok (.iconst 0, 1) := g135_X8_lasts.2.2.2.2.2.1
theorem dX8_lasts_8 : decode cX8_lasts 8 = .ok (.iadd, 1) := g135_X8_lasts.2.2.2.2.2.2.1
theorem dX8_lasts_9 : decode cX8_lasts 9 = .ok (.iaload, 1) := g135_X8_lasts.2.2.2.2.2.2.2.1
theorem dX8_lasts_10 : decode cX8_lasts 10 = .ok (.istore_n 2, 1) := g135_X8_lasts.2.2.2.2.2.2.2.2.1
theorem dX8_lasts_11 : decode cX8_lasts 11 = .ok (.iload_n 2, 1) := g135_X8_lasts.2.2.2.2.2.2.2.2.2.1
theorem dX8_lasts_12 : decode cX8_lasts 12 = .ok (.iconst 1, 1) := g135_X8_lasts.2.2.2.2.2.2.2.2.2.2.1
theorem dX8_lasts_13 : decode cX8_lasts 13 = .ok (.if_icmp .eq 8, 3) := g135_X8_lasts.2.2.2.2.2.2.2.2.2.2.2.1
theorem dX8_lasts_16 : decode cX8_lasts 16 = .ok (.iload_n 2, 1) := g135_X8_lasts.2.2.2.2.2.2.2.2.2.2.2.2.1
theorem dX8_lasts_17 : decode cX8_lasts 17 = .ok (.iconst 2, 1) := g135_X8_lasts.2.2.2.2.2.2.2.2.2.2.2.2.2.1
theorem dX8_lasts_18 : decode cX8_lasts 18 = .ok (.if_icmp .ne 16, 3) := g135_X8_lasts.2.2.2.2.2.2.2.2.2.2.2.2.2.2.1
theorem dX8_lasts_21 : decode cX8_lasts 21 = .ok (.aload_n 0, 1) := g135_X8_lasts.2.2.2.2.2.2.2.2.2.2.2.2.2.2.2.1
theorem dX8_lasts_22 : decode cX8_lasts 22 = .ok (.getfield 20, 3) := g135_X8_lasts.2.2.2.2.2.2.2.2.2.2.2.2.2.2.2.2.1
theorem dX8_lasts_25 : decode cX8_lasts 25 = .ok (.iconst 5, 1) := g135_X8_lasts.2.2.2.2.2.2.2.2.2.2.2.2.2.2.2.2.2.1
theorem dX8_lasts_26 : decode cX8_lasts 26 = .ok (.iload_n 1, 1) := g135_X8_lasts.2.2.2.2.2.2.2.2.2.2.2.2.2.2.2.2.2.2.1
theorem dX8_lasts_27 : decode cX8_lasts 27 = .ok (.imul, 1) := g135_X8_lasts.2.2.2.2.2.2.2.2.2.2.2.2.2.2.2.2.2.2.2.1
theorem dX8_lasts_28 : decode cX8_lasts 28 = .ok (.iconst 2, 1) := g135_X8_lasts.2.2.2.2.2.2.2.2.2.2.2.2.2.2.2.2.2.2.2.2.1
theorem dX8_lasts_29 : decode cX8_lasts 29 = .ok (.iadd, 1) := g135_X8_lasts.2.2.2.2.2.2.2.2.2.2.2.2.2.2.2.2.2.2.2.2.2.1
theorem dX8_lasts_30 : decode cX8_lasts 30 = .ok (.iaload, 1) := g135_X8_lasts.2.2.2.2.2.2.2.2.2.2.2.2.2.2.2.2.2.2.2.2.2.2.1
theorem dX8_lasts_31 : decode cX8_lasts 31 = .ok (.goto 4, 3) := g135_X8_lasts.2.2.2.2.2.2.2.2.2.2.2.2.2.2.2.2.2.2.2.2.2.2.2.1
theorem dX8_lasts_34 : decode cX8_lasts 34 = .ok (.iconst 1, 1) := g135_X8_lasts.2.2.2.2.2.2.2.2.2.2.2.2.2.2.2.2.2.2.2.2.2.2.2.2.1
theorem dX8_lasts_35 : decode cX8_lasts 35 = .ok (.ireturn, 1) := g135_X8_lasts.2.2.2.2.2.2.2.2.2.2.2.2.2.2.2.2.2.2.2.2.2.2.2.2.2
set_option maxRecDepth 100000 in
theorem g136_X8_tell : decode cX8_tell 0 = .ok (.aload_n 0, 1) ∧ decode cX8_tell 1 = .ok (.iload_n 1, 1) ∧ decode cX8_tell 2 = .ok (.invokevirtual 107, 3) ∧ decode cX8_tell 5 = .ok (.ifCond .ne 5, 3) ∧ decode cX8_tell 8 = .ok (.iconst (-1), 1) ∧ decode cX8_tell 9 = .ok (.ireturn, 1) ∧ decode cX8_tell 10 = .ok (.aload_n 0, 1) ∧ decode cX8_tell 11 = .ok (.getfield 89, 3) ∧ decode cX8_tell 14 = .ok (.bipush 8, 2) ∧ decode cX8_tell 16 = .ok (.if_icmp .ne 6, 3) ∧ decode cX8_tell 19 = .ok (.bipush (-3), 2) ∧ decode cX8_tell 21 = .ok (.ireturn, 1) ∧ decode cX8_tell 22 = .ok (.aload_n 0, 1) ∧ decode cX8_tell 23 = .ok (.getfield 33, 3) ∧ decode cX8_tell 26 = .ok (.aload_n 0, 1) ∧ decode cX8_tell 27 = .ok (.getfield 89, 3) ∧ decode cX8_tell 30 = .ok (.iload_n 1, 1) ∧ decode cX8_tell 31 = .ok (.iastore, 1) ∧ decode cX8_tell 32 = .ok (.aload_n 0, 1) ∧ decode cX8_tell 33 = .ok (.dup, 1) ∧ decode cX8_tell 34 = .ok (.getfield 89, 3) ∧ decode cX8_tell 37 = .ok (.iconst 1, 1) ∧ decode cX8_tell 38 = .ok (.iadd, 1) ∧ decode cX8_tell 39 = .ok (.putfield 89, 3) ∧ decode cX8_tell 42 = .ok (.aload_n 0, 1) ∧ decode cX8_tell 43 = .ok (.getfield 89, 3) ∧ decode cX8_tell 46 = .ok (.ireturn, 1) := by decide +kernel
theorem dX8_tell_0 : decode cX8_tell 0 = .ok (.aload_n 0, 1) := g136_X8_tell.1
theorem dX8_tell_1 : decode cX8_tell 1 = .ok (.iload_n 1, 1) := g136_X8_tell.2.1
theorem dX8_tell_2 : decode cX8_tell 2 = .ok (.invokevirtual 107, 3) := g136_X8_tell.2.2.1
theorem dX8_tell_5 : decode cX8_tell 5 = .ok (.ifCond .ne 5, 3) := g136_X8_tell.2.2.2.1
theorem dX8_tell_8 : decode cX8_tell 8 = .ok (.iconst (-1), 1) := g136_X8_tell.2.2.2.2.1
theorem dX8_tell_9 : decode cX8_tell 9 = .ok (.ireturn, 1) := g136_X8_tell.2.2.2.2.2.1
theorem dX8_tell_10 : decode cX8_tell 10 = .ok (.aload_n 0, 1) := g136_X8_tell.2.2.2.2.2.2.1
theorem dX8_tell_11 : decode cX8_tell 11 = .ok (.getfield 89, 3) := g136_X8_tell.2.2.2.2.2.2.2.1
theorem dX8_tell_14 : decode cX8_tell 14 = .ok (.bipush 8, 2) := g136_X8_tell.2.2.2.2.2.2.2.2.1
theorem dX8_tell_16 : decode cX8_tell 16 = .ok (.if_icmp .ne 6, 3) := g136_X8_tell.2.2.2.2.2.2.2.2.2.1
theorem dX8_tell_19 : decode cX8_tell 19 = .ok (.bipush (-3), 2) := g136_X8_tell.2.2.2.2.2.2.2.2.2.2.1
theorem dX8_tell_21 : decode cX8_tell 21 = .ok (.ireturn, 1) := g136_X8_tell.2.2.2.2.2.2.2.2.2.2.2.1
theorem dX8_tell_22 : decode cX8_tell 22 = .ok (.aload_n 0, 1) := g136_X8_tell.2.2.2.2.2.2.2.2.2.2.2.2.1
theorem dX8_tell_23 : decode cX8_tell 23 = .ok (.getfield 33, 3) := g136_X8_tell.2.2.2.2.2.2.2.2.2.2.2.2.2.1
theorem dX8_tell_26 : decode cX8_tell 26 = .ok (.aload_n 0, 1) := g136_X8_tell.2.2.2.2.2.2.2.2.2.2.2.2.2.2.1
theorem dX8_tell_27 : decode cX8_tell 27 = .ok (.getfield 89, 3) := g136_X8_tell.2.2.2.2.2.2.2.2.2.2.2.2.2.2.2.1
theorem dX8_tell_30 : decode cX8_tell 30 = .ok (.iload_n 1, 1) := g136_X8_tell.2.2.2.2.2.2.2.2.2.2.2.2.2.2.2.2.1
theorem dX8_tell_31 : decode cX8_tell 31 = .ok (.iastore, 1) := g136_X8_tell.2.2.2.2.2.2.2.2.2.2.2.2.2.2.2.2.2.1
theorem dX8_tell_32 : decode cX8_tell 32 = .ok (.aload_n 0, 1) := g136_X8_tell.2.2.2.2.2.2.2.2.2.2.2.2.2.2.2.2.2.2.1
theorem dX8_tell_33 : decode cX8_tell 33 = .ok (.dup, 1) := g136_X8_tell.2.2.2.2.2.2.2.2.2.2.2.2.2.2.2.2.2.2.2.1
theorem dX8_tell_34 : decode cX8_tell 34 = .ok (.getfield 89, 3) := g136_X8_tell.2.2.2.2.2.2.2.2.2.2.2.2.2.2.2.2.2.2.2.2.1
theorem dX8_tell_37 : decode cX8_tell 37 = .ok (.iconst 1, 1) := g136_X8_tell.2.2.2.2.2.2.2.2.2.2.2.2.2.2.2.2.2.2.2.2.2.1
theorem dX8_tell_38 : decode cX8_tell 38 = .ok (.iadd, 1) := g136_X8_tell.2.2.2.2.2.2.2.2.2.2.2.2.2.2.2.2.2.2.2.2.2.2.1
theorem dX8_tell_39 : decode cX8_tell 39 = .ok (.putfield 89, 3) := g136_X8_tell.2.2.2.2.2.2.2.2.2.2.2.2.2.2.2.2.2.2.2.2.2.2.2.1
theorem dX8_tell_42 : decode cX8_tell 42 = .ok (.aload_n 0, 1) := g136_X8_tell.2.2.2.2.2.2.2.2.2.2.2.2.2.2.2.2.2.2.2.2.2.2.2.2.1
theorem dX8_tell_43 : decode cX8_tell 43 = .ok (.getfield 89, 3) := g136_X8_tell.2.2.2.2.2.2.2.2.2.2.2.2.2.2.2.2.2.2.2.2.2.2.2.2.2.1
theorem dX8_tell_46 : decode cX8_tell 46 = .ok (.ireturn, 1) := g136_X8_tell.2.2.2.2.2.2.2.2.2.2.2.2.2.2.2.2.2.2.2.2.2.2.2.2.2.2
set_option maxRecDepth 100000 in
theorem g137_X8_noRow : decode cX8_noRow 0 = .ok (.aload_n 0, 1) ∧ decode cX8_noRow 1 = .ok (.getfield 89, 3) ∧ decode cX8_noRow 4 = .ok (.istore_n 1, 1) ∧ decode cX8_noRow 5 = .ok (.aload_n 0, 1) ∧ decode cX8_noRow 6 = .ok (.iconst 0, 1) ∧ decode cX8_noRow 7 = .ok (.putfield 89, 3) ∧ decode cX8_noRow 10 = .ok (.iload_n 1, 1) ∧ decode cX8_noRow 11 = .ok (.ireturn, 1) := by decide +kernel
theorem dX8_noRow_0 : decode cX8_noRow 0 = .ok (.aload_n 0, 1) := g137_X8_noRow.1
theorem dX8_noRow_1 : decode cX8_noRow 1 = .ok (.getfield 89, 3) := g137_X8_noRow.2.1
theorem dX8_noRow_4 : decode cX8_noRow 4 = .ok (.istore_n 1, 1) := g137_X8_noRow.2.2.1
theorem dX8_noRow_5 : decode cX8_noRow 5 = .ok (.aload_n 0, 1) := g137_X8_noRow.2.2.2.1
theorem dX8_noRow_6 : decode cX8_noRow 6 = .ok (.iconst 0, 1) := g137_X8_noRow.2.2.2.2.1
theorem dX8_noRow_7 : decode cX8_noRow 7 = .ok (.putfield 89, 3) := g137_X8_noRow.2.2.2.2.2.1
theorem dX8_noRow_10 : decode cX8_noRow 10 = .ok (.iload_n 1, 1) := g137_X8_noRow.2.2.2.2.2.2.1
theorem dX8_noRow_11 : decode cX8_noRow 11 = .ok (.ireturn, 1) := g137_X8_noRow.2.2.2.2.2.2.2
set_option maxRecDepth 100000 in
theorem g138_X8_soon : decode cX8_soon 0 = .ok (.lload_n 1, 1) ∧ decode cX8_soon 1 = .ok (.invokestatic 114, 3) ∧ decode cX8_soon 4 = .ok (.ifCond .eq 21, 3) ∧ decode cX8_soon 7 = .ok (.iload_n 3, 1) ∧ decode cX8_soon 8 = .ok (.i2l, 1) ∧ decode cX8_soon 9 = .ok (.ldc2_w 130, 3) ∧ decode cX8_soon 12 = .ok (.aload_n 0, 1) ∧ decode cX8_soon 13 = .ok (.getfield 89, 3) ∧ decode cX8_soon 16 = .ok (.iconst 1, 1) ∧ decode cX8_soon 17 = .ok (.isub, 1) ∧ decode cX8_soon 18 = .ok (.i2l, 1) ∧ decode cX8_soon 19 = .ok (.invokestatic 53, 3) ∧ decode cX8_soon 22 = .ok (.ifCond .ne 7, 3) ∧ decode cX8_soon 25 = .ok (.ldc2_w 130, 3) ∧ decode cX8_soon 28 = .ok (.lreturn, 1) ∧ decode cX8_soon 29 = .ok (.lload_n 1, 1) ∧ decode cX8_soon 30 = .ok (.lstore 4, 2) ∧ decode cX8_soon 32 = .ok (.iconst 0, 1) ∧ decode cX8_soon 33 = .ok (.istore 6, 2) ∧ decode cX8_soon 35 = .ok (.iload 6, 2) ∧ decode cX8_soon 37 = .ok (.aload_n 0, 1) ∧ decode cX8_soon 38 = .ok (.getfield 89, 3) ∧ decode cX8_soon 41 = .ok (.if_icmp .ge 88, 3) ∧ decode cX8_soon 44 = .ok (.lload 4, 2) ∧ decode cX8_soon 46 = .ok (.ldc2_w 143, 3) ∧ decode cX8_soon 49 = .ok (.ladd, 1) ∧ decode cX8_soon 50 = .ok (.lstore 7, 2) ∧ decode cX8_soon 52 = .ok (.lload 4, 2) ∧ decode cX8_soon 54 = .ok (.lload 7, 2) ∧ decode cX8_soon 56 = .ok (.lcmp, 1) ∧ decode cX8_soon 57 = .ok (.ifCond .gt 28, 3) ∧ decode cX8_soon 60 = .ok (.aload_n 0, 1) ∧ decode cX8_soon 61 = .ok (.aload_n 0, 1) ∧ decode cX8_soon 62 = .ok (.getfield 33, 3) ∧ decode cX8_soon 65 = .ok (.iload 6, 2) ∧ decode cX8_soon 67 = .ok (.iaload, 1) ∧ decode cX8_soon 68 = .ok (.lload 4, 2) ∧ decode cX8_soon 70 = .ok (.invokevirtual 140, 3) ∧ decode cX8_soon 73 = .ok (.ifCond .ne 12, 3) ∧ decode cX8_soon 76 = .ok (.lload 4, 2) ∧ decode cX8_soon 78 = .ok (.lconst 1, 1) ∧ decode cX8_soon 79 = .ok (.ladd, 1) ∧ decode cX8_soon 80 = .ok (.lstore 4, 2) ∧ decode cX8_soon 82 = .ok (.goto (-30), 3) ∧ decode cX8_soon 85 = .ok (.lload 4, 2) ∧ decode cX8_soon 87 = .ok (.lload 7, 2) ∧ decode cX8_soon 89 = .ok (.lcmp, 1) ∧ decode cX8_soon 90 = .ok (.ifCond .le 7, 3) ∧ decode cX8_soon 93 = .ok (.ldc2_w 134, 3) ∧ decode cX8_soon 96 = .ok (.lreturn, 1) ∧ decode cX8_soon 97 = .ok (.aload_n 0, 1) ∧ decode cX8_soon 98 = .ok (.getfield 36, 3) ∧ decode cX8_soon 101 = .ok (.iload 6, 2) ∧ decode cX8_soon 103 = .ok (.lload 4, 2) ∧ decode cX8_soon 105 = .ok (.lastore, 1) ∧ decode cX8_soon 106 = .ok (.lload 4, 2) ∧ decode cX8_soon 108 = .ok (.aload_n 0, 1) ∧ decode cX8_soon 109 = .ok (.aload_n 0, 1) ∧ decode cX8_soon 110 = .ok (.getfield 33, 3) ∧ decode cX8_soon 113 = .ok (.iload 6, 2) := by decide +kernel
theorem dX8_soon_0 : decode cX8_soon 0 = .ok (.lload_n 1, 1) := g138_X8_soon.1
theorem dX8_soon_1 : decode cX8_soon 1 = .ok (.invokestatic 114, 3) := g138_X8_soon.2.1
theorem dX8_soon_4 : decode cX8_soon 4 = .ok (.ifCond .eq 21, 3) := g138_X8_soon.2.2.1
theorem dX8_soon_7 : decode cX8_soon 7 = .ok (.iload_n 3, 1) := g138_X8_soon.2.2.2.1
theorem dX8_soon_8 : decode cX8_soon 8 = .ok (.i2l, 1) := g138_X8_soon.2.2.2.2.1
theorem dX8_soon_9 : decode cX8_soon 9 = .ok (.ldc2_w 130, 3) := g138_X8_soon.2.2.2.2.2.1
theorem dX8_soon_12 : decode cX8_soon 12 = .ok (.aload_n 0, 1) := g138_X8_soon.2.2.2.2.2.2.1
theorem dX8_soon_13 : decode cX8_soon 13 = .ok (.getfield 89, 3) := g138_X8_soon.2.2.2.2.2.2.2.1
theorem dX8_soon_16 : decode cX8_soon 16 = .ok (.iconst 1, 1) := g138_X8_soon.2.2.2.2.2.2.2.2.1
theorem dX8_soon_17 : decode cX8_soon 17 = .ok (.isub, 1) := g138_X8_soon.2.2.2.2.2.2.2.2.2.1
theorem dX8_soon_18 : decode cX8_soon 18 = .ok (.i2l, 1) := g138_X8_soon.2.2.2.2.2.2.2.2.2.2.1
theorem dX8_soon_19 : decode cX8_soon 19 = .ok (.invokestatic 53, 3) := g138_X8_soon.2.2.2.2.2.2.2.2.2.2.2.1
theorem dX8_soon_22 : decode cX8_soon 22 = .ok (.ifCond .ne 7, 3) := g138_X8_soon.2.2.2.2.2.2.2.2.2.2.2.2.1
theorem dX8_soon_25 : decode cX8_soon 25 = .ok (.ldc2_w 130, 3) := g138_X8_soon.2.2.2.2.2.2.2.2.2.2.2.2.2.1
theorem dX8_soon_28 : decode cX8_soon 28 = .ok (.lreturn, 1) := g138_X8_soon.2.2.2.2.2.2.2.2.2.2.2.2.2.2.1
theorem dX8_soon_29 : decode cX8_soon 29 = .ok (.lload_n 1, 1) := g138_X8_soon.2.2.2.2.2.2.2.2.2.2.2.2.2.2.2.1
theorem dX8_soon_30 : decode cX8_soon 30 = .ok (.lstore 4, 2) := g138_X8_soon.2.2.2.2.2.2.2.2.2.2.2.2.2.2.2.2.1
theorem dX8_soon_32 : decode cX8_soon 32 = .ok (.iconst 0, 1) := g138_X8_soon.2.2.2.2.2.2.2.2.2.2.2.2.2.2.2.2.2.1
theorem dX8_soon_33 : decode cX8_soon 33 = .ok (.istore 6, 2) := g138_X8_soon.2.2.2.2.2.2.2.2.2.2.2.2.2.2.2.2.2.2.1
theorem dX8_soon_35 : decode cX8_soon 35 = .ok (.iload 6, 2) := g138_X8_soon.2.2.2.2.2.2.2.2.2.2.2.2.2.2.2.2.2.2.2.1
theorem dX8_soon_37 : decode cX8_soon 37 = .ok (.aload_n 0, 1) := g138_X8_soon.2.2.2.2.2.2.2.2.2.2.2.2.2.2.2.2.2.2.2.2.1
theorem dX8_soon_38 : decode cX8_soon 38 = .ok (.getfield 89, 3) := g138_X8_soon.2.2.2.2.2.2.2.2.2.2.2.2.2.2.2.2.2.2.2.2.2.1
theorem dX8_soon_41 : decode cX8_soon 41 = .ok (.if_icmp .ge 88, 3) := g138_X8_soon.2.2.2.2.2.2.2.2.2.2.2.2.2.2.2.2.2.2.2.2.2.2.1
theorem dX8_soon_44 : decode cX8_soon 44 = .ok (.lload 4, 2) := g138_X8_soon.2.2.2.2.2.2.2.2.2.2.2.2.2.2.2.2.2.2.2.2.2.2.2.1
theorem dX8_soon_46 : decode cX8_soon 46 = .ok (.ldc2_w 143, 3) := g138_X8_soon.2.2.2.2.2.2.2.2.2.2.2.2.2.2.2.2.2.2.2.2.2.2.2.2.1
theorem dX8_soon_49 : decode cX8_soon 49 = .ok (.ladd, 1) := g138_X8_soon.2.2.2.2.2.2.2.2.2.2.2.2.2.2.2.2.2.2.2.2.2.2.2.2.2.1
theorem dX8_soon_50 : decode cX8_soon 50 = .ok (.lstore 7, 2) := g138_X8_soon.2.2.2.2.2.2.2.2.2.2.2.2.2.2.2.2.2.2.2.2.2.2.2.2.2.2.1
theorem dX8_soon_52 : decode cX8_soon 52 = .ok (.lload 4, 2) := g138_X8_soon.2.2.2.2.2.2.2.2.2.2.2.2.2.2.2.2.2.2.2.2.2.2.2.2.2.2.2.1
theorem dX8_soon_54 : decode cX8_soon 54 = .ok (.lload 7, 2) := g138_X8_soon.2.2.2.2.2.2.2.2.2.2.2.2.2.2.2.2.2.2.2.2.2.2.2.2.2.2.2.2.1
theorem dX8_soon_56 : decode cX8_soon 56 = .ok (.lcmp, 1) := g138_X8_soon.2.2.2.2.2.2.2.2.2.2.2.2.2.2.2.2.2.2.2.2.2.2.2.2.2.2.2.2.2.1
theorem dX8_soon_57 : decode cX8_soon 57 = .ok (.ifCond .gt 28, 3) := g138_X8_soon.2.2.2.2.2.2.2.2.2.2.2.2.2.2.2.2.2.2.2.2.2.2.2.2.2.2.2.2.2.2.1
theorem dX8_soon_60 : decode cX8_soon 60 = .ok (.aload_n 0, 1) := g138_X8_soon.2.2.2.2.2.2.2.2.2.2.2.2.2.2.2.2.2.2.2.2.2.2.2.2.2.2.2.2.2.2.2.1
theorem dX8_soon_61 : decode cX8_soon 61 = .ok (.aload_n 0, 1) := g138_X8_soon.2.2.2.2.2.2.2.2.2.2.2.2.2.2.2.2.2.2.2.2.2.2.2.2.2.2.2.2.2.2.2.2.1
theorem dX8_soon_62 : decode cX8_soon 62 = .ok (.getfield 33, 3) := g138_X8_soon.2.2.2.2.2.2.2.2.2.2.2.2.2.2.2.2.2.2.2.2.2.2.2.2.2.2.2.2.2.2.2.2.2.1
theorem dX8_soon_65 : decode cX8_soon 65 = .ok (.iload 6, 2) := g138_X8_soon.2.2.2.2.2.2.2.2.2.2.2.2.2.2.2.2.2.2.2.2.2.2.2.2.2.2.2.2.2.2.2.2.2.2.1
theorem dX8_soon_67 : decode cX8_soon 67 = .ok (.iaload, 1) := g138_X8_soon.2.2.2.2.2.2.2.2.2.2.2.2.2.2.2.2.2.2.2.2.2.2.2.2.2.2.2.2.2.2.2.2.2.2.2.1
theorem dX8_soon_68 : decode cX8_soon 68 = .ok (.lload 4, 2) := g138_X8_soon.2.2.2.2.2.2.2.2.2.2.2.2.2.2.2.2.2.2.2.2.2.2.2.2.2.2.2.2.2.2.2.2.2.2.2.2.1
theorem dX8_soon_70 : decode cX8_soon 70 = .ok (.invokevirtual 140, 3) := g138_X8_soon.2.2.2.2.2.2.2.2.2.2.2.2.2.2.2.2.2.2.2.2.2.2.2.2.2.2.2.2.2.2.2.2.2.2.2.2.2.1
theorem dX8_soon_73 : decode cX8_soon 73 = .ok (.ifCond .ne 12, 3) := g138_X8_soon.2.2.2.2.2.2.2.2.2.2.2.2.2.2.2.2.2.2.2.2.2.2.2.2.2.2.2.2.2.2.2.2.2.2.2.2.2.2.1
theorem dX8_soon_76 : decode cX8_soon 76 = .ok (.lload 4, 2) := g138_X8_soon.2.2.2.2.2.2.2.2.2.2.2.2.2.2.2.2.2.2.2.2.2.2.2.2.2.2.2.2.2.2.2.2.2.2.2.2.2.2.2.1
theorem dX8_soon_78 : decode cX8_soon 78 = .ok (.lconst 1, 1) := g138_X8_soon.2.2.2.2.2.2.2.2.2.2.2.2.2.2.2.2.2.2.2.2.2.2.2.2.2.2.2.2.2.2.2.2.2.2.2.2.2.2.2.2.1
theorem dX8_soon_79 : decode cX8_soon 79 = .ok (.ladd, 1) := g138_X8_soon.2.2.2.2.2.2.2.2.2.2.2.2.2.2.2.2.2.2.2.2.2.2.2.2.2.2.2.2.2.2.2.2.2.2.2.2.2.2.2.2.2.1
theorem dX8_soon_80 : decode cX8_soon 80 = .ok (.lstore 4, 2) := g138_X8_soon.2.2.2.2.2.2.2.2.2.2.2.2.2.2.2.2.2.2.2.2.2.2.2.2.2.2.2.2.2.2.2.2.2.2.2.2.2.2.2.2.2.2.1
theorem dX8_soon_82 : decode cX8_soon 82 = .ok (.goto (-30), 3) := g138_X8_soon.2.2.2.2.2.2.2.2.2.2.2.2.2.2.2.2.2.2.2.2.2.2.2.2.2.2.2.2.2.2.2.2.2.2.2.2.2.2.2.2.2.2.2.1
theorem dX8_soon_85 : decode cX8_soon 85 = .ok (.lload 4, 2) := g138_X8_soon.2.2.2.2.2.2.2.2.2.2.2.2.2.2.2.2.2.2.2.2.2.2.2.2.2.2.2.2.2.2.2.2.2.2.2.2.2.2.2.2.2.2.2.2.1
theorem dX8_soon_87 : decode cX8_soon 87 = .ok (.lload 7, 2) := g138_X8_soon.2.2.2.2.2.2.2.2.2.2.2.2.2.2.2.2.2.2.2.2.2.2.2.2.2.2.2.2.2.2.2.2.2.2.2.2.2.2.2.2.2.2.2.2.2.1
theorem dX8_soon_89 : decode cX8_soon 89 = .ok (.lcmp, 1) := g138_X8_soon.2.2.2.2.2.2.2.2.2.2.2.2.2.2.2.2.2.2.2.2.2.2.2.2.2.2.2.2.2.2.2.2.2.2.2.2.2.2.2.2.2.2.2.2.2.2.1
theorem dX8_soon_90 : decode cX8_soon 90 = .ok (.ifCond .le 7, 3) := g138_X8_soon.2.2.2.2.2.2.2.2.2.2.2.2.2.2.2.2.2.2.2.2.2.2.2.2.2.2.2.2.2.2.2.2.2.2.2.2.2.2.2.2.2.2.2.2.2.2.2.1
theorem dX8_soon_93 : decode cX8_soon 93 = .ok (.ldc2_w 134, 3) := g138_X8_soon.2.2.2.2.2.2.2.2.2.2.2.2.2.2.2.2.2.2.2.2.2.2.2.2.2.2.2.2.2.2.2.2.2.2.2.2.2.2.2.2.2.2.2.2.2.2.2.2.1
theorem dX8_soon_96 : decode cX8_soon 96 = .ok (.lreturn, 1) := g138_X8_soon.2.2.2.2.2.2.2.2.2.2.2.2.2.2.2.2.2.2.2.2.2.2.2.2.2.2.2.2.2.2.2.2.2.2.2.2.2.2.2.2.2.2.2.2.2.2.2.2.2.1
theorem dX8_soon_97 : decode cX8_soon 97 = .ok (.aload_n 0, 1) := g138_X8_soon.2.2.2.2.2.2.2.2.2.2.2.2.2.2.2.2.2.2.2.2.2.2.2.2.2.2.2.2.2.2.2.2.2.2.2.2.2.2.2.2.2.2.2.2.2.2.2.2.2.2.1
theorem dX8_soon_98 : decode cX8_soon 98 = .ok (.getfield 36, 3) := g138_X8_soon.2.2.2.2.2.2.2.2.2.2.2.2.2.2.2.2.2.2.2.2.2.2.2.2.2.2.2.2.2.2.2.2.2.2.2.2.2.2.2.2.2.2.2.2.2.2.2.2.2.2.2.1
theorem dX8_soon_101 : decode cX8_soon 101 = .ok (.iload 6, 2) := g138_X8_soon.2.2.2.2.2.2.2.2.2.2.2.2.2.2.2.2.2.2.2.2.2.2.2.2.2.2.2.2.2.2.2.2.2.2.2.2.2.2.2.2.2.2.2.2.2.2.2.2.2.2.2.2.1
theorem dX8_soon_103 : decode cX8_soon 103 = .ok (.lload 4, 2) := g138_X8_soon.2.2.2.2.2.2.2.2.2.2.2.2.2.2.2.2.2.2.2.2.2.2.2.2.2.2.2.2.2.2.2.2.2.2.2.2.2.2.2.2.2.2.2.2.2.2.2.2.2.2.2.2.2.1
theorem dX8_soon_105 : decode cX8_soon 105 = .ok (.lastore, 1) := g138_X8_soon.2.2.2.2.2.2.2.2.2.2.2.2.2.2.2.2.2.2.2.2.2.2.2.2.2.2.2.2.2.2.2.2.2.2.2.2.2.2.2.2.2.2.2.2.2.2.2.2.2.2.2.2.2.2.1
theorem dX8_soon_106 : decode cX8_soon 106 = .ok (.lload 4, 2) := g138_X8_soon.2.2.2.2.2.2.2.2.2.2.2.2.2.2.2.2.2.2.2.2.2.2.2.2.2.2.2.2.2.2.2.2.2.2.2.2.2.2.2.2.2.2.2.2.2.2.2.2.2.2.2.2.2.2.2.1
theorem dX8_soon_108 : decode cX8_soon 108 = .ok (.aload_n 0, 1) := g138_X8_soon.2.2.2.2.2.2.2.2.2.2.2.2.2.2.2.2.2.2.2.2.2.2.2.2.2.2.2.2.2.2.2.2.2.2.2.2.2.2.2.2.2.2.2.2.2.2.2.2.2.2.2.2.2.2.2.2.1
theorem dX8_soon_109 : decode cX8_soon 109 = .ok (.aload_n 0, 1) := g138_X8_soon.2.2.2.2.2.2.2.2.2.2.2.2.2.2.2.2.2.2.2.2.2.2.2.2.2.2.2.2.2.2.2.2.2.2.2.2.2.2.2.2.2.2.2.2.2.2.2.2.2.2.2.2.2.2.2.2.2.1
theorem dX8_soon_110 : decode cX8_soon 110 = .ok (.getfield 33, 3) := g138_X8_soon.2.2.2.2.2.2.2.2.2.2.2.2.2.2.2.2.2.2.2.2.2.2.2.2.2.2.2.2.2.2.2.2.2.2.2.2.2.2.2.2.2.2.2.2.2.2.2.2.2.2.2.2.2.2.2.2.2.2.1
theorem dX8_soon_113 : decode cX8_soon 113 = .ok (.iload 6, 2) := g138_X8_soon.2.2.2.2.2.2.2.2.2.2.2.2.2.2.2.2.2.2.2.2.2.2.2.2.2.2.2.2.2.2.2.2.2.2.2.2.2.2.2.2.2.2.2.2.2.2.2.2.2.2.2.2.2.2.2.2.2.2.2
set_option maxRecDepth 100000 in
theorem g139_X8_soon : decode cX8_soon 115 = .ok (.iaload, 1) ∧ decode cX8_soon 116 = .ok (.invokevirtual 145, 3) ∧ decode cX8_soon 119 = .ok (.i2l, 1) ∧ decode cX8_soon 120 = .ok (.ladd, 1) ∧ decode cX8_soon 121 = .ok (.lstore 4, 2) ∧ decode cX8_soon 123 = .ok (.iinc 6 1, 3) ∧ decode cX8_soon 126 = .ok (.goto (-91), 3) ∧ decode cX8_soon 129 = .ok (.iload_n 3, 1) ∧ decode cX8_soon 130 = .ok (.ifCond .ge 8, 3) ∧ decode cX8_soon 133 = .ok (.lload 4, 2) ∧ decode cX8_soon 135 = .ok (.goto 9, 3) ∧ decode cX8_soon 138 = .ok (.aload_n 0, 1) ∧ decode cX8_soon 139 = .ok (.getfield 36, 3) ∧ decode cX8_soon 142 = .ok (.iload_n 3, 1) ∧ decode cX8_soon 143 = .ok (.laload, 1) ∧ decode cX8_soon 144 = .ok (.lreturn, 1) := by decide +kernel
theorem dX8_soon_115 : decode cX8_soon 115 = .ok (.iaload, 1) := g139_X8_soon.1
theorem dX8_soon_116 : decode cX8_soon 116 = .ok (.invokevirtual 145, 3) := g139_X8_soon.2.1
theorem dX8_soon_119 : decode cX8_soon 119 = .ok (.i2l, 1) := g139_X8_soon.2.2.1
theorem dX8_soon_120 : decode cX8_soon 120 = .ok (.ladd, 1) := g139_X8_soon.2.2.2.1
theorem dX8_soon_121 : decode cX8_soon 121 = .ok (.lstore 4, 2) := g139_X8_soon.2.2.2.2.1
theorem dX8_soon_123 : decode cX8_soon 123 = .ok (.iinc 6 1, 3) := g139_X8_soon.2.2.2.2.2.1
theorem dX8_soon_126 : decode cX8_soon 126 = .ok (.goto (-91), 3) := g139_X8_soon.2.2.2.2.2.2.1
theorem dX8_soon_129 : decode cX8_soon 129 = .ok (.iload_n 3, 1) := g139_X8_soon.2.2.2.2.2.2.2.1
theorem dX8_soon_130 : decode cX8_soon 130 = .ok (.ifCond .ge 8, 3) := g139_X8_soon.2.2.2.2.2.2.2.2.1
theorem dX8_soon_133 : decode cX8_soon 133 = .ok (.lload 4, 2) := g139_X8_soon.2.2.2.2.2.2.2.2.2.1
theorem dX8_soon_135 : decode cX8_soon 135 = .ok (.goto 9, 3) := g139_X8_soon.2.2.2.2.2.2.2.2.2.2.1
theorem dX8_soon_138 : decode cX8_soon 138 = .ok (.aload_n 0, 1) := g139_X8_soon.2.2.2.2.2.2.2.2.2.2.2.1
theorem dX8_soon_139 : decode cX8_soon 139 = .ok (.getfield 36, 3) := g139_X8_soon.2.2.2.2.2.2.2.2.2.2.2.2.1
theorem dX8_soon_142 : decode cX8_soon 142 = .ok (.iload_n 3, 1) := g139_X8_soon.2.2.2.2.2.2.2.2.2.2.2.2.2.1
theorem dX8_soon_143 : decode cX8_soon 143 = .ok (.laload, 1) := g139_X8_soon.2.2.2.2.2.2.2.2.2.2.2.2.2.2.1
theorem dX8_soon_144 : decode cX8_soon 144 = .ok (.lreturn, 1) := g139_X8_soon.2.2.2.2.2.2.2.2.2.2.2.2.2.2.2
set_option maxRecDepth 100000 in
theorem g140_X8_known : decode cX8_known 0 = .ok (.aload_n 0, 1) ∧ decode cX8_known 1 = .ok (.getfield 86, 3) ∧ decode cX8_known 4 = .ok (.bipush 8, 2) ∧ decode cX8_known 6 = .ok (.if_icmp .ne 45, 3) ∧ decode cX8_known 9 = .ok (.iconst 0, 1) ∧ decode cX8_known 10 = .ok (.istore 4, 2) ∧ decode cX8_known 12 = .ok (.iload 4, 2) ∧ decode cX8_known 14 = .ok (.bipush 21, 2) ∧ decode cX8_known 16 = .ok (.if_icmp .ge 25, 3) ∧ decode cX8_known 19 = .ok (.aload_n 0, 1) ∧ decode cX8_known 20 = .ok (.getfield 30, 3) ∧ decode cX8_known 23 = .ok (.iload 4, 2) ∧ decode cX8_known 25 = .ok (.aload_n 0, 1) ∧ decode cX8_known 26 = .ok (.getfield 30, 3) ∧ decode cX8_known 29 = .ok (.iload 4, 2) ∧ decode cX8_known 31 = .ok (.iconst 3, 1) ∧ decode cX8_known 32 = .ok (.iadd, 1) ∧ decode cX8_known 33 = .ok (.iaload, 1) ∧ decode cX8_known 34 = .ok (.iastore, 1) ∧ decode cX8_known 35 = .ok (.iinc 4 1, 3) ∧ decode cX8_known 38 = .ok (.goto (-26), 3) ∧ decode cX8_known 41 = .ok (.aload_n 0, 1) ∧ decode cX8_known 42 = .ok (.dup, 1) ∧ decode cX8_known 43 = .ok (.getfield 86, 3) ∧ decode cX8_known 46 = .ok (.iconst 1, 1) ∧ decode cX8_known 47 = .ok (.isub, 1) ∧ decode cX8_known 48 = .ok (.putfield 86, 3) ∧ decode cX8_known 51 = .ok (.aload_n 0, 1) ∧ decode cX8_known 52 = .ok (.getfield 30, 3) ∧ decode cX8_known 55 = .ok (.iconst 3, 1) ∧ decode cX8_known 56 = .ok (.aload_n 0, 1) ∧ decode cX8_known 57 = .ok (.getfield 86, 3) ∧ decode cX8_known 60 = .ok (.imul, 1) ∧ decode cX8_known 61 = .ok (.iload_n 1, 1) ∧ decode cX8_known 62 = .ok (.iastore, 1) ∧ decode cX8_known 63 = .ok (.aload_n 0, 1) ∧ decode cX8_known 64 = .ok (.getfield 30, 3) ∧ decode cX8_known 67 = .ok (.iconst 3, 1) ∧ decode cX8_known 68 = .ok (.aload_n 0, 1) ∧ decode cX8_known 69 = .ok (.getfield 86, 3) ∧ decode cX8_known 72 = .ok (.imul, 1) ∧ decode cX8_known 73 = .ok (.iconst 1, 1) ∧ decode cX8_known 74 = .ok (.iadd, 1) ∧ decode cX8_known 75 = .ok (.iload_n 2, 1) ∧ decode cX8_known 76 = .ok (.iastore, 1) ∧ decode cX8_known 77 = .ok (.aload_n 0, 1) ∧ decode cX8_known 78 = .ok (.getfield 30, 3) ∧ decode cX8_known 81 = .ok (.iconst 3, 1) ∧ decode cX8_known 82 = .ok (.aload_n 0, 1) ∧ decode cX8_known 83 = .ok (.getfield 86, 3) ∧ decode cX8_known 86 = .ok (.imul, 1) ∧ decode cX8_known 87 = .ok (.iconst 2, 1) ∧ decode cX8_known 88 = .ok (.iadd, 1) ∧ decode cX8_known 89 = .ok (.iload_n 3, 1) ∧ decode cX8_known 90 = .ok (.iastore, 1) ∧ decode cX8_known 91 = .ok (.aload_n 0, 1) ∧ decode cX8_known 92 = .ok (.dup, 1) ∧ decode cX8_known 93 = .ok (.getfield 86, 3) ∧ decode cX8_known 96 = .ok (.iconst 1, 1) ∧ decode cX8_known 97 = .ok (.iadd, 1) := by decide +kernel
theorem dX8_known_0 : decode cX8_known 0 = .ok (.aload_n 0, 1) := g140_X8_known.1
theorem dX8_known_1 : decode cX8_known 1 = .ok (.getfield 86, 3) := g140_X8_known.2.1
theorem dX8_known_4 : decode cX8_known 4 = .ok (.bipush 8, 2) := g140_X8_known.2.2.1
theorem dX8_known_6 : decode cX8_known 6 = .ok (.if_icmp .ne 45, 3) := g140_X8_known.2.2.2.1
theorem dX8_known_9 : decode cX8_known 9 = .ok (.iconst 0, 1) := g140_X8_known.2.2.2.2.1
theorem dX8_known_10 : decode cX8_known 10 = .ok (.istore 4, 2) := g140_X8_known.2.2.2.2.2.1
theorem dX8_known_12 : decode cX8_known 12 = .ok (.iload 4, 2) := g140_X8_known.2.2.2.2.2.2.1
theorem dX8_known_14 : decode cX8_known 14 = .ok (.bipush 21, 2) := g140_X8_known.2.2.2.2.2.2.2.1
theorem dX8_known_16 : decode cX8_known 16 = .ok (.if_icmp .ge 25, 3) := g140_X8_known.2.2.2.2.2.2.2.2.1
theorem dX8_known_19 : decode cX8_known 19 = .ok (.aload_n 0, 1) := g140_X8_known.2.2.2.2.2.2.2.2.2.1
theorem dX8_known_20 : decode cX8_known 20 = .ok (.getfield 30, 3) := g140_X8_known.2.2.2.2.2.2.2.2.2.2.1
theorem dX8_known_23 : decode cX8_known 23 = .ok (.iload 4, 2) := g140_X8_known.2.2.2.2.2.2.2.2.2.2.2.1
theorem dX8_known_25 : decode cX8_known 25 = .ok (.aload_n 0, 1) := g140_X8_known.2.2.2.2.2.2.2.2.2.2.2.2.1
theorem dX8_known_26 : decode cX8_known 26 = .ok (.getfield 30, 3) := g140_X8_known.2.2.2.2.2.2.2.2.2.2.2.2.2.1
theorem dX8_known_29 : decode cX8_known 29 = .ok (.iload 4, 2) := g140_X8_known.2.2.2.2.2.2.2.2.2.2.2.2.2.2.1
theorem dX8_known_31 : decode cX8_known 31 = .ok (.iconst 3, 1) := g140_X8_known.2.2.2.2.2.2.2.2.2.2.2.2.2.2.2.1
theorem dX8_known_32 : decode cX8_known 32 = .ok (.iadd, 1) := g140_X8_known.2.2.2.2.2.2.2.2.2.2.2.2.2.2.2.2.1
theorem dX8_known_33 : decode cX8_known 33 = .ok (.iaload, 1) := g140_X8_known.2.2.2.2.2.2.2.2.2.2.2.2.2.2.2.2.2.1
theorem dX8_known_34 : decode cX8_known 34 = .ok (.iastore, 1) := g140_X8_known.2.2.2.2.2.2.2.2.2.2.2.2.2.2.2.2.2.2.1
theorem dX8_known_35 : decode cX8_known 35 = .ok (.iinc 4 1, 3) := g140_X8_known.2.2.2.2.2.2.2.2.2.2.2.2.2.2.2.2.2.2.2.1
theorem dX8_known_38 : decode cX8_known 38 = .ok (.goto (-26), 3) := g140_X8_known.2.2.2.2.2.2.2.2.2.2.2.2.2.2.2.2.2.2.2.2.1
theorem dX8_known_41 : decode cX8_known 41 = .ok (.aload_n 0, 1) := g140_X8_known.2.2.2.2.2.2.2.2.2.2.2.2.2.2.2.2.2.2.2.2.2.1
theorem dX8_known_42 : decode cX8_known 42 = .ok (.dup, 1) := g140_X8_known.2.2.2.2.2.2.2.2.2.2.2.2.2.2.2.2.2.2.2.2.2.2.1
theorem dX8_known_43 : decode cX8_known 43 = .ok (.getfield 86, 3) := g140_X8_known.2.2.2.2.2.2.2.2.2.2.2.2.2.2.2.2.2.2.2.2.2.2.2.1
theorem dX8_known_46 : decode cX8_known 46 = .ok (.iconst 1, 1) := g140_X8_known.2.2.2.2.2.2.2.2.2.2.2.2.2.2.2.2.2.2.2.2.2.2.2.2.1
theorem dX8_known_47 : decode cX8_known 47 = .ok (.isub, 1) := g140_X8_known.2.2.2.2.2.2.2.2.2.2.2.2.2.2.2.2.2.2.2.2.2.2.2.2.2.1
theorem dX8_known_48 : decode cX8_known 48 = .ok (.putfield 86, 3) := g140_X8_known.2.2.2.2.2.2.2.2.2.2.2.2.2.2.2.2.2.2.2.2.2.2.2.2.2.2.1
theorem dX8_known_51 : decode cX8_known 51 = .ok (.aload_n 0, 1) := g140_X8_known.2.2.2.2.2.2.2.2.2.2.2.2.2.2.2.2.2.2.2.2.2.2.2.2.2.2.2.1
theorem dX8_known_52 : decode cX8_known 52 = .ok (.getfield 30, 3) := g140_X8_known.2.2.2.2.2.2.2.2.2.2.2.2.2.2.2.2.2.2.2.2.2.2.2.2.2.2.2.2.1
theorem dX8_known_55 : decode cX8_known 55 = .ok (.iconst 3, 1) := g140_X8_known.2.2.2.2.2.2.2.2.2.2.2.2.2.2.2.2.2.2.2.2.2.2.2.2.2.2.2.2.2.1
theorem dX8_known_56 : decode cX8_known 56 = .ok (.aload_n 0, 1) := g140_X8_known.2.2.2.2.2.2.2.2.2.2.2.2.2.2.2.2.2.2.2.2.2.2.2.2.2.2.2.2.2.2.1
theorem dX8_known_57 : decode cX8_known 57 = .ok (.getfield 86, 3) := g140_X8_known.2.2.2.2.2.2.2.2.2.2.2.2.2.2.2.2.2.2.2.2.2.2.2.2.2.2.2.2.2.2.2.1
theorem dX8_known_60 : decode cX8_known 60 = .ok (.imul, 1) := g140_X8_known.2.2.2.2.2.2.2.2.2.2.2.2.2.2.2.2.2.2.2.2.2.2.2.2.2.2.2.2.2.2.2.2.1
theorem dX8_known_61 : decode cX8_known 61 = .ok (.iload_n 1, 1) := g140_X8_known.2.2.2.2.2.2.2.2.2.2.2.2.2.2.2.2.2.2.2.2.2.2.2.2.2.2.2.2.2.2.2.2.2.1
theorem dX8_known_62 : decode cX8_known 62 = .ok (.iastore, 1) := g140_X8_known.2.2.2.2.2.2.2.2.2.2.2.2.2.2.2.2.2.2.2.2.2.2.2.2.2.2.2.2.2.2.2.2.2.2.1
theorem dX8_known_63 : decode cX8_known 63 = .ok (.aload_n 0, 1) := g140_X8_known.2.2.2.2.2.2.2.2.2.2.2.2.2.2.2.2.2.2.2.2.2.2.2.2.2.2.2.2.2.2.2.2.2.2.2.1
theorem dX8_known_64 : decode cX8_known 64 = .ok (.getfield 30, 3) := g140_X8_known.2.2.2.2.2.2.2.2.2.2.2.2.2.2.2.2.2.2.2.2.2.2.2.2.2.2.2.2.2.2.2.2.2.2.2.2.1
theorem dX8_known_67 : decode cX8_known 67 = .ok (.iconst 3, 1) := g140_X8_known.2.2.2.2.2.2.2.2.2.2.2.2.2.2.2.2.2.2.2.2.2.2.2.2.2.2.2.2.2.2.2.2.2.2.2.2.2.1
theorem dX8_known_68 : decode cX8_known 68 = .ok (.aload_n 0, 1) := g140_X8_known.2.2.2.2.2.2.2.2.2.2.2.2.2.2.2.2.2.2.2.2.2.2.2.2.2.2.2.2.2.2.2.2.2.2.2.2.2.2.1
theorem dX8_known_69 : decode cX8_known 69 = .ok (.getfield 86, 3) := g140_X8_known.2.2.2.2.2.2.2.2.2.2.2.2.2.2.2.2.2.2.2.2.2.2.2.2.2.2.2.2.2.2.2.2.2.2.2.2.2.2.2.1
theorem dX8_known_72 : decode cX8_known 72 = .ok (.imul, 1) := g140_X8_known.2.2.2.2.2.2.2.2.2.2.2.2.2.2.2.2.2.2.2.2.2.2.2.2.2.2.2.2.2.2.2.2.2.2.2.2.2.2.2.2.1
theorem dX8_known_73 : decode cX8_known 73 = .ok (.iconst 1, 1) := g140_X8_known.2.2.2.2.2.2.2.2.2.2.2.2.2.2.2.2.2.2.2.2.2.2.2.2.2.2.2.2.2.2.2.2.2.2.2.2.2.2.2.2.2.1
theorem dX8_known_74 : decode cX8_known 74 = .ok (.iadd, 1) := g140_X8_known.2.2.2.2.2.2.2.2.2.2.2.2.2.2.2.2.2.2.2.2.2.2.2.2.2.2.2.2.2.2.2.2.2.2.2.2.2.2.2.2.2.2.1
theorem dX8_known_75 : decode cX8_known 75 = .ok (.iload_n 2, 1) := g140_X8_known.2.2.2.2.2.2.2.2.2.2.2.2.2.2.2.2.2.2.2.2.2.2.2.2.2.2.2.2.2.2.2.2.2.2.2.2.2.2.2.2.2.2.2.1
theorem dX8_known_76 : decode cX8_known 76 = .ok (.iastore, 1) := g140_X8_known.2.2.2.2.2.2.2.2.2.2.2.2.2.2.2.2.2.2.2.2.2.2.2.2.2.2.2.2.2.2.2.2.2.2.2.2.2.2.2.2.2.2.2.2.1
theorem dX8_known_77 : decode cX8_known 77 = .ok (.aload_n 0, 1) := g140_X8_known.2.2.2.2.2.2.2.2.2.2.2.2.2.2.2.2.2.2.2.2.2.2.2.2.2.2.2.2.2.2.2.2.2.2.2.2.2.2.2.2.2.2.2.2.2.1
theorem dX8_known_78 : decode cX8_known 78 = .ok (.getfield 30, 3) := g140_X8_known.2.2.2.2.2.2.2.2.2.2.2.2.2.2.2.2.2.2.2.2.2.2.2.2.2.2.2.2.2.2.2.2.2.2.2.2.2.2.2.2.2.2.2.2.2.2.1
theorem dX8_known_81 : decode cX8_known 81 = .ok (.iconst 3, 1) := g140_X8_known.2.2.2.2.2.2.2.2.2.2.2.2.2.2.2.2.2.2.2.2.2.2.2.2.2.2.2.2.2.2.2.2.2.2.2.2.2.2.2.2.2.2.2.2.2.2.2.1
theorem dX8_known_82 : decode cX8_known 82 = .ok (.aload_n 0, 1) := g140_X8_known.2.2.2.2.2.2.2.2.2.2.2.2.2.2.2.2.2.2.2.2.2.2.2.2.2.2.2.2.2.2.2.2.2.2.2.2.2.2.2.2.2.2.2.2.2.2.2.2.1
theorem dX8_known_83 : decode cX8_known 83 = .ok (.getfield 86, 3) := g140_X8_known.2.2.2.2.2.2.2.2.2.2.2.2.2.2.2.2.2.2.2.2.2.2.2.2.2.2.2.2.2.2.2.2.2.2.2.2.2.2.2.2.2.2.2.2.2.2.2.2.2.1
theorem dX8_known_86 : decode cX8_known 86 = .ok (.imul, 1) := g140_X8_known.2.2.2.2.2.2.2.2.2.2.2.2.2.2.2.2.2.2.2.2.2.2.2.2.2.2.2.2.2.2.2.2.2.2.2.2.2.2.2.2.2.2.2.2.2.2.2.2.2.2.1
theorem dX8_known_87 : decode cX8_known 87 = .ok (.iconst 2, 1) := g140_X8_known.2.2.2.2.2.2.2.2.2.2.2.2.2.2.2.2.2.2.2.2.2.2.2.2.2.2.2.2.2.2.2.2.2.2.2.2.2.2.2.2.2.2.2.2.2.2.2.2.2.2.2.1
theorem dX8_known_88 : decode cX8_known 88 = .ok (.iadd, 1) := g140_X8_known.2.2.2.2.2.2.2.2.2.2.2.2.2.2.2.2.2.2.2.2.2.2.2.2.2.2.2.2.2.2.2.2.2.2.2.2.2.2.2.2.2.2.2.2.2.2.2.2.2.2.2.2.1
theorem dX8_known_89 : decode cX8_known 89 = .ok (.iload_n 3, 1) := g140_X8_known.2.2.2.2.2.2.2.2.2.2.2.2.2.2.2.2.2.2.2.2.2.2.2.2.2.2.2.2.2.2.2.2.2.2.2.2.2.2.2.2.2.2.2.2.2.2.2.2.2.2.2.2.2.1
theorem dX8_known_90 : decode cX8_known 90 = .ok (.iastore, 1) := g140_X8_known.2.2.2.2.2.2.2.2.2.2.2.2.2.2.2.2.2.2.2.2.2.2.2.2.2.2.2.2.2.2.2.2.2.2.2.2.2.2.2.2.2.2.2.2.2.2.2.2.2.2.2.2.2.2.1
theorem dX8_known_91 : decode cX8_known 91 = .ok (.aload_n 0, 1) := g140_X8_known.2.2.2.2.2.2.2.2.2.2.2.2.2.2.2.2.2.2.2.2.2.2.2.2.2.2.2.2.2.2.2.2.2.2.2.2.2.2.2.2.2.2.2.2.2.2.2.2.2.2.2.2.2.2.2.1
theorem dX8_known_92 : decode cX8_known 92 = .ok (.dup, 1) := g140_X8_known.2.2.2.2.2.2.2.2.2.2.2.2.2.2.2.2.2.2.2.2.2.2.2.2.2.2.2.2.2.2.2.2.2.2.2.2.2.2.2.2.2.2.2.2.2.2.2.2.2.2.2.2.2.2.2.2.1
theorem dX8_known_93 : decode cX8_known 93 = .ok (.getfield 86, 3) := g140_X8_known.2.2.2.2.2.2.2.2.2.2.2.2.2.2.2.2.2.2.2.2.2.2.2.2.2.2.2.2.2.2.2.2.2.2.2.2.2.2.2.2.2.2.2.2.2.2.2.2.2.2.2.2.2.2.2.2.2.1
theorem dX8_known_96 : decode cX8_known 96 = .ok (.iconst 1, 1) := g140_X8_known.2.2.2.2.2.2.2.2.2.2.2.2.2.2.2.2.2.2.2.2.2.2.2.2.2.2.2.2.2.2.2.2.2.2.2.2.2.2.2.2.2.2.2.2.2.2.2.2.2.2.2.2.2.2.2.2.2.2.1
theorem dX8_known_97 : decode cX8_known 97 = .ok (.iadd, 1) := g140_X8_known.2.2.2.2.2.2.2.2.2.2.2.2.2.2.2.2.2.2.2.2.2.2.2.2.2.2.2.2.2.2.2.2.2.2.2.2.2.2.2.2.2.2.2.2.2.2.2.2.2.2.2.2.2.2.2.2.2.2.2
set_option maxRecDepth 100000 in
theorem g141_X8_known : decode cX8_known 98 = .ok (.putfield 86, 3) ∧ decode cX8_known 101 = .ok (.return_, 1) := by decide +kernel
theorem dX8_known_98 : decode cX8_known 98 = .ok (.putfield 86, 3) := g141_X8_known.1
theorem dX8_known_101 : decode cX8_known 101 = .ok (.return_, 1) := g141_X8_known.2
set_option maxRecDepth 100000 in
theorem g142_X8_pass : decode cX8_pass 0 = .ok (.iload_n 1, 1) ∧ decode cX8_pass 1 = .ok (.i2l, 1) ∧ decode cX8_pass 2 = .ok (.lconst 1, 1) ∧ decode cX8_pass 3 = .ok (.ldc2_w 148, 3) ∧ decode cX8_pass 6 = .ok (.invokestatic 53, 3) ∧ decode cX8_pass 9 = .ok (.ifCond .ne 7, 3) ∧ decode cX8_pass 12 = .ok (.ldc2_w 130, 3) ∧ decode cX8_pass 15 = .ok (.lreturn, 1) ∧ decode cX8_pass 16 = .ok (.aload_n 0, 1) ∧ decode cX8_pass 17 = .ok (.getfield 26, 3) ∧ decode cX8_pass 20 = .ok (.iconst 0, 1) ∧ decode cX8_pass 21 = .ok (.dup2, 1) ∧ decode cX8_pass 22 = .ok (.laload, 1) ∧ decode cX8_pass 23 = .ok (.iload_n 1, 1) ∧ decode cX8_pass 24 = .ok (.i2l, 1) ∧ decode cX8_pass 25 = .ok (.ladd, 1) ∧ decode cX8_pass 26 = .ok (.lastore, 1) ∧ decode cX8_pass 27 = .ok (.aload_n 0, 1) ∧ decode cX8_pass 28 = .ok (.iconst 0, 1) ∧ decode cX8_pass 29 = .ok (.iload_n 1, 1) ∧ decode cX8_pass 30 = .ok (.iconst 0, 1) ∧ decode cX8_pass 31 = .ok (.invokevirtual 150, 3) ∧ decode cX8_pass 34 = .ok (.aload_n 0, 1) ∧ decode cX8_pass 35 = .ok (.getfield 26, 3) ∧ decode cX8_pass 38 = .ok (.iconst 0, 1) ∧ decode cX8_pass 39 = .ok (.laload, 1) ∧ decode cX8_pass 40 = .ok (.lreturn, 1) := by decide +kernel
theorem dX8_pass_0 : decode cX8_pass 0 = .ok (.iload_n 1, 1) := g142_X8_pass.1
theorem dX8_pass_1 : decode cX8_pass 1 = .ok (.i2l, 1) := g142_X8_pass.2.1
theorem dX8_pass_2 : decode cX8_pass 2 = .ok (.lconst 1, 1) := g142_X8_pass.2.2.1
theorem dX8_pass_3 : decode cX8_pass 3 = .ok (.ldc2_w 148, 3) := g142_X8_pass.2.2.2.1
theorem dX8_pass_6 : decode cX8_pass 6 = .ok (.invokestatic 53, 3) := g142_X8_pass.2.2.2.2.1
theorem dX8_pass_9 : decode cX8_pass 9 = .ok (.ifCond .ne 7, 3) := g142_X8_pass.2.2.2.2.2.1
theorem dX8_pass_12 : decode cX8_pass 12 = .ok (.ldc2_w 130, 3) := g142_X8_pass.2.2.2.2.2.2.1
theorem dX8_pass_15 : decode cX8_pass 15 = .ok (.lreturn, 1) := g142_X8_pass.2.2.2.2.2.2.2.1
theorem dX8_pass_16 : decode cX8_pass 16 = .ok (.aload_n 0, 1) := g142_X8_pass.2.2.2.2.2.2.2.2.1
theorem dX8_pass_17 : decode cX8_pass 17 = .ok (.getfield 26, 3) := g142_X8_pass.2.2.2.2.2.2.2.2.2.1
theorem dX8_pass_20 : decode cX8_pass 20 = .ok (.iconst 0, 1) := g142_X8_pass.2.2.2.2.2.2.2.2.2.2.1
theorem dX8_pass_21 : decode cX8_pass 21 = .ok (.dup2, 1) := g142_X8_pass.2.2.2.2.2.2.2.2.2.2.2.1
theorem dX8_pass_22 : decode cX8_pass 22 = .ok (.laload, 1) := g142_X8_pass.2.2.2.2.2.2.2.2.2.2.2.2.1
theorem dX8_pass_23 : decode cX8_pass 23 = .ok (.iload_n 1, 1) := g142_X8_pass.2.2.2.2.2.2.2.2.2.2.2.2.2.1
theorem dX8_pass_24 : decode cX8_pass 24 = .ok (.i2l, 1) := g142_X8_pass.2.2.2.2.2.2.2.2.2.2.2.2.2.2.1
theorem dX8_pass_25 : decode cX8_pass 25 = .ok (.ladd, 1) := g142_X8_pass.2.2.2.2.2.2.2.2.2.2.2.2.2.2.2.1
theorem dX8_pass_26 : decode cX8_pass 26 = .ok (.lastore, 1) := g142_X8_pass.2.2.2.2.2.2.2.2.2.2.2.2.2.2.2.2.1
theorem dX8_pass_27 : decode cX8_pass 27 = .ok (.aload_n 0, 1) := g142_X8_pass.2.2.2.2.2.2.2.2.2.2.2.2.2.2.2.2.2.1
theorem dX8_pass_28 : decode cX8_pass 28 = .ok (.iconst 0, 1) := g142_X8_pass.2.2.2.2.2.2.2.2.2.2.2.2.2.2.2.2.2.2.1
theorem dX8_pass_29 : decode cX8_pass 29 = .ok (.iload_n 1, 1) := g142_X8_pass.2.2.2.2.2.2.2.2.2.2.2.2.2.2.2.2.2.2.2.1
theorem dX8_pass_30 : decode cX8_pass 30 = .ok (.iconst 0, 1) := g142_X8_pass.2.2.2.2.2.2.2.2.2.2.2.2.2.2.2.2.2.2.2.2.1
theorem dX8_pass_31 : decode cX8_pass 31 = .ok (.invokevirtual 150, 3) := g142_X8_pass.2.2.2.2.2.2.2.2.2.2.2.2.2.2.2.2.2.2.2.2.2.1
theorem dX8_pass_34 : decode cX8_pass 34 = .ok (.aload_n 0, 1) := g142_X8_pass.2.2.2.2.2.2.2.2.2.2.2.2.2.2.2.2.2.2.2.2.2.2.1
theorem dX8_pass_35 : decode cX8_pass 35 = .ok (.getfield 26, 3) := g142_X8_pass.2.2.2.2.2.2.2.2.2.2.2.2.2.2.2.2.2.2.2.2.2.2.2.1
theorem dX8_pass_38 : decode cX8_pass 38 = .ok (.iconst 0, 1) := g142_X8_pass.2.2.2.2.2.2.2.2.2.2.2.2.2.2.2.2.2.2.2.2.2.2.2.2.1
theorem dX8_pass_39 : decode cX8_pass 39 = .ok (.laload, 1) := g142_X8_pass.2.2.2.2.2.2.2.2.2.2.2.2.2.2.2.2.2.2.2.2.2.2.2.2.2.1
theorem dX8_pass_40 : decode cX8_pass 40 = .ok (.lreturn, 1) := g142_X8_pass.2.2.2.2.2.2.2.2.2.2.2.2.2.2.2.2.2.2.2.2.2.2.2.2.2.2
set_option maxRecDepth 100000 in
theorem g143_X8_doAct : decode cX8_doAct 0 = .ok (.aload_n 0, 1) ∧ decode cX8_doAct 1 = .ok (.iload_n 1, 1) ∧ decode cX8_doAct 2 = .ok (.invokevirtual 107, 3) ∧ decode cX8_doAct 5 = .ok (.ifCond .ne 7, 3) ∧ decode cX8_doAct 8 = .ok (.ldc2_w 130, 3) ∧ decode cX8_doAct 11 = .ok (.lreturn, 1) ∧ decode cX8_doAct 12 = .ok (.aload_n 0, 1) ∧ decode cX8_doAct 13 = .ok (.iload_n 1, 1) ∧ decode cX8_doAct 14 = .ok (.aload_n 0, 1) ∧ decode cX8_doAct 15 = .ok (.getfield 26, 3) ∧ decode cX8_doAct 18 = .ok (.iconst 0, 1) ∧ decode cX8_doAct 19 = .ok (.laload, 1) ∧ decode cX8_doAct 20 = .ok (.invokevirtual 140, 3) ∧ decode cX8_doAct 23 = .ok (.ifCond .ne 7, 3) ∧ decode cX8_doAct 26 = .ok (.ldc2_w 154, 3) ∧ decode cX8_doAct 29 = .ok (.lreturn, 1) ∧ decode cX8_doAct 30 = .ok (.aload_n 0, 1) ∧ decode cX8_doAct 31 = .ok (.getfield 26, 3) ∧ decode cX8_doAct 34 = .ok (.iconst 0, 1) ∧ decode cX8_doAct 35 = .ok (.dup2, 1) ∧ decode cX8_doAct 36 = .ok (.laload, 1) ∧ decode cX8_doAct 37 = .ok (.aload_n 0, 1) ∧ decode cX8_doAct 38 = .ok (.iload_n 1, 1) ∧ decode cX8_doAct 39 = .ok (.invokevirtual 145, 3) ∧ decode cX8_doAct 42 = .ok (.i2l, 1) ∧ decode cX8_doAct 43 = .ok (.ladd, 1) ∧ decode cX8_doAct 44 = .ok (.lastore, 1) ∧ decode cX8_doAct 45 = .ok (.aload_n 0, 1) ∧ decode cX8_doAct 46 = .ok (.getfield 26, 3) ∧ decode cX8_doAct 49 = .ok (.iconst 2, 1) ∧ decode cX8_doAct 50 = .ok (.dup2, 1) ∧ decode cX8_doAct 51 = .ok (.laload, 1) ∧ decode cX8_doAct 52 = .ok (.aload_n 0, 1) ∧ decode cX8_doAct 53 = .ok (.getfield 20, 3) ∧ decode cX8_doAct 56 = .ok (.iconst 5, 1) ∧ decode cX8_doAct 57 = .ok (.iload_n 1, 1) ∧ decode cX8_doAct 58 = .ok (.imul, 1) ∧ decode cX8_doAct 59 = .ok (.iconst 3, 1) ∧ decode cX8_doAct 60 = .ok (.iadd, 1) ∧ decode cX8_doAct 61 = .ok (.iaload, 1) ∧ decode cX8_doAct 62 = .ok (.bipush 50, 2) ∧ decode cX8_doAct 64 = .ok (.isub, 1) ∧ decode cX8_doAct 65 = .ok (.i2l, 1) ∧ decode cX8_doAct 66 = .ok (.ladd, 1) ∧ decode cX8_doAct 67 = .ok (.lastore, 1) ∧ decode cX8_doAct 68 = .ok (.aload_n 0, 1) ∧ decode cX8_doAct 69 = .ok (.getfield 26, 3) ∧ decode cX8_doAct 72 = .ok (.iconst 3, 1) ∧ decode cX8_doAct 73 = .ok (.dup2, 1) ∧ decode cX8_doAct 74 = .ok (.laload, 1) ∧ decode cX8_doAct 75 = .ok (.aload_n 0, 1) ∧ decode cX8_doAct 76 = .ok (.getfield 20, 3) ∧ decode cX8_doAct 79 = .ok (.iconst 5, 1) ∧ decode cX8_doAct 80 = .ok (.iload_n 1, 1) ∧ decode cX8_doAct 81 = .ok (.imul, 1) ∧ decode cX8_doAct 82 = .ok (.iconst 4, 1) ∧ decode cX8_doAct 83 = .ok (.iadd, 1) ∧ decode cX8_doAct 84 = .ok (.iaload, 1) ∧ decode cX8_doAct 85 = .ok (.bipush 50, 2) ∧ decode cX8_doAct 87 = .ok (.isub, 1) := by decide +kernel
theorem dX8_doAct_0 : decode cX8_doAct 0 = .ok (.aload_n 0, 1) := g143_X8_doAct.1
theorem dX8_doAct_1 : decode cX8_doAct 1 = .ok (.iload_n 1, 1) := g143_X8_doAct.2.1
theorem dX8_doAct_2 : decode cX8_doAct 2 = .ok (.invokevirtual 107, 3) := g143_X8_doAct.2.2.1
theorem dX8_doAct_5 : decode cX8_doAct 5 = .ok (.ifCond .ne 7, 3) := g143_X8_doAct.2.2.2.1
theorem dX8_doAct_8 : decode cX8_doAct 8 = .ok (.ldc2_w 130, 3) := g143_X8_doAct.2.2.2.2.1
theorem dX8_doAct_11 : decode cX8_doAct 11 = .ok (.lreturn, 1) := g143_X8_doAct.2.2.2.2.2.1
theorem dX8_doAct_12 : decode cX8_doAct 12 = .ok (.aload_n 0, 1) := g143_X8_doAct.2.2.2.2.2.2.1
theorem dX8_doAct_13 : decode cX8_doAct 13 = .ok (.iload_n 1, 1) := g143_X8_doAct.2.2.2.2.2.2.2.1
theorem dX8_doAct_14 : decode cX8_doAct 14 = .ok (.aload_n 0, 1) := g143_X8_doAct.2.2.2.2.2.2.2.2.1
theorem dX8_doAct_15 : decode cX8_doAct 15 = .ok (.getfield 26, 3) := g143_X8_doAct.2.2.2.2.2.2.2.2.2.1
theorem dX8_doAct_18 : decode cX8_doAct 18 = .ok (.iconst 0, 1) := g143_X8_doAct.2.2.2.2.2.2.2.2.2.2.1
theorem dX8_doAct_19 : decode cX8_doAct 19 = .ok (.laload, 1) := g143_X8_doAct.2.2.2.2.2.2.2.2.2.2.2.1
theorem dX8_doAct_20 : decode cX8_doAct 20 = .ok (.invokevirtual 140, 3) := g143_X8_doAct.2.2.2.2.2.2.2.2.2.2.2.2.1
theorem dX8_doAct_23 : decode cX8_doAct 23 = .ok (.ifCond .ne 7, 3) := g143_X8_doAct.2.2.2.2.2.2.2.2.2.2.2.2.2.1
theorem dX8_doAct_26 : decode cX8_doAct 26 = .ok (.ldc2_w 154, 3) := g143_X8_doAct.2.2.2.2.2.2.2.2.2.2.2.2.2.2.1
theorem dX8_doAct_29 : decode cX8_doAct 29 = .ok (.lreturn, 1) := g143_X8_doAct.2.2.2.2.2.2.2.2.2.2.2.2.2.2.2.1
theorem dX8_doAct_30 : decode cX8_doAct 30 = .ok (.aload_n 0, 1) := g143_X8_doAct.2.2.2.2.2.2.2.2.2.2.2.2.2.2.2.2.1
theorem dX8_doAct_31 : decode cX8_doAct 31 = .ok (.getfield 26, 3) := g143_X8_doAct.2.2.2.2.2.2.2.2.2.2.2.2.2.2.2.2.2.1
theorem dX8_doAct_34 : decode cX8_doAct 34 = .ok (.iconst 0, 1) := g143_X8_doAct.2.2.2.2.2.2.2.2.2.2.2.2.2.2.2.2.2.2.1
theorem dX8_doAct_35 : decode cX8_doAct 35 = .ok (.dup2, 1) := g143_X8_doAct.2.2.2.2.2.2.2.2.2.2.2.2.2.2.2.2.2.2.2.1
theorem dX8_doAct_36 : decode cX8_doAct 36 = .ok (.laload, 1) := g143_X8_doAct.2.2.2.2.2.2.2.2.2.2.2.2.2.2.2.2.2.2.2.2.1
theorem dX8_doAct_37 : decode cX8_doAct 37 = .ok (.aload_n 0, 1) := g143_X8_doAct.2.2.2.2.2.2.2.2.2.2.2.2.2.2.2.2.2.2.2.2.2.1
theorem dX8_doAct_38 : decode cX8_doAct 38 = .ok (.iload_n 1, 1) := g143_X8_doAct.2.2.2.2.2.2.2.2.2.2.2.2.2.2.2.2.2.2.2.2.2.2.1
theorem dX8_doAct_39 : decode cX8_doAct 39 = .ok (.invokevirtual 145, 3) := g143_X8_doAct.2.2.2.2.2.2.2.2.2.2.2.2.2.2.2.2.2.2.2.2.2.2.2.1
theorem dX8_doAct_42 : decode cX8_doAct 42 = .ok (.i2l, 1) := g143_X8_doAct.2.2.2.2.2.2.2.2.2.2.2.2.2.2.2.2.2.2.2.2.2.2.2.2.1
theorem dX8_doAct_43 : decode cX8_doAct 43 = .ok (.ladd, 1) := g143_X8_doAct.2.2.2.2.2.2.2.2.2.2.2.2.2.2.2.2.2.2.2.2.2.2.2.2.2.1
theorem dX8_doAct_44 : decode cX8_doAct 44 = .ok (.lastore, 1) := g143_X8_doAct.2.2.2.2.2.2.2.2.2.2.2.2.2.2.2.2.2.2.2.2.2.2.2.2.2.2.1
theorem dX8_doAct_45 : decode cX8_doAct 45 = .ok (.aload_n 0, 1) := g143_X8_doAct.2.2.2.2.2.2.2.2.2.2.2.2.2.2.2.2.2.2.2.2.2.2.2.2.2.2.2.1
theorem dX8_doAct_46 : decode cX8_doAct 46 = .ok (.getfield 26, 3) := g143_X8_doAct.2.2.2.2.2.2.2.2.2.2.2.2.2.2.2.2.2.2.2.2.2.2.2.2.2.2.2.2.1
theorem dX8_doAct_49 : decode cX8_doAct 49 = .ok (.iconst 2, 1) := g143_X8_doAct.2.2.2.2.2.2.2.2.2.2.2.2.2.2.2.2.2.2.2.2.2.2.2.2.2.2.2.2.2.1
theorem dX8_doAct_50 : decode cX8_doAct 50 = .ok (.dup2, 1) := g143_X8_doAct.2.2.2.2.2.2.2.2.2.2.2.2.2.2.2.2.2.2.2.2.2.2.2.2.2.2.2.2.2.2.1
theorem dX8_doAct_51 : decode cX8_doAct 51 = .ok (.laload, 1) := g143_X8_doAct.2.2.2.2.2.2.2.2.2.2.2.2.2.2.2.2.2.2.2.2.2.2.2.2.2.2.2.2.2.2.2.1
theorem dX8_doAct_52 : decode cX8_doAct 52 = .ok (.aload_n 0, 1) := g143_X8_doAct.2.2.2.2.2.2.2.2.2.2.2.2.2.2.2.2.2.2.2.2.2.2.2.2.2.2.2.2.2.2.2.2.1
theorem dX8_doAct_53 : decode cX8_doAct 53 = .ok (.getfield 20, 3) := g143_X8_doAct.2.2.2.2.2.2.2.2.2.2.2.2.2.2.2.2.2.2.2.2.2.2.2.2.2.2.2.2.2.2.2.2.2.1
theorem dX8_doAct_56 : decode cX8_doAct 56 = .ok (.iconst 5, 1) := g143_X8_doAct.2.2.2.2.2.2.2.2.2.2.2.2.2.2.2.2.2.2.2.2.2.2.2.2.2.2.2.2.2.2.2.2.2.2.1
theorem dX8_doAct_57 : decode cX8_doAct 57 = .ok (.iload_n 1, 1) := g143_X8_doAct.2.2.2.2.2.2.2.2.2.2.2.2.2.2.2.2.2.2.2.2.2.2.2.2.2.2.2.2.2.2.2.2.2.2.2.1
theorem dX8_doAct_58 : decode cX8_doAct 58 = .ok (.imul, 1) := g143_X8_doAct.2.2.2.2.2.2.2.2.2.2.2.2.2.2.2.2.2.2.2.2.2.2.2.2.2.2.2.2.2.2.2.2.2.2.2.2.1
theorem dX8_doAct_59 : decode cX8_doAct 59 = .ok (.iconst 3, 1) := g143_X8_doAct.2.2.2.2.2.2.2.2.2.2.2.2.2.2.2.2.2.2.2.2.2.2.2.2.2.2.2.2.2.2.2.2.2.2.2.2.2.1
theorem dX8_doAct_60 : decode cX8_doAct 60 = .ok (.iadd, 1) := g143_X8_doAct.2.2.2.2.2.2.2.2.2.2.2.2.2.2.2.2.2.2.2.2.2.2.2.2.2.2.2.2.2.2.2.2.2.2.2.2.2.2.1
theorem dX8_doAct_61 : decode cX8_doAct 61 = .ok (.iaload, 1) := g143_X8_doAct.2.2.2.2.2.2.2.2.2.2.2.2.2.2.2.2.2.2.2.2.2.2.2.2.2.2.2.2.2.2.2.2.2.2.2.2.2.2.2.1
theorem dX8_doAct_62 : decode cX8_doAct 62 = .ok (.bipush 50, 2) := g143_X8_doAct.2.2.2.2.2.2.2.2.2.2.2.2.2.2.2.2.2.2.2.2.2.2.2.2.2.2.2.2.2.2.2.2.2.2.2.2.2.2.2.2.1
theorem dX8_doAct_64 : decode cX8_doAct 64 = .ok (.isub, 1) := g143_X8_doAct.2.2.2.2.2.2.2.2.2.2.2.2.2.2.2.2.2.2.2.2.2.2.2.2.2.2.2.2.2.2.2.2.2.2.2.2.2.2.2.2.2.1
theorem dX8_doAct_65 : decode cX8_doAct 65 = .ok (.i2l, 1) := g143_X8_doAct.2.2.2.2.2.2.2.2.2.2.2.2.2.2.2.2.2.2.2.2.2.2.2.2.2.2.2.2.2.2.2.2.2.2.2.2.2.2.2.2.2.2.1
theorem dX8_doAct_66 : decode cX8_doAct 66 = .ok (.ladd, 1) := g143_X8_doAct.2.2.2.2.2.2.2.2.2.2.2.2.2.2.2.2.2.2.2.2.2.2.2.2.2.2.2.2.2.2.2.2.2.2.2.2.2.2.2.2.2.2.2.1
theorem dX8_doAct_67 : decode cX8_doAct 67 = .ok (.lastore, 1) := g143_X8_doAct.2.2.2.2.2.2.2.2.2.2.2.2.2.2.2.2.2.2.2.2.2.2.2.2.2.2.2.2.2.2.2.2.2.2.2.2.2.2.2.2.2.2.2.2.1
theorem dX8_doAct_68 : decode cX8_doAct 68 = .ok (.aload_n 0, 1) := g143_X8_doAct.2.2.2.2.2.2.2.2.2.2.2.2.2.2.2.2.2.2.2.2.2.2.2.2.2.2.2.2.2.2.2.2.2.2.2.2.2.2.2.2.2.2.2.2.2.1
theorem dX8_doAct_69 : decode cX8_doAct 69 = .ok (.getfield 26, 3) := g143_X8_doAct.2.2.2.2.2.2.2.2.2.2.2.2.2.2.2.2.2.2.2.2.2.2.2.2.2.2.2.2.2.2.2.2.2.2.2.2.2.2.2.2.2.2.2.2.2.2.1
theorem dX8_doAct_72 : decode cX8_doAct 72 = .ok (.iconst 3, 1) := g143_X8_doAct.2.2.2.2.2.2.2.2.2.2.2.2.2.2.2.2.2.2.2.2.2.2.2.2.2.2.2.2.2.2.2.2.2.2.2.2.2.2.2.2.2.2.2.2.2.2.2.1
theorem dX8_doAct_73 : decode cX8_doAct 73 = .ok (.dup2, 1) := g143_X8_doAct.2.2.2.2.2.2.2.2.2.2.2.2.2.2.2.2.2.2.2.2.2.2.2.2.2.2.2.2.2.2.2.2.2.2.2.2.2.2.2.2.2.2.2.2.2.2.2.2.1
theorem dX8_doAct_74 : decode cX8_doAct 74 = .ok (.laload, 1) := g143_X8_doAct.2.2.2.2.2.2.2.2.2.2.2.2.2.2.2.2.2.2.2.2.2.2.2.2.2.2.2.2.2.2.2.2.2.2.2.2.2.2.2.2.2.2.2.2.2.2.2.2.2.1
theorem dX8_doAct_75 : decode cX8_doAct 75 = .ok (.aload_n 0, 1) := g143_X8_doAct.2.2.2.2.2.2.2.2.2.2.2.2.2.2.2.2.2.2.2.2.2.2.2.2.2.2.2.2.2.2.2.2.2.2.2.2.2.2.2.2.2.2.2.2.2.2.2.2.2.2.1
theorem dX8_doAct_76 : decode cX8_doAct 76 = .ok (.getfield 20, 3) := g143_X8_doAct.2.2.2.2.2.2.2.2.2.2.2.2.2.2.2.2.2.2.2.2.2.2.2.2.2.2.2.2.2.2.2.2.2.2.2.2.2.2.2.2.2.2.2.2.2.2.2.2.2.2.2.1
theorem dX8_doAct_79 : decode cX8_doAct 79 = .ok (.iconst 5, 1) := g143_X8_doAct.2.2.2.2.2.2.2.2.2.2.2.2.2.2.2.2.2.2.2.2.2.2.2.2.2.2.2.2.2.2.2.2.2.2.2.2.2.2.2.2.2.2.2.2.2.2.2.2.2.2.2.2.1
theorem dX8_doAct_80 : decode cX8_doAct 80 = .ok (.iload_n 1, 1) := g143_X8_doAct.2.2.2.2.2.2.2.2.2.2.2.2.2.2.2.2.2.2.2.2.2.2.2.2.2.2.2.2.2.2.2.2.2.2.2.2.2.2.2.2.2.2.2.2.2.2.2.2.2.2.2.2.2.1
theorem dX8_doAct_81 : decode cX8_doAct 81 = .ok (.imul, 1) := g143_X8_doAct.2.2.2.2.2.2.2.2.2.2.2.2.2.2.2.2.2.2.2.2.2.2.2.2.2.2.2.2.2.2.2.2.2.2.2.2.2.2.2.2.2.2.2.2.2.2.2.2.2.2.2.2.2.2.1
theorem dX8_doAct_82 : decode cX8_doAct 82 = .ok (.iconst 4, 1) := g143_X8_doAct.2.2.2.2.2.2.2.2.2.2.2.2.2.2.2.2.2.2.2.2.2.2.2.2.2.2.2.2.2.2.2.2.2.2.2.2.2.2.2.2.2.2.2.2.2.2.2.2.2.2.2.2.2.2.2.1
theorem dX8_doAct_83 : decode cX8_doAct 83 = .ok (.iadd, 1) := g143_X8_doAct.2.2.2.2.2.2.2.2.2.2.2.2.2.2.2.2.2.2.2.2.2.2.2.2.2.2.2.2.2.2.2.2.2.2.2.2.2.2.2.2.2.2.2.2.2.2.2.2.2.2.2.2.2.2.2.2.1
theorem dX8_doAct_84 : decode cX8_doAct 84 = .ok (.iaload, 1) := g143_X8_doAct.2.2.2.2.2.2.2.2.2.2.2.2.2.2.2.2.2.2.2.2.2.2.2.2.2.2.2.2.2.2.2.2.2.2.2.2.2.2.2.2.2.2.2.2.2.2.2.2.2.2.2.2.2.2.2.2.2.1
theorem dX8_doAct_85 : decode cX8_doAct 85 = .ok (.bipush 50, 2) := g143_X8_doAct.2.2.2.2.2.2.2.2.2.2.2.2.2.2.2.2.2.2.2.2.2.2.2.2.2.2.2.2.2.2.2.2.2.2.2.2.2.2.2.2.2.2.2.2.2.2.2.2.2.2.2.2.2.2.2.2.2.2.1
theorem dX8_doAct_87 : decode cX8_doAct 87 = .ok (.isub, 1) := g143_X8_doAct.2.2.2.2.2.2.2.2.2.2.2.2.2.2.2.2.2.2.2.2.2.2.2.2.2.2.2.2.2.2.2.2.2.2.2.2.2.2.2.2.2.2.2.2.2.2.2.2.2.2.2.2.2.2.2.2.2.2.2
set_option maxRecDepth 100000 in
theorem g144_X8_doAct : decode cX8_doAct 88 = .ok (.i2l, 1) ∧ decode cX8_doAct 89 = .ok (.ladd, 1) ∧ decode cX8_doAct 90 = .ok (.lastore, 1) ∧ decode cX8_doAct 91 = .ok (.aload_n 0, 1) ∧ decode cX8_doAct 92 = .ok (.iconst 1, 1) ∧ decode cX8_doAct 93 = .ok (.iload_n 1, 1) ∧ decode cX8_doAct 94 = .ok (.iconst 0, 1) ∧ decode cX8_doAct 95 = .ok (.invokevirtual 150, 3) ∧ decode cX8_doAct 98 = .ok (.aload_n 0, 1) ∧ decode cX8_doAct 99 = .ok (.getfield 26, 3) ∧ decode cX8_doAct 102 = .ok (.iconst 0, 1) ∧ decode cX8_doAct 103 = .ok (.laload, 1) ∧ decode cX8_doAct 104 = .ok (.lreturn, 1) := by decide +kernel
theorem dX8_doAct_88 : decode cX8_doAct 88 = .ok (.i2l, 1) := g144_X8_doAct.1
theorem dX8_doAct_89 : decode cX8_doAct 89 = .ok (.ladd, 1) := g144_X8_doAct.2.1
theorem dX8_doAct_90 : decode cX8_doAct 90 = .ok (.lastore, 1) := g144_X8_doAct.2.2.1
theorem dX8_doAct_91 : decode cX8_doAct 91 = .ok (.aload_n 0, 1) := g144_X8_doAct.2.2.2.1
theorem dX8_doAct_92 : decode cX8_doAct 92 = .ok (.iconst 1, 1) := g144_X8_doAct.2.2.2.2.1
theorem dX8_doAct_93 : decode cX8_doAct 93 = .ok (.iload_n 1, 1) := g144_X8_doAct.2.2.2.2.2.1
theorem dX8_doAct_94 : decode cX8_doAct 94 = .ok (.iconst 0, 1) := g144_X8_doAct.2.2.2.2.2.2.1
theorem dX8_doAct_95 : decode cX8_doAct 95 = .ok (.invokevirtual 150, 3) := g144_X8_doAct.2.2.2.2.2.2.2.1
theorem dX8_doAct_98 : decode cX8_doAct 98 = .ok (.aload_n 0, 1) := g144_X8_doAct.2.2.2.2.2.2.2.2.1
theorem dX8_doAct_99 : decode cX8_doAct 99 = .ok (.getfield 26, 3) := g144_X8_doAct.2.2.2.2.2.2.2.2.2.1
theorem dX8_doAct_102 : decode cX8_doAct 102 = .ok (.iconst 0, 1) := g144_X8_doAct.2.2.2.2.2.2.2.2.2.2.1
theorem dX8_doAct_103 : decode cX8_doAct 103 = .ok (.laload, 1) := g144_X8_doAct.2.2.2.2.2.2.2.2.2.2.2.1
theorem dX8_doAct_104 : decode cX8_doAct 104 = .ok (.lreturn, 1) := g144_X8_doAct.2.2.2.2.2.2.2.2.2.2.2.2
set_option maxRecDepth 100000 in
theorem g145_X8_allow : decode cX8_allow 0 = .ok (.aload_n 0, 1) ∧ decode cX8_allow 1 = .ok (.iload_n 1, 1) ∧ decode cX8_allow 2 = .ok (.invokevirtual 107, 3) ∧ decode cX8_allow 5 = .ok (.ifCond .eq 13, 3) ∧ decode cX8_allow 8 = .ok (.iload_n 2, 1) ∧ decode cX8_allow 9 = .ok (.i2l, 1) ∧ decode cX8_allow 10 = .ok (.lconst 0, 1) ∧ decode cX8_allow 11 = .ok (.lconst 1, 1) ∧ decode cX8_allow 12 = .ok (.invokestatic 53, 3) ∧ decode cX8_allow 15 = .ok (.ifCond .ne 5, 3) ∧ decode cX8_allow 18 = .ok (.iconst (-1), 1) ∧ decode cX8_allow 19 = .ok (.ireturn, 1) ∧ decode cX8_allow 20 = .ok (.aload_n 0, 1) ∧ decode cX8_allow 21 = .ok (.getfield 23, 3) ∧ decode cX8_allow 24 = .ok (.iload_n 1, 1) ∧ decode cX8_allow 25 = .ok (.iaload, 1) ∧ decode cX8_allow 26 = .ok (.iload_n 2, 1) ∧ decode cX8_allow 27 = .ok (.ishr, 1) ∧ decode cX8_allow 28 = .ok (.iconst 1, 1) ∧ decode cX8_allow 29 = .ok (.iand, 1) ∧ decode cX8_allow 30 = .ok (.istore 4, 2) ∧ decode cX8_allow 32 = .ok (.aload_n 0, 1) ∧ decode cX8_allow 33 = .ok (.iconst 2, 1) ∧ decode cX8_allow 34 = .ok (.iload_n 1, 1) ∧ decode cX8_allow 35 = .ok (.aload_n 0, 1) ∧ decode cX8_allow 36 = .ok (.getfield 23, 3) ∧ decode cX8_allow 39 = .ok (.iload_n 1, 1) ∧ decode cX8_allow 40 = .ok (.iaload, 1) ∧ decode cX8_allow 41 = .ok (.invokevirtual 150, 3) ∧ decode cX8_allow 44 = .ok (.aload_n 0, 1) ∧ decode cX8_allow 45 = .ok (.getfield 23, 3) ∧ decode cX8_allow 48 = .ok (.iload_n 1, 1) ∧ decode cX8_allow 49 = .ok (.iload_n 3, 1) ∧ decode cX8_allow 50 = .ok (.ifCond .eq 16, 3) ∧ decode cX8_allow 53 = .ok (.aload_n 0, 1) ∧ decode cX8_allow 54 = .ok (.getfield 23, 3) ∧ decode cX8_allow 57 = .ok (.iload_n 1, 1) ∧ decode cX8_allow 58 = .ok (.iaload, 1) ∧ decode cX8_allow 59 = .ok (.iconst 1, 1) ∧ decode cX8_allow 60 = .ok (.iload_n 2, 1) ∧ decode cX8_allow 61 = .ok (.ishl, 1) ∧ decode cX8_allow 62 = .ok (.ior, 1) ∧ decode cX8_allow 63 = .ok (.goto 15, 3) ∧ decode cX8_allow 66 = .ok (.aload_n 0, 1) ∧ decode cX8_allow 67 = .ok (.getfield 23, 3) ∧ decode cX8_allow 70 = .ok (.iload_n 1, 1) ∧ decode cX8_allow 71 = .ok (.iaload, 1) ∧ decode cX8_allow 72 = .ok (.iconst 1, 1) ∧ decode cX8_allow 73 = .ok (.iload_n 2, 1) ∧ decode cX8_allow 74 = .ok (.ishl, 1) ∧ decode cX8_allow 75 = .ok (.iconst (-1), 1) ∧ decode cX8_allow 76 = .ok (.ixor, 1) ∧ decode cX8_allow 77 = .ok (.iand, 1) ∧ decode cX8_allow 78 = .ok (.iastore, 1) ∧ decode cX8_allow 79 = .ok (.iload 4, 2) ∧ decode cX8_allow 81 = .ok (.ireturn, 1) := by decide +kernel
theorem dX8_allow_0 : decode cX8_allow 0 = .ok (.aload_n 0, 1) := g145_X8_allow.1
theorem dX8_allow_1 : decode cX8_allow 1 = .ok (.iload_n 1, 1) := g145_X8_allow.2.1
theorem dX8_allow_2 : decode cX8_allow 2 = .ok (.invokevirtual 107, 3) := g145_X8_allow.2.2.1
theorem dX8_allow_5 : decode cX8_allow 5 = .ok (.ifCond .eq 13, 3) := g145_X8_allow.2.2.2.1
theorem dX8_allow_8 : decode cX8_allow 8 = .ok (.iload_n 2, 1) := g145_X8_allow.2.2.2.2.1
theorem dX8_allow_9 : decode cX8_allow 9 = .ok (.i2l, 1) := g145_X8_allow.2.2.2.2.2.1
theorem dX8_allow_10 : decode cX8_allow 10 = .ok (.lconst 0, 1) := g145_X8_allow.2.2.2.2.2.2.1
theorem dX8_allow_11 : decode cX8_allow 11 = .ok (.lconst 1, 1) := g145_X8_allow.2.2.2.2.2.2.2.1
theorem dX8_allow_12 : decode cX8_allow 12 = .ok (.invokestatic 53, 3) := g145_X8_allow.2.2.2.2.2.2.2.2.1
theorem dX8_allow_15 : decode cX8_allow 15 = .ok (.ifCond .ne 5, 3) := g145_X8_allow.2.2.2.2.2.2.2.2.2.1
theorem dX8_allow_18 : decode cX8_allow 18 = .ok (.iconst (-1), 1) := g145_X8_allow.2.2.2.2.2.2.2.2.2.2.1
theorem dX8_allow_19 : decode cX8_allow 19 = .ok (.ireturn, 1) := g145_X8_allow.2.2.2.2.2.2.2.2.2.2.2.1
theorem dX8_allow_20 : decode cX8_allow 20 = .ok (.aload_n 0, 1) := g145_X8_allow.2.2.2.2.2.2.2.2.2.2.2.2.1
theorem dX8_allow_21 : decode cX8_allow 21 = .ok (.getfield 23, 3) := g145_X8_allow.2.2.2.2.2.2.2.2.2.2.2.2.2.1
theorem dX8_allow_24 : decode cX8_allow 24 = .ok (.iload_n 1, 1) := g145_X8_allow.2.2.2.2.2.2.2.2.2.2.2.2.2.2.1
theorem dX8_allow_25 : decode cX8_allow 25 = .ok (.iaload, 1) := g145_X8_allow.2.2.2.2.2.2.2.2.2.2.2.2.2.2.2.1
theorem dX8_allow_26 : decode cX8_allow 26 = .ok (.iload_n 2, 1) := g145_X8_allow.2.2.2.2.2.2.2.2.2.2.2.2.2.2.2.2.1
theorem dX8_allow_27 : decode cX8_allow 27 = .ok (.ishr, 1) := g145_X8_allow.2.2.2.2.2.2.2.2.2.2.2.2.2.2.2.2.2.1
theorem dX8_allow_28 : decode cX8_allow 28 = .ok (.iconst 1, 1) := g145_X8_allow.2.2.2.2.2.2.2.2.2.2.2.2.2.2.2.2.2.2.1
theorem dX8_allow_29 : decode cX8_allow 29 = .ok (.iand, 1) := g145_X8_allow.2.2.2.2.2.2.2.2.2.2.2.2.2.2.2.2.2.2.2.1
theorem dX8_allow_30 : decode cX8_allow 30 = .ok (.istore 4, 2) := g145_X8_allow.2.2.2.2.2.2.2.2.2.2.2.2.2.2.2.2.2.2.2.2.1
theorem dX8_allow_32 : decode cX8_allow 32 = .ok (.aload_n 0, 1) := g145_X8_allow.2.2.2.2.2.2.2.2.2.2.2.2.2.2.2.2.2.2.2.2.2.1
theorem dX8_allow_33 : decode cX8_allow 33 = .ok (.iconst 2, 1) := g145_X8_allow.2.2.2.2.2.2.2.2.2.2.2.2.2.2.2.2.2.2.2.2.2.2.1
theorem dX8_allow_34 : decode cX8_allow 34 = .ok (.iload_n 1, 1) := g145_X8_allow.2.2.2.2.2.2.2.2.2.2.2.2.2.2.2.2.2.2.2.2.2.2.2.1
theorem dX8_allow_35 : decode cX8_allow 35 = .ok (.aload_n 0, 1) := g145_X8_allow.2.2.2.2.2.2.2.2.2.2.2.2.2.2.2.2.2.2.2.2.2.2.2.2.1
theorem dX8_allow_36 : decode cX8_allow 36 = .ok (.getfield 23, 3) := g145_X8_allow.2.2.2.2.2.2.2.2.2.2.2.2.2.2.2.2.2.2.2.2.2.2.2.2.2.1
theorem dX8_allow_39 : decode cX8_allow 39 = .ok (.iload_n 1, 1) := g145_X8_allow.2.2.2.2.2.2.2.2.2.2.2.2.2.2.2.2.2.2.2.2.2.2.2.2.2.2.1
theorem dX8_allow_40 : decode cX8_allow 40 = .ok (.iaload, 1) := g145_X8_allow.2.2.2.2.2.2.2.2.2.2.2.2.2.2.2.2.2.2.2.2.2.2.2.2.2.2.2.1
theorem dX8_allow_41 : decode cX8_allow 41 = .ok (.invokevirtual 150, 3) := g145_X8_allow.2.2.2.2.2.2.2.2.2.2.2.2.2.2.2.2.2.2.2.2.2.2.2.2.2.2.2.2.1
theorem dX8_allow_44 : decode cX8_allow 44 = .ok (.aload_n 0, 1) := g145_X8_allow.2.2.2.2.2.2.2.2.2.2.2.2.2.2.2.2.2.2.2.2.2.2.2.2.2.2.2.2.2.1
theorem dX8_allow_45 : decode cX8_allow 45 = .ok (.getfield 23, 3) := g145_X8_allow.2.2.2.2.2.2.2.2.2.2.2.2.2.2.2.2.2.2.2.2.2.2.2.2.2.2.2.2.2.2.1
theorem dX8_allow_48 : decode cX8_allow 48 = .ok (.iload_n 1, 1) := g145_X8_allow.2.2.2.2.2.2.2.2.2.2.2.2.2.2.2.2.2.2.2.2.2.2.2.2.2.2.2.2.2.2.2.1
theorem dX8_allow_49 : decode cX8_allow 49 = .ok (.iload_n 3, 1) := g145_X8_allow.2.2.2.2.2.2.2.2.2.2.2.2.2.2.2.2.2.2.2.2.2.2.2.2.2.2.2.2.2.2.2.2.1
theorem dX8_allow_50 : decode cX8_allow 50 = .ok (.ifCond .eq 16, 3) := g145_X8_allow.2.2.2.2.2.2.2.2.2.2.2.2.2.2.2.2.2.2.2.2.2.2.2.2.2.2.2.2.2.2.2.2.2.1
theorem dX8_allow_53 : decode cX8_allow 53 = .ok (.aload_n 0, 1) := g145_X8_allow.2.2.2.2.2.2.2.2.2.2.2.2.2.2.2.2.2.2.2.2.2.2.2.2.2.2.2.2.2.2.2.2.2.2.1
theorem dX8_allow_54 : decode cX8_allow 54 = .ok (.getfield 23, 3) := g145_X8_allow.2.2.2.2.2.2.2.2.2.2.2.2.2.2.2.2.2.2.2.2.2.2.2.2.2.2.2.2.2.2.2.2.2.2.2.1
theorem dX8_allow_57 : decode cX8_allow 57 = .ok (.iload_n 1, 1) := g145_X8_allow.2.2.2.2.2.2.2.2.2.2.2.2.2.2.2.2.2.2.2.2.2.2.2.2.2.2.2.2.2.2.2.2.2.2.2.2.1
theorem dX8_allow_58 : decode cX8_allow 58 = .ok (.iaload, 1) := g145_X8_allow.2.2.2.2.2.2.2.2.2.2.2.2.2.2.2.2.2.2.2.2.2.2.2.2.2.2.2.2.2.2.2.2.2.2.2.2.2.1
theorem dX8_allow_59 : decode cX8_allow 59 = .ok (.iconst 1, 1) := g145_X8_allow.2.2.2.2.2.2.2.2.2.2.2.2.2.2.2.2.2.2.2.2.2.2.2.2.2.2.2.2.2.2.2.2.2.2.2.2.2.2.1
theorem dX8_allow_60 : decode cX8_allow 60 = .ok (.iload_n 2, 1) := g145_X8_allow.2.2.2.2.2.2.2.2.2.2.2.2.2.2.2.2.2.2.2.2.2.2.2.2.2.2.2.2.2.2.2.2.2.2.2.2.2.2.2.1
theorem dX8_allow_61 : decode cX8_allow 61 = .ok (.ishl, 1) := g145_X8_allow.2.2.2.2.2.2.2.2.2.2.2.2.2.2.2.2.2.2.2.2.2.2.2.2.2.2.2.2.2.2.2.2.2.2.2.2.2.2.2.2.1
theorem dX8_allow_62 : decode cX8_allow 62 = .ok (.ior, 1) := g145_X8_allow.2.2.2.2.2.2.2.2.2.2.2.2.2.2.2.2.2.2.2.2.2.2.2.2.2.2.2.2.2.2.2.2.2.2.2.2.2.2.2.2.2.1
theorem dX8_allow_63 : decode cX8_allow 63 = .ok (.goto 15, 3) := g145_X8_allow.2.2.2.2.2.2.2.2.2.2.2.2.2.2.2.2.2.2.2.2.2.2.2.2.2.2.2.2.2.2.2.2.2.2.2.2.2.2.2.2.2.2.1
theorem dX8_allow_66 : decode cX8_allow 66 = .ok (.aload_n 0, 1) := g145_X8_allow.2.2.2.2.2.2.2.2.2.2.2.2.2.2.2.2.2.2.2.2.2.2.2.2.2.2.2.2.2.2.2.2.2.2.2.2.2.2.2.2.2.2.2.1
theorem dX8_allow_67 : decode cX8_allow 67 = .ok (.getfield 23, 3) := g145_X8_allow.2.2.2.2.2.2.2.2.2.2.2.2.2.2.2.2.2.2.2.2.2.2.2.2.2.2.2.2.2.2.2.2.2.2.2.2.2.2.2.2.2.2.2.2.1
theorem dX8_allow_70 : decode cX8_allow 70 = .ok (.iload_n 1, 1) := g145_X8_allow.2.2.2.2.2.2.2.2.2.2.2.2.2.2.2.2.2.2.2.2.2.2.2.2.2.2.2.2.2.2.2.2.2.2.2.2.2.2.2.2.2.2.2.2.2.1
theorem dX8_allow_71 : decode cX8_allow 71 = .ok (.iaload, 1) := g145_X8_allow.2.2.2.2.2.2.2.2.2.2.2.2.2.2.2.2.2.2.2.2.2.2.2.2.2.2.2.2.2.2.2.2.2.2.2.2.2.2.2.2.2.2.2.2.2.2.1
theorem dX8_allow_72 : decode cX8_allow 72 = .ok (.iconst 1, 1) := g145_X8_allow.2.2.2.2.2.2.2.2.2.2.2.2.2.2.2.2.2.2.2.2.2.2.2.2.2.2.2.2.2.2.2.2.2.2.2.2.2.2.2.2.2.2.2.2.2.2.2.1
theorem dX8_allow_73 : decode cX8_allow 73 = .ok (.iload_n 2, 1) := g145_X8_allow.2.2.2.2.2.2.2.2.2.2.2.2.2.2.2.2.2.2.2.2.2.2.2.2.2.2.2.2.2.2.2.2.2.2.2.2.2.2.2.2.2.2.2.2.2.2.2.2.1
theorem dX8_allow_74 : decode cX8_allow 74 = .ok (.ishl, 1) := g145_X8_allow.2.2.2.2.2.2.2.2.2.2.2.2.2.2.2.2.2.2.2.2.2.2.2.2.2.2.2.2.2.2.2.2.2.2.2.2.2.2.2.2.2.2.2.2.2.2.2.2.2.1
theorem dX8_allow_75 : decode cX8_allow 75 = .ok (.iconst (-1), 1) := g145_X8_allow.2.2.2.2.2.2.2.2.2.2.2.2.2.2.2.2.2.2.2.2.2.2.2.2.2.2.2.2.2.2.2.2.2.2.2.2.2.2.2.2.2.2.2.2.2.2.2.2.2.2.1
theorem dX8_allow_76 : decode cX8_allow 76 = .ok (.ixor, 1) := g145_X8_allow.2.2.2.2.2.2.2.2.2.2.2.2.2.2.2.2.2.2.2.2.2.2.2.2.2.2.2.2.2.2.2.2.2.2.2.2.2.2.2.2.2.2.2.2.2.2.2.2.2.2.2.1
theorem dX8_allow_77 : decode cX8_allow 77 = .ok (.iand, 1) := g145_X8_allow.2.2.2.2.2.2.2.2.2.2.2.2.2.2.2.2.2.2.2.2.2.2.2.2.2.2.2.2.2.2.2.2.2.2.2.2.2.2.2.2.2.2.2.2.2.2.2.2.2.2.2.2.1
theorem dX8_allow_78 : decode cX8_allow 78 = .ok (.iastore, 1) := g145_X8_allow.2.2.2.2.2.2.2.2.2.2.2.2.2.2.2.2.2.2.2.2.2.2.2.2.2.2.2.2.2.2.2.2.2.2.2.2.2.2.2.2.2.2.2.2.2.2.2.2.2.2.2.2.2.1
theorem dX8_allow_79 : decode cX8_allow 79 = .ok (.iload 4, 2) := g145_X8_allow.2.2.2.2.2.2.2.2.2.2.2.2.2.2.2.2.2.2.2.2.2.2.2.2.2.2.2.2.2.2.2.2.2.2.2.2.2.2.2.2.2.2.2.2.2.2.2.2.2.2.2.2.2.2.1
theorem dX8_allow_81 : decode cX8_allow 81 = .ok (.ireturn, 1) := g145_X8_allow.2.2.2.2.2.2.2.2.2.2.2.2.2.2.2.2.2.2.2.2.2.2.2.2.2.2.2.2.2.2.2.2.2.2.2.2.2.2.2.2.2.2.2.2.2.2.2.2.2.2.2.2.2.2.2

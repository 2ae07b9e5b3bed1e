theorem gg215 : decode cX7_tell 53 = .ok (.getfield 103, 3) ∧ decode cX7_tell 56 = .ok (.ireturn, 1) := by decide +kernel
theorem dX7_tell_53 : decode cX7_tell 53 = .ok (.getfield 103, 3) := gg215.1
theorem dX7_tell_56 : decode cX7_tell 56 = .ok (.ireturn, 1) := gg215.2
theorem gg216 : decode cX7_noRow 0 = .ok (.aload_n 0, 1) ∧ decode cX7_noRow 1 = .ok (.getfield 103, 3) ∧ decode cX7_noRow 4 = .ok (.istore_n 1, 1) ∧ decode cX7_noRow 5 = .ok (.aload_n 0, 1) ∧ decode cX7_noRow 6 = .ok (.iconst 0, 1) ∧ decode cX7_noRow 7 = .ok (.putfield 103, 3) ∧ decode cX7_noRow 10 = .ok (.iload_n 1, 1) ∧ decode cX7_noRow 11 = .ok (.ireturn, 1) := by decide +kernel
theorem dX7_noRow_0 : decode cX7_noRow 0 = .ok (.aload_n 0, 1) := gg216.1
theorem dX7_noRow_1 : decode cX7_noRow 1 = .ok (.getfield 103, 3) := gg216.2.1
theorem dX7_noRow_4 : decode cX7_noRow 4 = .ok (.istore_n 1, 1) := gg216.2.2.1
theorem dX7_noRow_5 : decode cX7_noRow 5 = .ok (.aload_n 0, 1) := gg216.2.2.2.1
theorem dX7_noRow_6 : decode cX7_noRow 6 = .ok (.iconst 0, 1) := gg216.2.2.2.2.1
theorem dX7_noRow_7 : decode cX7_noRow 7 = .ok (.putfield 103, 3) := gg216.2.2.2.2.2.1
theorem dX7_noRow_10 : decode cX7_noRow 10 = .ok (.iload_n 1, 1) := gg216.2.2.2.2.2.2.1
theorem dX7_noRow_11 : decode cX7_noRow 11 = .ok (.ireturn, 1) := gg216.2.2.2.2.2.2.2
theorem gg217 : decode cX7_soon 0 = .ok (.lload_n 1, 1) ∧ decode cX7_soon 1 = .ok (.invokestatic 129, 3) ∧ decode cX7_soon 4 = .ok (.ifCond .eq 16, 3) ∧ decode cX7_soon 7 = .ok (.iload_n 3, 1) ∧ decode cX7_soon 8 = .ok (.iconst (-1), 1) ∧ decode cX7_soon 9 = .ok (.if_icmp .lt 11, 3) ∧ decode cX7_soon 12 = .ok (.iload_n 3, 1) ∧ decode cX7_soon 13 = .ok (.aload_n 0, 1) ∧ decode cX7_soon 14 = .ok (.getfield 103, 3) ∧ decode cX7_soon 17 = .ok (.if_icmp .lt 7, 3) := by decide +kernel
theorem dX7_soon_0 : decode cX7_soon 0 = .ok (.lload_n 1, 1) := gg217.1
theorem dX7_soon_1 : decode cX7_soon 1 = .ok (.invokestatic 129, 3) := gg217.2.1
theorem dX7_soon_4 : decode cX7_soon 4 = .ok (.ifCond .eq 16, 3) := gg217.2.2.1
theorem dX7_soon_7 : decode cX7_soon 7 = .ok (.iload_n 3, 1) := gg217.2.2.2.1
theorem dX7_soon_8 : decode cX7_soon 8 = .ok (.iconst (-1), 1) := gg217.2.2.2.2.1
theorem dX7_soon_9 : decode cX7_soon 9 = .ok (.if_icmp .lt 11, 3) := gg217.2.2.2.2.2.1
theorem dX7_soon_12 : decode cX7_soon 12 = .ok (.iload_n 3, 1) := gg217.2.2.2.2.2.2.1
theorem dX7_soon_13 : decode cX7_soon 13 = .ok (.aload_n 0, 1) := gg217.2.2.2.2.2.2.2.1
theorem dX7_soon_14 : decode cX7_soon 14 = .ok (.getfield 103, 3) := gg217.2.2.2.2.2.2.2.2.1
theorem dX7_soon_17 : decode cX7_soon 17 = .ok (.if_icmp .lt 7, 3) := gg217.2.2.2.2.2.2.2.2.2
theorem gg218 : decode cX7_soon 20 = .ok (.ldc2_w 145, 3) ∧ decode cX7_soon 23 = .ok (.lreturn, 1) ∧ decode cX7_soon 24 = .ok (.lload_n 1, 1) ∧ decode cX7_soon 25 = .ok (.lstore 4, 2) ∧ decode cX7_soon 27 = .ok (.iconst 0, 1) ∧ decode cX7_soon 28 = .ok (.istore 6, 2) ∧ decode cX7_soon 30 = .ok (.iload 6, 2) ∧ decode cX7_soon 32 = .ok (.aload_n 0, 1) ∧ decode cX7_soon 33 = .ok (.getfield 103, 3) ∧ decode cX7_soon 36 = .ok (.if_icmp .ge 82, 3) := by decide +kernel
theorem dX7_soon_20 : decode cX7_soon 20 = .ok (.ldc2_w 145, 3) := gg218.1
theorem dX7_soon_23 : decode cX7_soon 23 = .ok (.lreturn, 1) := gg218.2.1
theorem dX7_soon_24 : decode cX7_soon 24 = .ok (.lload_n 1, 1) := gg218.2.2.1
theorem dX7_soon_25 : decode cX7_soon 25 = .ok (.lstore 4, 2) := gg218.2.2.2.1
theorem dX7_soon_27 : decode cX7_soon 27 = .ok (.iconst 0, 1) := gg218.2.2.2.2.1
theorem dX7_soon_28 : decode cX7_soon 28 = .ok (.istore 6, 2) := gg218.2.2.2.2.2.1
theorem dX7_soon_30 : decode cX7_soon 30 = .ok (.iload 6, 2) := gg218.2.2.2.2.2.2.1
theorem dX7_soon_32 : decode cX7_soon 32 = .ok (.aload_n 0, 1) := gg218.2.2.2.2.2.2.2.1
theorem dX7_soon_33 : decode cX7_soon 33 = .ok (.getfield 103, 3) := gg218.2.2.2.2.2.2.2.2.1
theorem dX7_soon_36 : decode cX7_soon 36 = .ok (.if_icmp .ge 82, 3) := gg218.2.2.2.2.2.2.2.2.2
theorem gg219 : decode cX7_soon 39 = .ok (.iload 6, 2) ∧ decode cX7_soon 41 = .ok (.aload_n 0, 1) ∧ decode cX7_soon 42 = .ok (.getfield 70, 3) ∧ decode cX7_soon 45 = .ok (.arraylength, 1) ∧ decode cX7_soon 46 = .ok (.if_icmp .ge 72, 3) ∧ decode cX7_soon 49 = .ok (.aload_n 0, 1) ∧ decode cX7_soon 50 = .ok (.getfield 38, 3) ∧ decode cX7_soon 53 = .ok (.aload_n 0, 1) ∧ decode cX7_soon 54 = .ok (.getfield 70, 3) ∧ decode cX7_soon 57 = .ok (.iload 6, 2) := by decide +kernel
theorem dX7_soon_39 : decode cX7_soon 39 = .ok (.iload 6, 2) := gg219.1
theorem dX7_soon_41 : decode cX7_soon 41 = .ok (.aload_n 0, 1) := gg219.2.1
theorem dX7_soon_42 : decode cX7_soon 42 = .ok (.getfield 70, 3) := gg219.2.2.1
theorem dX7_soon_45 : decode cX7_soon 45 = .ok (.arraylength, 1) := gg219.2.2.2.1
theorem dX7_soon_46 : decode cX7_soon 46 = .ok (.if_icmp .ge 72, 3) := gg219.2.2.2.2.1
theorem dX7_soon_49 : decode cX7_soon 49 = .ok (.aload_n 0, 1) := gg219.2.2.2.2.2.1
theorem dX7_soon_50 : decode cX7_soon 50 = .ok (.getfield 38, 3) := gg219.2.2.2.2.2.2.1
theorem dX7_soon_53 : decode cX7_soon 53 = .ok (.aload_n 0, 1) := gg219.2.2.2.2.2.2.2.1
theorem dX7_soon_54 : decode cX7_soon 54 = .ok (.getfield 70, 3) := gg219.2.2.2.2.2.2.2.2.1
theorem dX7_soon_57 : decode cX7_soon 57 = .ok (.iload 6, 2) := gg219.2.2.2.2.2.2.2.2.2
theorem gg220 : decode cX7_soon 59 = .ok (.iaload, 1) ∧ decode cX7_soon 60 = .ok (.aload_n 0, 1) ∧ decode cX7_soon 61 = .ok (.getfield 70, 3) ∧ decode cX7_soon 64 = .ok (.iload 6, 2) ∧ decode cX7_soon 66 = .ok (.iaload, 1) ∧ decode cX7_soon 67 = .ok (.lload 4, 2) ∧ decode cX7_soon 69 = .ok (.invokevirtual 154, 3) ∧ decode cX7_soon 72 = .ok (.lstore 7, 2) ∧ decode cX7_soon 74 = .ok (.lload 7, 2) ∧ decode cX7_soon 76 = .ok (.ldc2_w 158, 3) := by decide +kernel
theorem dX7_soon_59 : decode cX7_soon 59 = .ok (.iaload, 1) := gg220.1
theorem dX7_soon_60 : decode cX7_soon 60 = .ok (.aload_n 0, 1) := gg220.2.1
theorem dX7_soon_61 : decode cX7_soon 61 = .ok (.getfield 70, 3) := gg220.2.2.1
theorem dX7_soon_64 : decode cX7_soon 64 = .ok (.iload 6, 2) := gg220.2.2.2.1
theorem dX7_soon_66 : decode cX7_soon 66 = .ok (.iaload, 1) := gg220.2.2.2.2.1
theorem dX7_soon_67 : decode cX7_soon 67 = .ok (.lload 4, 2) := gg220.2.2.2.2.2.1
theorem dX7_soon_69 : decode cX7_soon 69 = .ok (.invokevirtual 154, 3) := gg220.2.2.2.2.2.2.1
theorem dX7_soon_72 : decode cX7_soon 72 = .ok (.lstore 7, 2) := gg220.2.2.2.2.2.2.2.1
theorem dX7_soon_74 : decode cX7_soon 74 = .ok (.lload 7, 2) := gg220.2.2.2.2.2.2.2.2.1
theorem dX7_soon_76 : decode cX7_soon 76 = .ok (.ldc2_w 158, 3) := gg220.2.2.2.2.2.2.2.2.2
theorem gg221 : decode cX7_soon 79 = .ok (.lcmp, 1) ∧ decode cX7_soon 80 = .ok (.ifCond .eq 9, 3) ∧ decode cX7_soon 83 = .ok (.iload 6, 2) ∧ decode cX7_soon 85 = .ok (.iload_n 3, 1) ∧ decode cX7_soon 86 = .ok (.if_icmp .ne 6, 3) ∧ decode cX7_soon 89 = .ok (.lload 7, 2) ∧ decode cX7_soon 91 = .ok (.lreturn, 1) ∧ decode cX7_soon 92 = .ok (.lload 7, 2) ∧ decode cX7_soon 94 = .ok (.aload_n 0, 1) ∧ decode cX7_soon 95 = .ok (.getfield 23, 3) := by decide +kernel
theorem dX7_soon_79 : decode cX7_soon 79 = .ok (.lcmp, 1) := gg221.1
theorem dX7_soon_80 : decode cX7_soon 80 = .ok (.ifCond .eq 9, 3) := gg221.2.1
theorem dX7_soon_83 : decode cX7_soon 83 = .ok (.iload 6, 2) := gg221.2.2.1
theorem dX7_soon_85 : decode cX7_soon 85 = .ok (.iload_n 3, 1) := gg221.2.2.2.1
theorem dX7_soon_86 : decode cX7_soon 86 = .ok (.if_icmp .ne 6, 3) := gg221.2.2.2.2.1
theorem dX7_soon_89 : decode cX7_soon 89 = .ok (.lload 7, 2) := gg221.2.2.2.2.2.1
theorem dX7_soon_91 : decode cX7_soon 91 = .ok (.lreturn, 1) := gg221.2.2.2.2.2.2.1
theorem dX7_soon_92 : decode cX7_soon 92 = .ok (.lload 7, 2) := gg221.2.2.2.2.2.2.2.1
theorem dX7_soon_94 : decode cX7_soon 94 = .ok (.aload_n 0, 1) := gg221.2.2.2.2.2.2.2.2.1
theorem dX7_soon_95 : decode cX7_soon 95 = .ok (.getfield 23, 3) := gg221.2.2.2.2.2.2.2.2.2
theorem gg222 : decode cX7_soon 98 = .ok (.aload_n 0, 1) ∧ decode cX7_soon 99 = .ok (.getfield 70, 3) ∧ decode cX7_soon 102 = .ok (.iload 6, 2) ∧ decode cX7_soon 104 = .ok (.iaload, 1) ∧ decode cX7_soon 105 = .ok (.invokevirtual 160, 3) ∧ decode cX7_soon 108 = .ok (.i2l, 1) ∧ decode cX7_soon 109 = .ok (.ladd, 1) ∧ decode cX7_soon 110 = .ok (.lstore 4, 2) ∧ decode cX7_soon 112 = .ok (.iinc 6 1, 3) ∧ decode cX7_soon 115 = .ok (.goto (-85), 3) := by decide +kernel
theorem dX7_soon_98 : decode cX7_soon 98 = .ok (.aload_n 0, 1) := gg222.1
theorem dX7_soon_99 : decode cX7_soon 99 = .ok (.getfield 70, 3) := gg222.2.1
theorem dX7_soon_102 : decode cX7_soon 102 = .ok (.iload 6, 2) := gg222.2.2.1
theorem dX7_soon_104 : decode cX7_soon 104 = .ok (.iaload, 1) := gg222.2.2.2.1
theorem dX7_soon_105 : decode cX7_soon 105 = .ok (.invokevirtual 160, 3) := gg222.2.2.2.2.1
theorem dX7_soon_108 : decode cX7_soon 108 = .ok (.i2l, 1) := gg222.2.2.2.2.2.1
theorem dX7_soon_109 : decode cX7_soon 109 = .ok (.ladd, 1) := gg222.2.2.2.2.2.2.1
theorem dX7_soon_110 : decode cX7_soon 110 = .ok (.lstore 4, 2) := gg222.2.2.2.2.2.2.2.1
theorem dX7_soon_112 : decode cX7_soon 112 = .ok (.iinc 6 1, 3) := gg222.2.2.2.2.2.2.2.2.1
theorem dX7_soon_115 : decode cX7_soon 115 = .ok (.goto (-85), 3) := gg222.2.2.2.2.2.2.2.2.2
theorem gg223 : decode cX7_soon 118 = .ok (.lload 4, 2) ∧ decode cX7_soon 120 = .ok (.lreturn, 1) := by decide +kernel
theorem dX7_soon_118 : decode cX7_soon 118 = .ok (.lload 4, 2) := gg223.1
theorem dX7_soon_120 : decode cX7_soon 120 = .ok (.lreturn, 1) := gg223.2
theorem gg224 : decode cX7_pass 0 = .ok (.iload_n 1, 1) ∧ decode cX7_pass 1 = .ok (.iconst 1, 1) ∧ decode cX7_pass 2 = .ok (.if_icmp .lt 10, 3) ∧ decode cX7_pass 5 = .ok (.iload_n 1, 1) ∧ decode cX7_pass 6 = .ok (.sipush 9999, 3) ∧ decode cX7_pass 9 = .ok (.if_icmp .le 7, 3) ∧ decode cX7_pass 12 = .ok (.ldc2_w 145, 3) ∧ decode cX7_pass 15 = .ok (.lreturn, 1) ∧ decode cX7_pass 16 = .ok (.aload_n 0, 1) ∧ decode cX7_pass 17 = .ok (.getfield 63, 3) := by decide +kernel
theorem dX7_pass_0 : decode cX7_pass 0 = .ok (.iload_n 1, 1) := gg224.1
theorem dX7_pass_1 : decode cX7_pass 1 = .ok (.iconst 1, 1) := gg224.2.1
theorem dX7_pass_2 : decode cX7_pass 2 = .ok (.if_icmp .lt 10, 3) := gg224.2.2.1
theorem dX7_pass_5 : decode cX7_pass 5 = .ok (.iload_n 1, 1) := gg224.2.2.2.1
theorem dX7_pass_6 : decode cX7_pass 6 = .ok (.sipush 9999, 3) := gg224.2.2.2.2.1
theorem dX7_pass_9 : decode cX7_pass 9 = .ok (.if_icmp .le 7, 3) := gg224.2.2.2.2.2.1
theorem dX7_pass_12 : decode cX7_pass 12 = .ok (.ldc2_w 145, 3) := gg224.2.2.2.2.2.2.1
theorem dX7_pass_15 : decode cX7_pass 15 = .ok (.lreturn, 1) := gg224.2.2.2.2.2.2.2.1
theorem dX7_pass_16 : decode cX7_pass 16 = .ok (.aload_n 0, 1) := gg224.2.2.2.2.2.2.2.2.1
theorem dX7_pass_17 : decode cX7_pass 17 = .ok (.getfield 63, 3) := gg224.2.2.2.2.2.2.2.2.2
theorem gg225 : decode cX7_pass 20 = .ok (.aload_n 0, 1) ∧ decode cX7_pass 21 = .ok (.getfield 29, 3) ∧ decode cX7_pass 24 = .ok (.invokevirtual 164, 3) ∧ decode cX7_pass 27 = .ok (.aload_n 0, 1) ∧ decode cX7_pass 28 = .ok (.getfield 29, 3) ∧ decode cX7_pass 31 = .ok (.dup, 1) ∧ decode cX7_pass 32 = .ok (.getfield 168, 3) ∧ decode cX7_pass 35 = .ok (.iload_n 1, 1) ∧ decode cX7_pass 36 = .ok (.i2l, 1) ∧ decode cX7_pass 37 = .ok (.ladd, 1) := by decide +kernel
theorem dX7_pass_20 : decode cX7_pass 20 = .ok (.aload_n 0, 1) := gg225.1
theorem dX7_pass_21 : decode cX7_pass 21 = .ok (.getfield 29, 3) := gg225.2.1
theorem dX7_pass_24 : decode cX7_pass 24 = .ok (.invokevirtual 164, 3) := gg225.2.2.1
theorem dX7_pass_27 : decode cX7_pass 27 = .ok (.aload_n 0, 1) := gg225.2.2.2.1
theorem dX7_pass_28 : decode cX7_pass 28 = .ok (.getfield 29, 3) := gg225.2.2.2.2.1
theorem dX7_pass_31 : decode cX7_pass 31 = .ok (.dup, 1) := gg225.2.2.2.2.2.1
theorem dX7_pass_32 : decode cX7_pass 32 = .ok (.getfield 168, 3) := gg225.2.2.2.2.2.2.1
theorem dX7_pass_35 : decode cX7_pass 35 = .ok (.iload_n 1, 1) := gg225.2.2.2.2.2.2.2.1
theorem dX7_pass_36 : decode cX7_pass 36 = .ok (.i2l, 1) := gg225.2.2.2.2.2.2.2.2.1
theorem dX7_pass_37 : decode cX7_pass 37 = .ok (.ladd, 1) := gg225.2.2.2.2.2.2.2.2.2
theorem gg226 : decode cX7_pass 38 = .ok (.putfield 168, 3) ∧ decode cX7_pass 41 = .ok (.aload_n 0, 1) ∧ decode cX7_pass 42 = .ok (.getfield 29, 3) ∧ decode cX7_pass 45 = .ok (.getfield 168, 3) ∧ decode cX7_pass 48 = .ok (.lreturn, 1) := by decide +kernel
theorem dX7_pass_38 : decode cX7_pass 38 = .ok (.putfield 168, 3) := gg226.1
theorem dX7_pass_41 : decode cX7_pass 41 = .ok (.aload_n 0, 1) := gg226.2.1
theorem dX7_pass_42 : decode cX7_pass 42 = .ok (.getfield 29, 3) := gg226.2.2.1
theorem dX7_pass_45 : decode cX7_pass 45 = .ok (.getfield 168, 3) := gg226.2.2.2.1
theorem dX7_pass_48 : decode cX7_pass 48 = .ok (.lreturn, 1) := gg226.2.2.2.2
theorem gg227 : decode cX7_doAct 0 = .ok (.aload_n 0, 1) ∧ decode cX7_doAct 1 = .ok (.iload_n 1, 1) ∧ decode cX7_doAct 2 = .ok (.invokevirtual 112, 3) ∧ decode cX7_doAct 5 = .ok (.ifCond .ne 7, 3) ∧ decode cX7_doAct 8 = .ok (.ldc2_w 145, 3) ∧ decode cX7_doAct 11 = .ok (.lreturn, 1) ∧ decode cX7_doAct 12 = .ok (.aload_n 0, 1) ∧ decode cX7_doAct 13 = .ok (.getfield 38, 3) ∧ decode cX7_doAct 16 = .ok (.iload_n 1, 1) ∧ decode cX7_doAct 17 = .ok (.aload_n 0, 1) := by decide +kernel
theorem dX7_doAct_0 : decode cX7_doAct 0 = .ok (.aload_n 0, 1) := gg227.1
theorem dX7_doAct_1 : decode cX7_doAct 1 = .ok (.iload_n 1, 1) := gg227.2.1
theorem dX7_doAct_2 : decode cX7_doAct 2 = .ok (.invokevirtual 112, 3) := gg227.2.2.1
theorem dX7_doAct_5 : decode cX7_doAct 5 = .ok (.ifCond .ne 7, 3) := gg227.2.2.2.1
theorem dX7_doAct_8 : decode cX7_doAct 8 = .ok (.ldc2_w 145, 3) := gg227.2.2.2.2.1
theorem dX7_doAct_11 : decode cX7_doAct 11 = .ok (.lreturn, 1) := gg227.2.2.2.2.2.1
theorem dX7_doAct_12 : decode cX7_doAct 12 = .ok (.aload_n 0, 1) := gg227.2.2.2.2.2.2.1
theorem dX7_doAct_13 : decode cX7_doAct 13 = .ok (.getfield 38, 3) := gg227.2.2.2.2.2.2.2.1
theorem dX7_doAct_16 : decode cX7_doAct 16 = .ok (.iload_n 1, 1) := gg227.2.2.2.2.2.2.2.2.1
theorem dX7_doAct_17 : decode cX7_doAct 17 = .ok (.aload_n 0, 1) := gg227.2.2.2.2.2.2.2.2.2
theorem gg228 : decode cX7_doAct 18 = .ok (.getfield 29, 3) ∧ decode cX7_doAct 21 = .ok (.getfield 168, 3) ∧ decode cX7_doAct 24 = .ok (.invokevirtual 151, 3) ∧ decode cX7_doAct 27 = .ok (.ifCond .ne 7, 3) ∧ decode cX7_doAct 30 = .ok (.ldc2_w 172, 3) ∧ decode cX7_doAct 33 = .ok (.lreturn, 1) ∧ decode cX7_doAct 34 = .ok (.aload_n 0, 1) ∧ decode cX7_doAct 35 = .ok (.getfield 63, 3) ∧ decode cX7_doAct 38 = .ok (.aload_n 0, 1) ∧ decode cX7_doAct 39 = .ok (.getfield 29, 3) := by decide +kernel
theorem dX7_doAct_18 : decode cX7_doAct 18 = .ok (.getfield 29, 3) := gg228.1
theorem dX7_doAct_21 : decode cX7_doAct 21 = .ok (.getfield 168, 3) := gg228.2.1
theorem dX7_doAct_24 : decode cX7_doAct 24 = .ok (.invokevirtual 151, 3) := gg228.2.2.1
theorem dX7_doAct_27 : decode cX7_doAct 27 = .ok (.ifCond .ne 7, 3) := gg228.2.2.2.1
theorem dX7_doAct_30 : decode cX7_doAct 30 = .ok (.ldc2_w 172, 3) := gg228.2.2.2.2.1
theorem dX7_doAct_33 : decode cX7_doAct 33 = .ok (.lreturn, 1) := gg228.2.2.2.2.2.1
theorem dX7_doAct_34 : decode cX7_doAct 34 = .ok (.aload_n 0, 1) := gg228.2.2.2.2.2.2.1
theorem dX7_doAct_35 : decode cX7_doAct 35 = .ok (.getfield 63, 3) := gg228.2.2.2.2.2.2.2.1
theorem dX7_doAct_38 : decode cX7_doAct 38 = .ok (.aload_n 0, 1) := gg228.2.2.2.2.2.2.2.2.1
theorem dX7_doAct_39 : decode cX7_doAct 39 = .ok (.getfield 29, 3) := gg228.2.2.2.2.2.2.2.2.2
theorem gg229 : decode cX7_doAct 42 = .ok (.invokevirtual 164, 3) ∧ decode cX7_doAct 45 = .ok (.aload_n 0, 1) ∧ decode cX7_doAct 46 = .ok (.getfield 29, 3) ∧ decode cX7_doAct 49 = .ok (.dup, 1) ∧ decode cX7_doAct 50 = .ok (.getfield 168, 3) ∧ decode cX7_doAct 53 = .ok (.aload_n 0, 1) ∧ decode cX7_doAct 54 = .ok (.getfield 23, 3) ∧ decode cX7_doAct 57 = .ok (.iload_n 1, 1) ∧ decode cX7_doAct 58 = .ok (.invokevirtual 160, 3) ∧ decode cX7_doAct 61 = .ok (.i2l, 1) := by decide +kernel
theorem dX7_doAct_42 : decode cX7_doAct 42 = .ok (.invokevirtual 164, 3) := gg229.1
theorem dX7_doAct_45 : decode cX7_doAct 45 = .ok (.aload_n 0, 1) := gg229.2.1
theorem dX7_doAct_46 : decode cX7_doAct 46 = .ok (.getfield 29, 3) := gg229.2.2.1
theorem dX7_doAct_49 : decode cX7_doAct 49 = .ok (.dup, 1) := gg229.2.2.2.1
theorem dX7_doAct_50 : decode cX7_doAct 50 = .ok (.getfield 168, 3) := gg229.2.2.2.2.1
theorem dX7_doAct_53 : decode cX7_doAct 53 = .ok (.aload_n 0, 1) := gg229.2.2.2.2.2.1
theorem dX7_doAct_54 : decode cX7_doAct 54 = .ok (.getfield 23, 3) := gg229.2.2.2.2.2.2.1
theorem dX7_doAct_57 : decode cX7_doAct 57 = .ok (.iload_n 1, 1) := gg229.2.2.2.2.2.2.2.1
theorem dX7_doAct_58 : decode cX7_doAct 58 = .ok (.invokevirtual 160, 3) := gg229.2.2.2.2.2.2.2.2.1
theorem dX7_doAct_61 : decode cX7_doAct 61 = .ok (.i2l, 1) := gg229.2.2.2.2.2.2.2.2.2
theorem gg230 : decode cX7_doAct 62 = .ok (.ladd, 1) ∧ decode cX7_doAct 63 = .ok (.putfield 168, 3) ∧ decode cX7_doAct 66 = .ok (.aload_n 0, 1) ∧ decode cX7_doAct 67 = .ok (.getfield 29, 3) ∧ decode cX7_doAct 70 = .ok (.dup, 1) ∧ decode cX7_doAct 71 = .ok (.getfield 174, 3) ∧ decode cX7_doAct 74 = .ok (.aload_n 0, 1) ∧ decode cX7_doAct 75 = .ok (.getfield 23, 3) ∧ decode cX7_doAct 78 = .ok (.iload_n 1, 1) ∧ decode cX7_doAct 79 = .ok (.iconst 0, 1) := by decide +kernel
theorem dX7_doAct_62 : decode cX7_doAct 62 = .ok (.ladd, 1) := gg230.1
theorem dX7_doAct_63 : decode cX7_doAct 63 = .ok (.putfield 168, 3) := gg230.2.1
theorem dX7_doAct_66 : decode cX7_doAct 66 = .ok (.aload_n 0, 1) := gg230.2.2.1
theorem dX7_doAct_67 : decode cX7_doAct 67 = .ok (.getfield 29, 3) := gg230.2.2.2.1
theorem dX7_doAct_70 : decode cX7_doAct 70 = .ok (.dup, 1) := gg230.2.2.2.2.1
theorem dX7_doAct_71 : decode cX7_doAct 71 = .ok (.getfield 174, 3) := gg230.2.2.2.2.2.1
theorem dX7_doAct_74 : decode cX7_doAct 74 = .ok (.aload_n 0, 1) := gg230.2.2.2.2.2.2.1
theorem dX7_doAct_75 : decode cX7_doAct 75 = .ok (.getfield 23, 3) := gg230.2.2.2.2.2.2.2.1
theorem dX7_doAct_78 : decode cX7_doAct 78 = .ok (.iload_n 1, 1) := gg230.2.2.2.2.2.2.2.2.1
theorem dX7_doAct_79 : decode cX7_doAct 79 = .ok (.iconst 0, 1) := gg230.2.2.2.2.2.2.2.2.2
theorem gg231 : decode cX7_doAct 80 = .ok (.invokevirtual 177, 3) ∧ decode cX7_doAct 83 = .ok (.iadd, 1) ∧ decode cX7_doAct 84 = .ok (.putfield 174, 3) ∧ decode cX7_doAct 87 = .ok (.aload_n 0, 1) ∧ decode cX7_doAct 88 = .ok (.getfield 29, 3) ∧ decode cX7_doAct 91 = .ok (.dup, 1) ∧ decode cX7_doAct 92 = .ok (.getfield 180, 3) ∧ decode cX7_doAct 95 = .ok (.aload_n 0, 1) ∧ decode cX7_doAct 96 = .ok (.getfield 23, 3) ∧ decode cX7_doAct 99 = .ok (.iload_n 1, 1) := by decide +kernel
theorem dX7_doAct_80 : decode cX7_doAct 80 = .ok (.invokevirtual 177, 3) := gg231.1
theorem dX7_doAct_83 : decode cX7_doAct 83 = .ok (.iadd, 1) := gg231.2.1
theorem dX7_doAct_84 : decode cX7_doAct 84 = .ok (.putfield 174, 3) := gg231.2.2.1
theorem dX7_doAct_87 : decode cX7_doAct 87 = .ok (.aload_n 0, 1) := gg231.2.2.2.1
theorem dX7_doAct_88 : decode cX7_doAct 88 = .ok (.getfield 29, 3) := gg231.2.2.2.2.1
theorem dX7_doAct_91 : decode cX7_doAct 91 = .ok (.dup, 1) := gg231.2.2.2.2.2.1
theorem dX7_doAct_92 : decode cX7_doAct 92 = .ok (.getfield 180, 3) := gg231.2.2.2.2.2.2.1
theorem dX7_doAct_95 : decode cX7_doAct 95 = .ok (.aload_n 0, 1) := gg231.2.2.2.2.2.2.2.1
theorem dX7_doAct_96 : decode cX7_doAct 96 = .ok (.getfield 23, 3) := gg231.2.2.2.2.2.2.2.2.1
theorem dX7_doAct_99 : decode cX7_doAct 99 = .ok (.iload_n 1, 1) := gg231.2.2.2.2.2.2.2.2.2
theorem gg232 : decode cX7_doAct 100 = .ok (.iconst 1, 1) ∧ decode cX7_doAct 101 = .ok (.invokevirtual 177, 3) ∧ decode cX7_doAct 104 = .ok (.iadd, 1) ∧ decode cX7_doAct 105 = .ok (.putfield 180, 3) ∧ decode cX7_doAct 108 = .ok (.aload_n 0, 1) ∧ decode cX7_doAct 109 = .ok (.getfield 29, 3) ∧ decode cX7_doAct 112 = .ok (.getfield 168, 3) ∧ decode cX7_doAct 115 = .ok (.lreturn, 1) := by decide +kernel
theorem dX7_doAct_100 : decode cX7_doAct 100 = .ok (.iconst 1, 1) := gg232.1
theorem dX7_doAct_101 : decode cX7_doAct 101 = .ok (.invokevirtual 177, 3) := gg232.2.1
theorem dX7_doAct_104 : decode cX7_doAct 104 = .ok (.iadd, 1) := gg232.2.2.1
theorem dX7_doAct_105 : decode cX7_doAct 105 = .ok (.putfield 180, 3) := gg232.2.2.2.1
theorem dX7_doAct_108 : decode cX7_doAct 108 = .ok (.aload_n 0, 1) := gg232.2.2.2.2.1
theorem dX7_doAct_109 : decode cX7_doAct 109 = .ok (.getfield 29, 3) := gg232.2.2.2.2.2.1
theorem dX7_doAct_112 : decode cX7_doAct 112 = .ok (.getfield 168, 3) := gg232.2.2.2.2.2.2.1
theorem dX7_doAct_115 : decode cX7_doAct 115 = .ok (.lreturn, 1) := gg232.2.2.2.2.2.2.2
theorem gg233 : decode cX7_allow 0 = .ok (.aload_n 0, 1) ∧ decode cX7_allow 1 = .ok (.iload_n 1, 1) ∧ decode cX7_allow 2 = .ok (.invokevirtual 112, 3) ∧ decode cX7_allow 5 = .ok (.ifCond .eq 10, 3) ∧ decode cX7_allow 8 = .ok (.iload_n 2, 1) ∧ decode cX7_allow 9 = .ok (.invokestatic 183, 3) ∧ decode cX7_allow 12 = .ok (.ifCond .ne 5, 3) ∧ decode cX7_allow 15 = .ok (.iconst (-1), 1) ∧ decode cX7_allow 16 = .ok (.ireturn, 1) ∧ decode cX7_allow 17 = .ok (.aload_n 0, 1) := by decide +kernel
theorem dX7_allow_0 : decode cX7_allow 0 = .ok (.aload_n 0, 1) := gg233.1
theorem dX7_allow_1 : decode cX7_allow 1 = .ok (.iload_n 1, 1) := gg233.2.1
theorem dX7_allow_2 : decode cX7_allow 2 = .ok (.invokevirtual 112, 3) := gg233.2.2.1
theorem dX7_allow_5 : decode cX7_allow 5 = .ok (.ifCond .eq 10, 3) := gg233.2.2.2.1
theorem dX7_allow_8 : decode cX7_allow 8 = .ok (.iload_n 2, 1) := gg233.2.2.2.2.1
theorem dX7_allow_9 : decode cX7_allow 9 = .ok (.invokestatic 183, 3) := gg233.2.2.2.2.2.1
theorem dX7_allow_12 : decode cX7_allow 12 = .ok (.ifCond .ne 5, 3) := gg233.2.2.2.2.2.2.1
theorem dX7_allow_15 : decode cX7_allow 15 = .ok (.iconst (-1), 1) := gg233.2.2.2.2.2.2.2.1
theorem dX7_allow_16 : decode cX7_allow 16 = .ok (.ireturn, 1) := gg233.2.2.2.2.2.2.2.2.1
theorem dX7_allow_17 : decode cX7_allow 17 = .ok (.aload_n 0, 1) := gg233.2.2.2.2.2.2.2.2.2
theorem gg234 : decode cX7_allow 18 = .ok (.getfield 29, 3) ∧ decode cX7_allow 21 = .ok (.getfield 116, 3) ∧ decode cX7_allow 24 = .ok (.iload_n 1, 1) ∧ decode cX7_allow 25 = .ok (.invokestatic 119, 3) ∧ decode cX7_allow 28 = .ok (.iload_n 2, 1) ∧ decode cX7_allow 29 = .ok (.ishr, 1) ∧ decode cX7_allow 30 = .ok (.iconst 1, 1) ∧ decode cX7_allow 31 = .ok (.iand, 1) ∧ decode cX7_allow 32 = .ok (.istore 4, 2) ∧ decode cX7_allow 34 = .ok (.aload_n 0, 1) := by decide +kernel
theorem dX7_allow_18 : decode cX7_allow 18 = .ok (.getfield 29, 3) := gg234.1
theorem dX7_allow_21 : decode cX7_allow 21 = .ok (.getfield 116, 3) := gg234.2.1
theorem dX7_allow_24 : decode cX7_allow 24 = .ok (.iload_n 1, 1) := gg234.2.2.1
theorem dX7_allow_25 : decode cX7_allow 25 = .ok (.invokestatic 119, 3) := gg234.2.2.2.1
theorem dX7_allow_28 : decode cX7_allow 28 = .ok (.iload_n 2, 1) := gg234.2.2.2.2.1
theorem dX7_allow_29 : decode cX7_allow 29 = .ok (.ishr, 1) := gg234.2.2.2.2.2.1
theorem dX7_allow_30 : decode cX7_allow 30 = .ok (.iconst 1, 1) := gg234.2.2.2.2.2.2.1
theorem dX7_allow_31 : decode cX7_allow 31 = .ok (.iand, 1) := gg234.2.2.2.2.2.2.2.1
theorem dX7_allow_32 : decode cX7_allow 32 = .ok (.istore 4, 2) := gg234.2.2.2.2.2.2.2.2.1
theorem dX7_allow_34 : decode cX7_allow 34 = .ok (.aload_n 0, 1) := gg234.2.2.2.2.2.2.2.2.2
theorem gg235 : decode cX7_allow 35 = .ok (.getfield 63, 3) ∧ decode cX7_allow 38 = .ok (.aload_n 0, 1) ∧ decode cX7_allow 39 = .ok (.getfield 29, 3) ∧ decode cX7_allow 42 = .ok (.invokevirtual 164, 3) ∧ decode cX7_allow 45 = .ok (.aload_n 0, 1) ∧ decode cX7_allow 46 = .ok (.getfield 29, 3) ∧ decode cX7_allow 49 = .ok (.iload_n 3, 1) ∧ decode cX7_allow 50 = .ok (.ifCond .eq 21, 3) ∧ decode cX7_allow 53 = .ok (.aload_n 0, 1) ∧ decode cX7_allow 54 = .ok (.getfield 29, 3) := by decide +kernel
theorem dX7_allow_35 : decode cX7_allow 35 = .ok (.getfield 63, 3) := gg235.1
theorem dX7_allow_38 : decode cX7_allow 38 = .ok (.aload_n 0, 1) := gg235.2.1
theorem dX7_allow_39 : decode cX7_allow 39 = .ok (.getfield 29, 3) := gg235.2.2.1
theorem dX7_allow_42 : decode cX7_allow 42 = .ok (.invokevirtual 164, 3) := gg235.2.2.2.1
theorem dX7_allow_45 : decode cX7_allow 45 = .ok (.aload_n 0, 1) := gg235.2.2.2.2.1
theorem dX7_allow_46 : decode cX7_allow 46 = .ok (.getfield 29, 3) := gg235.2.2.2.2.2.1
theorem dX7_allow_49 : decode cX7_allow 49 = .ok (.iload_n 3, 1) := gg235.2.2.2.2.2.2.1
theorem dX7_allow_50 : decode cX7_allow 50 = .ok (.ifCond .eq 21, 3) := gg235.2.2.2.2.2.2.2.1
theorem dX7_allow_53 : decode cX7_allow 53 = .ok (.aload_n 0, 1) := gg235.2.2.2.2.2.2.2.2.1
theorem dX7_allow_54 : decode cX7_allow 54 = .ok (.getfield 29, 3) := gg235.2.2.2.2.2.2.2.2.2
theorem gg236 : decode cX7_allow 57 = .ok (.getfield 116, 3) ∧ decode cX7_allow 60 = .ok (.iload_n 1, 1) ∧ decode cX7_allow 61 = .ok (.iconst 1, 1) ∧ decode cX7_allow 62 = .ok (.iload_n 2, 1) ∧ decode cX7_allow 63 = .ok (.ishl, 1) ∧ decode cX7_allow 64 = .ok (.invokestatic 186, 3) ∧ decode cX7_allow 67 = .ok (.ior, 1) ∧ decode cX7_allow 68 = .ok (.goto 20, 3) ∧ decode cX7_allow 71 = .ok (.aload_n 0, 1) ∧ decode cX7_allow 72 = .ok (.getfield 29, 3) := by decide +kernel
theorem dX7_allow_57 : decode cX7_allow 57 = .ok (.getfield 116, 3) := gg236.1
theorem dX7_allow_60 : decode cX7_allow 60 = .ok (.iload_n 1, 1) := gg236.2.1
theorem dX7_allow_61 : decode cX7_allow 61 = .ok (.iconst 1, 1) := gg236.2.2.1
theorem dX7_allow_62 : decode cX7_allow 62 = .ok (.iload_n 2, 1) := gg236.2.2.2.1
theorem dX7_allow_63 : decode cX7_allow 63 = .ok (.ishl, 1) := gg236.2.2.2.2.1
theorem dX7_allow_64 : decode cX7_allow 64 = .ok (.invokestatic 186, 3) := gg236.2.2.2.2.2.1
theorem dX7_allow_67 : decode cX7_allow 67 = .ok (.ior, 1) := gg236.2.2.2.2.2.2.1
theorem dX7_allow_68 : decode cX7_allow 68 = .ok (.goto 20, 3) := gg236.2.2.2.2.2.2.2.1
theorem dX7_allow_71 : decode cX7_allow 71 = .ok (.aload_n 0, 1) := gg236.2.2.2.2.2.2.2.2.1
theorem dX7_allow_72 : decode cX7_allow 72 = .ok (.getfield 29, 3) := gg236.2.2.2.2.2.2.2.2.2
theorem gg237 : decode cX7_allow 75 = .ok (.getfield 116, 3) ∧ decode cX7_allow 78 = .ok (.iload_n 1, 1) ∧ decode cX7_allow 79 = .ok (.iconst 1, 1) ∧ decode cX7_allow 80 = .ok (.iload_n 2, 1) ∧ decode cX7_allow 81 = .ok (.ishl, 1) ∧ decode cX7_allow 82 = .ok (.invokestatic 186, 3) ∧ decode cX7_allow 85 = .ok (.iconst (-1), 1) ∧ decode cX7_allow 86 = .ok (.ixor, 1) ∧ decode cX7_allow 87 = .ok (.iand, 1) ∧ decode cX7_allow 88 = .ok (.putfield 116, 3) := by decide +kernel
theorem dX7_allow_75 : decode cX7_allow 75 = .ok (.getfield 116, 3) := gg237.1
theorem dX7_allow_78 : decode cX7_allow 78 = .ok (.iload_n 1, 1) := gg237.2.1
theorem dX7_allow_79 : decode cX7_allow 79 = .ok (.iconst 1, 1) := gg237.2.2.1
theorem dX7_allow_80 : decode cX7_allow 80 = .ok (.iload_n 2, 1) := gg237.2.2.2.1
theorem dX7_allow_81 : decode cX7_allow 81 = .ok (.ishl, 1) := gg237.2.2.2.2.1
theorem dX7_allow_82 : decode cX7_allow 82 = .ok (.invokestatic 186, 3) := gg237.2.2.2.2.2.1
theorem dX7_allow_85 : decode cX7_allow 85 = .ok (.iconst (-1), 1) := gg237.2.2.2.2.2.2.1
theorem dX7_allow_86 : decode cX7_allow 86 = .ok (.ixor, 1) := gg237.2.2.2.2.2.2.2.1
theorem dX7_allow_87 : decode cX7_allow 87 = .ok (.iand, 1) := gg237.2.2.2.2.2.2.2.2.1
theorem dX7_allow_88 : decode cX7_allow 88 = .ok (.putfield 116, 3) := gg237.2.2.2.2.2.2.2.2.2
theorem gg238 : decode cX7_allow 91 = .ok (.iload 4, 2) ∧ decode cX7_allow 93 = .ok (.ireturn, 1) := by decide +kernel
theorem dX7_allow_91 : decode cX7_allow 91 = .ok (.iload 4, 2) := gg238.1
theorem dX7_allow_93 : decode cX7_allow 93 = .ok (.ireturn, 1) := gg238.2
theorem gg239 : decode cX7_undo 0 = .ok (.aload_n 0, 1) ∧ decode cX7_undo 1 = .ok (.getfield 63, 3) ∧ decode cX7_undo 4 = .ok (.getfield 189, 3) ∧ decode cX7_undo 7 = .ok (.ifCond .ne 6, 3) ∧ decode cX7_undo 10 = .ok (.bipush (-2), 2) ∧ decode cX7_undo 12 = .ok (.ireturn, 1) ∧ decode cX7_undo 13 = .ok (.aload_n 0, 1) ∧ decode cX7_undo 14 = .ok (.getfield 29, 3) ∧ decode cX7_undo 17 = .ok (.getfield 126, 3) ∧ decode cX7_undo 20 = .ok (.istore_n 1, 1) := by decide +kernel
theorem dX7_undo_0 : decode cX7_undo 0 = .ok (.aload_n 0, 1) := gg239.1
theorem dX7_undo_1 : decode cX7_undo 1 = .ok (.getfield 63, 3) := gg239.2.1
theorem dX7_undo_4 : decode cX7_undo 4 = .ok (.getfield 189, 3) := gg239.2.2.1
theorem dX7_undo_7 : decode cX7_undo 7 = .ok (.ifCond .ne 6, 3) := gg239.2.2.2.1
theorem dX7_undo_10 : decode cX7_undo 10 = .ok (.bipush (-2), 2) := gg239.2.2.2.2.1
theorem dX7_undo_12 : decode cX7_undo 12 = .ok (.ireturn, 1) := gg239.2.2.2.2.2.1
theorem dX7_undo_13 : decode cX7_undo 13 = .ok (.aload_n 0, 1) := gg239.2.2.2.2.2.2.1
theorem dX7_undo_14 : decode cX7_undo 14 = .ok (.getfield 29, 3) := gg239.2.2.2.2.2.2.2.1
theorem dX7_undo_17 : decode cX7_undo 17 = .ok (.getfield 126, 3) := gg239.2.2.2.2.2.2.2.2.1
theorem dX7_undo_20 : decode cX7_undo 20 = .ok (.istore_n 1, 1) := gg239.2.2.2.2.2.2.2.2.2
theorem gg240 : decode cX7_undo 21 = .ok (.aload_n 0, 1) ∧ decode cX7_undo 22 = .ok (.getfield 63, 3) ∧ decode cX7_undo 25 = .ok (.aload_n 0, 1) ∧ decode cX7_undo 26 = .ok (.getfield 29, 3) ∧ decode cX7_undo 29 = .ok (.invokevirtual 192, 3) ∧ decode cX7_undo 32 = .ok (.aload_n 0, 1) ∧ decode cX7_undo 33 = .ok (.getfield 29, 3) ∧ decode cX7_undo 36 = .ok (.iload_n 1, 1) ∧ decode cX7_undo 37 = .ok (.putfield 126, 3) ∧ decode cX7_undo 40 = .ok (.aload_n 0, 1) := by decide +kernel
theorem dX7_undo_21 : decode cX7_undo 21 = .ok (.aload_n 0, 1) := gg240.1
theorem dX7_undo_22 : decode cX7_undo 22 = .ok (.getfield 63, 3) := gg240.2.1
theorem dX7_undo_25 : decode cX7_undo 25 = .ok (.aload_n 0, 1) := gg240.2.2.1
theorem dX7_undo_26 : decode cX7_undo 26 = .ok (.getfield 29, 3) := gg240.2.2.2.1
theorem dX7_undo_29 : decode cX7_undo 29 = .ok (.invokevirtual 192, 3) := gg240.2.2.2.2.1
theorem dX7_undo_32 : decode cX7_undo 32 = .ok (.aload_n 0, 1) := gg240.2.2.2.2.2.1
theorem dX7_undo_33 : decode cX7_undo 33 = .ok (.getfield 29, 3) := gg240.2.2.2.2.2.2.1
theorem dX7_undo_36 : decode cX7_undo 36 = .ok (.iload_n 1, 1) := gg240.2.2.2.2.2.2.2.1
theorem dX7_undo_37 : decode cX7_undo 37 = .ok (.putfield 126, 3) := gg240.2.2.2.2.2.2.2.2.1
theorem dX7_undo_40 : decode cX7_undo 40 = .ok (.aload_n 0, 1) := gg240.2.2.2.2.2.2.2.2.2
theorem gg241 : decode cX7_undo 41 = .ok (.getfield 63, 3) ∧ decode cX7_undo 44 = .ok (.getfield 189, 3) ∧ decode cX7_undo 47 = .ok (.ireturn, 1) := by decide +kernel
theorem dX7_undo_41 : decode cX7_undo 41 = .ok (.getfield 63, 3) := gg241.1
theorem dX7_undo_44 : decode cX7_undo 44 = .ok (.getfield 189, 3) := gg241.2.1
theorem dX7_undo_47 : decode cX7_undo 47 = .ok (.ireturn, 1) := gg241.2.2
theorem gg242 : decode cX7_gain 0 = .ok (.iload_n 1, 1) ∧ decode cX7_gain 1 = .ok (.invokestatic 183, 3) ∧ decode cX7_gain 4 = .ok (.ifCond .eq 25, 3) ∧ decode cX7_gain 7 = .ok (.aload_n 0, 1) ∧ decode cX7_gain 8 = .ok (.getfield 45, 3) ∧ decode cX7_gain 11 = .ok (.aload_n 0, 1) ∧ decode cX7_gain 12 = .ok (.getfield 29, 3) ∧ decode cX7_gain 15 = .ok (.getfield 116, 3) ∧ decode cX7_gain 18 = .ok (.iload_n 1, 1) ∧ decode cX7_gain 19 = .ok (.invokevirtual 195, 3) := by decide +kernel
theorem dX7_gain_0 : decode cX7_gain 0 = .ok (.iload_n 1, 1) := gg242.1
theorem dX7_gain_1 : decode cX7_gain 1 = .ok (.invokestatic 183, 3) := gg242.2.1
theorem dX7_gain_4 : decode cX7_gain 4 = .ok (.ifCond .eq 25, 3) := gg242.2.2.1
theorem dX7_gain_7 : decode cX7_gain 7 = .ok (.aload_n 0, 1) := gg242.2.2.2.1
theorem dX7_gain_8 : decode cX7_gain 8 = .ok (.getfield 45, 3) := gg242.2.2.2.2.1
theorem dX7_gain_11 : decode cX7_gain 11 = .ok (.aload_n 0, 1) := gg242.2.2.2.2.2.1
theorem dX7_gain_12 : decode cX7_gain 12 = .ok (.getfield 29, 3) := gg242.2.2.2.2.2.2.1
theorem dX7_gain_15 : decode cX7_gain 15 = .ok (.getfield 116, 3) := gg242.2.2.2.2.2.2.2.1
theorem dX7_gain_18 : decode cX7_gain 18 = .ok (.iload_n 1, 1) := gg242.2.2.2.2.2.2.2.2.1
theorem dX7_gain_19 : decode cX7_gain 19 = .ok (.invokevirtual 195, 3) := gg242.2.2.2.2.2.2.2.2.2
theorem gg243 : decode cX7_gain 22 = .ok (.sipush 1000, 3) ∧ decode cX7_gain 25 = .ok (.iadd, 1) ∧ decode cX7_gain 26 = .ok (.goto 4, 3) ∧ decode cX7_gain 29 = .ok (.iconst (-1), 1) ∧ decode cX7_gain 30 = .ok (.ireturn, 1) := by decide +kernel
theorem dX7_gain_22 : decode cX7_gain 22 = .ok (.sipush 1000, 3) := gg243.1
theorem dX7_gain_25 : decode cX7_gain 25 = .ok (.iadd, 1) := gg243.2.1
theorem dX7_gain_26 : decode cX7_gain 26 = .ok (.goto 4, 3) := gg243.2.2.1
theorem dX7_gain_29 : decode cX7_gain 29 = .ok (.iconst (-1), 1) := gg243.2.2.2.1
theorem dX7_gain_30 : decode cX7_gain 30 = .ok (.ireturn, 1) := gg243.2.2.2.2
theorem gg244 : decode cX7_forbid 0 = .ok (.aload_n 0, 1) ∧ decode cX7_forbid 1 = .ok (.iload_n 1, 1) ∧ decode cX7_forbid 2 = .ok (.invokevirtual 198, 3) ∧ decode cX7_forbid 5 = .ok (.ifCond .eq 18, 3) ∧ decode cX7_forbid 8 = .ok (.aload_n 0, 1) ∧ decode cX7_forbid 9 = .ok (.iload_n 2, 1) ∧ decode cX7_forbid 10 = .ok (.invokevirtual 198, 3) ∧ decode cX7_forbid 13 = .ok (.ifCond .eq 10, 3) ∧ decode cX7_forbid 16 = .ok (.iload_n 3, 1) ∧ decode cX7_forbid 17 = .ok (.invokestatic 183, 3) := by decide +kernel
theorem dX7_forbid_0 : decode cX7_forbid 0 = .ok (.aload_n 0, 1) := gg244.1
theorem dX7_forbid_1 : decode cX7_forbid 1 = .ok (.iload_n 1, 1) := gg244.2.1
theorem dX7_forbid_2 : decode cX7_forbid 2 = .ok (.invokevirtual 198, 3) := gg244.2.2.1
theorem dX7_forbid_5 : decode cX7_forbid 5 = .ok (.ifCond .eq 18, 3) := gg244.2.2.2.1
theorem dX7_forbid_8 : decode cX7_forbid 8 = .ok (.aload_n 0, 1) := gg244.2.2.2.2.1
theorem dX7_forbid_9 : decode cX7_forbid 9 = .ok (.iload_n 2, 1) := gg244.2.2.2.2.2.1
theorem dX7_forbid_10 : decode cX7_forbid 10 = .ok (.invokevirtual 198, 3) := gg244.2.2.2.2.2.2.1
theorem dX7_forbid_13 : decode cX7_forbid 13 = .ok (.ifCond .eq 10, 3) := gg244.2.2.2.2.2.2.2.1
theorem dX7_forbid_16 : decode cX7_forbid 16 = .ok (.iload_n 3, 1) := gg244.2.2.2.2.2.2.2.2.1
theorem dX7_forbid_17 : decode cX7_forbid 17 = .ok (.invokestatic 183, 3) := gg244.2.2.2.2.2.2.2.2.2
theorem gg245 : decode cX7_forbid 20 = .ok (.ifCond .ne 5, 3) ∧ decode cX7_forbid 23 = .ok (.iconst (-1), 1) ∧ decode cX7_forbid 24 = .ok (.ireturn, 1) ∧ decode cX7_forbid 25 = .ok (.aload_n 0, 1) ∧ decode cX7_forbid 26 = .ok (.getfield 45, 3) ∧ decode cX7_forbid 29 = .ok (.iload_n 1, 1) ∧ decode cX7_forbid 30 = .ok (.iload_n 2, 1) ∧ decode cX7_forbid 31 = .ok (.iload_n 3, 1) ∧ decode cX7_forbid 32 = .ok (.invokevirtual 201, 3) ∧ decode cX7_forbid 35 = .ok (.sipush 1000, 3) := by decide +kernel
theorem dX7_forbid_20 : decode cX7_forbid 20 = .ok (.ifCond .ne 5, 3) := gg245.1
theorem dX7_forbid_23 : decode cX7_forbid 23 = .ok (.iconst (-1), 1) := gg245.2.1
theorem dX7_forbid_24 : decode cX7_forbid 24 = .ok (.ireturn, 1) := gg245.2.2.1
theorem dX7_forbid_25 : decode cX7_forbid 25 = .ok (.aload_n 0, 1) := gg245.2.2.2.1
theorem dX7_forbid_26 : decode cX7_forbid 26 = .ok (.getfield 45, 3) := gg245.2.2.2.2.1
theorem dX7_forbid_29 : decode cX7_forbid 29 = .ok (.iload_n 1, 1) := gg245.2.2.2.2.2.1
theorem dX7_forbid_30 : decode cX7_forbid 30 = .ok (.iload_n 2, 1) := gg245.2.2.2.2.2.2.1
theorem dX7_forbid_31 : decode cX7_forbid 31 = .ok (.iload_n 3, 1) := gg245.2.2.2.2.2.2.2.1
theorem dX7_forbid_32 : decode cX7_forbid 32 = .ok (.invokevirtual 201, 3) := gg245.2.2.2.2.2.2.2.2.1
theorem dX7_forbid_35 : decode cX7_forbid 35 = .ok (.sipush 1000, 3) := gg245.2.2.2.2.2.2.2.2.2
theorem gg246 : decode cX7_forbid 38 = .ok (.iadd, 1) ∧ decode cX7_forbid 39 = .ok (.ireturn, 1) := by decide +kernel
theorem dX7_forbid_38 : decode cX7_forbid 38 = .ok (.iadd, 1) := gg246.1
theorem dX7_forbid_39 : decode cX7_forbid 39 = .ok (.ireturn, 1) := gg246.2
theorem gg247 : decode cX7_rests 0 = .ok (.iload_n 1, 1) ∧ decode cX7_rests 1 = .ok (.ifCond .lt 8, 3) ∧ decode cX7_rests 4 = .ok (.iload_n 1, 1) ∧ decode cX7_rests 5 = .ok (.iconst 2, 1) ∧ decode cX7_rests 6 = .ok (.if_icmp .le 5, 3) ∧ decode cX7_rests 9 = .ok (.iconst (-1), 1) ∧ decode cX7_rests 10 = .ok (.ireturn, 1) ∧ decode cX7_rests 11 = .ok (.iload_n 1, 1) ∧ decode cX7_rests 12 = .ok (.ifCond .ne 11, 3) ∧ decode cX7_rests 15 = .ok (.aload_n 0, 1) := by decide +kernel
theorem dX7_rests_0 : decode cX7_rests 0 = .ok (.iload_n 1, 1) := gg247.1
theorem dX7_rests_1 : decode cX7_rests 1 = .ok (.ifCond .lt 8, 3) := gg247.2.1
theorem dX7_rests_4 : decode cX7_rests 4 = .ok (.iload_n 1, 1) := gg247.2.2.1
theorem dX7_rests_5 : decode cX7_rests 5 = .ok (.iconst 2, 1) := gg247.2.2.2.1
theorem dX7_rests_6 : decode cX7_rests 6 = .ok (.if_icmp .le 5, 3) := gg247.2.2.2.2.1
theorem dX7_rests_9 : decode cX7_rests 9 = .ok (.iconst (-1), 1) := gg247.2.2.2.2.2.1
theorem dX7_rests_10 : decode cX7_rests 10 = .ok (.ireturn, 1) := gg247.2.2.2.2.2.2.1
theorem dX7_rests_11 : decode cX7_rests 11 = .ok (.iload_n 1, 1) := gg247.2.2.2.2.2.2.2.1
theorem dX7_rests_12 : decode cX7_rests 12 = .ok (.ifCond .ne 11, 3) := gg247.2.2.2.2.2.2.2.2.1
theorem dX7_rests_15 : decode cX7_rests 15 = .ok (.aload_n 0, 1) := gg247.2.2.2.2.2.2.2.2.2
theorem gg248 : decode cX7_rests 16 = .ok (.getfield 45, 3) ∧ decode cX7_rests 19 = .ok (.invokevirtual 205, 3) ∧ decode cX7_rests 22 = .ok (.ireturn, 1) ∧ decode cX7_rests 23 = .ok (.aload_n 0, 1) ∧ decode cX7_rests 24 = .ok (.getfield 45, 3) ∧ decode cX7_rests 27 = .ok (.iload_n 1, 1) ∧ decode cX7_rests 28 = .ok (.iconst 1, 1) ∧ decode cX7_rests 29 = .ok (.if_icmp .ne 7, 3) ∧ decode cX7_rests 32 = .ok (.iconst 0, 1) ∧ decode cX7_rests 33 = .ok (.goto 4, 3) := by decide +kernel
theorem dX7_rests_16 : decode cX7_rests 16 = .ok (.getfield 45, 3) := gg248.1
theorem dX7_rests_19 : decode cX7_rests 19 = .ok (.invokevirtual 205, 3) := gg248.2.1
theorem dX7_rests_22 : decode cX7_rests 22 = .ok (.ireturn, 1) := gg248.2.2.1
theorem dX7_rests_23 : decode cX7_rests 23 = .ok (.aload_n 0, 1) := gg248.2.2.2.1
theorem dX7_rests_24 : decode cX7_rests 24 = .ok (.getfield 45, 3) := gg248.2.2.2.2.1
theorem dX7_rests_27 : decode cX7_rests 27 = .ok (.iload_n 1, 1) := gg248.2.2.2.2.2.1
theorem dX7_rests_28 : decode cX7_rests 28 = .ok (.iconst 1, 1) := gg248.2.2.2.2.2.2.1
theorem dX7_rests_29 : decode cX7_rests 29 = .ok (.if_icmp .ne 7, 3) := gg248.2.2.2.2.2.2.2.1
theorem dX7_rests_32 : decode cX7_rests 32 = .ok (.iconst 0, 1) := gg248.2.2.2.2.2.2.2.2.1
theorem dX7_rests_33 : decode cX7_rests 33 = .ok (.goto 4, 3) := gg248.2.2.2.2.2.2.2.2.2
theorem gg249 : decode cX7_rests 36 = .ok (.iconst 1, 1) ∧ decode cX7_rests 37 = .ok (.invokevirtual 208, 3) ∧ decode cX7_rests 40 = .ok (.istore_n 2, 1) ∧ decode cX7_rests 41 = .ok (.iload_n 2, 1) ∧ decode cX7_rests 42 = .ok (.ifCond .ge 8, 3) ∧ decode cX7_rests 45 = .ok (.bipush (-4), 2) ∧ decode cX7_rests 47 = .ok (.goto 4, 3) ∧ decode cX7_rests 50 = .ok (.iload_n 2, 1) ∧ decode cX7_rests 51 = .ok (.ireturn, 1) := by decide +kernel
theorem dX7_rests_36 : decode cX7_rests 36 = .ok (.iconst 1, 1) := gg249.1
theorem dX7_rests_37 : decode cX7_rests 37 = .ok (.invokevirtual 208, 3) := gg249.2.1
theorem dX7_rests_40 : decode cX7_rests 40 = .ok (.istore_n 2, 1) := gg249.2.2.1
theorem dX7_rests_41 : decode cX7_rests 41 = .ok (.iload_n 2, 1) := gg249.2.2.2.1
theorem dX7_rests_42 : decode cX7_rests 42 = .ok (.ifCond .ge 8, 3) := gg249.2.2.2.2.1
theorem dX7_rests_45 : decode cX7_rests 45 = .ok (.bipush (-4), 2) := gg249.2.2.2.2.2.1
theorem dX7_rests_47 : decode cX7_rests 47 = .ok (.goto 4, 3) := gg249.2.2.2.2.2.2.1
theorem dX7_rests_50 : decode cX7_rests 50 = .ok (.iload_n 2, 1) := gg249.2.2.2.2.2.2.2.1
theorem dX7_rests_51 : decode cX7_rests 51 = .ok (.ireturn, 1) := gg249.2.2.2.2.2.2.2.2
theorem gg250 : decode cX7_firm 0 = .ok (.iload_n 1, 1) ∧ decode cX7_firm 1 = .ok (.ifCond .lt 16, 3) ∧ decode cX7_firm 4 = .ok (.iload_n 1, 1) ∧ decode cX7_firm 5 = .ok (.iconst 1, 1) ∧ decode cX7_firm 6 = .ok (.aload_n 0, 1) ∧ decode cX7_firm 7 = .ok (.getfield 23, 3) ∧ decode cX7_firm 10 = .ok (.getfield 96, 3) ∧ decode cX7_firm 13 = .ok (.ishl, 1) ∧ decode cX7_firm 14 = .ok (.if_icmp .lt 5, 3) ∧ decode cX7_firm 17 = .ok (.iconst (-1), 1) := by decide +kernel
theorem dX7_firm_0 : decode cX7_firm 0 = .ok (.iload_n 1, 1) := gg250.1
theorem dX7_firm_1 : decode cX7_firm 1 = .ok (.ifCond .lt 16, 3) := gg250.2.1
theorem dX7_firm_4 : decode cX7_firm 4 = .ok (.iload_n 1, 1) := gg250.2.2.1
theorem dX7_firm_5 : decode cX7_firm 5 = .ok (.iconst 1, 1) := gg250.2.2.2.1
theorem dX7_firm_6 : decode cX7_firm 6 = .ok (.aload_n 0, 1) := gg250.2.2.2.2.1
theorem dX7_firm_7 : decode cX7_firm 7 = .ok (.getfield 23, 3) := gg250.2.2.2.2.2.1
theorem dX7_firm_10 : decode cX7_firm 10 = .ok (.getfield 96, 3) := gg250.2.2.2.2.2.2.1
theorem dX7_firm_13 : decode cX7_firm 13 = .ok (.ishl, 1) := gg250.2.2.2.2.2.2.2.1
theorem dX7_firm_14 : decode cX7_firm 14 = .ok (.if_icmp .lt 5, 3) := gg250.2.2.2.2.2.2.2.2.1
theorem dX7_firm_17 : decode cX7_firm 17 = .ok (.iconst (-1), 1) := gg250.2.2.2.2.2.2.2.2.2
theorem gg251 : decode cX7_firm 18 = .ok (.ireturn, 1) ∧ decode cX7_firm 19 = .ok (.aload_n 0, 1) ∧ decode cX7_firm 20 = .ok (.getfield 45, 3) ∧ decode cX7_firm 23 = .ok (.iload_n 1, 1) ∧ decode cX7_firm 24 = .ok (.invokevirtual 211, 3) ∧ decode cX7_firm 27 = .ok (.ifCond .eq 7, 3) ∧ decode cX7_firm 30 = .ok (.iconst 1, 1) ∧ decode cX7_firm 31 = .ok (.goto 4, 3) ∧ decode cX7_firm 34 = .ok (.iconst 0, 1) ∧ decode cX7_firm 35 = .ok (.ireturn, 1) := by decide +kernel
theorem dX7_firm_18 : decode cX7_firm 18 = .ok (.ireturn, 1) := gg251.1
theorem dX7_firm_19 : decode cX7_firm 19 = .ok (.aload_n 0, 1) := gg251.2.1
theorem dX7_firm_20 : decode cX7_firm 20 = .ok (.getfield 45, 3) := gg251.2.2.1
theorem dX7_firm_23 : decode cX7_firm 23 = .ok (.iload_n 1, 1) := gg251.2.2.2.1
theorem dX7_firm_24 : decode cX7_firm 24 = .ok (.invokevirtual 211, 3) := gg251.2.2.2.2.1
theorem dX7_firm_27 : decode cX7_firm 27 = .ok (.ifCond .eq 7, 3) := gg251.2.2.2.2.2.1
theorem dX7_firm_30 : decode cX7_firm 30 = .ok (.iconst 1, 1) := gg251.2.2.2.2.2.2.1
theorem dX7_firm_31 : decode cX7_firm 31 = .ok (.goto 4, 3) := gg251.2.2.2.2.2.2.2.1
theorem dX7_firm_34 : decode cX7_firm 34 = .ok (.iconst 0, 1) := gg251.2.2.2.2.2.2.2.2.1
theorem dX7_firm_35 : decode cX7_firm 35 = .ok (.ireturn, 1) := gg251.2.2.2.2.2.2.2.2.2
theorem gg252 : decode cX7_treaty 0 = .ok (.iload_n 1, 1) ∧ decode cX7_treaty 1 = .ok (.ifCond .lt 8, 3) ∧ decode cX7_treaty 4 = .ok (.iload_n 1, 1) ∧ decode cX7_treaty 5 = .ok (.iconst 1, 1) ∧ decode cX7_treaty 6 = .ok (.if_icmp .le 5, 3) ∧ decode cX7_treaty 9 = .ok (.iconst (-1), 1) ∧ decode cX7_treaty 10 = .ok (.ireturn, 1) ∧ decode cX7_treaty 11 = .ok (.aload_n 0, 1) ∧ decode cX7_treaty 12 = .ok (.getfield 45, 3) ∧ decode cX7_treaty 15 = .ok (.invokevirtual 214, 3) := by decide +kernel
theorem dX7_treaty_0 : decode cX7_treaty 0 = .ok (.iload_n 1, 1) := gg252.1
theorem dX7_treaty_1 : decode cX7_treaty 1 = .ok (.ifCond .lt 8, 3) := gg252.2.1
theorem dX7_treaty_4 : decode cX7_treaty 4 = .ok (.iload_n 1, 1) := gg252.2.2.1
theorem dX7_treaty_5 : decode cX7_treaty 5 = .ok (.iconst 1, 1) := gg252.2.2.2.1
theorem dX7_treaty_6 : decode cX7_treaty 6 = .ok (.if_icmp .le 5, 3) := gg252.2.2.2.2.1
theorem dX7_treaty_9 : decode cX7_treaty 9 = .ok (.iconst (-1), 1) := gg252.2.2.2.2.2.1
theorem dX7_treaty_10 : decode cX7_treaty 10 = .ok (.ireturn, 1) := gg252.2.2.2.2.2.2.1
theorem dX7_treaty_11 : decode cX7_treaty 11 = .ok (.aload_n 0, 1) := gg252.2.2.2.2.2.2.2.1
theorem dX7_treaty_12 : decode cX7_treaty 12 = .ok (.getfield 45, 3) := gg252.2.2.2.2.2.2.2.2.1
theorem dX7_treaty_15 : decode cX7_treaty 15 = .ok (.invokevirtual 214, 3) := gg252.2.2.2.2.2.2.2.2.2
theorem gg253 : decode cX7_treaty 18 = .ok (.istore_n 2, 1) ∧ decode cX7_treaty 19 = .ok (.iload_n 1, 1) ∧ decode cX7_treaty 20 = .ok (.ifCond .ne 7, 3) ∧ decode cX7_treaty 23 = .ok (.iload_n 2, 1) ∧ decode cX7_treaty 24 = .ok (.goto 15, 3) ∧ decode cX7_treaty 27 = .ok (.aload_n 0, 1) ∧ decode cX7_treaty 28 = .ok (.getfield 45, 3) ∧ decode cX7_treaty 31 = .ok (.iload_n 2, 1) ∧ decode cX7_treaty 32 = .ok (.invokevirtual 217, 3) ∧ decode cX7_treaty 35 = .ok (.sipush 2000, 3) := by decide +kernel
theorem dX7_treaty_18 : decode cX7_treaty 18 = .ok (.istore_n 2, 1) := gg253.1
theorem dX7_treaty_19 : decode cX7_treaty 19 = .ok (.iload_n 1, 1) := gg253.2.1
theorem dX7_treaty_20 : decode cX7_treaty 20 = .ok (.ifCond .ne 7, 3) := gg253.2.2.1
theorem dX7_treaty_23 : decode cX7_treaty 23 = .ok (.iload_n 2, 1) := gg253.2.2.2.1
theorem dX7_treaty_24 : decode cX7_treaty 24 = .ok (.goto 15, 3) := gg253.2.2.2.2.1
theorem dX7_treaty_27 : decode cX7_treaty 27 = .ok (.aload_n 0, 1) := gg253.2.2.2.2.2.1
theorem dX7_treaty_28 : decode cX7_treaty 28 = .ok (.getfield 45, 3) := gg253.2.2.2.2.2.2.1
theorem dX7_treaty_31 : decode cX7_treaty 31 = .ok (.iload_n 2, 1) := gg253.2.2.2.2.2.2.2.1
theorem dX7_treaty_32 : decode cX7_treaty 32 = .ok (.invokevirtual 217, 3) := gg253.2.2.2.2.2.2.2.2.1
theorem dX7_treaty_35 : decode cX7_treaty 35 = .ok (.sipush 2000, 3) := gg253.2.2.2.2.2.2.2.2.2
theorem gg254 : decode cX7_treaty 38 = .ok (.iadd, 1) ∧ decode cX7_treaty 39 = .ok (.ireturn, 1) := by decide +kernel
theorem dX7_treaty_38 : decode cX7_treaty 38 = .ok (.iadd, 1) := gg254.1
theorem dX7_treaty_39 : decode cX7_treaty 39 = .ok (.ireturn, 1) := gg254.2
theorem gg255 : decode cX7_bargain 0 = .ok (.aload_n 0, 1) ∧ decode cX7_bargain 1 = .ok (.iload_n 1, 1) ∧ decode cX7_bargain 2 = .ok (.invokevirtual 112, 3) ∧ decode cX7_bargain 5 = .ok (.ifCond .eq 23, 3) ∧ decode cX7_bargain 8 = .ok (.aload_n 0, 1) ∧ decode cX7_bargain 9 = .ok (.iload_n 2, 1) ∧ decode cX7_bargain 10 = .ok (.invokevirtual 112, 3) ∧ decode cX7_bargain 13 = .ok (.ifCond .eq 15, 3) ∧ decode cX7_bargain 16 = .ok (.iload_n 1, 1) ∧ decode cX7_bargain 17 = .ok (.iload_n 2, 1) := by decide +kernel
theorem dX7_bargain_0 : decode cX7_bargain 0 = .ok (.aload_n 0, 1) := gg255.1
theorem dX7_bargain_1 : decode cX7_bargain 1 = .ok (.iload_n 1, 1) := gg255.2.1
theorem dX7_bargain_2 : decode cX7_bargain 2 = .ok (.invokevirtual 112, 3) := gg255.2.2.1
theorem dX7_bargain_5 : decode cX7_bargain 5 = .ok (.ifCond .eq 23, 3) := gg255.2.2.2.1
theorem dX7_bargain_8 : decode cX7_bargain 8 = .ok (.aload_n 0, 1) := gg255.2.2.2.2.1
theorem dX7_bargain_9 : decode cX7_bargain 9 = .ok (.iload_n 2, 1) := gg255.2.2.2.2.2.1
theorem dX7_bargain_10 : decode cX7_bargain 10 = .ok (.invokevirtual 112, 3) := gg255.2.2.2.2.2.2.1
theorem dX7_bargain_13 : decode cX7_bargain 13 = .ok (.ifCond .eq 15, 3) := gg255.2.2.2.2.2.2.2.1
theorem dX7_bargain_16 : decode cX7_bargain 16 = .ok (.iload_n 1, 1) := gg255.2.2.2.2.2.2.2.2.1
theorem dX7_bargain_17 : decode cX7_bargain 17 = .ok (.iload_n 2, 1) := gg255.2.2.2.2.2.2.2.2.2
theorem gg256 : decode cX7_bargain 18 = .ok (.if_icmp .eq 10, 3) ∧ decode cX7_bargain 21 = .ok (.lload_n 3, 1) ∧ decode cX7_bargain 22 = .ok (.invokestatic 129, 3) ∧ decode cX7_bargain 25 = .ok (.ifCond .ne 7, 3) ∧ decode cX7_bargain 28 = .ok (.ldc2_w 145, 3) ∧ decode cX7_bargain 31 = .ok (.lreturn, 1) ∧ decode cX7_bargain 32 = .ok (.aload_n 0, 1) ∧ decode cX7_bargain 33 = .ok (.getfield 38, 3) ∧ decode cX7_bargain 36 = .ok (.iload_n 1, 1) ∧ decode cX7_bargain 37 = .ok (.iload_n 2, 1) := by decide +kernel
theorem dX7_bargain_18 : decode cX7_bargain 18 = .ok (.if_icmp .eq 10, 3) := gg256.1
theorem dX7_bargain_21 : decode cX7_bargain 21 = .ok (.lload_n 3, 1) := gg256.2.1
theorem dX7_bargain_22 : decode cX7_bargain 22 = .ok (.invokestatic 129, 3) := gg256.2.2.1
theorem dX7_bargain_25 : decode cX7_bargain 25 = .ok (.ifCond .ne 7, 3) := gg256.2.2.2.1
theorem dX7_bargain_28 : decode cX7_bargain 28 = .ok (.ldc2_w 145, 3) := gg256.2.2.2.2.1
theorem dX7_bargain_31 : decode cX7_bargain 31 = .ok (.lreturn, 1) := gg256.2.2.2.2.2.1
theorem dX7_bargain_32 : decode cX7_bargain 32 = .ok (.aload_n 0, 1) := gg256.2.2.2.2.2.2.1
theorem dX7_bargain_33 : decode cX7_bargain 33 = .ok (.getfield 38, 3) := gg256.2.2.2.2.2.2.2.1
theorem dX7_bargain_36 : decode cX7_bargain 36 = .ok (.iload_n 1, 1) := gg256.2.2.2.2.2.2.2.2.1
theorem dX7_bargain_37 : decode cX7_bargain 37 = .ok (.iload_n 2, 1) := gg256.2.2.2.2.2.2.2.2.2
theorem gg257 : decode cX7_bargain 38 = .ok (.lload_n 3, 1) ∧ decode cX7_bargain 39 = .ok (.invokevirtual 154, 3) ∧ decode cX7_bargain 42 = .ok (.lreturn, 1) := by decide +kernel
theorem dX7_bargain_38 : decode cX7_bargain 38 = .ok (.lload_n 3, 1) := gg257.1
theorem dX7_bargain_39 : decode cX7_bargain 39 = .ok (.invokevirtual 154, 3) := gg257.2.1
theorem dX7_bargain_42 : decode cX7_bargain 42 = .ok (.lreturn, 1) := gg257.2.2
theorem gg258 : decode cX7_line 0 = .ok (.iload_n 1, 1) ∧ decode cX7_line 1 = .ok (.ifCond .lt 16, 3) ∧ decode cX7_line 4 = .ok (.iload_n 1, 1) ∧ decode cX7_line 5 = .ok (.ldc 220, 2) ∧ decode cX7_line 7 = .ok (.if_icmp .gt 10, 3) ∧ decode cX7_line 10 = .ok (.iload_n 2, 1) ∧ decode cX7_line 11 = .ok (.invokestatic 138, 3) ∧ decode cX7_line 14 = .ok (.ifCond .ne 5, 3) ∧ decode cX7_line 17 = .ok (.iconst (-1), 1) ∧ decode cX7_line 18 = .ok (.ireturn, 1) := by decide +kernel
theorem dX7_line_0 : decode cX7_line 0 = .ok (.iload_n 1, 1) := gg258.1
theorem dX7_line_1 : decode cX7_line 1 = .ok (.ifCond .lt 16, 3) := gg258.2.1
theorem dX7_line_4 : decode cX7_line 4 = .ok (.iload_n 1, 1) := gg258.2.2.1
theorem dX7_line_5 : decode cX7_line 5 = .ok (.ldc 220, 2) := gg258.2.2.2.1
theorem dX7_line_7 : decode cX7_line 7 = .ok (.if_icmp .gt 10, 3) := gg258.2.2.2.2.1
theorem dX7_line_10 : decode cX7_line 10 = .ok (.iload_n 2, 1) := gg258.2.2.2.2.2.1
theorem dX7_line_11 : decode cX7_line 11 = .ok (.invokestatic 138, 3) := gg258.2.2.2.2.2.2.1
theorem dX7_line_14 : decode cX7_line 14 = .ok (.ifCond .ne 5, 3) := gg258.2.2.2.2.2.2.2.1
theorem dX7_line_17 : decode cX7_line 17 = .ok (.iconst (-1), 1) := gg258.2.2.2.2.2.2.2.2.1
theorem dX7_line_18 : decode cX7_line 18 = .ok (.ireturn, 1) := gg258.2.2.2.2.2.2.2.2.2
theorem gg259 : decode cX7_line 19 = .ok (.aload_n 0, 1) ∧ decode cX7_line 20 = .ok (.getfield 54, 3) ∧ decode cX7_line 23 = .ok (.iload_n 1, 1) ∧ decode cX7_line 24 = .ok (.iload_n 2, 1) ∧ decode cX7_line 25 = .ok (.invokevirtual 221, 3) ∧ decode cX7_line 28 = .ok (.ifCond .eq 13, 3) ∧ decode cX7_line 31 = .ok (.aload_n 0, 1) ∧ decode cX7_line 32 = .ok (.getfield 54, 3) ∧ decode cX7_line 35 = .ok (.getfield 106, 3) ∧ decode cX7_line 38 = .ok (.goto 5, 3) := by decide +kernel
theorem dX7_line_19 : decode cX7_line 19 = .ok (.aload_n 0, 1) := gg259.1
theorem dX7_line_20 : decode cX7_line 20 = .ok (.getfield 54, 3) := gg259.2.1
theorem dX7_line_23 : decode cX7_line 23 = .ok (.iload_n 1, 1) := gg259.2.2.1
theorem dX7_line_24 : decode cX7_line 24 = .ok (.iload_n 2, 1) := gg259.2.2.2.1
theorem dX7_line_25 : decode cX7_line 25 = .ok (.invokevirtual 221, 3) := gg259.2.2.2.2.1
theorem dX7_line_28 : decode cX7_line 28 = .ok (.ifCond .eq 13, 3) := gg259.2.2.2.2.2.1
theorem dX7_line_31 : decode cX7_line 31 = .ok (.aload_n 0, 1) := gg259.2.2.2.2.2.2.1
theorem dX7_line_32 : decode cX7_line 32 = .ok (.getfield 54, 3) := gg259.2.2.2.2.2.2.2.1
theorem dX7_line_35 : decode cX7_line 35 = .ok (.getfield 106, 3) := gg259.2.2.2.2.2.2.2.2.1
theorem dX7_line_38 : decode cX7_line 38 = .ok (.goto 5, 3) := gg259.2.2.2.2.2.2.2.2.2
theorem gg260 : decode cX7_line 41 = .ok (.bipush (-3), 2) ∧ decode cX7_line 43 = .ok (.ireturn, 1) := by decide +kernel
theorem dX7_line_41 : decode cX7_line 41 = .ok (.bipush (-3), 2) := gg260.1
theorem dX7_line_43 : decode cX7_line 43 = .ok (.ireturn, 1) := gg260.2
theorem gg261 : decode cX7_noTable 0 = .ok (.aload_n 0, 1) ∧ decode cX7_noTable 1 = .ok (.getfield 54, 3) ∧ decode cX7_noTable 4 = .ok (.getfield 106, 3) ∧ decode cX7_noTable 7 = .ok (.istore_n 1, 1) ∧ decode cX7_noTable 8 = .ok (.aload_n 0, 1) ∧ decode cX7_noTable 9 = .ok (.getfield 54, 3) ∧ decode cX7_noTable 12 = .ok (.iconst 0, 1) ∧ decode cX7_noTable 13 = .ok (.putfield 106, 3) ∧ decode cX7_noTable 16 = .ok (.iload_n 1, 1) ∧ decode cX7_noTable 17 = .ok (.ireturn, 1) := by decide +kernel
theorem dX7_noTable_0 : decode cX7_noTable 0 = .ok (.aload_n 0, 1) := gg261.1
theorem dX7_noTable_1 : decode cX7_noTable 1 = .ok (.getfield 54, 3) := gg261.2.1
theorem dX7_noTable_4 : decode cX7_noTable 4 = .ok (.getfield 106, 3) := gg261.2.2.1
theorem dX7_noTable_7 : decode cX7_noTable 7 = .ok (.istore_n 1, 1) := gg261.2.2.2.1
theorem dX7_noTable_8 : decode cX7_noTable 8 = .ok (.aload_n 0, 1) := gg261.2.2.2.2.1
theorem dX7_noTable_9 : decode cX7_noTable 9 = .ok (.getfield 54, 3) := gg261.2.2.2.2.2.1
theorem dX7_noTable_12 : decode cX7_noTable 12 = .ok (.iconst 0, 1) := gg261.2.2.2.2.2.2.1
theorem dX7_noTable_13 : decode cX7_noTable 13 = .ok (.putfield 106, 3) := gg261.2.2.2.2.2.2.2.1
theorem dX7_noTable_16 : decode cX7_noTable 16 = .ok (.iload_n 1, 1) := gg261.2.2.2.2.2.2.2.2.1
theorem dX7_noTable_17 : decode cX7_noTable 17 = .ok (.ireturn, 1) := gg261.2.2.2.2.2.2.2.2.2
theorem gg262 : decode cX7_forged 0 = .ok (.aload_n 0, 1) ∧ decode cX7_forged 1 = .ok (.getfield 54, 3) ∧ decode cX7_forged 4 = .ok (.invokevirtual 225, 3) ∧ decode cX7_forged 7 = .ok (.ireturn, 1) := by decide +kernel
theorem dX7_forged_0 : decode cX7_forged 0 = .ok (.aload_n 0, 1) := gg262.1
theorem dX7_forged_1 : decode cX7_forged 1 = .ok (.getfield 54, 3) := gg262.2.1
theorem dX7_forged_4 : decode cX7_forged 4 = .ok (.invokevirtual 225, 3) := gg262.2.2.1
theorem dX7_forged_7 : decode cX7_forged 7 = .ok (.ireturn, 1) := gg262.2.2.2
theorem gg263 : decode cX7_shift 0 = .ok (.iload_n 1, 1) ∧ decode cX7_shift 1 = .ok (.ifCond .lt 8, 3) ∧ decode cX7_shift 4 = .ok (.iload_n 1, 1) ∧ decode cX7_shift 5 = .ok (.iconst 1, 1) ∧ decode cX7_shift 6 = .ok (.if_icmp .le 5, 3) ∧ decode cX7_shift 9 = .ok (.iconst (-1), 1) ∧ decode cX7_shift 10 = .ok (.ireturn, 1) ∧ decode cX7_shift 11 = .ok (.aload_n 0, 1) ∧ decode cX7_shift 12 = .ok (.getfield 54, 3) ∧ decode cX7_shift 15 = .ok (.invokevirtual 228, 3) := by decide +kernel
theorem dX7_shift_0 : decode cX7_shift 0 = .ok (.iload_n 1, 1) := gg263.1
theorem dX7_shift_1 : decode cX7_shift 1 = .ok (.ifCond .lt 8, 3) := gg263.2.1
theorem dX7_shift_4 : decode cX7_shift 4 = .ok (.iload_n 1, 1) := gg263.2.2.1
theorem dX7_shift_5 : decode cX7_shift 5 = .ok (.iconst 1, 1) := gg263.2.2.2.1
theorem dX7_shift_6 : decode cX7_shift 6 = .ok (.if_icmp .le 5, 3) := gg263.2.2.2.2.1
theorem dX7_shift_9 : decode cX7_shift 9 = .ok (.iconst (-1), 1) := gg263.2.2.2.2.2.1
theorem dX7_shift_10 : decode cX7_shift 10 = .ok (.ireturn, 1) := gg263.2.2.2.2.2.2.1
theorem dX7_shift_11 : decode cX7_shift 11 = .ok (.aload_n 0, 1) := gg263.2.2.2.2.2.2.2.1
theorem dX7_shift_12 : decode cX7_shift 12 = .ok (.getfield 54, 3) := gg263.2.2.2.2.2.2.2.2.1
theorem dX7_shift_15 : decode cX7_shift 15 = .ok (.invokevirtual 228, 3) := gg263.2.2.2.2.2.2.2.2.2
theorem gg264 : decode cX7_shift 18 = .ok (.istore_n 2, 1) ∧ decode cX7_shift 19 = .ok (.iload_n 1, 1) ∧ decode cX7_shift 20 = .ok (.ifCond .ne 14, 3) ∧ decode cX7_shift 23 = .ok (.aload_n 0, 1) ∧ decode cX7_shift 24 = .ok (.getfield 54, 3) ∧ decode cX7_shift 27 = .ok (.iload_n 2, 1) ∧ decode cX7_shift 28 = .ok (.invokevirtual 231, 3) ∧ decode cX7_shift 31 = .ok (.goto 7, 3) ∧ decode cX7_shift 34 = .ok (.iload_n 2, 1) ∧ decode cX7_shift 35 = .ok (.bipush 30, 2) := by decide +kernel
theorem dX7_shift_18 : decode cX7_shift 18 = .ok (.istore_n 2, 1) := gg264.1
theorem dX7_shift_19 : decode cX7_shift 19 = .ok (.iload_n 1, 1) := gg264.2.1
theorem dX7_shift_20 : decode cX7_shift 20 = .ok (.ifCond .ne 14, 3) := gg264.2.2.1
theorem dX7_shift_23 : decode cX7_shift 23 = .ok (.aload_n 0, 1) := gg264.2.2.2.1
theorem dX7_shift_24 : decode cX7_shift 24 = .ok (.getfield 54, 3) := gg264.2.2.2.2.1
theorem dX7_shift_27 : decode cX7_shift 27 = .ok (.iload_n 2, 1) := gg264.2.2.2.2.2.1
theorem dX7_shift_28 : decode cX7_shift 28 = .ok (.invokevirtual 231, 3) := gg264.2.2.2.2.2.2.1
theorem dX7_shift_31 : decode cX7_shift 31 = .ok (.goto 7, 3) := gg264.2.2.2.2.2.2.2.1
theorem dX7_shift_34 : decode cX7_shift 34 = .ok (.iload_n 2, 1) := gg264.2.2.2.2.2.2.2.2.1
theorem dX7_shift_35 : decode cX7_shift 35 = .ok (.bipush 30, 2) := gg264.2.2.2.2.2.2.2.2.2
theorem gg265 : decode cX7_shift 37 = .ok (.iadd, 1) ∧ decode cX7_shift 38 = .ok (.ireturn, 1) := by decide +kernel
theorem dX7_shift_37 : decode cX7_shift 37 = .ok (.iadd, 1) := gg265.1
theorem dX7_shift_38 : decode cX7_shift 38 = .ok (.ireturn, 1) := gg265.2
theorem gg266 : decode cX7_wreck 0 = .ok (.lload_n 1, 1) ∧ decode cX7_wreck 1 = .ok (.invokestatic 129, 3) ∧ decode cX7_wreck 4 = .ok (.ifCond .eq 15, 3) ∧ decode cX7_wreck 7 = .ok (.iload_n 3, 1) ∧ decode cX7_wreck 8 = .ok (.iconst 1, 1) ∧ decode cX7_wreck 9 = .ok (.if_icmp .lt 10, 3) ∧ decode cX7_wreck 12 = .ok (.iload_n 3, 1) ∧ decode cX7_wreck 13 = .ok (.sipush 10000, 3) ∧ decode cX7_wreck 16 = .ok (.if_icmp .le 5, 3) ∧ decode cX7_wreck 19 = .ok (.iconst (-1), 1) := by decide +kernel
theorem dX7_wreck_0 : decode cX7_wreck 0 = .ok (.lload_n 1, 1) := gg266.1
theorem dX7_wreck_1 : decode cX7_wreck 1 = .ok (.invokestatic 129, 3) := gg266.2.1
theorem dX7_wreck_4 : decode cX7_wreck 4 = .ok (.ifCond .eq 15, 3) := gg266.2.2.1
theorem dX7_wreck_7 : decode cX7_wreck 7 = .ok (.iload_n 3, 1) := gg266.2.2.2.1
theorem dX7_wreck_8 : decode cX7_wreck 8 = .ok (.iconst 1, 1) := gg266.2.2.2.2.1
theorem dX7_wreck_9 : decode cX7_wreck 9 = .ok (.if_icmp .lt 10, 3) := gg266.2.2.2.2.2.1
theorem dX7_wreck_12 : decode cX7_wreck 12 = .ok (.iload_n 3, 1) := gg266.2.2.2.2.2.2.1
theorem dX7_wreck_13 : decode cX7_wreck 13 = .ok (.sipush 10000, 3) := gg266.2.2.2.2.2.2.2.1
theorem dX7_wreck_16 : decode cX7_wreck 16 = .ok (.if_icmp .le 5, 3) := gg266.2.2.2.2.2.2.2.2.1
theorem dX7_wreck_19 : decode cX7_wreck 19 = .ok (.iconst (-1), 1) := gg266.2.2.2.2.2.2.2.2.2
theorem gg267 : decode cX7_wreck 20 = .ok (.ireturn, 1) ∧ decode cX7_wreck 21 = .ok (.iload 4, 2) ∧ decode cX7_wreck 23 = .ok (.invokestatic 183, 3) ∧ decode cX7_wreck 26 = .ok (.ifCond .eq 14, 3) ∧ decode cX7_wreck 29 = .ok (.iload 5, 2) ∧ decode cX7_wreck 31 = .ok (.ifCond .lt 9, 3) ∧ decode cX7_wreck 34 = .ok (.iload 5, 2) ∧ decode cX7_wreck 36 = .ok (.iconst 1, 1) ∧ decode cX7_wreck 37 = .ok (.if_icmp .le 5, 3) ∧ decode cX7_wreck 40 = .ok (.iconst (-1), 1) := by decide +kernel
theorem dX7_wreck_20 : decode cX7_wreck 20 = .ok (.ireturn, 1) := gg267.1
theorem dX7_wreck_21 : decode cX7_wreck 21 = .ok (.iload 4, 2) := gg267.2.1
theorem dX7_wreck_23 : decode cX7_wreck 23 = .ok (.invokestatic 183, 3) := gg267.2.2.1
theorem dX7_wreck_26 : decode cX7_wreck 26 = .ok (.ifCond .eq 14, 3) := gg267.2.2.2.1
theorem dX7_wreck_29 : decode cX7_wreck 29 = .ok (.iload 5, 2) := gg267.2.2.2.2.1
theorem dX7_wreck_31 : decode cX7_wreck 31 = .ok (.ifCond .lt 9, 3) := gg267.2.2.2.2.2.1
theorem dX7_wreck_34 : decode cX7_wreck 34 = .ok (.iload 5, 2) := gg267.2.2.2.2.2.2.1
theorem dX7_wreck_36 : decode cX7_wreck 36 = .ok (.iconst 1, 1) := gg267.2.2.2.2.2.2.2.1
theorem dX7_wreck_37 : decode cX7_wreck 37 = .ok (.if_icmp .le 5, 3) := gg267.2.2.2.2.2.2.2.2.1
theorem dX7_wreck_40 : decode cX7_wreck 40 = .ok (.iconst (-1), 1) := gg267.2.2.2.2.2.2.2.2.2
theorem gg268 : decode cX7_wreck 41 = .ok (.ireturn, 1) ∧ decode cX7_wreck 42 = .ok (.aload_n 0, 1) ∧ decode cX7_wreck 43 = .ok (.getfield 38, 3) ∧ decode cX7_wreck 46 = .ok (.iload 4, 2) ∧ decode cX7_wreck 48 = .ok (.lload_n 1, 1) ∧ decode cX7_wreck 49 = .ok (.iload_n 3, 1) ∧ decode cX7_wreck 50 = .ok (.invokevirtual 141, 3) ∧ decode cX7_wreck 53 = .ok (.istore 6, 2) ∧ decode cX7_wreck 55 = .ok (.iload_n 3, 1) ∧ decode cX7_wreck 56 = .ok (.aload_n 0, 1) := by decide +kernel
theorem dX7_wreck_41 : decode cX7_wreck 41 = .ok (.ireturn, 1) := gg268.1
theorem dX7_wreck_42 : decode cX7_wreck 42 = .ok (.aload_n 0, 1) := gg268.2.1
theorem dX7_wreck_43 : decode cX7_wreck 43 = .ok (.getfield 38, 3) := gg268.2.2.1
theorem dX7_wreck_46 : decode cX7_wreck 46 = .ok (.iload 4, 2) := gg268.2.2.2.1
theorem dX7_wreck_48 : decode cX7_wreck 48 = .ok (.lload_n 1, 1) := gg268.2.2.2.2.1
theorem dX7_wreck_49 : decode cX7_wreck 49 = .ok (.iload_n 3, 1) := gg268.2.2.2.2.2.1
theorem dX7_wreck_50 : decode cX7_wreck 50 = .ok (.invokevirtual 141, 3) := gg268.2.2.2.2.2.2.1
theorem dX7_wreck_53 : decode cX7_wreck 53 = .ok (.istore 6, 2) := gg268.2.2.2.2.2.2.2.1
theorem dX7_wreck_55 : decode cX7_wreck 55 = .ok (.iload_n 3, 1) := gg268.2.2.2.2.2.2.2.2.1
theorem dX7_wreck_56 : decode cX7_wreck 56 = .ok (.aload_n 0, 1) := gg268.2.2.2.2.2.2.2.2.2
theorem gg269 : decode cX7_wreck 57 = .ok (.getfield 38, 3) ∧ decode cX7_wreck 60 = .ok (.iconst 2, 1) ∧ decode cX7_wreck 61 = .ok (.lload_n 1, 1) ∧ decode cX7_wreck 62 = .ok (.iload_n 3, 1) ∧ decode cX7_wreck 63 = .ok (.invokevirtual 141, 3) ∧ decode cX7_wreck 66 = .ok (.isub, 1) ∧ decode cX7_wreck 67 = .ok (.istore 7, 2) ∧ decode cX7_wreck 69 = .ok (.iload 7, 2) ∧ decode cX7_wreck 71 = .ok (.ifCond .gt 6, 3) ∧ decode cX7_wreck 74 = .ok (.bipush (-4), 2) := by decide +kernel
theorem dX7_wreck_57 : decode cX7_wreck 57 = .ok (.getfield 38, 3) := gg269.1
theorem dX7_wreck_60 : decode cX7_wreck 60 = .ok (.iconst 2, 1) := gg269.2.1
theorem dX7_wreck_61 : decode cX7_wreck 61 = .ok (.lload_n 1, 1) := gg269.2.2.1
theorem dX7_wreck_62 : decode cX7_wreck 62 = .ok (.iload_n 3, 1) := gg269.2.2.2.1
theorem dX7_wreck_63 : decode cX7_wreck 63 = .ok (.invokevirtual 141, 3) := gg269.2.2.2.2.1
theorem dX7_wreck_66 : decode cX7_wreck 66 = .ok (.isub, 1) := gg269.2.2.2.2.2.1
theorem dX7_wreck_67 : decode cX7_wreck 67 = .ok (.istore 7, 2) := gg269.2.2.2.2.2.2.1
theorem dX7_wreck_69 : decode cX7_wreck 69 = .ok (.iload 7, 2) := gg269.2.2.2.2.2.2.2.1
theorem dX7_wreck_71 : decode cX7_wreck 71 = .ok (.ifCond .gt 6, 3) := gg269.2.2.2.2.2.2.2.2.1
theorem dX7_wreck_74 : decode cX7_wreck 74 = .ok (.bipush (-4), 2) := gg269.2.2.2.2.2.2.2.2.2
theorem gg270 : decode cX7_wreck 76 = .ok (.ireturn, 1) ∧ decode cX7_wreck 77 = .ok (.iconst 1, 1) ∧ decode cX7_wreck 78 = .ok (.iload 7, 2) ∧ decode cX7_wreck 80 = .ok (.iload 6, 2) ∧ decode cX7_wreck 82 = .ok (.invokestatic 234, 3) ∧ decode cX7_wreck 85 = .ok (.invokestatic 237, 3) ∧ decode cX7_wreck 88 = .ok (.istore 8, 2) ∧ decode cX7_wreck 90 = .ok (.iload 5, 2) ∧ decode cX7_wreck 92 = .ok (.ifCond .ne 8, 3) ∧ decode cX7_wreck 95 = .ok (.iload 6, 2) := by decide +kernel
theorem dX7_wreck_76 : decode cX7_wreck 76 = .ok (.ireturn, 1) := gg270.1
theorem dX7_wreck_77 : decode cX7_wreck 77 = .ok (.iconst 1, 1) := gg270.2.1
theorem dX7_wreck_78 : decode cX7_wreck 78 = .ok (.iload 7, 2) := gg270.2.2.1
theorem dX7_wreck_80 : decode cX7_wreck 80 = .ok (.iload 6, 2) := gg270.2.2.2.1
theorem dX7_wreck_82 : decode cX7_wreck 82 = .ok (.invokestatic 234, 3) := gg270.2.2.2.2.1
theorem dX7_wreck_85 : decode cX7_wreck 85 = .ok (.invokestatic 237, 3) := gg270.2.2.2.2.2.1
theorem dX7_wreck_88 : decode cX7_wreck 88 = .ok (.istore 8, 2) := gg270.2.2.2.2.2.2.1
theorem dX7_wreck_90 : decode cX7_wreck 90 = .ok (.iload 5, 2) := gg270.2.2.2.2.2.2.2.1
theorem dX7_wreck_92 : decode cX7_wreck 92 = .ok (.ifCond .ne 8, 3) := gg270.2.2.2.2.2.2.2.2.1
theorem dX7_wreck_95 : decode cX7_wreck 95 = .ok (.iload 6, 2) := gg270.2.2.2.2.2.2.2.2.2
theorem gg271 : decode cX7_wreck 97 = .ok (.goto 5, 3) ∧ decode cX7_wreck 100 = .ok (.iload 7, 2) ∧ decode cX7_wreck 102 = .ok (.iload 8, 2) ∧ decode cX7_wreck 104 = .ok (.idiv, 1) ∧ decode cX7_wreck 105 = .ok (.ireturn, 1) := by decide +kernel
theorem dX7_wreck_97 : decode cX7_wreck 97 = .ok (.goto 5, 3) := gg271.1
theorem dX7_wreck_100 : decode cX7_wreck 100 = .ok (.iload 7, 2) := gg271.2.1
theorem dX7_wreck_102 : decode cX7_wreck 102 = .ok (.iload 8, 2) := gg271.2.2.1
theorem dX7_wreck_104 : decode cX7_wreck 104 = .ok (.idiv, 1) := gg271.2.2.2.1
theorem dX7_wreck_105 : decode cX7_wreck 105 = .ok (.ireturn, 1) := gg271.2.2.2.2
theorem gg272 : decode cX7_drawn 0 = .ok (.iload_n 1, 1) ∧ decode cX7_drawn 1 = .ok (.ifCond .lt 22, 3) ∧ decode cX7_drawn 4 = .ok (.iload_n 1, 1) ∧ decode cX7_drawn 5 = .ok (.sipush 9999, 3) ∧ decode cX7_drawn 8 = .ok (.if_icmp .gt 15, 3) ∧ decode cX7_drawn 11 = .ok (.iload_n 2, 1) ∧ decode cX7_drawn 12 = .ok (.iconst 1, 1) ∧ decode cX7_drawn 13 = .ok (.if_icmp .lt 10, 3) ∧ decode cX7_drawn 16 = .ok (.iload_n 2, 1) ∧ decode cX7_drawn 17 = .ok (.sipush 200, 3) := by decide +kernel
theorem dX7_drawn_0 : decode cX7_drawn 0 = .ok (.iload_n 1, 1) := gg272.1
theorem dX7_drawn_1 : decode cX7_drawn 1 = .ok (.ifCond .lt 22, 3) := gg272.2.1
theorem dX7_drawn_4 : decode cX7_drawn 4 = .ok (.iload_n 1, 1) := gg272.2.2.1
theorem dX7_drawn_5 : decode cX7_drawn 5 = .ok (.sipush 9999, 3) := gg272.2.2.2.1
theorem dX7_drawn_8 : decode cX7_drawn 8 = .ok (.if_icmp .gt 15, 3) := gg272.2.2.2.2.1
theorem dX7_drawn_11 : decode cX7_drawn 11 = .ok (.iload_n 2, 1) := gg272.2.2.2.2.2.1
theorem dX7_drawn_12 : decode cX7_drawn 12 = .ok (.iconst 1, 1) := gg272.2.2.2.2.2.2.1
theorem dX7_drawn_13 : decode cX7_drawn 13 = .ok (.if_icmp .lt 10, 3) := gg272.2.2.2.2.2.2.2.1
theorem dX7_drawn_16 : decode cX7_drawn 16 = .ok (.iload_n 2, 1) := gg272.2.2.2.2.2.2.2.2.1
theorem dX7_drawn_17 : decode cX7_drawn 17 = .ok (.sipush 200, 3) := gg272.2.2.2.2.2.2.2.2.2
theorem gg273 : decode cX7_drawn 20 = .ok (.if_icmp .le 5, 3) ∧ decode cX7_drawn 23 = .ok (.iconst (-1), 1) ∧ decode cX7_drawn 24 = .ok (.ireturn, 1) ∧ decode cX7_drawn 25 = .ok (.iconst 1, 1) ∧ decode cX7_drawn 26 = .ok (.aload_n 0, 1) ∧ decode cX7_drawn 27 = .ok (.getfield 23, 3) ∧ decode cX7_drawn 30 = .ok (.getfield 96, 3) ∧ decode cX7_drawn 33 = .ok (.invokestatic 237, 3) ∧ decode cX7_drawn 36 = .ok (.istore_n 3, 1) ∧ decode cX7_drawn 37 = .ok (.iconst 0, 1) := by decide +kernel
theorem dX7_drawn_20 : decode cX7_drawn 20 = .ok (.if_icmp .le 5, 3) := gg273.1
theorem dX7_drawn_23 : decode cX7_drawn 23 = .ok (.iconst (-1), 1) := gg273.2.1
theorem dX7_drawn_24 : decode cX7_drawn 24 = .ok (.ireturn, 1) := gg273.2.2.1
theorem dX7_drawn_25 : decode cX7_drawn 25 = .ok (.iconst 1, 1) := gg273.2.2.2.1
theorem dX7_drawn_26 : decode cX7_drawn 26 = .ok (.aload_n 0, 1) := gg273.2.2.2.2.1
theorem dX7_drawn_27 : decode cX7_drawn 27 = .ok (.getfield 23, 3) := gg273.2.2.2.2.2.1
theorem dX7_drawn_30 : decode cX7_drawn 30 = .ok (.getfield 96, 3) := gg273.2.2.2.2.2.2.1
theorem dX7_drawn_33 : decode cX7_drawn 33 = .ok (.invokestatic 237, 3) := gg273.2.2.2.2.2.2.2.1
theorem dX7_drawn_36 : decode cX7_drawn 36 = .ok (.istore_n 3, 1) := gg273.2.2.2.2.2.2.2.2.1
theorem dX7_drawn_37 : decode cX7_drawn 37 = .ok (.iconst 0, 1) := gg273.2.2.2.2.2.2.2.2.2
theorem gg274 : decode cX7_drawn 38 = .ok (.istore 4, 2) ∧ decode cX7_drawn 40 = .ok (.iconst 0, 1) ∧ decode cX7_drawn 41 = .ok (.istore 5, 2) ∧ decode cX7_drawn 43 = .ok (.iload 5, 2) ∧ decode cX7_drawn 45 = .ok (.iload_n 2, 1) ∧ decode cX7_drawn 46 = .ok (.if_icmp .ge 53, 3) ∧ decode cX7_drawn 49 = .ok (.ldc2_w 242, 3) ∧ decode cX7_drawn 52 = .ok (.iload_n 1, 1) ∧ decode cX7_drawn 53 = .ok (.i2l, 1) ∧ decode cX7_drawn 54 = .ok (.lmul, 1) := by decide +kernel
theorem dX7_drawn_38 : decode cX7_drawn 38 = .ok (.istore 4, 2) := gg274.1
theorem dX7_drawn_40 : decode cX7_drawn 40 = .ok (.iconst 0, 1) := gg274.2.1
theorem dX7_drawn_41 : decode cX7_drawn 41 = .ok (.istore 5, 2) := gg274.2.2.1
theorem dX7_drawn_43 : decode cX7_drawn 43 = .ok (.iload 5, 2) := gg274.2.2.2.1
theorem dX7_drawn_45 : decode cX7_drawn 45 = .ok (.iload_n 2, 1) := gg274.2.2.2.2.1
theorem dX7_drawn_46 : decode cX7_drawn 46 = .ok (.if_icmp .ge 53, 3) := gg274.2.2.2.2.2.1
theorem dX7_drawn_49 : decode cX7_drawn 49 = .ok (.ldc2_w 242, 3) := gg274.2.2.2.2.2.2.1
theorem dX7_drawn_52 : decode cX7_drawn 52 = .ok (.iload_n 1, 1) := gg274.2.2.2.2.2.2.2.1
theorem dX7_drawn_53 : decode cX7_drawn 53 = .ok (.i2l, 1) := gg274.2.2.2.2.2.2.2.2.1
theorem dX7_drawn_54 : decode cX7_drawn 54 = .ok (.lmul, 1) := gg274.2.2.2.2.2.2.2.2.2
theorem gg275 : decode cX7_drawn 55 = .ok (.ldc2_w 244, 3) ∧ decode cX7_drawn 58 = .ok (.iload 5, 2) ∧ decode cX7_drawn 60 = .ok (.i2l, 1) ∧ decode cX7_drawn 61 = .ok (.lmul, 1) ∧ decode cX7_drawn 62 = .ok (.ladd, 1) ∧ decode cX7_drawn 63 = .ok (.lconst 1, 1) ∧ decode cX7_drawn 64 = .ok (.ladd, 1) ∧ decode cX7_drawn 65 = .ok (.lstore 6, 2) ∧ decode cX7_drawn 67 = .ok (.aload_n 0, 1) ∧ decode cX7_drawn 68 = .ok (.getfield 38, 3) := by decide +kernel
theorem dX7_drawn_55 : decode cX7_drawn 55 = .ok (.ldc2_w 244, 3) := gg275.1
theorem dX7_drawn_58 : decode cX7_drawn 58 = .ok (.iload 5, 2) := gg275.2.1
theorem dX7_drawn_60 : decode cX7_drawn 60 = .ok (.i2l, 1) := gg275.2.2.1
theorem dX7_drawn_61 : decode cX7_drawn 61 = .ok (.lmul, 1) := gg275.2.2.2.1
theorem dX7_drawn_62 : decode cX7_drawn 62 = .ok (.ladd, 1) := gg275.2.2.2.2.1
theorem dX7_drawn_63 : decode cX7_drawn 63 = .ok (.lconst 1, 1) := gg275.2.2.2.2.2.1
theorem dX7_drawn_64 : decode cX7_drawn 64 = .ok (.ladd, 1) := gg275.2.2.2.2.2.2.1
theorem dX7_drawn_65 : decode cX7_drawn 65 = .ok (.lstore 6, 2) := gg275.2.2.2.2.2.2.2.1
theorem dX7_drawn_67 : decode cX7_drawn 67 = .ok (.aload_n 0, 1) := gg275.2.2.2.2.2.2.2.2.1
theorem dX7_drawn_68 : decode cX7_drawn 68 = .ok (.getfield 38, 3) := gg275.2.2.2.2.2.2.2.2.2
theorem gg276 : decode cX7_drawn 71 = .ok (.iload 5, 2) ∧ decode cX7_drawn 73 = .ok (.iload_n 3, 1) ∧ decode cX7_drawn 74 = .ok (.irem, 1) ∧ decode cX7_drawn 75 = .ok (.lload 6, 2) ∧ decode cX7_drawn 77 = .ok (.lload 6, 2) ∧ decode cX7_drawn 79 = .ok (.lmul, 1) ∧ decode cX7_drawn 80 = .ok (.ldc2_w 246, 3) ∧ decode cX7_drawn 83 = .ok (.lrem, 1) ∧ decode cX7_drawn 84 = .ok (.invokevirtual 151, 3) ∧ decode cX7_drawn 87 = .ok (.ifCond .eq 6, 3) := by decide +kernel
theorem dX7_drawn_71 : decode cX7_drawn 71 = .ok (.iload 5, 2) := gg276.1
theorem dX7_drawn_73 : decode cX7_drawn 73 = .ok (.iload_n 3, 1) := gg276.2.1
theorem dX7_drawn_74 : decode cX7_drawn 74 = .ok (.irem, 1) := gg276.2.2.1
theorem dX7_drawn_75 : decode cX7_drawn 75 = .ok (.lload 6, 2) := gg276.2.2.2.1
theorem dX7_drawn_77 : decode cX7_drawn 77 = .ok (.lload 6, 2) := gg276.2.2.2.2.1
theorem dX7_drawn_79 : decode cX7_drawn 79 = .ok (.lmul, 1) := gg276.2.2.2.2.2.1
theorem dX7_drawn_80 : decode cX7_drawn 80 = .ok (.ldc2_w 246, 3) := gg276.2.2.2.2.2.2.1
theorem dX7_drawn_83 : decode cX7_drawn 83 = .ok (.lrem, 1) := gg276.2.2.2.2.2.2.2.1
theorem dX7_drawn_84 : decode cX7_drawn 84 = .ok (.invokevirtual 151, 3) := gg276.2.2.2.2.2.2.2.2.1
theorem dX7_drawn_87 : decode cX7_drawn 87 = .ok (.ifCond .eq 6, 3) := gg276.2.2.2.2.2.2.2.2.2
theorem gg277 : decode cX7_drawn 90 = .ok (.iinc 4 1, 3) ∧ decode cX7_drawn 93 = .ok (.iinc 5 1, 3) ∧ decode cX7_drawn 96 = .ok (.goto (-53), 3) ∧ decode cX7_drawn 99 = .ok (.iload 4, 2) ∧ decode cX7_drawn 101 = .ok (.ireturn, 1) := by decide +kernel
theorem dX7_drawn_90 : decode cX7_drawn 90 = .ok (.iinc 4 1, 3) := gg277.1
theorem dX7_drawn_93 : decode cX7_drawn 93 = .ok (.iinc 5 1, 3) := gg277.2.1
theorem dX7_drawn_96 : decode cX7_drawn 96 = .ok (.goto (-53), 3) := gg277.2.2.1
theorem dX7_drawn_99 : decode cX7_drawn 99 = .ok (.iload 4, 2) := gg277.2.2.2.1
theorem dX7_drawn_101 : decode cX7_drawn 101 = .ok (.ireturn, 1) := gg277.2.2.2.2
theorem gg278 : decode cX7_keep 0 = .ok (.aload_n 0, 1) ∧ decode cX7_keep 1 = .ok (.getfield 67, 3) ∧ decode cX7_keep 4 = .ok (.getfield 189, 3) ∧ decode cX7_keep 7 = .ok (.iconst 2, 1) ∧ decode cX7_keep 8 = .ok (.if_icmp .lt 6, 3) ∧ decode cX7_keep 11 = .ok (.bipush (-3), 2) ∧ decode cX7_keep 13 = .ok (.ireturn, 1) ∧ decode cX7_keep 14 = .ok (.aload_n 0, 1) ∧ decode cX7_keep 15 = .ok (.getfield 67, 3) ∧ decode cX7_keep 18 = .ok (.aload_n 0, 1) := by decide +kernel
theorem dX7_keep_0 : decode cX7_keep 0 = .ok (.aload_n 0, 1) := gg278.1
theorem dX7_keep_1 : decode cX7_keep 1 = .ok (.getfield 67, 3) := gg278.2.1
theorem dX7_keep_4 : decode cX7_keep 4 = .ok (.getfield 189, 3) := gg278.2.2.1
theorem dX7_keep_7 : decode cX7_keep 7 = .ok (.iconst 2, 1) := gg278.2.2.2.1
theorem dX7_keep_8 : decode cX7_keep 8 = .ok (.if_icmp .lt 6, 3) := gg278.2.2.2.2.1
theorem dX7_keep_11 : decode cX7_keep 11 = .ok (.bipush (-3), 2) := gg278.2.2.2.2.2.1
theorem dX7_keep_13 : decode cX7_keep 13 = .ok (.ireturn, 1) := gg278.2.2.2.2.2.2.1
theorem dX7_keep_14 : decode cX7_keep 14 = .ok (.aload_n 0, 1) := gg278.2.2.2.2.2.2.2.1
theorem dX7_keep_15 : decode cX7_keep 15 = .ok (.getfield 67, 3) := gg278.2.2.2.2.2.2.2.2.1
theorem dX7_keep_18 : decode cX7_keep 18 = .ok (.aload_n 0, 1) := gg278.2.2.2.2.2.2.2.2.2
theorem gg279 : decode cX7_keep 19 = .ok (.getfield 29, 3) ∧ decode cX7_keep 22 = .ok (.invokevirtual 164, 3) ∧ decode cX7_keep 25 = .ok (.aload_n 0, 1) ∧ decode cX7_keep 26 = .ok (.getfield 67, 3) ∧ decode cX7_keep 29 = .ok (.getfield 189, 3) ∧ decode cX7_keep 32 = .ok (.ireturn, 1) := by decide +kernel
theorem dX7_keep_19 : decode cX7_keep 19 = .ok (.getfield 29, 3) := gg279.1
theorem dX7_keep_22 : decode cX7_keep 22 = .ok (.invokevirtual 164, 3) := gg279.2.1
theorem dX7_keep_25 : decode cX7_keep 25 = .ok (.aload_n 0, 1) := gg279.2.2.1
theorem dX7_keep_26 : decode cX7_keep 26 = .ok (.getfield 67, 3) := gg279.2.2.2.1
theorem dX7_keep_29 : decode cX7_keep 29 = .ok (.getfield 189, 3) := gg279.2.2.2.2.1
theorem dX7_keep_32 : decode cX7_keep 32 = .ok (.ireturn, 1) := gg279.2.2.2.2.2
theorem gg280 : decode cX7_back 0 = .ok (.aload_n 0, 1) ∧ decode cX7_back 1 = .ok (.getfield 67, 3) ∧ decode cX7_back 4 = .ok (.getfield 189, 3) ∧ decode cX7_back 7 = .ok (.ifCond .ne 6, 3) ∧ decode cX7_back 10 = .ok (.bipush (-2), 2) ∧ decode cX7_back 12 = .ok (.ireturn, 1) ∧ decode cX7_back 13 = .ok (.aload_n 0, 1) ∧ decode cX7_back 14 = .ok (.getfield 67, 3) ∧ decode cX7_back 17 = .ok (.aload_n 0, 1) ∧ decode cX7_back 18 = .ok (.getfield 29, 3) := by decide +kernel
theorem dX7_back_0 : decode cX7_back 0 = .ok (.aload_n 0, 1) := gg280.1
theorem dX7_back_1 : decode cX7_back 1 = .ok (.getfield 67, 3) := gg280.2.1
theorem dX7_back_4 : decode cX7_back 4 = .ok (.getfield 189, 3) := gg280.2.2.1
theorem dX7_back_7 : decode cX7_back 7 = .ok (.ifCond .ne 6, 3) := gg280.2.2.2.1
theorem dX7_back_10 : decode cX7_back 10 = .ok (.bipush (-2), 2) := gg280.2.2.2.2.1
theorem dX7_back_12 : decode cX7_back 12 = .ok (.ireturn, 1) := gg280.2.2.2.2.2.1
theorem dX7_back_13 : decode cX7_back 13 = .ok (.aload_n 0, 1) := gg280.2.2.2.2.2.2.1
theorem dX7_back_14 : decode cX7_back 14 = .ok (.getfield 67, 3) := gg280.2.2.2.2.2.2.2.1
theorem dX7_back_17 : decode cX7_back 17 = .ok (.aload_n 0, 1) := gg280.2.2.2.2.2.2.2.2.1
theorem dX7_back_18 : decode cX7_back 18 = .ok (.getfield 29, 3) := gg280.2.2.2.2.2.2.2.2.2
theorem gg281 : decode cX7_back 21 = .ok (.invokevirtual 192, 3) ∧ decode cX7_back 24 = .ok (.aload_n 0, 1) ∧ decode cX7_back 25 = .ok (.getfield 63, 3) ∧ decode cX7_back 28 = .ok (.invokevirtual 109, 3) ∧ decode cX7_back 31 = .ok (.aload_n 0, 1) ∧ decode cX7_back 32 = .ok (.getfield 67, 3) ∧ decode cX7_back 35 = .ok (.getfield 189, 3) ∧ decode cX7_back 38 = .ok (.ireturn, 1) := by decide +kernel
theorem dX7_back_21 : decode cX7_back 21 = .ok (.invokevirtual 192, 3) := gg281.1
theorem dX7_back_24 : decode cX7_back 24 = .ok (.aload_n 0, 1) := gg281.2.1
theorem dX7_back_25 : decode cX7_back 25 = .ok (.getfield 63, 3) := gg281.2.2.1
theorem dX7_back_28 : decode cX7_back 28 = .ok (.invokevirtual 109, 3) := gg281.2.2.2.1
theorem dX7_back_31 : decode cX7_back 31 = .ok (.aload_n 0, 1) := gg281.2.2.2.2.1
theorem dX7_back_32 : decode cX7_back 32 = .ok (.getfield 67, 3) := gg281.2.2.2.2.2.1
theorem dX7_back_35 : decode cX7_back 35 = .ok (.getfield 189, 3) := gg281.2.2.2.2.2.2.1
theorem dX7_back_38 : decode cX7_back 38 = .ok (.ireturn, 1) := gg281.2.2.2.2.2.2.2
theorem gg282 : decode cX7_count 0 = .ok (.iload_n 1, 1) ∧ decode cX7_count 1 = .ok (.tableswitch 126 0 8 #[51, 59, 67, 75, 80, 88, 96, 107, 118], 51) ∧ decode cX7_count 52 = .ok (.aload_n 0, 1) ∧ decode cX7_count 53 = .ok (.getfield 23, 3) ∧ decode cX7_count 56 = .ok (.getfield 96, 3) ∧ decode cX7_count 59 = .ok (.ireturn, 1) ∧ decode cX7_count 60 = .ok (.aload_n 0, 1) ∧ decode cX7_count 61 = .ok (.getfield 10, 3) ∧ decode cX7_count 64 = .ok (.getfield 88, 3) ∧ decode cX7_count 67 = .ok (.ireturn, 1) := by decide +kernel
theorem dX7_count_0 : decode cX7_count 0 = .ok (.iload_n 1, 1) := gg282.1
theorem dX7_count_1 : decode cX7_count 1 = .ok (.tableswitch 126 0 8 #[51, 59, 67, 75, 80, 88, 96, 107, 118], 51) := gg282.2.1
theorem dX7_count_52 : decode cX7_count 52 = .ok (.aload_n 0, 1) := gg282.2.2.1
theorem dX7_count_53 : decode cX7_count 53 = .ok (.getfield 23, 3) := gg282.2.2.2.1
theorem dX7_count_56 : decode cX7_count 56 = .ok (.getfield 96, 3) := gg282.2.2.2.2.1
theorem dX7_count_59 : decode cX7_count 59 = .ok (.ireturn, 1) := gg282.2.2.2.2.2.1
theorem dX7_count_60 : decode cX7_count 60 = .ok (.aload_n 0, 1) := gg282.2.2.2.2.2.2.1
theorem dX7_count_61 : decode cX7_count 61 = .ok (.getfield 10, 3) := gg282.2.2.2.2.2.2.2.1
theorem dX7_count_64 : decode cX7_count 64 = .ok (.getfield 88, 3) := gg282.2.2.2.2.2.2.2.2.1
theorem dX7_count_67 : decode cX7_count 67 = .ok (.ireturn, 1) := gg282.2.2.2.2.2.2.2.2.2
theorem gg283 : decode cX7_count 68 = .ok (.aload_n 0, 1) ∧ decode cX7_count 69 = .ok (.getfield 29, 3) ∧ decode cX7_count 72 = .ok (.getfield 126, 3) ∧ decode cX7_count 75 = .ok (.ireturn, 1) ∧ decode cX7_count 76 = .ok (.aload_n 0, 1) ∧ decode cX7_count 77 = .ok (.getfield 103, 3) ∧ decode cX7_count 80 = .ok (.ireturn, 1) ∧ decode cX7_count 81 = .ok (.aload_n 0, 1) ∧ decode cX7_count 82 = .ok (.getfield 54, 3) ∧ decode cX7_count 85 = .ok (.getfield 106, 3) := by decide +kernel
theorem dX7_count_68 : decode cX7_count 68 = .ok (.aload_n 0, 1) := gg283.1
theorem dX7_count_69 : decode cX7_count 69 = .ok (.getfield 29, 3) := gg283.2.1
theorem dX7_count_72 : decode cX7_count 72 = .ok (.getfield 126, 3) := gg283.2.2.1
theorem dX7_count_75 : decode cX7_count 75 = .ok (.ireturn, 1) := gg283.2.2.2.1
theorem dX7_count_76 : decode cX7_count 76 = .ok (.aload_n 0, 1) := gg283.2.2.2.2.1
theorem dX7_count_77 : decode cX7_count 77 = .ok (.getfield 103, 3) := gg283.2.2.2.2.2.1
theorem dX7_count_80 : decode cX7_count 80 = .ok (.ireturn, 1) := gg283.2.2.2.2.2.2.1
theorem dX7_count_81 : decode cX7_count 81 = .ok (.aload_n 0, 1) := gg283.2.2.2.2.2.2.2.1
theorem dX7_count_82 : decode cX7_count 82 = .ok (.getfield 54, 3) := gg283.2.2.2.2.2.2.2.2.1
theorem dX7_count_85 : decode cX7_count 85 = .ok (.getfield 106, 3) := gg283.2.2.2.2.2.2.2.2.2
theorem gg284 : decode cX7_count 88 = .ok (.ireturn, 1) ∧ decode cX7_count 89 = .ok (.aload_n 0, 1) ∧ decode cX7_count 90 = .ok (.getfield 63, 3) ∧ decode cX7_count 93 = .ok (.getfield 189, 3) ∧ decode cX7_count 96 = .ok (.ireturn, 1) ∧ decode cX7_count 97 = .ok (.aload_n 0, 1) ∧ decode cX7_count 98 = .ok (.getfield 29, 3) ∧ decode cX7_count 101 = .ok (.getfield 174, 3) ∧ decode cX7_count 104 = .ok (.ldc 220, 2) ∧ decode cX7_count 106 = .ok (.iadd, 1) := by decide +kernel
theorem dX7_count_88 : decode cX7_count 88 = .ok (.ireturn, 1) := gg284.1
theorem dX7_count_89 : decode cX7_count 89 = .ok (.aload_n 0, 1) := gg284.2.1
theorem dX7_count_90 : decode cX7_count 90 = .ok (.getfield 63, 3) := gg284.2.2.1
theorem dX7_count_93 : decode cX7_count 93 = .ok (.getfield 189, 3) := gg284.2.2.2.1
theorem dX7_count_96 : decode cX7_count 96 = .ok (.ireturn, 1) := gg284.2.2.2.2.1
theorem dX7_count_97 : decode cX7_count 97 = .ok (.aload_n 0, 1) := gg284.2.2.2.2.2.1
theorem dX7_count_98 : decode cX7_count 98 = .ok (.getfield 29, 3) := gg284.2.2.2.2.2.2.1
theorem dX7_count_101 : decode cX7_count 101 = .ok (.getfield 174, 3) := gg284.2.2.2.2.2.2.2.1
theorem dX7_count_104 : decode cX7_count 104 = .ok (.ldc 220, 2) := gg284.2.2.2.2.2.2.2.2.1
theorem dX7_count_106 : decode cX7_count 106 = .ok (.iadd, 1) := gg284.2.2.2.2.2.2.2.2.2
theorem gg285 : decode cX7_count 107 = .ok (.ireturn, 1) ∧ decode cX7_count 108 = .ok (.aload_n 0, 1) ∧ decode cX7_count 109 = .ok (.getfield 29, 3) ∧ decode cX7_count 112 = .ok (.getfield 180, 3) ∧ decode cX7_count 115 = .ok (.ldc 220, 2) ∧ decode cX7_count 117 = .ok (.iadd, 1) ∧ decode cX7_count 118 = .ok (.ireturn, 1) ∧ decode cX7_count 119 = .ok (.aload_n 0, 1) ∧ decode cX7_count 120 = .ok (.getfield 67, 3) ∧ decode cX7_count 123 = .ok (.getfield 189, 3) := by decide +kernel
theorem dX7_count_107 : decode cX7_count 107 = .ok (.ireturn, 1) := gg285.1
theorem dX7_count_108 : decode cX7_count 108 = .ok (.aload_n 0, 1) := gg285.2.1
theorem dX7_count_109 : decode cX7_count 109 = .ok (.getfield 29, 3) := gg285.2.2.1
theorem dX7_count_112 : decode cX7_count 112 = .ok (.getfield 180, 3) := gg285.2.2.2.1
theorem dX7_count_115 : decode cX7_count 115 = .ok (.ldc 220, 2) := gg285.2.2.2.2.1
theorem dX7_count_117 : decode cX7_count 117 = .ok (.iadd, 1) := gg285.2.2.2.2.2.1
theorem dX7_count_118 : decode cX7_count 118 = .ok (.ireturn, 1) := gg285.2.2.2.2.2.2.1
theorem dX7_count_119 : decode cX7_count 119 = .ok (.aload_n 0, 1) := gg285.2.2.2.2.2.2.2.1
theorem dX7_count_120 : decode cX7_count 120 = .ok (.getfield 67, 3) := gg285.2.2.2.2.2.2.2.2.1
theorem dX7_count_123 : decode cX7_count 123 = .ok (.getfield 189, 3) := gg285.2.2.2.2.2.2.2.2.2
theorem gg286 : decode cX7_count 126 = .ok (.ireturn, 1) ∧ decode cX7_count 127 = .ok (.iconst (-1), 1) ∧ decode cX7_count 128 = .ok (.ireturn, 1) := by decide +kernel
theorem dX7_count_126 : decode cX7_count 126 = .ok (.ireturn, 1) := gg286.1
theorem dX7_count_127 : decode cX7_count 127 = .ok (.iconst (-1), 1) := gg286.2.1
theorem dX7_count_128 : decode cX7_count 128 = .ok (.ireturn, 1) := gg286.2.2
theorem gg287 : decode cX7_isAct 0 = .ok (.iload_n 1, 1) ∧ decode cX7_isAct 1 = .ok (.ifCond .lt 18, 3) ∧ decode cX7_isAct 4 = .ok (.iload_n 1, 1) ∧ decode cX7_isAct 5 = .ok (.aload_n 0, 1) ∧ decode cX7_isAct 6 = .ok (.getfield 23, 3) ∧ decode cX7_isAct 9 = .ok (.getfield 96, 3) ∧ decode cX7_isAct 12 = .ok (.if_icmp .ge 7, 3) ∧ decode cX7_isAct 15 = .ok (.iconst 1, 1) ∧ decode cX7_isAct 16 = .ok (.goto 4, 3) ∧ decode cX7_isAct 19 = .ok (.iconst 0, 1) := by decide +kernel
theorem dX7_isAct_0 : decode cX7_isAct 0 = .ok (.iload_n 1, 1) := gg287.1
theorem dX7_isAct_1 : decode cX7_isAct 1 = .ok (.ifCond .lt 18, 3) := gg287.2.1
theorem dX7_isAct_4 : decode cX7_isAct 4 = .ok (.iload_n 1, 1) := gg287.2.2.1
theorem dX7_isAct_5 : decode cX7_isAct 5 = .ok (.aload_n 0, 1) := gg287.2.2.2.1
theorem dX7_isAct_6 : decode cX7_isAct 6 = .ok (.getfield 23, 3) := gg287.2.2.2.2.1
theorem dX7_isAct_9 : decode cX7_isAct 9 = .ok (.getfield 96, 3) := gg287.2.2.2.2.2.1
theorem dX7_isAct_12 : decode cX7_isAct 12 = .ok (.if_icmp .ge 7, 3) := gg287.2.2.2.2.2.2.1
theorem dX7_isAct_15 : decode cX7_isAct 15 = .ok (.iconst 1, 1) := gg287.2.2.2.2.2.2.2.1
theorem dX7_isAct_16 : decode cX7_isAct 16 = .ok (.goto 4, 3) := gg287.2.2.2.2.2.2.2.2.1
theorem dX7_isAct_19 : decode cX7_isAct 19 = .ok (.iconst 0, 1) := gg287.2.2.2.2.2.2.2.2.2
theorem dX7_isAct_20 : decode cX7_isAct 20 = .ok (.ireturn, 1) := by decide +kernel
theorem gg289 : decode cX7_isActOrNone 0 = .ok (.iload_n 1, 1) ∧ decode cX7_isActOrNone 1 = .ok (.iconst (-1), 1) ∧ decode cX7_isActOrNone 2 = .ok (.if_icmp .eq 11, 3) ∧ decode cX7_isActOrNone 5 = .ok (.aload_n 0, 1) ∧ decode cX7_isActOrNone 6 = .ok (.iload_n 1, 1) ∧ decode cX7_isActOrNone 7 = .ok (.invokevirtual 112, 3) ∧ decode cX7_isActOrNone 10 = .ok (.ifCond .eq 7, 3) ∧ decode cX7_isActOrNone 13 = .ok (.iconst 1, 1) ∧ decode cX7_isActOrNone 14 = .ok (.goto 4, 3) ∧ decode cX7_isActOrNone 17 = .ok (.iconst 0, 1) := by decide +kernel
theorem dX7_isActOrNone_0 : decode cX7_isActOrNone 0 = .ok (.iload_n 1, 1) := gg289.1
theorem dX7_isActOrNone_1 : decode cX7_isActOrNone 1 = .ok (.iconst (-1), 1) := gg289.2.1
theorem dX7_isActOrNone_2 : decode cX7_isActOrNone 2 = .ok (.if_icmp .eq 11, 3) := gg289.2.2.1
theorem dX7_isActOrNone_5 : decode cX7_isActOrNone 5 = .ok (.aload_n 0, 1) := gg289.2.2.2.1
theorem dX7_isActOrNone_6 : decode cX7_isActOrNone 6 = .ok (.iload_n 1, 1) := gg289.2.2.2.2.1
theorem dX7_isActOrNone_7 : decode cX7_isActOrNone 7 = .ok (.invokevirtual 112, 3) := gg289.2.2.2.2.2.1
theorem dX7_isActOrNone_10 : decode cX7_isActOrNone 10 = .ok (.ifCond .eq 7, 3) := gg289.2.2.2.2.2.2.1
theorem dX7_isActOrNone_13 : decode cX7_isActOrNone 13 = .ok (.iconst 1, 1) := gg289.2.2.2.2.2.2.2.1
theorem dX7_isActOrNone_14 : decode cX7_isActOrNone 14 = .ok (.goto 4, 3) := gg289.2.2.2.2.2.2.2.2.1
theorem dX7_isActOrNone_17 : decode cX7_isActOrNone 17 = .ok (.iconst 0, 1) := gg289.2.2.2.2.2.2.2.2.2
theorem dX7_isActOrNone_18 : decode cX7_isActOrNone 18 = .ok (.ireturn, 1) := by decide +kernel
theorem gg291 : decode cX7_isKing 0 = .ok (.iload_n 0, 1) ∧ decode cX7_isKing 1 = .ok (.ifCond .eq 8, 3) ∧ decode cX7_isKing 4 = .ok (.iload_n 0, 1) ∧ decode cX7_isKing 5 = .ok (.iconst 1, 1) ∧ decode cX7_isKing 6 = .ok (.if_icmp .ne 7, 3) ∧ decode cX7_isKing 9 = .ok (.iconst 1, 1) ∧ decode cX7_isKing 10 = .ok (.goto 4, 3) ∧ decode cX7_isKing 13 = .ok (.iconst 0, 1) ∧ decode cX7_isKing 14 = .ok (.ireturn, 1) := by decide +kernel
theorem dX7_isKing_0 : decode cX7_isKing 0 = .ok (.iload_n 0, 1) := gg291.1
theorem dX7_isKing_1 : decode cX7_isKing 1 = .ok (.ifCond .eq 8, 3) := gg291.2.1
theorem dX7_isKing_4 : decode cX7_isKing 4 = .ok (.iload_n 0, 1) := gg291.2.2.1
theorem dX7_isKing_5 : decode cX7_isKing 5 = .ok (.iconst 1, 1) := gg291.2.2.2.1
theorem dX7_isKing_6 : decode cX7_isKing 6 = .ok (.if_icmp .ne 7, 3) := gg291.2.2.2.2.1
theorem dX7_isKing_9 : decode cX7_isKing 9 = .ok (.iconst 1, 1) := gg291.2.2.2.2.2.1
theorem dX7_isKing_10 : decode cX7_isKing 10 = .ok (.goto 4, 3) := gg291.2.2.2.2.2.2.1
theorem dX7_isKing_13 : decode cX7_isKing 13 = .ok (.iconst 0, 1) := gg291.2.2.2.2.2.2.2.1
theorem dX7_isKing_14 : decode cX7_isKing 14 = .ok (.ireturn, 1) := gg291.2.2.2.2.2.2.2.2
theorem gg292 : decode cX7_isRuler 0 = .ok (.iload_n 0, 1) ∧ decode cX7_isRuler 1 = .ok (.ifCond .lt 12, 3) ∧ decode cX7_isRuler 4 = .ok (.iload_n 0, 1) ∧ decode cX7_isRuler 5 = .ok (.iconst 2, 1) ∧ decode cX7_isRuler 6 = .ok (.if_icmp .gt 7, 3) ∧ decode cX7_isRuler 9 = .ok (.iconst 1, 1) ∧ decode cX7_isRuler 10 = .ok (.goto 4, 3) ∧ decode cX7_isRuler 13 = .ok (.iconst 0, 1) ∧ decode cX7_isRuler 14 = .ok (.ireturn, 1) := by decide +kernel
theorem dX7_isRuler_0 : decode cX7_isRuler 0 = .ok (.iload_n 0, 1) := gg292.1
theorem dX7_isRuler_1 : decode cX7_isRuler 1 = .ok (.ifCond .lt 12, 3) := gg292.2.1
theorem dX7_isRuler_4 : decode cX7_isRuler 4 = .ok (.iload_n 0, 1) := gg292.2.2.1
theorem dX7_isRuler_5 : decode cX7_isRuler 5 = .ok (.iconst 2, 1) := gg292.2.2.2.1
theorem dX7_isRuler_6 : decode cX7_isRuler 6 = .ok (.if_icmp .gt 7, 3) := gg292.2.2.2.2.1
theorem dX7_isRuler_9 : decode cX7_isRuler 9 = .ok (.iconst 1, 1) := gg292.2.2.2.2.2.1
theorem dX7_isRuler_10 : decode cX7_isRuler 10 = .ok (.goto 4, 3) := gg292.2.2.2.2.2.2.1
theorem dX7_isRuler_13 : decode cX7_isRuler 13 = .ok (.iconst 0, 1) := gg292.2.2.2.2.2.2.2.1
theorem dX7_isRuler_14 : decode cX7_isRuler 14 = .ok (.ireturn, 1) := gg292.2.2.2.2.2.2.2.2
theorem gg293 : decode cX7_isMinute 0 = .ok (.lload_n 0, 1) ∧ decode cX7_isMinute 1 = .ok (.lconst 0, 1) ∧ decode cX7_isMinute 2 = .ok (.lcmp, 1) ∧ decode cX7_isMinute 3 = .ok (.ifCond .lt 15, 3) ∧ decode cX7_isMinute 6 = .ok (.lload_n 0, 1) ∧ decode cX7_isMinute 7 = .ok (.ldc2_w 248, 3) ∧ decode cX7_isMinute 10 = .ok (.lcmp, 1) ∧ decode cX7_isMinute 11 = .ok (.ifCond .gt 7, 3) ∧ decode cX7_isMinute 14 = .ok (.iconst 1, 1) ∧ decode cX7_isMinute 15 = .ok (.goto 4, 3) := by decide +kernel
theorem dX7_isMinute_0 : decode cX7_isMinute 0 = .ok (.lload_n 0, 1) := gg293.1
theorem dX7_isMinute_1 : decode cX7_isMinute 1 = .ok (.lconst 0, 1) := gg293.2.1
theorem dX7_isMinute_2 : decode cX7_isMinute 2 = .ok (.lcmp, 1) := gg293.2.2.1
theorem dX7_isMinute_3 : decode cX7_isMinute 3 = .ok (.ifCond .lt 15, 3) := gg293.2.2.2.1
theorem dX7_isMinute_6 : decode cX7_isMinute 6 = .ok (.lload_n 0, 1) := gg293.2.2.2.2.1
theorem dX7_isMinute_7 : decode cX7_isMinute 7 = .ok (.ldc2_w 248, 3) := gg293.2.2.2.2.2.1
theorem dX7_isMinute_10 : decode cX7_isMinute 10 = .ok (.lcmp, 1) := gg293.2.2.2.2.2.2.1
theorem dX7_isMinute_11 : decode cX7_isMinute 11 = .ok (.ifCond .gt 7, 3) := gg293.2.2.2.2.2.2.2.1
theorem dX7_isMinute_14 : decode cX7_isMinute 14 = .ok (.iconst 1, 1) := gg293.2.2.2.2.2.2.2.2.1
theorem dX7_isMinute_15 : decode cX7_isMinute 15 = .ok (.goto 4, 3) := gg293.2.2.2.2.2.2.2.2.2
theorem gg294 : decode cX7_isMinute 18 = .ok (.iconst 0, 1) ∧ decode cX7_isMinute 19 = .ok (.ireturn, 1) := by decide +kernel
theorem dX7_isMinute_18 : decode cX7_isMinute 18 = .ok (.iconst 0, 1) := gg294.1
theorem dX7_isMinute_19 : decode cX7_isMinute 19 = .ok (.ireturn, 1) := gg294.2
theorem gg295 : decode cX7_lawOf 0 = .ok (.iload_n 0, 1) ∧ decode cX7_lawOf 1 = .ok (.iconst 2, 1) ∧ decode cX7_lawOf 2 = .ok (.iload_n 1, 1) ∧ decode cX7_lawOf 3 = .ok (.imul, 1) ∧ decode cX7_lawOf 4 = .ok (.ishr, 1) ∧ decode cX7_lawOf 5 = .ok (.iconst 3, 1) ∧ decode cX7_lawOf 6 = .ok (.iand, 1) ∧ decode cX7_lawOf 7 = .ok (.ireturn, 1) := by decide +kernel
theorem dX7_lawOf_0 : decode cX7_lawOf 0 = .ok (.iload_n 0, 1) := gg295.1
theorem dX7_lawOf_1 : decode cX7_lawOf 1 = .ok (.iconst 2, 1) := gg295.2.1
theorem dX7_lawOf_2 : decode cX7_lawOf 2 = .ok (.iload_n 1, 1) := gg295.2.2.1
theorem dX7_lawOf_3 : decode cX7_lawOf 3 = .ok (.imul, 1) := gg295.2.2.2.1
theorem dX7_lawOf_4 : decode cX7_lawOf 4 = .ok (.ishr, 1) := gg295.2.2.2.2.1
theorem dX7_lawOf_5 : decode cX7_lawOf 5 = .ok (.iconst 3, 1) := gg295.2.2.2.2.2.1
theorem dX7_lawOf_6 : decode cX7_lawOf 6 = .ok (.iand, 1) := gg295.2.2.2.2.2.2.1
theorem dX7_lawOf_7 : decode cX7_lawOf 7 = .ok (.ireturn, 1) := gg295.2.2.2.2.2.2.2
theorem gg296 : decode cX7_lawBits 0 = .ok (.iload_n 1, 1) ∧ decode cX7_lawBits 1 = .ok (.iconst 2, 1) ∧ decode cX7_lawBits 2 = .ok (.iload_n 0, 1) ∧ decode cX7_lawBits 3 = .ok (.imul, 1) ∧ decode cX7_lawBits 4 = .ok (.ishl, 1) ∧ decode cX7_lawBits 5 = .ok (.ireturn, 1) := by decide +kernel
theorem dX7_lawBits_0 : decode cX7_lawBits 0 = .ok (.iload_n 1, 1) := gg296.1
theorem dX7_lawBits_1 : decode cX7_lawBits 1 = .ok (.iconst 2, 1) := gg296.2.1
theorem dX7_lawBits_2 : decode cX7_lawBits 2 = .ok (.iload_n 0, 1) := gg296.2.2.1
theorem dX7_lawBits_3 : decode cX7_lawBits 3 = .ok (.imul, 1) := gg296.2.2.2.1
theorem dX7_lawBits_4 : decode cX7_lawBits 4 = .ok (.ishl, 1) := gg296.2.2.2.2.1
theorem dX7_lawBits_5 : decode cX7_lawBits 5 = .ok (.ireturn, 1) := gg296.2.2.2.2.2
theorem gg297 : decode cX7_greatestDivisor 0 = .ok (.iload_n 0, 1) ∧ decode cX7_greatestDivisor 1 = .ok (.istore_n 2, 1) ∧ decode cX7_greatestDivisor 2 = .ok (.iload_n 1, 1) ∧ decode cX7_greatestDivisor 3 = .ok (.istore_n 3, 1) ∧ decode cX7_greatestDivisor 4 = .ok (.iconst 0, 1) ∧ decode cX7_greatestDivisor 5 = .ok (.istore 4, 2) ∧ decode cX7_greatestDivisor 7 = .ok (.iload 4, 2) ∧ decode cX7_greatestDivisor 9 = .ok (.bipush 50, 2) ∧ decode cX7_greatestDivisor 11 = .ok (.if_icmp .ge 23, 3) ∧ decode cX7_greatestDivisor 14 = .ok (.iload_n 3, 1) := by decide +kernel
theorem dX7_greatestDivisor_0 : decode cX7_greatestDivisor 0 = .ok (.iload_n 0, 1) := gg297.1
theorem dX7_greatestDivisor_1 : decode cX7_greatestDivisor 1 = .ok (.istore_n 2, 1) := gg297.2.1
theorem dX7_greatestDivisor_2 : decode cX7_greatestDivisor 2 = .ok (.iload_n 1, 1) := gg297.2.2.1
theorem dX7_greatestDivisor_3 : decode cX7_greatestDivisor 3 = .ok (.istore_n 3, 1) := gg297.2.2.2.1
theorem dX7_greatestDivisor_4 : decode cX7_greatestDivisor 4 = .ok (.iconst 0, 1) := gg297.2.2.2.2.1
theorem dX7_greatestDivisor_5 : decode cX7_greatestDivisor 5 = .ok (.istore 4, 2) := gg297.2.2.2.2.2.1
theorem dX7_greatestDivisor_7 : decode cX7_greatestDivisor 7 = .ok (.iload 4, 2) := gg297.2.2.2.2.2.2.1
theorem dX7_greatestDivisor_9 : decode cX7_greatestDivisor 9 = .ok (.bipush 50, 2) := gg297.2.2.2.2.2.2.2.1
theorem dX7_greatestDivisor_11 : decode cX7_greatestDivisor 11 = .ok (.if_icmp .ge 23, 3) := gg297.2.2.2.2.2.2.2.2.1
theorem dX7_greatestDivisor_14 : decode cX7_greatestDivisor 14 = .ok (.iload_n 3, 1) := gg297.2.2.2.2.2.2.2.2.2
theorem gg298 : decode cX7_greatestDivisor 15 = .ok (.ifCond .le 19, 3) ∧ decode cX7_greatestDivisor 18 = .ok (.iload_n 2, 1) ∧ decode cX7_greatestDivisor 19 = .ok (.iload_n 3, 1) ∧ decode cX7_greatestDivisor 20 = .ok (.irem, 1) ∧ decode cX7_greatestDivisor 21 = .ok (.istore 5, 2) ∧ decode cX7_greatestDivisor 23 = .ok (.iload_n 3, 1) ∧ decode cX7_greatestDivisor 24 = .ok (.istore_n 2, 1) ∧ decode cX7_greatestDivisor 25 = .ok (.iload 5, 2) ∧ decode cX7_greatestDivisor 27 = .ok (.istore_n 3, 1) ∧ decode cX7_greatestDivisor 28 = .ok (.iinc 4 1, 3) := by decide +kernel
theorem dX7_greatestDivisor_15 : decode cX7_greatestDivisor 15 = .ok (.ifCond .le 19, 3) := gg298.1
theorem dX7_greatestDivisor_18 : decode cX7_greatestDivisor 18 = .ok (.iload_n 2, 1) := gg298.2.1
theorem dX7_greatestDivisor_19 : decode cX7_greatestDivisor 19 = .ok (.iload_n 3, 1) := gg298.2.2.1
theorem dX7_greatestDivisor_20 : decode cX7_greatestDivisor 20 = .ok (.irem, 1) := gg298.2.2.2.1
theorem dX7_greatestDivisor_21 : decode cX7_greatestDivisor 21 = .ok (.istore 5, 2) := gg298.2.2.2.2.1
theorem dX7_greatestDivisor_23 : decode cX7_greatestDivisor 23 = .ok (.iload_n 3, 1) := gg298.2.2.2.2.2.1
theorem dX7_greatestDivisor_24 : decode cX7_greatestDivisor 24 = .ok (.istore_n 2, 1) := gg298.2.2.2.2.2.2.1
theorem dX7_greatestDivisor_25 : decode cX7_greatestDivisor 25 = .ok (.iload 5, 2) := gg298.2.2.2.2.2.2.2.1
theorem dX7_greatestDivisor_27 : decode cX7_greatestDivisor 27 = .ok (.istore_n 3, 1) := gg298.2.2.2.2.2.2.2.2.1
theorem dX7_greatestDivisor_28 : decode cX7_greatestDivisor 28 = .ok (.iinc 4 1, 3) := gg298.2.2.2.2.2.2.2.2.2
theorem gg299 : decode cX7_greatestDivisor 31 = .ok (.goto (-24), 3) ∧ decode cX7_greatestDivisor 34 = .ok (.iload_n 2, 1) ∧ decode cX7_greatestDivisor 35 = .ok (.ireturn, 1) := by decide +kernel
theorem dX7_greatestDivisor_31 : decode cX7_greatestDivisor 31 = .ok (.goto (-24), 3) := gg299.1
theorem dX7_greatestDivisor_34 : decode cX7_greatestDivisor 34 = .ok (.iload_n 2, 1) := gg299.2.1
theorem dX7_greatestDivisor_35 : decode cX7_greatestDivisor 35 = .ok (.ireturn, 1) := gg299.2.2
theorem gg300 : decode cX8_init 0 = .ok (.aload_n 0, 1) ∧ decode cX8_init 1 = .ok (.invokespecial 1, 3) ∧ decode cX8_init 4 = .ok (.aload_n 0, 1) ∧ decode cX8_init 5 = .ok (.sipush 400, 3) ∧ decode cX8_init 8 = .ok (.newarray .byte, 2) ∧ decode cX8_init 10 = .ok (.putfield 7, 3) ∧ decode cX8_init 13 = .ok (.aload_n 0, 1) ∧ decode cX8_init 14 = .ok (.bipush 12, 2) ∧ decode cX8_init 16 = .ok (.newarray .int, 2) ∧ decode cX8_init 18 = .ok (.putfield 13, 3) := by decide +kernel
theorem dX8_init_0 : decode cX8_init 0 = .ok (.aload_n 0, 1) := gg300.1
theorem dX8_init_1 : decode cX8_init 1 = .ok (.invokespecial 1, 3) := gg300.2.1
theorem dX8_init_4 : decode cX8_init 4 = .ok (.aload_n 0, 1) := gg300.2.2.1
theorem dX8_init_5 : decode cX8_init 5 = .ok (.sipush 400, 3) := gg300.2.2.2.1
theorem dX8_init_8 : decode cX8_init 8 = .ok (.newarray .byte, 2) := gg300.2.2.2.2.1
theorem dX8_init_10 : decode cX8_init 10 = .ok (.putfield 7, 3) := gg300.2.2.2.2.2.1
theorem dX8_init_13 : decode cX8_init 13 = .ok (.aload_n 0, 1) := gg300.2.2.2.2.2.2.1
theorem dX8_init_14 : decode cX8_init 14 = .ok (.bipush 12, 2) := gg300.2.2.2.2.2.2.2.1
theorem dX8_init_16 : decode cX8_init 16 = .ok (.newarray .int, 2) := gg300.2.2.2.2.2.2.2.2.1
theorem dX8_init_18 : decode cX8_init 18 = .ok (.putfield 13, 3) := gg300.2.2.2.2.2.2.2.2.2
theorem gg301 : decode cX8_init 21 = .ok (.aload_n 0, 1) ∧ decode cX8_init 22 = .ok (.iconst 2, 1) ∧ decode cX8_init 23 = .ok (.newarray .int, 2) ∧ decode cX8_init 25 = .ok (.putfield 17, 3) ∧ decode cX8_init 28 = .ok (.aload_n 0, 1) ∧ decode cX8_init 29 = .ok (.bipush 60, 2) ∧ decode cX8_init 31 = .ok (.newarray .int, 2) ∧ decode cX8_init 33 = .ok (.putfield 20, 3) ∧ decode cX8_init 36 = .ok (.aload_n 0, 1) ∧ decode cX8_init 37 = .ok (.bipush 18, 2) := by decide +kernel
theorem dX8_init_21 : decode cX8_init 21 = .ok (.aload_n 0, 1) := gg301.1
theorem dX8_init_22 : decode cX8_init 22 = .ok (.iconst 2, 1) := gg301.2.1
theorem dX8_init_23 : decode cX8_init 23 = .ok (.newarray .int, 2) := gg301.2.2.1
theorem dX8_init_25 : decode cX8_init 25 = .ok (.putfield 17, 3) := gg301.2.2.2.1
theorem dX8_init_28 : decode cX8_init 28 = .ok (.aload_n 0, 1) := gg301.2.2.2.2.1
theorem dX8_init_29 : decode cX8_init 29 = .ok (.bipush 60, 2) := gg301.2.2.2.2.2.1
theorem dX8_init_31 : decode cX8_init 31 = .ok (.newarray .int, 2) := gg301.2.2.2.2.2.2.1
theorem dX8_init_33 : decode cX8_init 33 = .ok (.putfield 20, 3) := gg301.2.2.2.2.2.2.2.1
theorem dX8_init_36 : decode cX8_init 36 = .ok (.aload_n 0, 1) := gg301.2.2.2.2.2.2.2.2.1
theorem dX8_init_37 : decode cX8_init 37 = .ok (.bipush 18, 2) := gg301.2.2.2.2.2.2.2.2.2
theorem gg302 : decode cX8_init 39 = .ok (.newarray .int, 2) ∧ decode cX8_init 41 = .ok (.putfield 23, 3) ∧ decode cX8_init 44 = .ok (.aload_n 0, 1) ∧ decode cX8_init 45 = .ok (.bipush 12, 2) ∧ decode cX8_init 47 = .ok (.newarray .long, 2) ∧ decode cX8_init 49 = .ok (.putfield 26, 3) ∧ decode cX8_init 52 = .ok (.aload_n 0, 1) ∧ decode cX8_init 53 = .ok (.bipush 24, 2) ∧ decode cX8_init 55 = .ok (.newarray .int, 2) ∧ decode cX8_init 57 = .ok (.putfield 30, 3) := by decide +kernel
theorem dX8_init_39 : decode cX8_init 39 = .ok (.newarray .int, 2) := gg302.1
theorem dX8_init_41 : decode cX8_init 41 = .ok (.putfield 23, 3) := gg302.2.1
theorem dX8_init_44 : decode cX8_init 44 = .ok (.aload_n 0, 1) := gg302.2.2.1
theorem dX8_init_45 : decode cX8_init 45 = .ok (.bipush 12, 2) := gg302.2.2.2.1
theorem dX8_init_47 : decode cX8_init 47 = .ok (.newarray .long, 2) := gg302.2.2.2.2.1
theorem dX8_init_49 : decode cX8_init 49 = .ok (.putfield 26, 3) := gg302.2.2.2.2.2.1
theorem dX8_init_52 : decode cX8_init 52 = .ok (.aload_n 0, 1) := gg302.2.2.2.2.2.2.1
theorem dX8_init_53 : decode cX8_init 53 = .ok (.bipush 24, 2) := gg302.2.2.2.2.2.2.2.1
theorem dX8_init_55 : decode cX8_init 55 = .ok (.newarray .int, 2) := gg302.2.2.2.2.2.2.2.2.1
theorem dX8_init_57 : decode cX8_init 57 = .ok (.putfield 30, 3) := gg302.2.2.2.2.2.2.2.2.2
theorem gg303 : decode cX8_init 60 = .ok (.aload_n 0, 1) ∧ decode cX8_init 61 = .ok (.bipush 8, 2) ∧ decode cX8_init 63 = .ok (.newarray .int, 2) ∧ decode cX8_init 65 = .ok (.putfield 33, 3) ∧ decode cX8_init 68 = .ok (.aload_n 0, 1) ∧ decode cX8_init 69 = .ok (.bipush 9, 2) ∧ decode cX8_init 71 = .ok (.newarray .long, 2) ∧ decode cX8_init 73 = .ok (.putfield 36, 3) ∧ decode cX8_init 76 = .ok (.aload_n 0, 1) ∧ decode cX8_init 77 = .ok (.bipush 20, 2) := by decide +kernel
theorem dX8_init_60 : decode cX8_init 60 = .ok (.aload_n 0, 1) := gg303.1
theorem dX8_init_61 : decode cX8_init 61 = .ok (.bipush 8, 2) := gg303.2.1
theorem dX8_init_63 : decode cX8_init 63 = .ok (.newarray .int, 2) := gg303.2.2.1
theorem dX8_init_65 : decode cX8_init 65 = .ok (.putfield 33, 3) := gg303.2.2.2.1
theorem dX8_init_68 : decode cX8_init 68 = .ok (.aload_n 0, 1) := gg303.2.2.2.2.1
theorem dX8_init_69 : decode cX8_init 69 = .ok (.bipush 9, 2) := gg303.2.2.2.2.2.1
theorem dX8_init_71 : decode cX8_init 71 = .ok (.newarray .long, 2) := gg303.2.2.2.2.2.2.1
theorem dX8_init_73 : decode cX8_init 73 = .ok (.putfield 36, 3) := gg303.2.2.2.2.2.2.2.1
theorem dX8_init_76 : decode cX8_init 76 = .ok (.aload_n 0, 1) := gg303.2.2.2.2.2.2.2.2.1
theorem dX8_init_77 : decode cX8_init 77 = .ok (.bipush 20, 2) := gg303.2.2.2.2.2.2.2.2.2
theorem gg304 : decode cX8_init 79 = .ok (.newarray .int, 2) ∧ decode cX8_init 81 = .ok (.putfield 39, 3) ∧ decode cX8_init 84 = .ok (.aload_n 0, 1) ∧ decode cX8_init 85 = .ok (.iconst 5, 1) ∧ decode cX8_init 86 = .ok (.newarray .int, 2) ∧ decode cX8_init 88 = .ok (.putfield 42, 3) ∧ decode cX8_init 91 = .ok (.aload_n 0, 1) ∧ decode cX8_init 92 = .ok (.invokevirtual 45, 3) ∧ decode cX8_init 95 = .ok (.aload_n 0, 1) ∧ decode cX8_init 96 = .ok (.getfield 17, 3) := by decide +kernel
theorem dX8_init_79 : decode cX8_init 79 = .ok (.newarray .int, 2) := gg304.1
theorem dX8_init_81 : decode cX8_init 81 = .ok (.putfield 39, 3) := gg304.2.1
theorem dX8_init_84 : decode cX8_init 84 = .ok (.aload_n 0, 1) := gg304.2.2.1
theorem dX8_init_85 : decode cX8_init 85 = .ok (.iconst 5, 1) := gg304.2.2.2.1
theorem dX8_init_86 : decode cX8_init 86 = .ok (.newarray .int, 2) := gg304.2.2.2.2.1
theorem dX8_init_88 : decode cX8_init 88 = .ok (.putfield 42, 3) := gg304.2.2.2.2.2.1
theorem dX8_init_91 : decode cX8_init 91 = .ok (.aload_n 0, 1) := gg304.2.2.2.2.2.2.1
theorem dX8_init_92 : decode cX8_init 92 = .ok (.invokevirtual 45, 3) := gg304.2.2.2.2.2.2.2.1
theorem dX8_init_95 : decode cX8_init 95 = .ok (.aload_n 0, 1) := gg304.2.2.2.2.2.2.2.2.1
theorem dX8_init_96 : decode cX8_init 96 = .ok (.getfield 17, 3) := gg304.2.2.2.2.2.2.2.2.2
theorem gg305 : decode cX8_init 99 = .ok (.iconst 1, 1) ∧ decode cX8_init 100 = .ok (.iconst 1, 1) ∧ decode cX8_init 101 = .ok (.iastore, 1) ∧ decode cX8_init 102 = .ok (.aload_n 0, 1) ∧ decode cX8_init 103 = .ok (.getfield 20, 3) ∧ decode cX8_init 106 = .ok (.bipush 31, 2) ∧ decode cX8_init 108 = .ok (.iconst 1, 1) ∧ decode cX8_init 109 = .ok (.iastore, 1) ∧ decode cX8_init 110 = .ok (.aload_n 0, 1) ∧ decode cX8_init 111 = .ok (.getfield 20, 3) := by decide +kernel
theorem dX8_init_99 : decode cX8_init 99 = .ok (.iconst 1, 1) := gg305.1
theorem dX8_init_100 : decode cX8_init 100 = .ok (.iconst 1, 1) := gg305.2.1
theorem dX8_init_101 : decode cX8_init 101 = .ok (.iastore, 1) := gg305.2.2.1
theorem dX8_init_102 : decode cX8_init 102 = .ok (.aload_n 0, 1) := gg305.2.2.2.1
theorem dX8_init_103 : decode cX8_init 103 = .ok (.getfield 20, 3) := gg305.2.2.2.2.1
theorem dX8_init_106 : decode cX8_init 106 = .ok (.bipush 31, 2) := gg305.2.2.2.2.2.1
theorem dX8_init_108 : decode cX8_init 108 = .ok (.iconst 1, 1) := gg305.2.2.2.2.2.2.1
theorem dX8_init_109 : decode cX8_init 109 = .ok (.iastore, 1) := gg305.2.2.2.2.2.2.2.1
theorem dX8_init_110 : decode cX8_init 110 = .ok (.aload_n 0, 1) := gg305.2.2.2.2.2.2.2.2.1
theorem dX8_init_111 : decode cX8_init 111 = .ok (.getfield 20, 3) := gg305.2.2.2.2.2.2.2.2.2
theorem gg306 : decode cX8_init 114 = .ok (.bipush 32, 2) ∧ decode cX8_init 116 = .ok (.iconst 1, 1) ∧ decode cX8_init 117 = .ok (.iastore, 1) ∧ decode cX8_init 118 = .ok (.aload_n 0, 1) ∧ decode cX8_init 119 = .ok (.getfield 20, 3) ∧ decode cX8_init 122 = .ok (.bipush 33, 2) ∧ decode cX8_init 124 = .ok (.bipush 55, 2) ∧ decode cX8_init 126 = .ok (.iastore, 1) ∧ decode cX8_init 127 = .ok (.aload_n 0, 1) ∧ decode cX8_init 128 = .ok (.getfield 20, 3) := by decide +kernel
theorem dX8_init_114 : decode cX8_init 114 = .ok (.bipush 32, 2) := gg306.1
theorem dX8_init_116 : decode cX8_init 116 = .ok (.iconst 1, 1) := gg306.2.1
theorem dX8_init_117 : decode cX8_init 117 = .ok (.iastore, 1) := gg306.2.2.1
theorem dX8_init_118 : decode cX8_init 118 = .ok (.aload_n 0, 1) := gg306.2.2.2.1
theorem dX8_init_119 : decode cX8_init 119 = .ok (.getfield 20, 3) := gg306.2.2.2.2.1
theorem dX8_init_122 : decode cX8_init 122 = .ok (.bipush 33, 2) := gg306.2.2.2.2.2.1
theorem dX8_init_124 : decode cX8_init 124 = .ok (.bipush 55, 2) := gg306.2.2.2.2.2.2.1
theorem dX8_init_126 : decode cX8_init 126 = .ok (.iastore, 1) := gg306.2.2.2.2.2.2.2.1
theorem dX8_init_127 : decode cX8_init 127 = .ok (.aload_n 0, 1) := gg306.2.2.2.2.2.2.2.2.1
theorem dX8_init_128 : decode cX8_init 128 = .ok (.getfield 20, 3) := gg306.2.2.2.2.2.2.2.2.2
theorem gg307 : decode cX8_init 131 = .ok (.bipush 34, 2) ∧ decode cX8_init 133 = .ok (.bipush 55, 2) ∧ decode cX8_init 135 = .ok (.iastore, 1) ∧ decode cX8_init 136 = .ok (.aload_n 0, 1) ∧ decode cX8_init 137 = .ok (.invokevirtual 48, 3) ∧ decode cX8_init 140 = .ok (.return_, 1) := by decide +kernel
theorem dX8_init_131 : decode cX8_init 131 = .ok (.bipush 34, 2) := gg307.1
theorem dX8_init_133 : decode cX8_init 133 = .ok (.bipush 55, 2) := gg307.2.1
theorem dX8_init_135 : decode cX8_init 135 = .ok (.iastore, 1) := gg307.2.2.1
theorem dX8_init_136 : decode cX8_init 136 = .ok (.aload_n 0, 1) := gg307.2.2.2.1
theorem dX8_init_137 : decode cX8_init 137 = .ok (.invokevirtual 48, 3) := gg307.2.2.2.2.1
theorem dX8_init_140 : decode cX8_init 140 = .ok (.return_, 1) := gg307.2.2.2.2.2
theorem gg308 : decode cX8_in 0 = .ok (.lload_n 0, 1) ∧ decode cX8_in 1 = .ok (.lload_n 2, 1) ∧ decode cX8_in 2 = .ok (.lcmp, 1) ∧ decode cX8_in 3 = .ok (.ifCond .lt 14, 3) ∧ decode cX8_in 6 = .ok (.lload_n 0, 1) ∧ decode cX8_in 7 = .ok (.lload 4, 2) ∧ decode cX8_in 9 = .ok (.lcmp, 1) ∧ decode cX8_in 10 = .ok (.ifCond .gt 7, 3) ∧ decode cX8_in 13 = .ok (.iconst 1, 1) ∧ decode cX8_in 14 = .ok (.goto 4, 3) := by decide +kernel
theorem dX8_in_0 : decode cX8_in 0 = .ok (.lload_n 0, 1) := gg308.1
theorem dX8_in_1 : decode cX8_in 1 = .ok (.lload_n 2, 1) := gg308.2.1
theorem dX8_in_2 : decode cX8_in 2 = .ok (.lcmp, 1) := gg308.2.2.1
theorem dX8_in_3 : decode cX8_in 3 = .ok (.ifCond .lt 14, 3) := gg308.2.2.2.1
theorem dX8_in_6 : decode cX8_in 6 = .ok (.lload_n 0, 1) := gg308.2.2.2.2.1
theorem dX8_in_7 : decode cX8_in 7 = .ok (.lload 4, 2) := gg308.2.2.2.2.2.1
theorem dX8_in_9 : decode cX8_in 9 = .ok (.lcmp, 1) := gg308.2.2.2.2.2.2.1
theorem dX8_in_10 : decode cX8_in 10 = .ok (.ifCond .gt 7, 3) := gg308.2.2.2.2.2.2.2.1
theorem dX8_in_13 : decode cX8_in 13 = .ok (.iconst 1, 1) := gg308.2.2.2.2.2.2.2.2.1
theorem dX8_in_14 : decode cX8_in 14 = .ok (.goto 4, 3) := gg308.2.2.2.2.2.2.2.2.2
theorem gg309 : decode cX8_in 17 = .ok (.iconst 0, 1) ∧ decode cX8_in 18 = .ok (.ireturn, 1) := by decide +kernel
theorem dX8_in_17 : decode cX8_in 17 = .ok (.iconst 0, 1) := gg309.1
theorem dX8_in_18 : decode cX8_in 18 = .ok (.ireturn, 1) := gg309.2
theorem gg310 : decode cX8_write 0 = .ok (.iload_n 1, 1) ∧ decode cX8_write 1 = .ok (.i2l, 1) ∧ decode cX8_write 2 = .ok (.lconst 1, 1) ∧ decode cX8_write 3 = .ok (.ldc2_w 51, 3) ∧ decode cX8_write 6 = .ok (.invokestatic 53, 3) ∧ decode cX8_write 9 = .ok (.ifCond .ne 5, 3) ∧ decode cX8_write 12 = .ok (.iconst (-1), 1) ∧ decode cX8_write 13 = .ok (.ireturn, 1) ∧ decode cX8_write 14 = .ok (.aload_n 0, 1) ∧ decode cX8_write 15 = .ok (.getfield 57, 3) := by decide +kernel
theorem dX8_write_0 : decode cX8_write 0 = .ok (.iload_n 1, 1) := gg310.1
theorem dX8_write_1 : decode cX8_write 1 = .ok (.i2l, 1) := gg310.2.1
theorem dX8_write_2 : decode cX8_write 2 = .ok (.lconst 1, 1) := gg310.2.2.1
theorem dX8_write_3 : decode cX8_write 3 = .ok (.ldc2_w 51, 3) := gg310.2.2.2.1
theorem dX8_write_6 : decode cX8_write 6 = .ok (.invokestatic 53, 3) := gg310.2.2.2.2.1
theorem dX8_write_9 : decode cX8_write 9 = .ok (.ifCond .ne 5, 3) := gg310.2.2.2.2.2.1
theorem dX8_write_12 : decode cX8_write 12 = .ok (.iconst (-1), 1) := gg310.2.2.2.2.2.2.1
theorem dX8_write_13 : decode cX8_write 13 = .ok (.ireturn, 1) := gg310.2.2.2.2.2.2.2.1
theorem dX8_write_14 : decode cX8_write 14 = .ok (.aload_n 0, 1) := gg310.2.2.2.2.2.2.2.2.1
theorem dX8_write_15 : decode cX8_write 15 = .ok (.getfield 57, 3) := gg310.2.2.2.2.2.2.2.2.2
theorem gg311 : decode cX8_write 18 = .ok (.iload_n 1, 1) ∧ decode cX8_write 19 = .ok (.iadd, 1) ∧ decode cX8_write 20 = .ok (.sipush 400, 3) ∧ decode cX8_write 23 = .ok (.if_icmp .le 6, 3) ∧ decode cX8_write 26 = .ok (.bipush (-3), 2) ∧ decode cX8_write 28 = .ok (.ireturn, 1) ∧ decode cX8_write 29 = .ok (.iload_n 1, 1) ∧ decode cX8_write 30 = .ok (.iconst 1, 1) ∧ decode cX8_write 31 = .ok (.isub, 1) ∧ decode cX8_write 32 = .ok (.istore 4, 2) := by decide +kernel
theorem dX8_write_18 : decode cX8_write 18 = .ok (.iload_n 1, 1) := gg311.1
theorem dX8_write_19 : decode cX8_write 19 = .ok (.iadd, 1) := gg311.2.1
theorem dX8_write_20 : decode cX8_write 20 = .ok (.sipush 400, 3) := gg311.2.2.1
theorem dX8_write_23 : decode cX8_write 23 = .ok (.if_icmp .le 6, 3) := gg311.2.2.2.1
theorem dX8_write_26 : decode cX8_write 26 = .ok (.bipush (-3), 2) := gg311.2.2.2.2.1
theorem dX8_write_28 : decode cX8_write 28 = .ok (.ireturn, 1) := gg311.2.2.2.2.2.1
theorem dX8_write_29 : decode cX8_write 29 = .ok (.iload_n 1, 1) := gg311.2.2.2.2.2.2.1
theorem dX8_write_30 : decode cX8_write 30 = .ok (.iconst 1, 1) := gg311.2.2.2.2.2.2.2.1
theorem dX8_write_31 : decode cX8_write 31 = .ok (.isub, 1) := gg311.2.2.2.2.2.2.2.2.1
theorem dX8_write_32 : decode cX8_write 32 = .ok (.istore 4, 2) := gg311.2.2.2.2.2.2.2.2.2
theorem gg312 : decode cX8_write 34 = .ok (.iload 4, 2) ∧ decode cX8_write 36 = .ok (.ifCond .lt 37, 3) ∧ decode cX8_write 39 = .ok (.aload_n 0, 1) ∧ decode cX8_write 40 = .ok (.getfield 7, 3) ∧ decode cX8_write 43 = .ok (.aload_n 0, 1) ∧ decode cX8_write 44 = .ok (.getfield 57, 3) ∧ decode cX8_write 47 = .ok (.lload_n 2, 1) ∧ decode cX8_write 48 = .ok (.bipush 8, 2) ∧ decode cX8_write 50 = .ok (.iload 4, 2) ∧ decode cX8_write 52 = .ok (.imul, 1) := by decide +kernel
theorem dX8_write_34 : decode cX8_write 34 = .ok (.iload 4, 2) := gg312.1
theorem dX8_write_36 : decode cX8_write 36 = .ok (.ifCond .lt 37, 3) := gg312.2.1
theorem dX8_write_39 : decode cX8_write 39 = .ok (.aload_n 0, 1) := gg312.2.2.1
theorem dX8_write_40 : decode cX8_write 40 = .ok (.getfield 7, 3) := gg312.2.2.2.1
theorem dX8_write_43 : decode cX8_write 43 = .ok (.aload_n 0, 1) := gg312.2.2.2.2.1
theorem dX8_write_44 : decode cX8_write 44 = .ok (.getfield 57, 3) := gg312.2.2.2.2.2.1
theorem dX8_write_47 : decode cX8_write 47 = .ok (.lload_n 2, 1) := gg312.2.2.2.2.2.2.1
theorem dX8_write_48 : decode cX8_write 48 = .ok (.bipush 8, 2) := gg312.2.2.2.2.2.2.2.1
theorem dX8_write_50 : decode cX8_write 50 = .ok (.iload 4, 2) := gg312.2.2.2.2.2.2.2.2.1
theorem dX8_write_52 : decode cX8_write 52 = .ok (.imul, 1) := gg312.2.2.2.2.2.2.2.2.2
theorem gg313 : decode cX8_write 53 = .ok (.lshr, 1) ∧ decode cX8_write 54 = .ok (.l2i, 1) ∧ decode cX8_write 55 = .ok (.i2b, 1) ∧ decode cX8_write 56 = .ok (.bastore, 1) ∧ decode cX8_write 57 = .ok (.aload_n 0, 1) ∧ decode cX8_write 58 = .ok (.dup, 1) ∧ decode cX8_write 59 = .ok (.getfield 57, 3) ∧ decode cX8_write 62 = .ok (.iconst 1, 1) ∧ decode cX8_write 63 = .ok (.iadd, 1) ∧ decode cX8_write 64 = .ok (.putfield 57, 3) := by decide +kernel
theorem dX8_write_53 : decode cX8_write 53 = .ok (.lshr, 1) := gg313.1
theorem dX8_write_54 : decode cX8_write 54 = .ok (.l2i, 1) := gg313.2.1
theorem dX8_write_55 : decode cX8_write 55 = .ok (.i2b, 1) := gg313.2.2.1
theorem dX8_write_56 : decode cX8_write 56 = .ok (.bastore, 1) := gg313.2.2.2.1
theorem dX8_write_57 : decode cX8_write 57 = .ok (.aload_n 0, 1) := gg313.2.2.2.2.1
theorem dX8_write_58 : decode cX8_write 58 = .ok (.dup, 1) := gg313.2.2.2.2.2.1
theorem dX8_write_59 : decode cX8_write 59 = .ok (.getfield 57, 3) := gg313.2.2.2.2.2.2.1
theorem dX8_write_62 : decode cX8_write 62 = .ok (.iconst 1, 1) := gg313.2.2.2.2.2.2.2.1
theorem dX8_write_63 : decode cX8_write 63 = .ok (.iadd, 1) := gg313.2.2.2.2.2.2.2.2.1
theorem dX8_write_64 : decode cX8_write 64 = .ok (.putfield 57, 3) := gg313.2.2.2.2.2.2.2.2.2
theorem gg314 : decode cX8_write 67 = .ok (.iinc 4 (-1), 3) ∧ decode cX8_write 70 = .ok (.goto (-36), 3) ∧ decode cX8_write 73 = .ok (.aload_n 0, 1) ∧ decode cX8_write 74 = .ok (.getfield 57, 3) ∧ decode cX8_write 77 = .ok (.ireturn, 1) := by decide +kernel
theorem dX8_write_67 : decode cX8_write 67 = .ok (.iinc 4 (-1), 3) := gg314.1
theorem dX8_write_70 : decode cX8_write 70 = .ok (.goto (-36), 3) := gg314.2.1
theorem dX8_write_73 : decode cX8_write 73 = .ok (.aload_n 0, 1) := gg314.2.2.1
theorem dX8_write_74 : decode cX8_write 74 = .ok (.getfield 57, 3) := gg314.2.2.2.1
theorem dX8_write_77 : decode cX8_write 77 = .ok (.ireturn, 1) := gg314.2.2.2.2
theorem gg315 : decode cX8_wipe 0 = .ok (.aload_n 0, 1) ∧ decode cX8_wipe 1 = .ok (.getfield 57, 3) ∧ decode cX8_wipe 4 = .ok (.istore_n 1, 1) ∧ decode cX8_wipe 5 = .ok (.aload_n 0, 1) ∧ decode cX8_wipe 6 = .ok (.iconst 0, 1) ∧ decode cX8_wipe 7 = .ok (.putfield 57, 3) ∧ decode cX8_wipe 10 = .ok (.iload_n 1, 1) ∧ decode cX8_wipe 11 = .ok (.ireturn, 1) := by decide +kernel
theorem dX8_wipe_0 : decode cX8_wipe 0 = .ok (.aload_n 0, 1) := gg315.1
theorem dX8_wipe_1 : decode cX8_wipe 1 = .ok (.getfield 57, 3) := gg315.2.1
theorem dX8_wipe_4 : decode cX8_wipe 4 = .ok (.istore_n 1, 1) := gg315.2.2.1
theorem dX8_wipe_5 : decode cX8_wipe 5 = .ok (.aload_n 0, 1) := gg315.2.2.2.1
theorem dX8_wipe_6 : decode cX8_wipe 6 = .ok (.iconst 0, 1) := gg315.2.2.2.2.1
theorem dX8_wipe_7 : decode cX8_wipe 7 = .ok (.putfield 57, 3) := gg315.2.2.2.2.2.1
theorem dX8_wipe_10 : decode cX8_wipe 10 = .ok (.iload_n 1, 1) := gg315.2.2.2.2.2.2.1
theorem dX8_wipe_11 : decode cX8_wipe 11 = .ok (.ireturn, 1) := gg315.2.2.2.2.2.2.2
theorem gg316 : decode cX8_number 0 = .ok (.iconst 0, 1) ∧ decode cX8_number 1 = .ok (.istore_n 1, 1) ∧ decode cX8_number 2 = .ok (.iconst 0, 1) ∧ decode cX8_number 3 = .ok (.istore_n 2, 1) ∧ decode cX8_number 4 = .ok (.aload_n 0, 1) ∧ decode cX8_number 5 = .ok (.getfield 61, 3) ∧ decode cX8_number 8 = .ok (.aload_n 0, 1) ∧ decode cX8_number 9 = .ok (.getfield 57, 3) ∧ decode cX8_number 12 = .ok (.if_icmp .ge 68, 3) ∧ decode cX8_number 15 = .ok (.aload_n 0, 1) := by decide +kernel
theorem dX8_number_0 : decode cX8_number 0 = .ok (.iconst 0, 1) := gg316.1
theorem dX8_number_1 : decode cX8_number 1 = .ok (.istore_n 1, 1) := gg316.2.1
theorem dX8_number_2 : decode cX8_number 2 = .ok (.iconst 0, 1) := gg316.2.2.1
theorem dX8_number_3 : decode cX8_number 3 = .ok (.istore_n 2, 1) := gg316.2.2.2.1
theorem dX8_number_4 : decode cX8_number 4 = .ok (.aload_n 0, 1) := gg316.2.2.2.2.1
theorem dX8_number_5 : decode cX8_number 5 = .ok (.getfield 61, 3) := gg316.2.2.2.2.2.1
theorem dX8_number_8 : decode cX8_number 8 = .ok (.aload_n 0, 1) := gg316.2.2.2.2.2.2.1
theorem dX8_number_9 : decode cX8_number 9 = .ok (.getfield 57, 3) := gg316.2.2.2.2.2.2.2.1
theorem dX8_number_12 : decode cX8_number 12 = .ok (.if_icmp .ge 68, 3) := gg316.2.2.2.2.2.2.2.2.1
theorem dX8_number_15 : decode cX8_number 15 = .ok (.aload_n 0, 1) := gg316.2.2.2.2.2.2.2.2.2
theorem gg317 : decode cX8_number 16 = .ok (.getfield 7, 3) ∧ decode cX8_number 19 = .ok (.aload_n 0, 1) ∧ decode cX8_number 20 = .ok (.getfield 61, 3) ∧ decode cX8_number 23 = .ok (.baload, 1) ∧ decode cX8_number 24 = .ok (.i2l, 1) ∧ decode cX8_number 25 = .ok (.ldc2_w 64, 3) ∧ decode cX8_number 28 = .ok (.ldc2_w 66, 3) ∧ decode cX8_number 31 = .ok (.invokestatic 53, 3) ∧ decode cX8_number 34 = .ok (.ifCond .eq 46, 3) ∧ decode cX8_number 37 = .ok (.iload_n 2, 1) := by decide +kernel
theorem dX8_number_16 : decode cX8_number 16 = .ok (.getfield 7, 3) := gg317.1
theorem dX8_number_19 : decode cX8_number 19 = .ok (.aload_n 0, 1) := gg317.2.1
theorem dX8_number_20 : decode cX8_number 20 = .ok (.getfield 61, 3) := gg317.2.2.1
theorem dX8_number_23 : decode cX8_number 23 = .ok (.baload, 1) := gg317.2.2.2.1
theorem dX8_number_24 : decode cX8_number 24 = .ok (.i2l, 1) := gg317.2.2.2.2.1
theorem dX8_number_25 : decode cX8_number 25 = .ok (.ldc2_w 64, 3) := gg317.2.2.2.2.2.1
theorem dX8_number_28 : decode cX8_number 28 = .ok (.ldc2_w 66, 3) := gg317.2.2.2.2.2.2.1
theorem dX8_number_31 : decode cX8_number 31 = .ok (.invokestatic 53, 3) := gg317.2.2.2.2.2.2.2.1
theorem dX8_number_34 : decode cX8_number 34 = .ok (.ifCond .eq 46, 3) := gg317.2.2.2.2.2.2.2.2.1
theorem dX8_number_37 : decode cX8_number 37 = .ok (.iload_n 2, 1) := gg317.2.2.2.2.2.2.2.2.2
theorem gg318 : decode cX8_number 38 = .ok (.iconst 3, 1) ∧ decode cX8_number 39 = .ok (.if_icmp .ge 23, 3) ∧ decode cX8_number 42 = .ok (.bipush 10, 2) ∧ decode cX8_number 44 = .ok (.iload_n 1, 1) ∧ decode cX8_number 45 = .ok (.imul, 1) ∧ decode cX8_number 46 = .ok (.aload_n 0, 1) ∧ decode cX8_number 47 = .ok (.getfield 7, 3) ∧ decode cX8_number 50 = .ok (.aload_n 0, 1) ∧ decode cX8_number 51 = .ok (.getfield 61, 3) ∧ decode cX8_number 54 = .ok (.baload, 1) := by decide +kernel
theorem dX8_number_38 : decode cX8_number 38 = .ok (.iconst 3, 1) := gg318.1
theorem dX8_number_39 : decode cX8_number 39 = .ok (.if_icmp .ge 23, 3) := gg318.2.1
theorem dX8_number_42 : decode cX8_number 42 = .ok (.bipush 10, 2) := gg318.2.2.1
theorem dX8_number_44 : decode cX8_number 44 = .ok (.iload_n 1, 1) := gg318.2.2.2.1
theorem dX8_number_45 : decode cX8_number 45 = .ok (.imul, 1) := gg318.2.2.2.2.1
theorem dX8_number_46 : decode cX8_number 46 = .ok (.aload_n 0, 1) := gg318.2.2.2.2.2.1
theorem dX8_number_47 : decode cX8_number 47 = .ok (.getfield 7, 3) := gg318.2.2.2.2.2.2.1
theorem dX8_number_50 : decode cX8_number 50 = .ok (.aload_n 0, 1) := gg318.2.2.2.2.2.2.2.1
theorem dX8_number_51 : decode cX8_number 51 = .ok (.getfield 61, 3) := gg318.2.2.2.2.2.2.2.2.1
theorem dX8_number_54 : decode cX8_number 54 = .ok (.baload, 1) := gg318.2.2.2.2.2.2.2.2.2
theorem gg319 : decode cX8_number 55 = .ok (.iadd, 1) ∧ decode cX8_number 56 = .ok (.bipush 48, 2) ∧ decode cX8_number 58 = .ok (.isub, 1) ∧ decode cX8_number 59 = .ok (.goto 4, 3) ∧ decode cX8_number 62 = .ok (.iload_n 1, 1) ∧ decode cX8_number 63 = .ok (.istore_n 1, 1) ∧ decode cX8_number 64 = .ok (.iinc 2 1, 3) ∧ decode cX8_number 67 = .ok (.aload_n 0, 1) ∧ decode cX8_number 68 = .ok (.dup, 1) ∧ decode cX8_number 69 = .ok (.getfield 61, 3) := by decide +kernel
theorem dX8_number_55 : decode cX8_number 55 = .ok (.iadd, 1) := gg319.1
theorem dX8_number_56 : decode cX8_number 56 = .ok (.bipush 48, 2) := gg319.2.1
theorem dX8_number_58 : decode cX8_number 58 = .ok (.isub, 1) := gg319.2.2.1
theorem dX8_number_59 : decode cX8_number 59 = .ok (.goto 4, 3) := gg319.2.2.2.1
theorem dX8_number_62 : decode cX8_number 62 = .ok (.iload_n 1, 1) := gg319.2.2.2.2.1
theorem dX8_number_63 : decode cX8_number 63 = .ok (.istore_n 1, 1) := gg319.2.2.2.2.2.1
theorem dX8_number_64 : decode cX8_number 64 = .ok (.iinc 2 1, 3) := gg319.2.2.2.2.2.2.1
theorem dX8_number_67 : decode cX8_number 67 = .ok (.aload_n 0, 1) := gg319.2.2.2.2.2.2.2.1
theorem dX8_number_68 : decode cX8_number 68 = .ok (.dup, 1) := gg319.2.2.2.2.2.2.2.2.1
theorem dX8_number_69 : decode cX8_number 69 = .ok (.getfield 61, 3) := gg319.2.2.2.2.2.2.2.2.2
theorem gg320 : decode cX8_number 72 = .ok (.iconst 1, 1) ∧ decode cX8_number 73 = .ok (.iadd, 1) ∧ decode cX8_number 74 = .ok (.putfield 61, 3) ∧ decode cX8_number 77 = .ok (.goto (-73), 3) ∧ decode cX8_number 80 = .ok (.iload_n 2, 1) ∧ decode cX8_number 81 = .ok (.i2l, 1) ∧ decode cX8_number 82 = .ok (.lconst 1, 1) ∧ decode cX8_number 83 = .ok (.ldc2_w 68, 3) ∧ decode cX8_number 86 = .ok (.invokestatic 53, 3) ∧ decode cX8_number 89 = .ok (.ifCond .eq 7, 3) := by decide +kernel
theorem dX8_number_72 : decode cX8_number 72 = .ok (.iconst 1, 1) := gg320.1
theorem dX8_number_73 : decode cX8_number 73 = .ok (.iadd, 1) := gg320.2.1
theorem dX8_number_74 : decode cX8_number 74 = .ok (.putfield 61, 3) := gg320.2.2.1
theorem dX8_number_77 : decode cX8_number 77 = .ok (.goto (-73), 3) := gg320.2.2.2.1
theorem dX8_number_80 : decode cX8_number 80 = .ok (.iload_n 2, 1) := gg320.2.2.2.2.1
theorem dX8_number_81 : decode cX8_number 81 = .ok (.i2l, 1) := gg320.2.2.2.2.2.1
theorem dX8_number_82 : decode cX8_number 82 = .ok (.lconst 1, 1) := gg320.2.2.2.2.2.2.1
theorem dX8_number_83 : decode cX8_number 83 = .ok (.ldc2_w 68, 3) := gg320.2.2.2.2.2.2.2.1
theorem dX8_number_86 : decode cX8_number 86 = .ok (.invokestatic 53, 3) := gg320.2.2.2.2.2.2.2.2.1
theorem dX8_number_89 : decode cX8_number 89 = .ok (.ifCond .eq 7, 3) := gg320.2.2.2.2.2.2.2.2.2
theorem gg321 : decode cX8_number 92 = .ok (.iload_n 1, 1) ∧ decode cX8_number 93 = .ok (.goto 4, 3) ∧ decode cX8_number 96 = .ok (.iconst (-1), 1) ∧ decode cX8_number 97 = .ok (.ireturn, 1) := by decide +kernel
theorem dX8_number_92 : decode cX8_number 92 = .ok (.iload_n 1, 1) := gg321.1
theorem dX8_number_93 : decode cX8_number 93 = .ok (.goto 4, 3) := gg321.2.1
theorem dX8_number_96 : decode cX8_number 96 = .ok (.iconst (-1), 1) := gg321.2.2.1
theorem dX8_number_97 : decode cX8_number 97 = .ok (.ireturn, 1) := gg321.2.2.2
theorem gg322 : decode cX8_parts 0 = .ok (.iload_n 0, 1) ∧ decode cX8_parts 1 = .ok (.bipush 97, 2) ∧ decode cX8_parts 3 = .ok (.if_icmp .ne 7, 3) ∧ decode cX8_parts 6 = .ok (.iconst 5, 1) ∧ decode cX8_parts 7 = .ok (.goto 30, 3) ∧ decode cX8_parts 10 = .ok (.iload_n 0, 1) ∧ decode cX8_parts 11 = .ok (.bipush 116, 2) ∧ decode cX8_parts 13 = .ok (.if_icmp .ne 7, 3) ∧ decode cX8_parts 16 = .ok (.iconst 4, 1) ∧ decode cX8_parts 17 = .ok (.goto 20, 3) := by decide +kernel
theorem dX8_parts_0 : decode cX8_parts 0 = .ok (.iload_n 0, 1) := gg322.1
theorem dX8_parts_1 : decode cX8_parts 1 = .ok (.bipush 97, 2) := gg322.2.1
theorem dX8_parts_3 : decode cX8_parts 3 = .ok (.if_icmp .ne 7, 3) := gg322.2.2.1
theorem dX8_parts_6 : decode cX8_parts 6 = .ok (.iconst 5, 1) := gg322.2.2.2.1
theorem dX8_parts_7 : decode cX8_parts 7 = .ok (.goto 30, 3) := gg322.2.2.2.2.1
theorem dX8_parts_10 : decode cX8_parts 10 = .ok (.iload_n 0, 1) := gg322.2.2.2.2.2.1
theorem dX8_parts_11 : decode cX8_parts 11 = .ok (.bipush 116, 2) := gg322.2.2.2.2.2.2.1
theorem dX8_parts_13 : decode cX8_parts 13 = .ok (.if_icmp .ne 7, 3) := gg322.2.2.2.2.2.2.2.1
theorem dX8_parts_16 : decode cX8_parts 16 = .ok (.iconst 4, 1) := gg322.2.2.2.2.2.2.2.2.1
theorem dX8_parts_17 : decode cX8_parts 17 = .ok (.goto 20, 3) := gg322.2.2.2.2.2.2.2.2.2
theorem gg323 : decode cX8_parts 20 = .ok (.iload_n 0, 1) ∧ decode cX8_parts 21 = .ok (.bipush 111, 2) ∧ decode cX8_parts 23 = .ok (.if_icmp .eq 9, 3) ∧ decode cX8_parts 26 = .ok (.iload_n 0, 1) ∧ decode cX8_parts 27 = .ok (.bipush 115, 2) ∧ decode cX8_parts 29 = .ok (.if_icmp .ne 7, 3) ∧ decode cX8_parts 32 = .ok (.iconst 1, 1) ∧ decode cX8_parts 33 = .ok (.goto 4, 3) ∧ decode cX8_parts 36 = .ok (.iconst 0, 1) ∧ decode cX8_parts 37 = .ok (.ireturn, 1) := by decide +kernel
theorem dX8_parts_20 : decode cX8_parts 20 = .ok (.iload_n 0, 1) := gg323.1
theorem dX8_parts_21 : decode cX8_parts 21 = .ok (.bipush 111, 2) := gg323.2.1
theorem dX8_parts_23 : decode cX8_parts 23 = .ok (.if_icmp .eq 9, 3) := gg323.2.2.1
theorem dX8_parts_26 : decode cX8_parts 26 = .ok (.iload_n 0, 1) := gg323.2.2.2.1
theorem dX8_parts_27 : decode cX8_parts 27 = .ok (.bipush 115, 2) := gg323.2.2.2.2.1
theorem dX8_parts_29 : decode cX8_parts 29 = .ok (.if_icmp .ne 7, 3) := gg323.2.2.2.2.2.1
theorem dX8_parts_32 : decode cX8_parts 32 = .ok (.iconst 1, 1) := gg323.2.2.2.2.2.2.1
theorem dX8_parts_33 : decode cX8_parts 33 = .ok (.goto 4, 3) := gg323.2.2.2.2.2.2.2.1
theorem dX8_parts_36 : decode cX8_parts 36 = .ok (.iconst 0, 1) := gg323.2.2.2.2.2.2.2.2.1
theorem dX8_parts_37 : decode cX8_parts 37 = .ok (.ireturn, 1) := gg323.2.2.2.2.2.2.2.2.2
theorem gg324 : decode cX8_isIn 0 = .ok (.aload_n 0, 1) ∧ decode cX8_isIn 1 = .ok (.getfield 42, 3) ∧ decode cX8_isIn 4 = .ok (.iload_n 1, 1) ∧ decode cX8_isIn 5 = .ok (.iaload, 1) ∧ decode cX8_isIn 6 = .ok (.i2l, 1) ∧ decode cX8_isIn 7 = .ok (.iload_n 2, 1) ∧ decode cX8_isIn 8 = .ok (.i2l, 1) ∧ decode cX8_isIn 9 = .ok (.iload_n 3, 1) ∧ decode cX8_isIn 10 = .ok (.i2l, 1) ∧ decode cX8_isIn 11 = .ok (.invokestatic 53, 3) := by decide +kernel
theorem dX8_isIn_0 : decode cX8_isIn 0 = .ok (.aload_n 0, 1) := gg324.1
theorem dX8_isIn_1 : decode cX8_isIn 1 = .ok (.getfield 42, 3) := gg324.2.1
theorem dX8_isIn_4 : decode cX8_isIn 4 = .ok (.iload_n 1, 1) := gg324.2.2.1
theorem dX8_isIn_5 : decode cX8_isIn 5 = .ok (.iaload, 1) := gg324.2.2.2.1
theorem dX8_isIn_6 : decode cX8_isIn 6 = .ok (.i2l, 1) := gg324.2.2.2.2.1
theorem dX8_isIn_7 : decode cX8_isIn 7 = .ok (.iload_n 2, 1) := gg324.2.2.2.2.2.1
theorem dX8_isIn_8 : decode cX8_isIn 8 = .ok (.i2l, 1) := gg324.2.2.2.2.2.2.1
theorem dX8_isIn_9 : decode cX8_isIn 9 = .ok (.iload_n 3, 1) := gg324.2.2.2.2.2.2.2.1
theorem dX8_isIn_10 : decode cX8_isIn 10 = .ok (.i2l, 1) := gg324.2.2.2.2.2.2.2.2.1
theorem dX8_isIn_11 : decode cX8_isIn 11 = .ok (.invokestatic 53, 3) := gg324.2.2.2.2.2.2.2.2.2
theorem dX8_isIn_14 : decode cX8_isIn 14 = .ok (.ireturn, 1) := by decide +kernel
theorem gg326 : decode cX8_isItem 0 = .ok (.aload_n 0, 1) ∧ decode cX8_isItem 1 = .ok (.getfield 7, 3) ∧ decode cX8_isItem 4 = .ok (.aload_n 0, 1) ∧ decode cX8_isItem 5 = .ok (.getfield 61, 3) ∧ decode cX8_isItem 8 = .ok (.baload, 1) ∧ decode cX8_isItem 9 = .ok (.istore_n 1, 1) ∧ decode cX8_isItem 10 = .ok (.aload_n 0, 1) ∧ decode cX8_isItem 11 = .ok (.dup, 1) ∧ decode cX8_isItem 12 = .ok (.getfield 61, 3) ∧ decode cX8_isItem 15 = .ok (.iconst 1, 1) := by decide +kernel
theorem dX8_isItem_0 : decode cX8_isItem 0 = .ok (.aload_n 0, 1) := gg326.1
theorem dX8_isItem_1 : decode cX8_isItem 1 = .ok (.getfield 7, 3) := gg326.2.1
theorem dX8_isItem_4 : decode cX8_isItem 4 = .ok (.aload_n 0, 1) := gg326.2.2.1
theorem dX8_isItem_5 : decode cX8_isItem 5 = .ok (.getfield 61, 3) := gg326.2.2.2.1
theorem dX8_isItem_8 : decode cX8_isItem 8 = .ok (.baload, 1) := gg326.2.2.2.2.1
theorem dX8_isItem_9 : decode cX8_isItem 9 = .ok (.istore_n 1, 1) := gg326.2.2.2.2.2.1
theorem dX8_isItem_10 : decode cX8_isItem 10 = .ok (.aload_n 0, 1) := gg326.2.2.2.2.2.2.1
theorem dX8_isItem_11 : decode cX8_isItem 11 = .ok (.dup, 1) := gg326.2.2.2.2.2.2.2.1
theorem dX8_isItem_12 : decode cX8_isItem 12 = .ok (.getfield 61, 3) := gg326.2.2.2.2.2.2.2.2.1
theorem dX8_isItem_15 : decode cX8_isItem 15 = .ok (.iconst 1, 1) := gg326.2.2.2.2.2.2.2.2.2
theorem gg327 : decode cX8_isItem 16 = .ok (.iadd, 1) ∧ decode cX8_isItem 17 = .ok (.putfield 61, 3) ∧ decode cX8_isItem 20 = .ok (.iload_n 1, 1) ∧ decode cX8_isItem 21 = .ok (.invokestatic 70, 3) ∧ decode cX8_isItem 24 = .ok (.istore_n 2, 1) ∧ decode cX8_isItem 25 = .ok (.iload_n 2, 1) ∧ decode cX8_isItem 26 = .ok (.ifCond .le 7, 3) ∧ decode cX8_isItem 29 = .ok (.iconst 1, 1) ∧ decode cX8_isItem 30 = .ok (.goto 4, 3) ∧ decode cX8_isItem 33 = .ok (.iconst 0, 1) := by decide +kernel
theorem dX8_isItem_16 : decode cX8_isItem 16 = .ok (.iadd, 1) := gg327.1
theorem dX8_isItem_17 : decode cX8_isItem 17 = .ok (.putfield 61, 3) := gg327.2.1
theorem dX8_isItem_20 : decode cX8_isItem 20 = .ok (.iload_n 1, 1) := gg327.2.2.1
theorem dX8_isItem_21 : decode cX8_isItem 21 = .ok (.invokestatic 70, 3) := gg327.2.2.2.1
theorem dX8_isItem_24 : decode cX8_isItem 24 = .ok (.istore_n 2, 1) := gg327.2.2.2.2.1
theorem dX8_isItem_25 : decode cX8_isItem 25 = .ok (.iload_n 2, 1) := gg327.2.2.2.2.2.1
theorem dX8_isItem_26 : decode cX8_isItem 26 = .ok (.ifCond .le 7, 3) := gg327.2.2.2.2.2.2.1
theorem dX8_isItem_29 : decode cX8_isItem 29 = .ok (.iconst 1, 1) := gg327.2.2.2.2.2.2.2.1
theorem dX8_isItem_30 : decode cX8_isItem 30 = .ok (.goto 4, 3) := gg327.2.2.2.2.2.2.2.2.1
theorem dX8_isItem_33 : decode cX8_isItem 33 = .ok (.iconst 0, 1) := gg327.2.2.2.2.2.2.2.2.2
theorem gg328 : decode cX8_isItem 34 = .ok (.istore_n 3, 1) ∧ decode cX8_isItem 35 = .ok (.iconst 0, 1) ∧ decode cX8_isItem 36 = .ok (.istore 4, 2) ∧ decode cX8_isItem 38 = .ok (.iload 4, 2) ∧ decode cX8_isItem 40 = .ok (.iload_n 2, 1) ∧ decode cX8_isItem 41 = .ok (.if_icmp .ge 103, 3) ∧ decode cX8_isItem 44 = .ok (.iload_n 3, 1) ∧ decode cX8_isItem 45 = .ok (.ifCond .eq 99, 3) ∧ decode cX8_isItem 48 = .ok (.iload 4, 2) ∧ decode cX8_isItem 50 = .ok (.ifCond .eq 28, 3) := by decide +kernel
theorem dX8_isItem_34 : decode cX8_isItem 34 = .ok (.istore_n 3, 1) := gg328.1
theorem dX8_isItem_35 : decode cX8_isItem 35 = .ok (.iconst 0, 1) := gg328.2.1
theorem dX8_isItem_36 : decode cX8_isItem 36 = .ok (.istore 4, 2) := gg328.2.2.1
theorem dX8_isItem_38 : decode cX8_isItem 38 = .ok (.iload 4, 2) := gg328.2.2.2.1
theorem dX8_isItem_40 : decode cX8_isItem 40 = .ok (.iload_n 2, 1) := gg328.2.2.2.2.1
theorem dX8_isItem_41 : decode cX8_isItem 41 = .ok (.if_icmp .ge 103, 3) := gg328.2.2.2.2.2.1
theorem dX8_isItem_44 : decode cX8_isItem 44 = .ok (.iload_n 3, 1) := gg328.2.2.2.2.2.2.1
theorem dX8_isItem_45 : decode cX8_isItem 45 = .ok (.ifCond .eq 99, 3) := gg328.2.2.2.2.2.2.2.1
theorem dX8_isItem_48 : decode cX8_isItem 48 = .ok (.iload 4, 2) := gg328.2.2.2.2.2.2.2.2.1
theorem dX8_isItem_50 : decode cX8_isItem 50 = .ok (.ifCond .eq 28, 3) := gg328.2.2.2.2.2.2.2.2.2
theorem gg329 : decode cX8_isItem 53 = .ok (.aload_n 0, 1) ∧ decode cX8_isItem 54 = .ok (.getfield 61, 3) ∧ decode cX8_isItem 57 = .ok (.aload_n 0, 1) ∧ decode cX8_isItem 58 = .ok (.getfield 57, 3) ∧ decode cX8_isItem 61 = .ok (.if_icmp .ge 21, 3) ∧ decode cX8_isItem 64 = .ok (.aload_n 0, 1) ∧ decode cX8_isItem 65 = .ok (.getfield 7, 3) ∧ decode cX8_isItem 68 = .ok (.aload_n 0, 1) ∧ decode cX8_isItem 69 = .ok (.getfield 61, 3) ∧ decode cX8_isItem 72 = .ok (.baload, 1) := by decide +kernel
theorem dX8_isItem_53 : decode cX8_isItem 53 = .ok (.aload_n 0, 1) := gg329.1
theorem dX8_isItem_54 : decode cX8_isItem 54 = .ok (.getfield 61, 3) := gg329.2.1
theorem dX8_isItem_57 : decode cX8_isItem 57 = .ok (.aload_n 0, 1) := gg329.2.2.1
theorem dX8_isItem_58 : decode cX8_isItem 58 = .ok (.getfield 57, 3) := gg329.2.2.2.1
theorem dX8_isItem_61 : decode cX8_isItem 61 = .ok (.if_icmp .ge 21, 3) := gg329.2.2.2.2.1
theorem dX8_isItem_64 : decode cX8_isItem 64 = .ok (.aload_n 0, 1) := gg329.2.2.2.2.2.1
theorem dX8_isItem_65 : decode cX8_isItem 65 = .ok (.getfield 7, 3) := gg329.2.2.2.2.2.2.1
theorem dX8_isItem_68 : decode cX8_isItem 68 = .ok (.aload_n 0, 1) := gg329.2.2.2.2.2.2.2.1
theorem dX8_isItem_69 : decode cX8_isItem 69 = .ok (.getfield 61, 3) := gg329.2.2.2.2.2.2.2.2.1
theorem dX8_isItem_72 : decode cX8_isItem 72 = .ok (.baload, 1) := gg329.2.2.2.2.2.2.2.2.2
theorem gg330 : decode cX8_isItem 73 = .ok (.bipush 44, 2) ∧ decode cX8_isItem 75 = .ok (.if_icmp .ne 7, 3) ∧ decode cX8_isItem 78 = .ok (.iconst 1, 1) ∧ decode cX8_isItem 79 = .ok (.goto 4, 3) ∧ decode cX8_isItem 82 = .ok (.iconst 0, 1) ∧ decode cX8_isItem 83 = .ok (.istore_n 3, 1) ∧ decode cX8_isItem 84 = .ok (.aload_n 0, 1) ∧ decode cX8_isItem 85 = .ok (.dup, 1) ∧ decode cX8_isItem 86 = .ok (.getfield 61, 3) ∧ decode cX8_isItem 89 = .ok (.iload 4, 2) := by decide +kernel
theorem dX8_isItem_73 : decode cX8_isItem 73 = .ok (.bipush 44, 2) := gg330.1
theorem dX8_isItem_75 : decode cX8_isItem 75 = .ok (.if_icmp .ne 7, 3) := gg330.2.1
theorem dX8_isItem_78 : decode cX8_isItem 78 = .ok (.iconst 1, 1) := gg330.2.2.1
theorem dX8_isItem_79 : decode cX8_isItem 79 = .ok (.goto 4, 3) := gg330.2.2.2.1
theorem dX8_isItem_82 : decode cX8_isItem 82 = .ok (.iconst 0, 1) := gg330.2.2.2.2.1
theorem dX8_isItem_83 : decode cX8_isItem 83 = .ok (.istore_n 3, 1) := gg330.2.2.2.2.2.1
theorem dX8_isItem_84 : decode cX8_isItem 84 = .ok (.aload_n 0, 1) := gg330.2.2.2.2.2.2.1
theorem dX8_isItem_85 : decode cX8_isItem 85 = .ok (.dup, 1) := gg330.2.2.2.2.2.2.2.1
theorem dX8_isItem_86 : decode cX8_isItem 86 = .ok (.getfield 61, 3) := gg330.2.2.2.2.2.2.2.2.1
theorem dX8_isItem_89 : decode cX8_isItem 89 = .ok (.iload 4, 2) := gg330.2.2.2.2.2.2.2.2.2
theorem gg331 : decode cX8_isItem 91 = .ok (.ifCond .ne 7, 3) ∧ decode cX8_isItem 94 = .ok (.iconst 0, 1) ∧ decode cX8_isItem 95 = .ok (.goto 4, 3) ∧ decode cX8_isItem 98 = .ok (.iconst 1, 1) ∧ decode cX8_isItem 99 = .ok (.iadd, 1) ∧ decode cX8_isItem 100 = .ok (.putfield 61, 3) ∧ decode cX8_isItem 103 = .ok (.aload_n 0, 1) ∧ decode cX8_isItem 104 = .ok (.getfield 42, 3) ∧ decode cX8_isItem 107 = .ok (.iload 4, 2) ∧ decode cX8_isItem 109 = .ok (.iload_n 3, 1) := by decide +kernel
theorem dX8_isItem_91 : decode cX8_isItem 91 = .ok (.ifCond .ne 7, 3) := gg331.1
theorem dX8_isItem_94 : decode cX8_isItem 94 = .ok (.iconst 0, 1) := gg331.2.1
theorem dX8_isItem_95 : decode cX8_isItem 95 = .ok (.goto 4, 3) := gg331.2.2.1
theorem dX8_isItem_98 : decode cX8_isItem 98 = .ok (.iconst 1, 1) := gg331.2.2.2.1
theorem dX8_isItem_99 : decode cX8_isItem 99 = .ok (.iadd, 1) := gg331.2.2.2.2.1
theorem dX8_isItem_100 : decode cX8_isItem 100 = .ok (.putfield 61, 3) := gg331.2.2.2.2.2.1
theorem dX8_isItem_103 : decode cX8_isItem 103 = .ok (.aload_n 0, 1) := gg331.2.2.2.2.2.2.1
theorem dX8_isItem_104 : decode cX8_isItem 104 = .ok (.getfield 42, 3) := gg331.2.2.2.2.2.2.2.1
theorem dX8_isItem_107 : decode cX8_isItem 107 = .ok (.iload 4, 2) := gg331.2.2.2.2.2.2.2.2.1
theorem dX8_isItem_109 : decode cX8_isItem 109 = .ok (.iload_n 3, 1) := gg331.2.2.2.2.2.2.2.2.2
theorem gg332 : decode cX8_isItem 110 = .ok (.ifCond .eq 10, 3) ∧ decode cX8_isItem 113 = .ok (.aload_n 0, 1) ∧ decode cX8_isItem 114 = .ok (.invokevirtual 74, 3) ∧ decode cX8_isItem 117 = .ok (.goto 4, 3) ∧ decode cX8_isItem 120 = .ok (.iconst (-1), 1) ∧ decode cX8_isItem 121 = .ok (.iastore, 1) ∧ decode cX8_isItem 122 = .ok (.aload_n 0, 1) ∧ decode cX8_isItem 123 = .ok (.getfield 42, 3) ∧ decode cX8_isItem 126 = .ok (.iload 4, 2) ∧ decode cX8_isItem 128 = .ok (.iaload, 1) := by decide +kernel
theorem dX8_isItem_110 : decode cX8_isItem 110 = .ok (.ifCond .eq 10, 3) := gg332.1
theorem dX8_isItem_113 : decode cX8_isItem 113 = .ok (.aload_n 0, 1) := gg332.2.1
theorem dX8_isItem_114 : decode cX8_isItem 114 = .ok (.invokevirtual 74, 3) := gg332.2.2.1
theorem dX8_isItem_117 : decode cX8_isItem 117 = .ok (.goto 4, 3) := gg332.2.2.2.1
theorem dX8_isItem_120 : decode cX8_isItem 120 = .ok (.iconst (-1), 1) := gg332.2.2.2.2.1
theorem dX8_isItem_121 : decode cX8_isItem 121 = .ok (.iastore, 1) := gg332.2.2.2.2.2.1
theorem dX8_isItem_122 : decode cX8_isItem 122 = .ok (.aload_n 0, 1) := gg332.2.2.2.2.2.2.1
theorem dX8_isItem_123 : decode cX8_isItem 123 = .ok (.getfield 42, 3) := gg332.2.2.2.2.2.2.2.1
theorem dX8_isItem_126 : decode cX8_isItem 126 = .ok (.iload 4, 2) := gg332.2.2.2.2.2.2.2.2.1
theorem dX8_isItem_128 : decode cX8_isItem 128 = .ok (.iaload, 1) := gg332.2.2.2.2.2.2.2.2.2
theorem gg333 : decode cX8_isItem 129 = .ok (.ifCond .lt 7, 3) ∧ decode cX8_isItem 132 = .ok (.iconst 1, 1) ∧ decode cX8_isItem 133 = .ok (.goto 4, 3) ∧ decode cX8_isItem 136 = .ok (.iconst 0, 1) ∧ decode cX8_isItem 137 = .ok (.istore_n 3, 1) ∧ decode cX8_isItem 138 = .ok (.iinc 4 1, 3) ∧ decode cX8_isItem 141 = .ok (.goto (-103), 3) ∧ decode cX8_isItem 144 = .ok (.iload_n 3, 1) ∧ decode cX8_isItem 145 = .ok (.ifCond .eq 32, 3) ∧ decode cX8_isItem 148 = .ok (.aload_n 0, 1) := by decide +kernel
theorem dX8_isItem_129 : decode cX8_isItem 129 = .ok (.ifCond .lt 7, 3) := gg333.1
theorem dX8_isItem_132 : decode cX8_isItem 132 = .ok (.iconst 1, 1) := gg333.2.1
theorem dX8_isItem_133 : decode cX8_isItem 133 = .ok (.goto 4, 3) := gg333.2.2.1
theorem dX8_isItem_136 : decode cX8_isItem 136 = .ok (.iconst 0, 1) := gg333.2.2.2.1
theorem dX8_isItem_137 : decode cX8_isItem 137 = .ok (.istore_n 3, 1) := gg333.2.2.2.2.1
theorem dX8_isItem_138 : decode cX8_isItem 138 = .ok (.iinc 4 1, 3) := gg333.2.2.2.2.2.1
theorem dX8_isItem_141 : decode cX8_isItem 141 = .ok (.goto (-103), 3) := gg333.2.2.2.2.2.2.1
theorem dX8_isItem_144 : decode cX8_isItem 144 = .ok (.iload_n 3, 1) := gg333.2.2.2.2.2.2.2.1
theorem dX8_isItem_145 : decode cX8_isItem 145 = .ok (.ifCond .eq 32, 3) := gg333.2.2.2.2.2.2.2.2.1
theorem dX8_isItem_148 : decode cX8_isItem 148 = .ok (.aload_n 0, 1) := gg333.2.2.2.2.2.2.2.2.2
theorem gg334 : decode cX8_isItem 149 = .ok (.getfield 61, 3) ∧ decode cX8_isItem 152 = .ok (.aload_n 0, 1) ∧ decode cX8_isItem 153 = .ok (.getfield 57, 3) ∧ decode cX8_isItem 156 = .ok (.if_icmp .ge 21, 3) ∧ decode cX8_isItem 159 = .ok (.aload_n 0, 1) ∧ decode cX8_isItem 160 = .ok (.getfield 7, 3) ∧ decode cX8_isItem 163 = .ok (.aload_n 0, 1) ∧ decode cX8_isItem 164 = .ok (.getfield 61, 3) ∧ decode cX8_isItem 167 = .ok (.baload, 1) ∧ decode cX8_isItem 168 = .ok (.bipush 59, 2) := by decide +kernel
theorem dX8_isItem_149 : decode cX8_isItem 149 = .ok (.getfield 61, 3) := gg334.1
theorem dX8_isItem_152 : decode cX8_isItem 152 = .ok (.aload_n 0, 1) := gg334.2.1
theorem dX8_isItem_153 : decode cX8_isItem 153 = .ok (.getfield 57, 3) := gg334.2.2.1
theorem dX8_isItem_156 : decode cX8_isItem 156 = .ok (.if_icmp .ge 21, 3) := gg334.2.2.2.1
theorem dX8_isItem_159 : decode cX8_isItem 159 = .ok (.aload_n 0, 1) := gg334.2.2.2.2.1
theorem dX8_isItem_160 : decode cX8_isItem 160 = .ok (.getfield 7, 3) := gg334.2.2.2.2.2.1
theorem dX8_isItem_163 : decode cX8_isItem 163 = .ok (.aload_n 0, 1) := gg334.2.2.2.2.2.2.1
theorem dX8_isItem_164 : decode cX8_isItem 164 = .ok (.getfield 61, 3) := gg334.2.2.2.2.2.2.2.1
theorem dX8_isItem_167 : decode cX8_isItem 167 = .ok (.baload, 1) := gg334.2.2.2.2.2.2.2.2.1
theorem dX8_isItem_168 : decode cX8_isItem 168 = .ok (.bipush 59, 2) := gg334.2.2.2.2.2.2.2.2.2
theorem gg335 : decode cX8_isItem 170 = .ok (.if_icmp .ne 7, 3) ∧ decode cX8_isItem 173 = .ok (.iconst 1, 1) ∧ decode cX8_isItem 174 = .ok (.goto 4, 3) ∧ decode cX8_isItem 177 = .ok (.iconst 0, 1) ∧ decode cX8_isItem 178 = .ok (.istore_n 3, 1) ∧ decode cX8_isItem 179 = .ok (.aload_n 0, 1) ∧ decode cX8_isItem 180 = .ok (.dup, 1) ∧ decode cX8_isItem 181 = .ok (.getfield 61, 3) ∧ decode cX8_isItem 184 = .ok (.iconst 1, 1) ∧ decode cX8_isItem 185 = .ok (.iadd, 1) := by decide +kernel
theorem dX8_isItem_170 : decode cX8_isItem 170 = .ok (.if_icmp .ne 7, 3) := gg335.1
theorem dX8_isItem_173 : decode cX8_isItem 173 = .ok (.iconst 1, 1) := gg335.2.1
theorem dX8_isItem_174 : decode cX8_isItem 174 = .ok (.goto 4, 3) := gg335.2.2.1
theorem dX8_isItem_177 : decode cX8_isItem 177 = .ok (.iconst 0, 1) := gg335.2.2.2.1
theorem dX8_isItem_178 : decode cX8_isItem 178 = .ok (.istore_n 3, 1) := gg335.2.2.2.2.1
theorem dX8_isItem_179 : decode cX8_isItem 179 = .ok (.aload_n 0, 1) := gg335.2.2.2.2.2.1
theorem dX8_isItem_180 : decode cX8_isItem 180 = .ok (.dup, 1) := gg335.2.2.2.2.2.2.1
theorem dX8_isItem_181 : decode cX8_isItem 181 = .ok (.getfield 61, 3) := gg335.2.2.2.2.2.2.2.1
theorem dX8_isItem_184 : decode cX8_isItem 184 = .ok (.iconst 1, 1) := gg335.2.2.2.2.2.2.2.2.1
theorem dX8_isItem_185 : decode cX8_isItem 185 = .ok (.iadd, 1) := gg335.2.2.2.2.2.2.2.2.2
theorem gg336 : decode cX8_isItem 186 = .ok (.putfield 61, 3) ∧ decode cX8_isItem 189 = .ok (.iload_n 3, 1) ∧ decode cX8_isItem 190 = .ok (.ifCond .eq 15, 3) ∧ decode cX8_isItem 193 = .ok (.aload_n 0, 1) ∧ decode cX8_isItem 194 = .ok (.iload_n 1, 1) ∧ decode cX8_isItem 195 = .ok (.invokevirtual 78, 3) ∧ decode cX8_isItem 198 = .ok (.ifCond .eq 7, 3) ∧ decode cX8_isItem 201 = .ok (.iconst 1, 1) ∧ decode cX8_isItem 202 = .ok (.goto 4, 3) ∧ decode cX8_isItem 205 = .ok (.iconst 0, 1) := by decide +kernel
theorem dX8_isItem_186 : decode cX8_isItem 186 = .ok (.putfield 61, 3) := gg336.1
theorem dX8_isItem_189 : decode cX8_isItem 189 = .ok (.iload_n 3, 1) := gg336.2.1
theorem dX8_isItem_190 : decode cX8_isItem 190 = .ok (.ifCond .eq 15, 3) := gg336.2.2.1
theorem dX8_isItem_193 : decode cX8_isItem 193 = .ok (.aload_n 0, 1) := gg336.2.2.2.1
theorem dX8_isItem_194 : decode cX8_isItem 194 = .ok (.iload_n 1, 1) := gg336.2.2.2.2.1
theorem dX8_isItem_195 : decode cX8_isItem 195 = .ok (.invokevirtual 78, 3) := gg336.2.2.2.2.2.1
theorem dX8_isItem_198 : decode cX8_isItem 198 = .ok (.ifCond .eq 7, 3) := gg336.2.2.2.2.2.2.1
theorem dX8_isItem_201 : decode cX8_isItem 201 = .ok (.iconst 1, 1) := gg336.2.2.2.2.2.2.2.1
theorem dX8_isItem_202 : decode cX8_isItem 202 = .ok (.goto 4, 3) := gg336.2.2.2.2.2.2.2.2.1
theorem dX8_isItem_205 : decode cX8_isItem 205 = .ok (.iconst 0, 1) := gg336.2.2.2.2.2.2.2.2.2
theorem dX8_isItem_206 : decode cX8_isItem 206 = .ok (.ireturn, 1) := by decide +kernel
theorem gg338 : decode cX8_isGood 0 = .ok (.iload_n 1, 1) ∧ decode cX8_isGood 1 = .ok (.bipush 116, 2) ∧ decode cX8_isGood 3 = .ok (.if_icmp .ne 107, 3) ∧ decode cX8_isGood 6 = .ok (.iconst 0, 1) ∧ decode cX8_isGood 7 = .ok (.istore_n 2, 1) ∧ decode cX8_isGood 8 = .ok (.iload_n 2, 1) ∧ decode cX8_isGood 9 = .ok (.iconst 4, 1) ∧ decode cX8_isGood 10 = .ok (.if_icmp .ge 24, 3) ∧ decode cX8_isGood 13 = .ok (.aload_n 0, 1) ∧ decode cX8_isGood 14 = .ok (.getfield 13, 3) := by decide +kernel
theorem dX8_isGood_0 : decode cX8_isGood 0 = .ok (.iload_n 1, 1) := gg338.1
theorem dX8_isGood_1 : decode cX8_isGood 1 = .ok (.bipush 116, 2) := gg338.2.1
theorem dX8_isGood_3 : decode cX8_isGood 3 = .ok (.if_icmp .ne 107, 3) := gg338.2.2.1
theorem dX8_isGood_6 : decode cX8_isGood 6 = .ok (.iconst 0, 1) := gg338.2.2.2.1
theorem dX8_isGood_7 : decode cX8_isGood 7 = .ok (.istore_n 2, 1) := gg338.2.2.2.2.1
theorem dX8_isGood_8 : decode cX8_isGood 8 = .ok (.iload_n 2, 1) := gg338.2.2.2.2.2.1
theorem dX8_isGood_9 : decode cX8_isGood 9 = .ok (.iconst 4, 1) := gg338.2.2.2.2.2.2.1
theorem dX8_isGood_10 : decode cX8_isGood 10 = .ok (.if_icmp .ge 24, 3) := gg338.2.2.2.2.2.2.2.1
theorem dX8_isGood_13 : decode cX8_isGood 13 = .ok (.aload_n 0, 1) := gg338.2.2.2.2.2.2.2.2.1
theorem dX8_isGood_14 : decode cX8_isGood 14 = .ok (.getfield 13, 3) := gg338.2.2.2.2.2.2.2.2.2
theorem gg339 : decode cX8_isGood 17 = .ok (.bipush 6, 2) ∧ decode cX8_isGood 19 = .ok (.iload_n 2, 1) ∧ decode cX8_isGood 20 = .ok (.iadd, 1) ∧ decode cX8_isGood 21 = .ok (.aload_n 0, 1) ∧ decode cX8_isGood 22 = .ok (.getfield 42, 3) ∧ decode cX8_isGood 25 = .ok (.iload_n 2, 1) ∧ decode cX8_isGood 26 = .ok (.iaload, 1) ∧ decode cX8_isGood 27 = .ok (.iastore, 1) ∧ decode cX8_isGood 28 = .ok (.iinc 2 1, 3) ∧ decode cX8_isGood 31 = .ok (.goto (-23), 3) := by decide +kernel
theorem dX8_isGood_17 : decode cX8_isGood 17 = .ok (.bipush 6, 2) := gg339.1
theorem dX8_isGood_19 : decode cX8_isGood 19 = .ok (.iload_n 2, 1) := gg339.2.1
theorem dX8_isGood_20 : decode cX8_isGood 20 = .ok (.iadd, 1) := gg339.2.2.1
theorem dX8_isGood_21 : decode cX8_isGood 21 = .ok (.aload_n 0, 1) := gg339.2.2.2.1
theorem dX8_isGood_22 : decode cX8_isGood 22 = .ok (.getfield 42, 3) := gg339.2.2.2.2.1
theorem dX8_isGood_25 : decode cX8_isGood 25 = .ok (.iload_n 2, 1) := gg339.2.2.2.2.2.1
theorem dX8_isGood_26 : decode cX8_isGood 26 = .ok (.iaload, 1) := gg339.2.2.2.2.2.2.1
theorem dX8_isGood_27 : decode cX8_isGood 27 = .ok (.iastore, 1) := gg339.2.2.2.2.2.2.2.1
theorem dX8_isGood_28 : decode cX8_isGood 28 = .ok (.iinc 2 1, 3) := gg339.2.2.2.2.2.2.2.2.1
theorem dX8_isGood_31 : decode cX8_isGood 31 = .ok (.goto (-23), 3) := gg339.2.2.2.2.2.2.2.2.2
theorem gg340 : decode cX8_isGood 34 = .ok (.aload_n 0, 1) ∧ decode cX8_isGood 35 = .ok (.iconst 0, 1) ∧ decode cX8_isGood 36 = .ok (.bipush 20, 2) ∧ decode cX8_isGood 38 = .ok (.sipush 999, 3) ∧ decode cX8_isGood 41 = .ok (.invokevirtual 82, 3) ∧ decode cX8_isGood 44 = .ok (.ifCond .eq 64, 3) ∧ decode cX8_isGood 47 = .ok (.aload_n 0, 1) ∧ decode cX8_isGood 48 = .ok (.iconst 1, 1) ∧ decode cX8_isGood 49 = .ok (.iconst 1, 1) ∧ decode cX8_isGood 50 = .ok (.bipush 20, 2) := by decide +kernel
theorem dX8_isGood_34 : decode cX8_isGood 34 = .ok (.aload_n 0, 1) := gg340.1
theorem dX8_isGood_35 : decode cX8_isGood 35 = .ok (.iconst 0, 1) := gg340.2.1
theorem dX8_isGood_36 : decode cX8_isGood 36 = .ok (.bipush 20, 2) := gg340.2.2.1
theorem dX8_isGood_38 : decode cX8_isGood 38 = .ok (.sipush 999, 3) := gg340.2.2.2.1
theorem dX8_isGood_41 : decode cX8_isGood 41 = .ok (.invokevirtual 82, 3) := gg340.2.2.2.2.1
theorem dX8_isGood_44 : decode cX8_isGood 44 = .ok (.ifCond .eq 64, 3) := gg340.2.2.2.2.2.1
theorem dX8_isGood_47 : decode cX8_isGood 47 = .ok (.aload_n 0, 1) := gg340.2.2.2.2.2.2.1
theorem dX8_isGood_48 : decode cX8_isGood 48 = .ok (.iconst 1, 1) := gg340.2.2.2.2.2.2.2.1
theorem dX8_isGood_49 : decode cX8_isGood 49 = .ok (.iconst 1, 1) := gg340.2.2.2.2.2.2.2.2.1
theorem dX8_isGood_50 : decode cX8_isGood 50 = .ok (.bipush 20, 2) := gg340.2.2.2.2.2.2.2.2.2
theorem gg341 : decode cX8_isGood 52 = .ok (.invokevirtual 82, 3) ∧ decode cX8_isGood 55 = .ok (.ifCond .eq 53, 3) ∧ decode cX8_isGood 58 = .ok (.aload_n 0, 1) ∧ decode cX8_isGood 59 = .ok (.getfield 42, 3) ∧ decode cX8_isGood 62 = .ok (.iconst 0, 1) ∧ decode cX8_isGood 63 = .ok (.iaload, 1) ∧ decode cX8_isGood 64 = .ok (.bipush 20, 2) ∧ decode cX8_isGood 66 = .ok (.aload_n 0, 1) ∧ decode cX8_isGood 67 = .ok (.getfield 42, 3) ∧ decode cX8_isGood 70 = .ok (.iconst 1, 1) := by decide +kernel
theorem dX8_isGood_52 : decode cX8_isGood 52 = .ok (.invokevirtual 82, 3) := gg341.1
theorem dX8_isGood_55 : decode cX8_isGood 55 = .ok (.ifCond .eq 53, 3) := gg341.2.1
theorem dX8_isGood_58 : decode cX8_isGood 58 = .ok (.aload_n 0, 1) := gg341.2.2.1
theorem dX8_isGood_59 : decode cX8_isGood 59 = .ok (.getfield 42, 3) := gg341.2.2.2.1
theorem dX8_isGood_62 : decode cX8_isGood 62 = .ok (.iconst 0, 1) := gg341.2.2.2.2.1
theorem dX8_isGood_63 : decode cX8_isGood 63 = .ok (.iaload, 1) := gg341.2.2.2.2.2.1
theorem dX8_isGood_64 : decode cX8_isGood 64 = .ok (.bipush 20, 2) := gg341.2.2.2.2.2.2.1
theorem dX8_isGood_66 : decode cX8_isGood 66 = .ok (.aload_n 0, 1) := gg341.2.2.2.2.2.2.2.1
theorem dX8_isGood_67 : decode cX8_isGood 67 = .ok (.getfield 42, 3) := gg341.2.2.2.2.2.2.2.2.1
theorem dX8_isGood_70 : decode cX8_isGood 70 = .ok (.iconst 1, 1) := gg341.2.2.2.2.2.2.2.2.2
theorem gg342 : decode cX8_isGood 71 = .ok (.iaload, 1) ∧ decode cX8_isGood 72 = .ok (.imul, 1) ∧ decode cX8_isGood 73 = .ok (.if_icmp .lt 35, 3) ∧ decode cX8_isGood 76 = .ok (.aload_n 0, 1) ∧ decode cX8_isGood 77 = .ok (.iconst 3, 1) ∧ decode cX8_isGood 78 = .ok (.iconst 2, 1) ∧ decode cX8_isGood 79 = .ok (.bipush 20, 2) ∧ decode cX8_isGood 81 = .ok (.invokevirtual 82, 3) ∧ decode cX8_isGood 84 = .ok (.ifCond .eq 24, 3) ∧ decode cX8_isGood 87 = .ok (.aload_n 0, 1) := by decide +kernel
theorem dX8_isGood_71 : decode cX8_isGood 71 = .ok (.iaload, 1) := gg342.1
theorem dX8_isGood_72 : decode cX8_isGood 72 = .ok (.imul, 1) := gg342.2.1
theorem dX8_isGood_73 : decode cX8_isGood 73 = .ok (.if_icmp .lt 35, 3) := gg342.2.2.1
theorem dX8_isGood_76 : decode cX8_isGood 76 = .ok (.aload_n 0, 1) := gg342.2.2.2.1
theorem dX8_isGood_77 : decode cX8_isGood 77 = .ok (.iconst 3, 1) := gg342.2.2.2.2.1
theorem dX8_isGood_78 : decode cX8_isGood 78 = .ok (.iconst 2, 1) := gg342.2.2.2.2.2.1
theorem dX8_isGood_79 : decode cX8_isGood 79 = .ok (.bipush 20, 2) := gg342.2.2.2.2.2.2.1
theorem dX8_isGood_81 : decode cX8_isGood 81 = .ok (.invokevirtual 82, 3) := gg342.2.2.2.2.2.2.2.1
theorem dX8_isGood_84 : decode cX8_isGood 84 = .ok (.ifCond .eq 24, 3) := gg342.2.2.2.2.2.2.2.2.1
theorem dX8_isGood_87 : decode cX8_isGood 87 = .ok (.aload_n 0, 1) := gg342.2.2.2.2.2.2.2.2.2
theorem gg343 : decode cX8_isGood 88 = .ok (.iconst 2, 1) ∧ decode cX8_isGood 89 = .ok (.iconst 1, 1) ∧ decode cX8_isGood 90 = .ok (.aload_n 0, 1) ∧ decode cX8_isGood 91 = .ok (.getfield 42, 3) ∧ decode cX8_isGood 94 = .ok (.iconst 3, 1) ∧ decode cX8_isGood 95 = .ok (.iaload, 1) ∧ decode cX8_isGood 96 = .ok (.iconst 1, 1) ∧ decode cX8_isGood 97 = .ok (.isub, 1) ∧ decode cX8_isGood 98 = .ok (.invokevirtual 82, 3) ∧ decode cX8_isGood 101 = .ok (.ifCond .eq 7, 3) := by decide +kernel
theorem dX8_isGood_88 : decode cX8_isGood 88 = .ok (.iconst 2, 1) := gg343.1
theorem dX8_isGood_89 : decode cX8_isGood 89 = .ok (.iconst 1, 1) := gg343.2.1
theorem dX8_isGood_90 : decode cX8_isGood 90 = .ok (.aload_n 0, 1) := gg343.2.2.1
theorem dX8_isGood_91 : decode cX8_isGood 91 = .ok (.getfield 42, 3) := gg343.2.2.2.1
theorem dX8_isGood_94 : decode cX8_isGood 94 = .ok (.iconst 3, 1) := gg343.2.2.2.2.1
theorem dX8_isGood_95 : decode cX8_isGood 95 = .ok (.iaload, 1) := gg343.2.2.2.2.2.1
theorem dX8_isGood_96 : decode cX8_isGood 96 = .ok (.iconst 1, 1) := gg343.2.2.2.2.2.2.1
theorem dX8_isGood_97 : decode cX8_isGood 97 = .ok (.isub, 1) := gg343.2.2.2.2.2.2.2.1
theorem dX8_isGood_98 : decode cX8_isGood 98 = .ok (.invokevirtual 82, 3) := gg343.2.2.2.2.2.2.2.2.1
theorem dX8_isGood_101 : decode cX8_isGood 101 = .ok (.ifCond .eq 7, 3) := gg343.2.2.2.2.2.2.2.2.2
theorem gg344 : decode cX8_isGood 104 = .ok (.iconst 1, 1) ∧ decode cX8_isGood 105 = .ok (.goto 4, 3) ∧ decode cX8_isGood 108 = .ok (.iconst 0, 1) ∧ decode cX8_isGood 109 = .ok (.ireturn, 1) ∧ decode cX8_isGood 110 = .ok (.iload_n 1, 1) ∧ decode cX8_isGood 111 = .ok (.bipush 111, 2) ∧ decode cX8_isGood 113 = .ok (.if_icmp .ne 26, 3) ∧ decode cX8_isGood 116 = .ok (.aload_n 0, 1) ∧ decode cX8_isGood 117 = .ok (.getfield 13, 3) ∧ decode cX8_isGood 120 = .ok (.bipush 10, 2) := by decide +kernel
theorem dX8_isGood_104 : decode cX8_isGood 104 = .ok (.iconst 1, 1) := gg344.1
theorem dX8_isGood_105 : decode cX8_isGood 105 = .ok (.goto 4, 3) := gg344.2.1
theorem dX8_isGood_108 : decode cX8_isGood 108 = .ok (.iconst 0, 1) := gg344.2.2.1
theorem dX8_isGood_109 : decode cX8_isGood 109 = .ok (.ireturn, 1) := gg344.2.2.2.1
theorem dX8_isGood_110 : decode cX8_isGood 110 = .ok (.iload_n 1, 1) := gg344.2.2.2.2.1
theorem dX8_isGood_111 : decode cX8_isGood 111 = .ok (.bipush 111, 2) := gg344.2.2.2.2.2.1
theorem dX8_isGood_113 : decode cX8_isGood 113 = .ok (.if_icmp .ne 26, 3) := gg344.2.2.2.2.2.2.1
theorem dX8_isGood_116 : decode cX8_isGood 116 = .ok (.aload_n 0, 1) := gg344.2.2.2.2.2.2.2.1
theorem dX8_isGood_117 : decode cX8_isGood 117 = .ok (.getfield 13, 3) := gg344.2.2.2.2.2.2.2.2.1
theorem dX8_isGood_120 : decode cX8_isGood 120 = .ok (.bipush 10, 2) := gg344.2.2.2.2.2.2.2.2.2
theorem gg345 : decode cX8_isGood 122 = .ok (.aload_n 0, 1) ∧ decode cX8_isGood 123 = .ok (.getfield 42, 3) ∧ decode cX8_isGood 126 = .ok (.iconst 0, 1) ∧ decode cX8_isGood 127 = .ok (.iaload, 1) ∧ decode cX8_isGood 128 = .ok (.iastore, 1) ∧ decode cX8_isGood 129 = .ok (.aload_n 0, 1) ∧ decode cX8_isGood 130 = .ok (.iconst 0, 1) ∧ decode cX8_isGood 131 = .ok (.iconst 0, 1) ∧ decode cX8_isGood 132 = .ok (.sipush 999, 3) ∧ decode cX8_isGood 135 = .ok (.invokevirtual 82, 3) := by decide +kernel
theorem dX8_isGood_122 : decode cX8_isGood 122 = .ok (.aload_n 0, 1) := gg345.1
theorem dX8_isGood_123 : decode cX8_isGood 123 = .ok (.getfield 42, 3) := gg345.2.1
theorem dX8_isGood_126 : decode cX8_isGood 126 = .ok (.iconst 0, 1) := gg345.2.2.1
theorem dX8_isGood_127 : decode cX8_isGood 127 = .ok (.iaload, 1) := gg345.2.2.2.1
theorem dX8_isGood_128 : decode cX8_isGood 128 = .ok (.iastore, 1) := gg345.2.2.2.2.1
theorem dX8_isGood_129 : decode cX8_isGood 129 = .ok (.aload_n 0, 1) := gg345.2.2.2.2.2.1
theorem dX8_isGood_130 : decode cX8_isGood 130 = .ok (.iconst 0, 1) := gg345.2.2.2.2.2.2.1
theorem dX8_isGood_131 : decode cX8_isGood 131 = .ok (.iconst 0, 1) := gg345.2.2.2.2.2.2.2.1
theorem dX8_isGood_132 : decode cX8_isGood 132 = .ok (.sipush 999, 3) := gg345.2.2.2.2.2.2.2.2.1
theorem dX8_isGood_135 : decode cX8_isGood 135 = .ok (.invokevirtual 82, 3) := gg345.2.2.2.2.2.2.2.2.2
theorem gg346 : decode cX8_isGood 138 = .ok (.ireturn, 1) ∧ decode cX8_isGood 139 = .ok (.iload_n 1, 1) ∧ decode cX8_isGood 140 = .ok (.bipush 115, 2) ∧ decode cX8_isGood 142 = .ok (.if_icmp .ne 25, 3) ∧ decode cX8_isGood 145 = .ok (.aload_n 0, 1) ∧ decode cX8_isGood 146 = .ok (.getfield 13, 3) ∧ decode cX8_isGood 149 = .ok (.bipush 11, 2) ∧ decode cX8_isGood 151 = .ok (.aload_n 0, 1) ∧ decode cX8_isGood 152 = .ok (.getfield 42, 3) ∧ decode cX8_isGood 155 = .ok (.iconst 0, 1) := by decide +kernel
theorem dX8_isGood_138 : decode cX8_isGood 138 = .ok (.ireturn, 1) := gg346.1
theorem dX8_isGood_139 : decode cX8_isGood 139 = .ok (.iload_n 1, 1) := gg346.2.1
theorem dX8_isGood_140 : decode cX8_isGood 140 = .ok (.bipush 115, 2) := gg346.2.2.1
theorem dX8_isGood_142 : decode cX8_isGood 142 = .ok (.if_icmp .ne 25, 3) := gg346.2.2.2.1
theorem dX8_isGood_145 : decode cX8_isGood 145 = .ok (.aload_n 0, 1) := gg346.2.2.2.2.1
theorem dX8_isGood_146 : decode cX8_isGood 146 = .ok (.getfield 13, 3) := gg346.2.2.2.2.2.1
theorem dX8_isGood_149 : decode cX8_isGood 149 = .ok (.bipush 11, 2) := gg346.2.2.2.2.2.2.1
theorem dX8_isGood_151 : decode cX8_isGood 151 = .ok (.aload_n 0, 1) := gg346.2.2.2.2.2.2.2.1
theorem dX8_isGood_152 : decode cX8_isGood 152 = .ok (.getfield 42, 3) := gg346.2.2.2.2.2.2.2.2.1
theorem dX8_isGood_155 : decode cX8_isGood 155 = .ok (.iconst 0, 1) := gg346.2.2.2.2.2.2.2.2.2
theorem gg347 : decode cX8_isGood 156 = .ok (.iaload, 1) ∧ decode cX8_isGood 157 = .ok (.iastore, 1) ∧ decode cX8_isGood 158 = .ok (.aload_n 0, 1) ∧ decode cX8_isGood 159 = .ok (.iconst 0, 1) ∧ decode cX8_isGood 160 = .ok (.iconst 0, 1) ∧ decode cX8_isGood 161 = .ok (.bipush 99, 2) ∧ decode cX8_isGood 163 = .ok (.invokevirtual 82, 3) ∧ decode cX8_isGood 166 = .ok (.ireturn, 1) ∧ decode cX8_isGood 167 = .ok (.aload_n 0, 1) ∧ decode cX8_isGood 168 = .ok (.iconst 0, 1) := by decide +kernel
theorem dX8_isGood_156 : decode cX8_isGood 156 = .ok (.iaload, 1) := gg347.1
theorem dX8_isGood_157 : decode cX8_isGood 157 = .ok (.iastore, 1) := gg347.2.1
theorem dX8_isGood_158 : decode cX8_isGood 158 = .ok (.aload_n 0, 1) := gg347.2.2.1
theorem dX8_isGood_159 : decode cX8_isGood 159 = .ok (.iconst 0, 1) := gg347.2.2.2.1
theorem dX8_isGood_160 : decode cX8_isGood 160 = .ok (.iconst 0, 1) := gg347.2.2.2.2.1
theorem dX8_isGood_161 : decode cX8_isGood 161 = .ok (.bipush 99, 2) := gg347.2.2.2.2.2.1
theorem dX8_isGood_163 : decode cX8_isGood 163 = .ok (.invokevirtual 82, 3) := gg347.2.2.2.2.2.2.1
theorem dX8_isGood_166 : decode cX8_isGood 166 = .ok (.ireturn, 1) := gg347.2.2.2.2.2.2.2.1
theorem dX8_isGood_167 : decode cX8_isGood 167 = .ok (.aload_n 0, 1) := gg347.2.2.2.2.2.2.2.2.1
theorem dX8_isGood_168 : decode cX8_isGood 168 = .ok (.iconst 0, 1) := gg347.2.2.2.2.2.2.2.2.2
theorem gg348 : decode cX8_isGood 169 = .ok (.iconst 0, 1) ∧ decode cX8_isGood 170 = .ok (.iconst 4, 1) ∧ decode cX8_isGood 171 = .ok (.invokevirtual 82, 3) ∧ decode cX8_isGood 174 = .ok (.ifCond .eq 57, 3) ∧ decode cX8_isGood 177 = .ok (.aload_n 0, 1) ∧ decode cX8_isGood 178 = .ok (.iconst 1, 1) ∧ decode cX8_isGood 179 = .ok (.iconst 0, 1) ∧ decode cX8_isGood 180 = .ok (.iconst 3, 1) ∧ decode cX8_isGood 181 = .ok (.invokevirtual 82, 3) ∧ decode cX8_isGood 184 = .ok (.ifCond .eq 47, 3) := by decide +kernel
theorem dX8_isGood_169 : decode cX8_isGood 169 = .ok (.iconst 0, 1) := gg348.1
theorem dX8_isGood_170 : decode cX8_isGood 170 = .ok (.iconst 4, 1) := gg348.2.1
theorem dX8_isGood_171 : decode cX8_isGood 171 = .ok (.invokevirtual 82, 3) := gg348.2.2.1
theorem dX8_isGood_174 : decode cX8_isGood 174 = .ok (.ifCond .eq 57, 3) := gg348.2.2.2.1
theorem dX8_isGood_177 : decode cX8_isGood 177 = .ok (.aload_n 0, 1) := gg348.2.2.2.2.1
theorem dX8_isGood_178 : decode cX8_isGood 178 = .ok (.iconst 1, 1) := gg348.2.2.2.2.2.1
theorem dX8_isGood_179 : decode cX8_isGood 179 = .ok (.iconst 0, 1) := gg348.2.2.2.2.2.2.1
theorem dX8_isGood_180 : decode cX8_isGood 180 = .ok (.iconst 3, 1) := gg348.2.2.2.2.2.2.2.1
theorem dX8_isGood_181 : decode cX8_isGood 181 = .ok (.invokevirtual 82, 3) := gg348.2.2.2.2.2.2.2.2.1
theorem dX8_isGood_184 : decode cX8_isGood 184 = .ok (.ifCond .eq 47, 3) := gg348.2.2.2.2.2.2.2.2.2
theorem gg349 : decode cX8_isGood 187 = .ok (.aload_n 0, 1) ∧ decode cX8_isGood 188 = .ok (.iconst 2, 1) ∧ decode cX8_isGood 189 = .ok (.iconst 1, 1) ∧ decode cX8_isGood 190 = .ok (.bipush 99, 2) ∧ decode cX8_isGood 192 = .ok (.invokevirtual 82, 3) ∧ decode cX8_isGood 195 = .ok (.ifCond .eq 36, 3) ∧ decode cX8_isGood 198 = .ok (.aload_n 0, 1) ∧ decode cX8_isGood 199 = .ok (.iconst 3, 1) ∧ decode cX8_isGood 200 = .ok (.iconst 0, 1) ∧ decode cX8_isGood 201 = .ok (.bipush 99, 2) := by decide +kernel
theorem dX8_isGood_187 : decode cX8_isGood 187 = .ok (.aload_n 0, 1) := gg349.1
theorem dX8_isGood_188 : decode cX8_isGood 188 = .ok (.iconst 2, 1) := gg349.2.1
theorem dX8_isGood_189 : decode cX8_isGood 189 = .ok (.iconst 1, 1) := gg349.2.2.1
theorem dX8_isGood_190 : decode cX8_isGood 190 = .ok (.bipush 99, 2) := gg349.2.2.2.1
theorem dX8_isGood_192 : decode cX8_isGood 192 = .ok (.invokevirtual 82, 3) := gg349.2.2.2.2.1
theorem dX8_isGood_195 : decode cX8_isGood 195 = .ok (.ifCond .eq 36, 3) := gg349.2.2.2.2.2.1
theorem dX8_isGood_198 : decode cX8_isGood 198 = .ok (.aload_n 0, 1) := gg349.2.2.2.2.2.2.1
theorem dX8_isGood_199 : decode cX8_isGood 199 = .ok (.iconst 3, 1) := gg349.2.2.2.2.2.2.2.1
theorem dX8_isGood_200 : decode cX8_isGood 200 = .ok (.iconst 0, 1) := gg349.2.2.2.2.2.2.2.2.1
theorem dX8_isGood_201 : decode cX8_isGood 201 = .ok (.bipush 99, 2) := gg349.2.2.2.2.2.2.2.2.2
theorem gg350 : decode cX8_isGood 203 = .ok (.invokevirtual 82, 3) ∧ decode cX8_isGood 206 = .ok (.ifCond .eq 25, 3) ∧ decode cX8_isGood 209 = .ok (.aload_n 0, 1) ∧ decode cX8_isGood 210 = .ok (.iconst 4, 1) ∧ decode cX8_isGood 211 = .ok (.iconst 0, 1) ∧ decode cX8_isGood 212 = .ok (.bipush 99, 2) ∧ decode cX8_isGood 214 = .ok (.invokevirtual 82, 3) ∧ decode cX8_isGood 217 = .ok (.ifCond .eq 14, 3) ∧ decode cX8_isGood 220 = .ok (.aload_n 0, 1) ∧ decode cX8_isGood 221 = .ok (.getfield 17, 3) := by decide +kernel
theorem dX8_isGood_203 : decode cX8_isGood 203 = .ok (.invokevirtual 82, 3) := gg350.1
theorem dX8_isGood_206 : decode cX8_isGood 206 = .ok (.ifCond .eq 25, 3) := gg350.2.1
theorem dX8_isGood_209 : decode cX8_isGood 209 = .ok (.aload_n 0, 1) := gg350.2.2.1
theorem dX8_isGood_210 : decode cX8_isGood 210 = .ok (.iconst 4, 1) := gg350.2.2.2.1
theorem dX8_isGood_211 : decode cX8_isGood 211 = .ok (.iconst 0, 1) := gg350.2.2.2.2.1
theorem dX8_isGood_212 : decode cX8_isGood 212 = .ok (.bipush 99, 2) := gg350.2.2.2.2.2.1
theorem dX8_isGood_214 : decode cX8_isGood 214 = .ok (.invokevirtual 82, 3) := gg350.2.2.2.2.2.2.1
theorem dX8_isGood_217 : decode cX8_isGood 217 = .ok (.ifCond .eq 14, 3) := gg350.2.2.2.2.2.2.2.1
theorem dX8_isGood_220 : decode cX8_isGood 220 = .ok (.aload_n 0, 1) := gg350.2.2.2.2.2.2.2.2.1
theorem dX8_isGood_221 : decode cX8_isGood 221 = .ok (.getfield 17, 3) := gg350.2.2.2.2.2.2.2.2.2
theorem gg351 : decode cX8_isGood 224 = .ok (.iconst 1, 1) ∧ decode cX8_isGood 225 = .ok (.iaload, 1) ∧ decode cX8_isGood 226 = .ok (.bipush 6, 2) ∧ decode cX8_isGood 228 = .ok (.if_icmp .ne 5, 3) ∧ decode cX8_isGood 231 = .ok (.iconst 0, 1) ∧ decode cX8_isGood 232 = .ok (.ireturn, 1) ∧ decode cX8_isGood 233 = .ok (.iconst 0, 1) ∧ decode cX8_isGood 234 = .ok (.istore_n 2, 1) ∧ decode cX8_isGood 235 = .ok (.iload_n 2, 1) ∧ decode cX8_isGood 236 = .ok (.iconst 5, 1) := by decide +kernel
theorem dX8_isGood_224 : decode cX8_isGood 224 = .ok (.iconst 1, 1) := gg351.1
theorem dX8_isGood_225 : decode cX8_isGood 225 = .ok (.iaload, 1) := gg351.2.1
theorem dX8_isGood_226 : decode cX8_isGood 226 = .ok (.bipush 6, 2) := gg351.2.2.1
theorem dX8_isGood_228 : decode cX8_isGood 228 = .ok (.if_icmp .ne 5, 3) := gg351.2.2.2.1
theorem dX8_isGood_231 : decode cX8_isGood 231 = .ok (.iconst 0, 1) := gg351.2.2.2.2.1
theorem dX8_isGood_232 : decode cX8_isGood 232 = .ok (.ireturn, 1) := gg351.2.2.2.2.2.1
theorem dX8_isGood_233 : decode cX8_isGood 233 = .ok (.iconst 0, 1) := gg351.2.2.2.2.2.2.1
theorem dX8_isGood_234 : decode cX8_isGood 234 = .ok (.istore_n 2, 1) := gg351.2.2.2.2.2.2.2.1
theorem dX8_isGood_235 : decode cX8_isGood 235 = .ok (.iload_n 2, 1) := gg351.2.2.2.2.2.2.2.2.1
theorem dX8_isGood_236 : decode cX8_isGood 236 = .ok (.iconst 5, 1) := gg351.2.2.2.2.2.2.2.2.2
theorem gg352 : decode cX8_isGood 237 = .ok (.if_icmp .ge 33, 3) ∧ decode cX8_isGood 240 = .ok (.aload_n 0, 1) ∧ decode cX8_isGood 241 = .ok (.getfield 20, 3) ∧ decode cX8_isGood 244 = .ok (.bipush 30, 2) ∧ decode cX8_isGood 246 = .ok (.iconst 5, 1) ∧ decode cX8_isGood 247 = .ok (.aload_n 0, 1) ∧ decode cX8_isGood 248 = .ok (.getfield 17, 3) ∧ decode cX8_isGood 251 = .ok (.iconst 1, 1) ∧ decode cX8_isGood 252 = .ok (.iaload, 1) ∧ decode cX8_isGood 253 = .ok (.imul, 1) := by decide +kernel
theorem dX8_isGood_237 : decode cX8_isGood 237 = .ok (.if_icmp .ge 33, 3) := gg352.1
theorem dX8_isGood_240 : decode cX8_isGood 240 = .ok (.aload_n 0, 1) := gg352.2.1
theorem dX8_isGood_241 : decode cX8_isGood 241 = .ok (.getfield 20, 3) := gg352.2.2.1
theorem dX8_isGood_244 : decode cX8_isGood 244 = .ok (.bipush 30, 2) := gg352.2.2.2.1
theorem dX8_isGood_246 : decode cX8_isGood 246 = .ok (.iconst 5, 1) := gg352.2.2.2.2.1
theorem dX8_isGood_247 : decode cX8_isGood 247 = .ok (.aload_n 0, 1) := gg352.2.2.2.2.2.1
theorem dX8_isGood_248 : decode cX8_isGood 248 = .ok (.getfield 17, 3) := gg352.2.2.2.2.2.2.1
theorem dX8_isGood_251 : decode cX8_isGood 251 = .ok (.iconst 1, 1) := gg352.2.2.2.2.2.2.2.1
theorem dX8_isGood_252 : decode cX8_isGood 252 = .ok (.iaload, 1) := gg352.2.2.2.2.2.2.2.2.1
theorem dX8_isGood_253 : decode cX8_isGood 253 = .ok (.imul, 1) := gg352.2.2.2.2.2.2.2.2.2
theorem gg353 : decode cX8_isGood 254 = .ok (.iadd, 1) ∧ decode cX8_isGood 255 = .ok (.iload_n 2, 1) ∧ decode cX8_isGood 256 = .ok (.iadd, 1) ∧ decode cX8_isGood 257 = .ok (.aload_n 0, 1) ∧ decode cX8_isGood 258 = .ok (.getfield 42, 3) ∧ decode cX8_isGood 261 = .ok (.iload_n 2, 1) ∧ decode cX8_isGood 262 = .ok (.iaload, 1) ∧ decode cX8_isGood 263 = .ok (.iastore, 1) ∧ decode cX8_isGood 264 = .ok (.iinc 2 1, 3) ∧ decode cX8_isGood 267 = .ok (.goto (-32), 3) := by decide +kernel
theorem dX8_isGood_254 : decode cX8_isGood 254 = .ok (.iadd, 1) := gg353.1
theorem dX8_isGood_255 : decode cX8_isGood 255 = .ok (.iload_n 2, 1) := gg353.2.1
theorem dX8_isGood_256 : decode cX8_isGood 256 = .ok (.iadd, 1) := gg353.2.2.1
theorem dX8_isGood_257 : decode cX8_isGood 257 = .ok (.aload_n 0, 1) := gg353.2.2.2.1
theorem dX8_isGood_258 : decode cX8_isGood 258 = .ok (.getfield 42, 3) := gg353.2.2.2.2.1
theorem dX8_isGood_261 : decode cX8_isGood 261 = .ok (.iload_n 2, 1) := gg353.2.2.2.2.2.1
theorem dX8_isGood_262 : decode cX8_isGood 262 = .ok (.iaload, 1) := gg353.2.2.2.2.2.2.1
theorem dX8_isGood_263 : decode cX8_isGood 263 = .ok (.iastore, 1) := gg353.2.2.2.2.2.2.2.1
theorem dX8_isGood_264 : decode cX8_isGood 264 = .ok (.iinc 2 1, 3) := gg353.2.2.2.2.2.2.2.2.1
theorem dX8_isGood_267 : decode cX8_isGood 267 = .ok (.goto (-32), 3) := gg353.2.2.2.2.2.2.2.2.2
theorem gg354 : decode cX8_isGood 270 = .ok (.aload_n 0, 1) ∧ decode cX8_isGood 271 = .ok (.getfield 17, 3) ∧ decode cX8_isGood 274 = .ok (.iconst 1, 1) ∧ decode cX8_isGood 275 = .ok (.dup2, 1) ∧ decode cX8_isGood 276 = .ok (.iaload, 1) ∧ decode cX8_isGood 277 = .ok (.iconst 1, 1) ∧ decode cX8_isGood 278 = .ok (.iadd, 1) ∧ decode cX8_isGood 279 = .ok (.iastore, 1) ∧ decode cX8_isGood 280 = .ok (.iconst 1, 1) ∧ decode cX8_isGood 281 = .ok (.ireturn, 1) := by decide +kernel
theorem dX8_isGood_270 : decode cX8_isGood 270 = .ok (.aload_n 0, 1) := gg354.1
theorem dX8_isGood_271 : decode cX8_isGood 271 = .ok (.getfield 17, 3) := gg354.2.1
theorem dX8_isGood_274 : decode cX8_isGood 274 = .ok (.iconst 1, 1) := gg354.2.2.1
theorem dX8_isGood_275 : decode cX8_isGood 275 = .ok (.dup2, 1) := gg354.2.2.2.1
theorem dX8_isGood_276 : decode cX8_isGood 276 = .ok (.iaload, 1) := gg354.2.2.2.2.1
theorem dX8_isGood_277 : decode cX8_isGood 277 = .ok (.iconst 1, 1) := gg354.2.2.2.2.2.1
theorem dX8_isGood_278 : decode cX8_isGood 278 = .ok (.iadd, 1) := gg354.2.2.2.2.2.2.1
theorem dX8_isGood_279 : decode cX8_isGood 279 = .ok (.iastore, 1) := gg354.2.2.2.2.2.2.2.1
theorem dX8_isGood_280 : decode cX8_isGood 280 = .ok (.iconst 1, 1) := gg354.2.2.2.2.2.2.2.2.1
theorem dX8_isGood_281 : decode cX8_isGood 281 = .ok (.ireturn, 1) := gg354.2.2.2.2.2.2.2.2.2
theorem gg355 : decode cX8_begins 0 = .ok (.aload_n 0, 1) ∧ decode cX8_begins 1 = .ok (.getfield 17, 3) ∧ decode cX8_begins 4 = .ok (.iconst 1, 1) ∧ decode cX8_begins 5 = .ok (.iconst 0, 1) ∧ decode cX8_begins 6 = .ok (.iastore, 1) ∧ decode cX8_begins 7 = .ok (.aload_n 0, 1) ∧ decode cX8_begins 8 = .ok (.getfield 13, 3) ∧ decode cX8_begins 11 = .ok (.bipush 6, 2) ∧ decode cX8_begins 13 = .ok (.sipush 745, 3) ∧ decode cX8_begins 16 = .ok (.iastore, 1) := by decide +kernel
theorem dX8_begins_0 : decode cX8_begins 0 = .ok (.aload_n 0, 1) := gg355.1
theorem dX8_begins_1 : decode cX8_begins 1 = .ok (.getfield 17, 3) := gg355.2.1
theorem dX8_begins_4 : decode cX8_begins 4 = .ok (.iconst 1, 1) := gg355.2.2.1
theorem dX8_begins_5 : decode cX8_begins 5 = .ok (.iconst 0, 1) := gg355.2.2.2.1
theorem dX8_begins_6 : decode cX8_begins 6 = .ok (.iastore, 1) := gg355.2.2.2.2.1
theorem dX8_begins_7 : decode cX8_begins 7 = .ok (.aload_n 0, 1) := gg355.2.2.2.2.2.1
theorem dX8_begins_8 : decode cX8_begins 8 = .ok (.getfield 13, 3) := gg355.2.2.2.2.2.2.1
theorem dX8_begins_11 : decode cX8_begins 11 = .ok (.bipush 6, 2) := gg355.2.2.2.2.2.2.2.1
theorem dX8_begins_13 : decode cX8_begins 13 = .ok (.sipush 745, 3) := gg355.2.2.2.2.2.2.2.2.1
theorem dX8_begins_16 : decode cX8_begins 16 = .ok (.iastore, 1) := gg355.2.2.2.2.2.2.2.2.2
theorem gg356 : decode cX8_begins 17 = .ok (.aload_n 0, 1) ∧ decode cX8_begins 18 = .ok (.getfield 13, 3) ∧ decode cX8_begins 21 = .ok (.bipush 7, 2) ∧ decode cX8_begins 23 = .ok (.iconst 1, 1) ∧ decode cX8_begins 24 = .ok (.iastore, 1) ∧ decode cX8_begins 25 = .ok (.aload_n 0, 1) ∧ decode cX8_begins 26 = .ok (.getfield 13, 3) ∧ decode cX8_begins 29 = .ok (.bipush 8, 2) ∧ decode cX8_begins 31 = .ok (.iconst 1, 1) ∧ decode cX8_begins 32 = .ok (.iastore, 1) := by decide +kernel
theorem dX8_begins_17 : decode cX8_begins 17 = .ok (.aload_n 0, 1) := gg356.1
theorem dX8_begins_18 : decode cX8_begins 18 = .ok (.getfield 13, 3) := gg356.2.1
theorem dX8_begins_21 : decode cX8_begins 21 = .ok (.bipush 7, 2) := gg356.2.2.1
theorem dX8_begins_23 : decode cX8_begins 23 = .ok (.iconst 1, 1) := gg356.2.2.2.1
theorem dX8_begins_24 : decode cX8_begins 24 = .ok (.iastore, 1) := gg356.2.2.2.2.1
theorem dX8_begins_25 : decode cX8_begins 25 = .ok (.aload_n 0, 1) := gg356.2.2.2.2.2.1
theorem dX8_begins_26 : decode cX8_begins 26 = .ok (.getfield 13, 3) := gg356.2.2.2.2.2.2.1
theorem dX8_begins_29 : decode cX8_begins 29 = .ok (.bipush 8, 2) := gg356.2.2.2.2.2.2.2.1
theorem dX8_begins_31 : decode cX8_begins 31 = .ok (.iconst 1, 1) := gg356.2.2.2.2.2.2.2.2.1
theorem dX8_begins_32 : decode cX8_begins 32 = .ok (.iastore, 1) := gg356.2.2.2.2.2.2.2.2.2
theorem gg357 : decode cX8_begins 33 = .ok (.aload_n 0, 1) ∧ decode cX8_begins 34 = .ok (.getfield 13, 3) ∧ decode cX8_begins 37 = .ok (.bipush 9, 2) ∧ decode cX8_begins 39 = .ok (.iconst 2, 1) ∧ decode cX8_begins 40 = .ok (.iastore, 1) ∧ decode cX8_begins 41 = .ok (.aload_n 0, 1) ∧ decode cX8_begins 42 = .ok (.getfield 13, 3) ∧ decode cX8_begins 45 = .ok (.bipush 10, 2) ∧ decode cX8_begins 47 = .ok (.iconst 0, 1) ∧ decode cX8_begins 48 = .ok (.iastore, 1) := by decide +kernel
theorem dX8_begins_33 : decode cX8_begins 33 = .ok (.aload_n 0, 1) := gg357.1
theorem dX8_begins_34 : decode cX8_begins 34 = .ok (.getfield 13, 3) := gg357.2.1
theorem dX8_begins_37 : decode cX8_begins 37 = .ok (.bipush 9, 2) := gg357.2.2.1
theorem dX8_begins_39 : decode cX8_begins 39 = .ok (.iconst 2, 1) := gg357.2.2.2.1
theorem dX8_begins_40 : decode cX8_begins 40 = .ok (.iastore, 1) := gg357.2.2.2.2.1
theorem dX8_begins_41 : decode cX8_begins 41 = .ok (.aload_n 0, 1) := gg357.2.2.2.2.2.1
theorem dX8_begins_42 : decode cX8_begins 42 = .ok (.getfield 13, 3) := gg357.2.2.2.2.2.2.1
theorem dX8_begins_45 : decode cX8_begins 45 = .ok (.bipush 10, 2) := gg357.2.2.2.2.2.2.2.1
theorem dX8_begins_47 : decode cX8_begins 47 = .ok (.iconst 0, 1) := gg357.2.2.2.2.2.2.2.2.1
theorem dX8_begins_48 : decode cX8_begins 48 = .ok (.iastore, 1) := gg357.2.2.2.2.2.2.2.2.2
theorem gg358 : decode cX8_begins 49 = .ok (.aload_n 0, 1) ∧ decode cX8_begins 50 = .ok (.getfield 13, 3) ∧ decode cX8_begins 53 = .ok (.bipush 11, 2) ∧ decode cX8_begins 55 = .ok (.iconst 0, 1) ∧ decode cX8_begins 56 = .ok (.iastore, 1) ∧ decode cX8_begins 57 = .ok (.return_, 1) := by decide +kernel
theorem dX8_begins_49 : decode cX8_begins 49 = .ok (.aload_n 0, 1) := gg358.1
theorem dX8_begins_50 : decode cX8_begins 50 = .ok (.getfield 13, 3) := gg358.2.1
theorem dX8_begins_53 : decode cX8_begins 53 = .ok (.bipush 11, 2) := gg358.2.2.1
theorem dX8_begins_55 : decode cX8_begins 55 = .ok (.iconst 0, 1) := gg358.2.2.2.1
theorem dX8_begins_56 : decode cX8_begins 56 = .ok (.iastore, 1) := gg358.2.2.2.2.1
theorem dX8_begins_57 : decode cX8_begins 57 = .ok (.return_, 1) := gg358.2.2.2.2.2
theorem gg359 : decode cX8_takes 0 = .ok (.iconst 0, 1) ∧ decode cX8_takes 1 = .ok (.istore_n 1, 1) ∧ decode cX8_takes 2 = .ok (.iload_n 1, 1) ∧ decode cX8_takes 3 = .ok (.bipush 6, 2) ∧ decode cX8_takes 5 = .ok (.if_icmp .ge 24, 3) ∧ decode cX8_takes 8 = .ok (.aload_n 0, 1) ∧ decode cX8_takes 9 = .ok (.getfield 13, 3) ∧ decode cX8_takes 12 = .ok (.iload_n 1, 1) ∧ decode cX8_takes 13 = .ok (.aload_n 0, 1) ∧ decode cX8_takes 14 = .ok (.getfield 13, 3) := by decide +kernel
theorem dX8_takes_0 : decode cX8_takes 0 = .ok (.iconst 0, 1) := gg359.1
theorem dX8_takes_1 : decode cX8_takes 1 = .ok (.istore_n 1, 1) := gg359.2.1
theorem dX8_takes_2 : decode cX8_takes 2 = .ok (.iload_n 1, 1) := gg359.2.2.1
theorem dX8_takes_3 : decode cX8_takes 3 = .ok (.bipush 6, 2) := gg359.2.2.2.1
theorem dX8_takes_5 : decode cX8_takes 5 = .ok (.if_icmp .ge 24, 3) := gg359.2.2.2.2.1
theorem dX8_takes_8 : decode cX8_takes 8 = .ok (.aload_n 0, 1) := gg359.2.2.2.2.2.1
theorem dX8_takes_9 : decode cX8_takes 9 = .ok (.getfield 13, 3) := gg359.2.2.2.2.2.2.1
theorem dX8_takes_12 : decode cX8_takes 12 = .ok (.iload_n 1, 1) := gg359.2.2.2.2.2.2.2.1
theorem dX8_takes_13 : decode cX8_takes 13 = .ok (.aload_n 0, 1) := gg359.2.2.2.2.2.2.2.2.1
theorem dX8_takes_14 : decode cX8_takes 14 = .ok (.getfield 13, 3) := gg359.2.2.2.2.2.2.2.2.2
theorem gg360 : decode cX8_takes 17 = .ok (.bipush 6, 2) ∧ decode cX8_takes 19 = .ok (.iload_n 1, 1) ∧ decode cX8_takes 20 = .ok (.iadd, 1) ∧ decode cX8_takes 21 = .ok (.iaload, 1) ∧ decode cX8_takes 22 = .ok (.iastore, 1) ∧ decode cX8_takes 23 = .ok (.iinc 1 1, 3) ∧ decode cX8_takes 26 = .ok (.goto (-24), 3) ∧ decode cX8_takes 29 = .ok (.aload_n 0, 1) ∧ decode cX8_takes 30 = .ok (.getfield 17, 3) ∧ decode cX8_takes 33 = .ok (.iconst 0, 1) := by decide +kernel
theorem dX8_takes_17 : decode cX8_takes 17 = .ok (.bipush 6, 2) := gg360.1
theorem dX8_takes_19 : decode cX8_takes 19 = .ok (.iload_n 1, 1) := gg360.2.1
theorem dX8_takes_20 : decode cX8_takes 20 = .ok (.iadd, 1) := gg360.2.2.1
theorem dX8_takes_21 : decode cX8_takes 21 = .ok (.iaload, 1) := gg360.2.2.2.1
theorem dX8_takes_22 : decode cX8_takes 22 = .ok (.iastore, 1) := gg360.2.2.2.2.1
theorem dX8_takes_23 : decode cX8_takes 23 = .ok (.iinc 1 1, 3) := gg360.2.2.2.2.2.1
theorem dX8_takes_26 : decode cX8_takes 26 = .ok (.goto (-24), 3) := gg360.2.2.2.2.2.2.1
theorem dX8_takes_29 : decode cX8_takes 29 = .ok (.aload_n 0, 1) := gg360.2.2.2.2.2.2.2.1
theorem dX8_takes_30 : decode cX8_takes 30 = .ok (.getfield 17, 3) := gg360.2.2.2.2.2.2.2.2.1
theorem dX8_takes_33 : decode cX8_takes 33 = .ok (.iconst 0, 1) := gg360.2.2.2.2.2.2.2.2.2
theorem gg361 : decode cX8_takes 34 = .ok (.aload_n 0, 1) ∧ decode cX8_takes 35 = .ok (.getfield 17, 3) ∧ decode cX8_takes 38 = .ok (.iconst 1, 1) ∧ decode cX8_takes 39 = .ok (.iaload, 1) ∧ decode cX8_takes 40 = .ok (.iastore, 1) ∧ decode cX8_takes 41 = .ok (.iconst 0, 1) ∧ decode cX8_takes 42 = .ok (.istore_n 1, 1) ∧ decode cX8_takes 43 = .ok (.iload_n 1, 1) ∧ decode cX8_takes 44 = .ok (.bipush 30, 2) ∧ decode cX8_takes 46 = .ok (.if_icmp .ge 24, 3) := by decide +kernel
theorem dX8_takes_34 : decode cX8_takes 34 = .ok (.aload_n 0, 1) := gg361.1
theorem dX8_takes_35 : decode cX8_takes 35 = .ok (.getfield 17, 3) := gg361.2.1
theorem dX8_takes_38 : decode cX8_takes 38 = .ok (.iconst 1, 1) := gg361.2.2.1
theorem dX8_takes_39 : decode cX8_takes 39 = .ok (.iaload, 1) := gg361.2.2.2.1
theorem dX8_takes_40 : decode cX8_takes 40 = .ok (.iastore, 1) := gg361.2.2.2.2.1
theorem dX8_takes_41 : decode cX8_takes 41 = .ok (.iconst 0, 1) := gg361.2.2.2.2.2.1
theorem dX8_takes_42 : decode cX8_takes 42 = .ok (.istore_n 1, 1) := gg361.2.2.2.2.2.2.1
theorem dX8_takes_43 : decode cX8_takes 43 = .ok (.iload_n 1, 1) := gg361.2.2.2.2.2.2.2.1
theorem dX8_takes_44 : decode cX8_takes 44 = .ok (.bipush 30, 2) := gg361.2.2.2.2.2.2.2.2.1
theorem dX8_takes_46 : decode cX8_takes 46 = .ok (.if_icmp .ge 24, 3) := gg361.2.2.2.2.2.2.2.2.2
theorem gg362 : decode cX8_takes 49 = .ok (.aload_n 0, 1) ∧ decode cX8_takes 50 = .ok (.getfield 20, 3) ∧ decode cX8_takes 53 = .ok (.iload_n 1, 1) ∧ decode cX8_takes 54 = .ok (.aload_n 0, 1) ∧ decode cX8_takes 55 = .ok (.getfield 20, 3) ∧ decode cX8_takes 58 = .ok (.bipush 30, 2) ∧ decode cX8_takes 60 = .ok (.iload_n 1, 1) ∧ decode cX8_takes 61 = .ok (.iadd, 1) ∧ decode cX8_takes 62 = .ok (.iaload, 1) ∧ decode cX8_takes 63 = .ok (.iastore, 1) := by decide +kernel
theorem dX8_takes_49 : decode cX8_takes 49 = .ok (.aload_n 0, 1) := gg362.1
theorem dX8_takes_50 : decode cX8_takes 50 = .ok (.getfield 20, 3) := gg362.2.1
theorem dX8_takes_53 : decode cX8_takes 53 = .ok (.iload_n 1, 1) := gg362.2.2.1
theorem dX8_takes_54 : decode cX8_takes 54 = .ok (.aload_n 0, 1) := gg362.2.2.2.1
theorem dX8_takes_55 : decode cX8_takes 55 = .ok (.getfield 20, 3) := gg362.2.2.2.2.1
theorem dX8_takes_58 : decode cX8_takes 58 = .ok (.bipush 30, 2) := gg362.2.2.2.2.2.1
theorem dX8_takes_60 : decode cX8_takes 60 = .ok (.iload_n 1, 1) := gg362.2.2.2.2.2.2.1
theorem dX8_takes_61 : decode cX8_takes 61 = .ok (.iadd, 1) := gg362.2.2.2.2.2.2.2.1
theorem dX8_takes_62 : decode cX8_takes 62 = .ok (.iaload, 1) := gg362.2.2.2.2.2.2.2.2.1
theorem dX8_takes_63 : decode cX8_takes 63 = .ok (.iastore, 1) := gg362.2.2.2.2.2.2.2.2.2
theorem gg363 : decode cX8_takes 64 = .ok (.iinc 1 1, 3) ∧ decode cX8_takes 67 = .ok (.goto (-24), 3) ∧ decode cX8_takes 70 = .ok (.iconst 0, 1) ∧ decode cX8_takes 71 = .ok (.istore_n 1, 1) ∧ decode cX8_takes 72 = .ok (.iload_n 1, 1) ∧ decode cX8_takes 73 = .ok (.bipush 6, 2) ∧ decode cX8_takes 75 = .ok (.if_icmp .ge 25, 3) ∧ decode cX8_takes 78 = .ok (.aload_n 0, 1) ∧ decode cX8_takes 79 = .ok (.getfield 23, 3) ∧ decode cX8_takes 82 = .ok (.iload_n 1, 1) := by decide +kernel
theorem dX8_takes_64 : decode cX8_takes 64 = .ok (.iinc 1 1, 3) := gg363.1
theorem dX8_takes_67 : decode cX8_takes 67 = .ok (.goto (-24), 3) := gg363.2.1
theorem dX8_takes_70 : decode cX8_takes 70 = .ok (.iconst 0, 1) := gg363.2.2.1
theorem dX8_takes_71 : decode cX8_takes 71 = .ok (.istore_n 1, 1) := gg363.2.2.2.1
theorem dX8_takes_72 : decode cX8_takes 72 = .ok (.iload_n 1, 1) := gg363.2.2.2.2.1
theorem dX8_takes_73 : decode cX8_takes 73 = .ok (.bipush 6, 2) := gg363.2.2.2.2.2.1
theorem dX8_takes_75 : decode cX8_takes 75 = .ok (.if_icmp .ge 25, 3) := gg363.2.2.2.2.2.2.1
theorem dX8_takes_78 : decode cX8_takes 78 = .ok (.aload_n 0, 1) := gg363.2.2.2.2.2.2.2.1
theorem dX8_takes_79 : decode cX8_takes 79 = .ok (.getfield 23, 3) := gg363.2.2.2.2.2.2.2.2.1
theorem dX8_takes_82 : decode cX8_takes 82 = .ok (.iload_n 1, 1) := gg363.2.2.2.2.2.2.2.2.2
theorem gg364 : decode cX8_takes 83 = .ok (.aload_n 0, 1) ∧ decode cX8_takes 84 = .ok (.getfield 20, 3) ∧ decode cX8_takes 87 = .ok (.iconst 5, 1) ∧ decode cX8_takes 88 = .ok (.iload_n 1, 1) ∧ decode cX8_takes 89 = .ok (.imul, 1) ∧ decode cX8_takes 90 = .ok (.iconst 1, 1) ∧ decode cX8_takes 91 = .ok (.iadd, 1) ∧ decode cX8_takes 92 = .ok (.iaload, 1) ∧ decode cX8_takes 93 = .ok (.iastore, 1) ∧ decode cX8_takes 94 = .ok (.iinc 1 1, 3) := by decide +kernel
theorem dX8_takes_83 : decode cX8_takes 83 = .ok (.aload_n 0, 1) := gg364.1
theorem dX8_takes_84 : decode cX8_takes 84 = .ok (.getfield 20, 3) := gg364.2.1
theorem dX8_takes_87 : decode cX8_takes 87 = .ok (.iconst 5, 1) := gg364.2.2.1
theorem dX8_takes_88 : decode cX8_takes 88 = .ok (.iload_n 1, 1) := gg364.2.2.2.1
theorem dX8_takes_89 : decode cX8_takes 89 = .ok (.imul, 1) := gg364.2.2.2.2.1
theorem dX8_takes_90 : decode cX8_takes 90 = .ok (.iconst 1, 1) := gg364.2.2.2.2.2.1
theorem dX8_takes_91 : decode cX8_takes 91 = .ok (.iadd, 1) := gg364.2.2.2.2.2.2.1
theorem dX8_takes_92 : decode cX8_takes 92 = .ok (.iaload, 1) := gg364.2.2.2.2.2.2.2.1
theorem dX8_takes_93 : decode cX8_takes 93 = .ok (.iastore, 1) := gg364.2.2.2.2.2.2.2.2.1
theorem dX8_takes_94 : decode cX8_takes 94 = .ok (.iinc 1 1, 3) := gg364.2.2.2.2.2.2.2.2.2
theorem gg365 : decode cX8_takes 97 = .ok (.goto (-25), 3) ∧ decode cX8_takes 100 = .ok (.iconst 0, 1) ∧ decode cX8_takes 101 = .ok (.istore_n 1, 1) ∧ decode cX8_takes 102 = .ok (.iload_n 1, 1) ∧ decode cX8_takes 103 = .ok (.iconst 4, 1) ∧ decode cX8_takes 104 = .ok (.if_icmp .ge 16, 3) ∧ decode cX8_takes 107 = .ok (.aload_n 0, 1) ∧ decode cX8_takes 108 = .ok (.getfield 26, 3) ∧ decode cX8_takes 111 = .ok (.iload_n 1, 1) ∧ decode cX8_takes 112 = .ok (.lconst 0, 1) := by decide +kernel
theorem dX8_takes_97 : decode cX8_takes 97 = .ok (.goto (-25), 3) := gg365.1
theorem dX8_takes_100 : decode cX8_takes 100 = .ok (.iconst 0, 1) := gg365.2.1
theorem dX8_takes_101 : decode cX8_takes 101 = .ok (.istore_n 1, 1) := gg365.2.2.1
theorem dX8_takes_102 : decode cX8_takes 102 = .ok (.iload_n 1, 1) := gg365.2.2.2.1
theorem dX8_takes_103 : decode cX8_takes 103 = .ok (.iconst 4, 1) := gg365.2.2.2.2.1
theorem dX8_takes_104 : decode cX8_takes 104 = .ok (.if_icmp .ge 16, 3) := gg365.2.2.2.2.2.1
theorem dX8_takes_107 : decode cX8_takes 107 = .ok (.aload_n 0, 1) := gg365.2.2.2.2.2.2.1
theorem dX8_takes_108 : decode cX8_takes 108 = .ok (.getfield 26, 3) := gg365.2.2.2.2.2.2.2.1
theorem dX8_takes_111 : decode cX8_takes 111 = .ok (.iload_n 1, 1) := gg365.2.2.2.2.2.2.2.2.1
theorem dX8_takes_112 : decode cX8_takes 112 = .ok (.lconst 0, 1) := gg365.2.2.2.2.2.2.2.2.2
theorem gg366 : decode cX8_takes 113 = .ok (.lastore, 1) ∧ decode cX8_takes 114 = .ok (.iinc 1 1, 3) ∧ decode cX8_takes 117 = .ok (.goto (-15), 3) ∧ decode cX8_takes 120 = .ok (.aload_n 0, 1) ∧ decode cX8_takes 121 = .ok (.iconst 0, 1) ∧ decode cX8_takes 122 = .ok (.putfield 86, 3) ∧ decode cX8_takes 125 = .ok (.aload_n 0, 1) ∧ decode cX8_takes 126 = .ok (.iconst 0, 1) ∧ decode cX8_takes 127 = .ok (.putfield 89, 3) ∧ decode cX8_takes 130 = .ok (.aload_n 0, 1) := by decide +kernel
theorem dX8_takes_113 : decode cX8_takes 113 = .ok (.lastore, 1) := gg366.1
theorem dX8_takes_114 : decode cX8_takes 114 = .ok (.iinc 1 1, 3) := gg366.2.1
theorem dX8_takes_117 : decode cX8_takes 117 = .ok (.goto (-15), 3) := gg366.2.2.1
theorem dX8_takes_120 : decode cX8_takes 120 = .ok (.aload_n 0, 1) := gg366.2.2.2.1
theorem dX8_takes_121 : decode cX8_takes 121 = .ok (.iconst 0, 1) := gg366.2.2.2.2.1
theorem dX8_takes_122 : decode cX8_takes 122 = .ok (.putfield 86, 3) := gg366.2.2.2.2.2.1
theorem dX8_takes_125 : decode cX8_takes 125 = .ok (.aload_n 0, 1) := gg366.2.2.2.2.2.2.1
theorem dX8_takes_126 : decode cX8_takes 126 = .ok (.iconst 0, 1) := gg366.2.2.2.2.2.2.2.1
theorem dX8_takes_127 : decode cX8_takes 127 = .ok (.putfield 89, 3) := gg366.2.2.2.2.2.2.2.2.1
theorem dX8_takes_130 : decode cX8_takes 130 = .ok (.aload_n 0, 1) := gg366.2.2.2.2.2.2.2.2.2
theorem gg367 : decode cX8_takes 131 = .ok (.iconst 0, 1) ∧ decode cX8_takes 132 = .ok (.putfield 92, 3) ∧ decode cX8_takes 135 = .ok (.aload_n 0, 1) ∧ decode cX8_takes 136 = .ok (.iconst 0, 1) ∧ decode cX8_takes 137 = .ok (.putfield 95, 3) ∧ decode cX8_takes 140 = .ok (.return_, 1) := by decide +kernel
theorem dX8_takes_131 : decode cX8_takes 131 = .ok (.iconst 0, 1) := gg367.1
theorem dX8_takes_132 : decode cX8_takes 132 = .ok (.putfield 92, 3) := gg367.2.1
theorem dX8_takes_135 : decode cX8_takes 135 = .ok (.aload_n 0, 1) := gg367.2.2.1
theorem dX8_takes_136 : decode cX8_takes 136 = .ok (.iconst 0, 1) := gg367.2.2.2.1
theorem dX8_takes_137 : decode cX8_takes 137 = .ok (.putfield 95, 3) := gg367.2.2.2.2.1
theorem dX8_takes_140 : decode cX8_takes 140 = .ok (.return_, 1) := gg367.2.2.2.2.2
theorem gg368 : decode cX8_fault 0 = .ok (.aload_n 0, 1) ∧ decode cX8_fault 1 = .ok (.iconst 0, 1) ∧ decode cX8_fault 2 = .ok (.putfield 61, 3) ∧ decode cX8_fault 5 = .ok (.aload_n 0, 1) ∧ decode cX8_fault 6 = .ok (.invokevirtual 45, 3) ∧ decode cX8_fault 9 = .ok (.aload_n 0, 1) ∧ decode cX8_fault 10 = .ok (.getfield 61, 3) ∧ decode cX8_fault 13 = .ok (.aload_n 0, 1) ∧ decode cX8_fault 14 = .ok (.getfield 57, 3) ∧ decode cX8_fault 17 = .ok (.if_icmp .ge 20, 3) := by decide +kernel
theorem dX8_fault_0 : decode cX8_fault 0 = .ok (.aload_n 0, 1) := gg368.1
theorem dX8_fault_1 : decode cX8_fault 1 = .ok (.iconst 0, 1) := gg368.2.1
theorem dX8_fault_2 : decode cX8_fault 2 = .ok (.putfield 61, 3) := gg368.2.2.1
theorem dX8_fault_5 : decode cX8_fault 5 = .ok (.aload_n 0, 1) := gg368.2.2.2.1
theorem dX8_fault_6 : decode cX8_fault 6 = .ok (.invokevirtual 45, 3) := gg368.2.2.2.2.1
theorem dX8_fault_9 : decode cX8_fault 9 = .ok (.aload_n 0, 1) := gg368.2.2.2.2.2.1
theorem dX8_fault_10 : decode cX8_fault 10 = .ok (.getfield 61, 3) := gg368.2.2.2.2.2.2.1
theorem dX8_fault_13 : decode cX8_fault 13 = .ok (.aload_n 0, 1) := gg368.2.2.2.2.2.2.2.1
theorem dX8_fault_14 : decode cX8_fault 14 = .ok (.getfield 57, 3) := gg368.2.2.2.2.2.2.2.2.1
theorem dX8_fault_17 : decode cX8_fault 17 = .ok (.if_icmp .ge 20, 3) := gg368.2.2.2.2.2.2.2.2.2
theorem gg369 : decode cX8_fault 20 = .ok (.aload_n 0, 1) ∧ decode cX8_fault 21 = .ok (.getfield 61, 3) ∧ decode cX8_fault 24 = .ok (.istore_n 1, 1) ∧ decode cX8_fault 25 = .ok (.aload_n 0, 1) ∧ decode cX8_fault 26 = .ok (.invokevirtual 98, 3) ∧ decode cX8_fault 29 = .ok (.ifCond .ne 5, 3) ∧ decode cX8_fault 32 = .ok (.iload_n 1, 1) ∧ decode cX8_fault 33 = .ok (.ireturn, 1) ∧ decode cX8_fault 34 = .ok (.goto (-25), 3) ∧ decode cX8_fault 37 = .ok (.bipush (-4), 2) := by decide +kernel
theorem dX8_fault_20 : decode cX8_fault 20 = .ok (.aload_n 0, 1) := gg369.1
theorem dX8_fault_21 : decode cX8_fault 21 = .ok (.getfield 61, 3) := gg369.2.1
theorem dX8_fault_24 : decode cX8_fault 24 = .ok (.istore_n 1, 1) := gg369.2.2.1
theorem dX8_fault_25 : decode cX8_fault 25 = .ok (.aload_n 0, 1) := gg369.2.2.2.1
theorem dX8_fault_26 : decode cX8_fault 26 = .ok (.invokevirtual 98, 3) := gg369.2.2.2.2.1
theorem dX8_fault_29 : decode cX8_fault 29 = .ok (.ifCond .ne 5, 3) := gg369.2.2.2.2.2.1
theorem dX8_fault_32 : decode cX8_fault 32 = .ok (.iload_n 1, 1) := gg369.2.2.2.2.2.2.1
theorem dX8_fault_33 : decode cX8_fault 33 = .ok (.ireturn, 1) := gg369.2.2.2.2.2.2.2.1
theorem dX8_fault_34 : decode cX8_fault 34 = .ok (.goto (-25), 3) := gg369.2.2.2.2.2.2.2.2.1
theorem dX8_fault_37 : decode cX8_fault 37 = .ok (.bipush (-4), 2) := gg369.2.2.2.2.2.2.2.2.2
theorem dX8_fault_39 : decode cX8_fault 39 = .ok (.ireturn, 1) := by decide +kernel
theorem gg371 : decode cX8_lay 0 = .ok (.aload_n 0, 1) ∧ decode cX8_lay 1 = .ok (.invokevirtual 102, 3) ∧ decode cX8_lay 4 = .ok (.bipush (-4), 2) ∧ decode cX8_lay 6 = .ok (.if_icmp .ne 12, 3) ∧ decode cX8_lay 9 = .ok (.aload_n 0, 1) ∧ decode cX8_lay 10 = .ok (.getfield 17, 3) ∧ decode cX8_lay 13 = .ok (.iconst 1, 1) ∧ decode cX8_lay 14 = .ok (.iaload, 1) ∧ decode cX8_lay 15 = .ok (.ifCond .ne 6, 3) ∧ decode cX8_lay 18 = .ok (.bipush (-2), 2) := by decide +kernel
theorem dX8_lay_0 : decode cX8_lay 0 = .ok (.aload_n 0, 1) := gg371.1
theorem dX8_lay_1 : decode cX8_lay 1 = .ok (.invokevirtual 102, 3) := gg371.2.1
theorem dX8_lay_4 : decode cX8_lay 4 = .ok (.bipush (-4), 2) := gg371.2.2.1
theorem dX8_lay_6 : decode cX8_lay 6 = .ok (.if_icmp .ne 12, 3) := gg371.2.2.2.1
theorem dX8_lay_9 : decode cX8_lay 9 = .ok (.aload_n 0, 1) := gg371.2.2.2.2.1
theorem dX8_lay_10 : decode cX8_lay 10 = .ok (.getfield 17, 3) := gg371.2.2.2.2.2.1
theorem dX8_lay_13 : decode cX8_lay 13 = .ok (.iconst 1, 1) := gg371.2.2.2.2.2.2.1
theorem dX8_lay_14 : decode cX8_lay 14 = .ok (.iaload, 1) := gg371.2.2.2.2.2.2.2.1
theorem dX8_lay_15 : decode cX8_lay 15 = .ok (.ifCond .ne 6, 3) := gg371.2.2.2.2.2.2.2.2.1
theorem dX8_lay_18 : decode cX8_lay 18 = .ok (.bipush (-2), 2) := gg371.2.2.2.2.2.2.2.2.2
theorem gg372 : decode cX8_lay 20 = .ok (.ireturn, 1) ∧ decode cX8_lay 21 = .ok (.aload_n 0, 1) ∧ decode cX8_lay 22 = .ok (.invokevirtual 48, 3) ∧ decode cX8_lay 25 = .ok (.aload_n 0, 1) ∧ decode cX8_lay 26 = .ok (.getfield 17, 3) ∧ decode cX8_lay 29 = .ok (.iconst 0, 1) ∧ decode cX8_lay 30 = .ok (.iaload, 1) ∧ decode cX8_lay 31 = .ok (.ireturn, 1) := by decide +kernel
theorem dX8_lay_20 : decode cX8_lay 20 = .ok (.ireturn, 1) := gg372.1
theorem dX8_lay_21 : decode cX8_lay 21 = .ok (.aload_n 0, 1) := gg372.2.1
theorem dX8_lay_22 : decode cX8_lay 22 = .ok (.invokevirtual 48, 3) := gg372.2.2.1
theorem dX8_lay_25 : decode cX8_lay 25 = .ok (.aload_n 0, 1) := gg372.2.2.2.1
theorem dX8_lay_26 : decode cX8_lay 26 = .ok (.getfield 17, 3) := gg372.2.2.2.2.1
theorem dX8_lay_29 : decode cX8_lay 29 = .ok (.iconst 0, 1) := gg372.2.2.2.2.2.1
theorem dX8_lay_30 : decode cX8_lay 30 = .ok (.iaload, 1) := gg372.2.2.2.2.2.2.1
theorem dX8_lay_31 : decode cX8_lay 31 = .ok (.ireturn, 1) := gg372.2.2.2.2.2.2.2
theorem gg373 : decode cX8_isAct 0 = .ok (.iload_n 1, 1) ∧ decode cX8_isAct 1 = .ok (.i2l, 1) ∧ decode cX8_isAct 2 = .ok (.lconst 0, 1) ∧ decode cX8_isAct 3 = .ok (.aload_n 0, 1) ∧ decode cX8_isAct 4 = .ok (.getfield 17, 3) ∧ decode cX8_isAct 7 = .ok (.iconst 0, 1) ∧ decode cX8_isAct 8 = .ok (.iaload, 1) ∧ decode cX8_isAct 9 = .ok (.iconst 1, 1) ∧ decode cX8_isAct 10 = .ok (.isub, 1) ∧ decode cX8_isAct 11 = .ok (.i2l, 1) := by decide +kernel
theorem dX8_isAct_0 : decode cX8_isAct 0 = .ok (.iload_n 1, 1) := gg373.1
theorem dX8_isAct_1 : decode cX8_isAct 1 = .ok (.i2l, 1) := gg373.2.1
theorem dX8_isAct_2 : decode cX8_isAct 2 = .ok (.lconst 0, 1) := gg373.2.2.1
theorem dX8_isAct_3 : decode cX8_isAct 3 = .ok (.aload_n 0, 1) := gg373.2.2.2.1
theorem dX8_isAct_4 : decode cX8_isAct 4 = .ok (.getfield 17, 3) := gg373.2.2.2.2.1
theorem dX8_isAct_7 : decode cX8_isAct 7 = .ok (.iconst 0, 1) := gg373.2.2.2.2.2.1
theorem dX8_isAct_8 : decode cX8_isAct 8 = .ok (.iaload, 1) := gg373.2.2.2.2.2.2.1
theorem dX8_isAct_9 : decode cX8_isAct 9 = .ok (.iconst 1, 1) := gg373.2.2.2.2.2.2.2.1
theorem dX8_isAct_10 : decode cX8_isAct 10 = .ok (.isub, 1) := gg373.2.2.2.2.2.2.2.2.1
theorem dX8_isAct_11 : decode cX8_isAct 11 = .ok (.i2l, 1) := gg373.2.2.2.2.2.2.2.2.2
theorem gg374 : decode cX8_isAct 12 = .ok (.invokestatic 53, 3) ∧ decode cX8_isAct 15 = .ok (.ireturn, 1) := by decide +kernel
theorem dX8_isAct_12 : decode cX8_isAct 12 = .ok (.invokestatic 53, 3) := gg374.1
theorem dX8_isAct_15 : decode cX8_isAct 15 = .ok (.ireturn, 1) := gg374.2
theorem gg375 : decode cX8_isMinute 0 = .ok (.lload_n 0, 1) ∧ decode cX8_isMinute 1 = .ok (.lconst 0, 1) ∧ decode cX8_isMinute 2 = .ok (.ldc2_w 105, 3) ∧ decode cX8_isMinute 5 = .ok (.invokestatic 53, 3) ∧ decode cX8_isMinute 8 = .ok (.ireturn, 1) := by decide +kernel
theorem dX8_isMinute_0 : decode cX8_isMinute 0 = .ok (.lload_n 0, 1) := gg375.1
theorem dX8_isMinute_1 : decode cX8_isMinute 1 = .ok (.lconst 0, 1) := gg375.2.1
theorem dX8_isMinute_2 : decode cX8_isMinute 2 = .ok (.ldc2_w 105, 3) := gg375.2.2.1
theorem dX8_isMinute_5 : decode cX8_isMinute 5 = .ok (.invokestatic 53, 3) := gg375.2.2.2.1
theorem dX8_isMinute_8 : decode cX8_isMinute 8 = .ok (.ireturn, 1) := gg375.2.2.2.2
theorem gg376 : decode cX8_act 0 = .ok (.aload_n 0, 1) ∧ decode cX8_act 1 = .ok (.iload_n 1, 1) ∧ decode cX8_act 2 = .ok (.invokevirtual 107, 3) ∧ decode cX8_act 5 = .ok (.ifCond .eq 15, 3) ∧ decode cX8_act 8 = .ok (.iload_n 2, 1) ∧ decode cX8_act 9 = .ok (.i2l, 1) ∧ decode cX8_act 10 = .ok (.lconst 0, 1) ∧ decode cX8_act 11 = .ok (.ldc2_w 110, 3) ∧ decode cX8_act 14 = .ok (.invokestatic 53, 3) ∧ decode cX8_act 17 = .ok (.ifCond .ne 7, 3) := by decide +kernel
theorem dX8_act_0 : decode cX8_act 0 = .ok (.aload_n 0, 1) := gg376.1
theorem dX8_act_1 : decode cX8_act 1 = .ok (.iload_n 1, 1) := gg376.2.1
theorem dX8_act_2 : decode cX8_act 2 = .ok (.invokevirtual 107, 3) := gg376.2.2.1
theorem dX8_act_5 : decode cX8_act 5 = .ok (.ifCond .eq 15, 3) := gg376.2.2.2.1
theorem dX8_act_8 : decode cX8_act 8 = .ok (.iload_n 2, 1) := gg376.2.2.2.2.1
theorem dX8_act_9 : decode cX8_act 9 = .ok (.i2l, 1) := gg376.2.2.2.2.2.1
theorem dX8_act_10 : decode cX8_act 10 = .ok (.lconst 0, 1) := gg376.2.2.2.2.2.2.1
theorem dX8_act_11 : decode cX8_act 11 = .ok (.ldc2_w 110, 3) := gg376.2.2.2.2.2.2.2.1
theorem dX8_act_14 : decode cX8_act 14 = .ok (.invokestatic 53, 3) := gg376.2.2.2.2.2.2.2.2.1
theorem dX8_act_17 : decode cX8_act 17 = .ok (.ifCond .ne 7, 3) := gg376.2.2.2.2.2.2.2.2.2
theorem gg377 : decode cX8_act 20 = .ok (.iconst (-1), 1) ∧ decode cX8_act 21 = .ok (.goto 27, 3) ∧ decode cX8_act 24 = .ok (.iload_n 2, 1) ∧ decode cX8_act 25 = .ok (.iconst 1, 1) ∧ decode cX8_act 26 = .ok (.if_icmp .ne 12, 3) ∧ decode cX8_act 29 = .ok (.aload_n 0, 1) ∧ decode cX8_act 30 = .ok (.getfield 23, 3) ∧ decode cX8_act 33 = .ok (.iload_n 1, 1) ∧ decode cX8_act 34 = .ok (.iaload, 1) ∧ decode cX8_act 35 = .ok (.goto 13, 3) := by decide +kernel
theorem dX8_act_20 : decode cX8_act 20 = .ok (.iconst (-1), 1) := gg377.1
theorem dX8_act_21 : decode cX8_act 21 = .ok (.goto 27, 3) := gg377.2.1
theorem dX8_act_24 : decode cX8_act 24 = .ok (.iload_n 2, 1) := gg377.2.2.1
theorem dX8_act_25 : decode cX8_act 25 = .ok (.iconst 1, 1) := gg377.2.2.2.1
theorem dX8_act_26 : decode cX8_act 26 = .ok (.if_icmp .ne 12, 3) := gg377.2.2.2.2.1
theorem dX8_act_29 : decode cX8_act 29 = .ok (.aload_n 0, 1) := gg377.2.2.2.2.2.1
theorem dX8_act_30 : decode cX8_act 30 = .ok (.getfield 23, 3) := gg377.2.2.2.2.2.2.1
theorem dX8_act_33 : decode cX8_act 33 = .ok (.iload_n 1, 1) := gg377.2.2.2.2.2.2.2.1
theorem dX8_act_34 : decode cX8_act 34 = .ok (.iaload, 1) := gg377.2.2.2.2.2.2.2.2.1
theorem dX8_act_35 : decode cX8_act 35 = .ok (.goto 13, 3) := gg377.2.2.2.2.2.2.2.2.2
theorem gg378 : decode cX8_act 38 = .ok (.aload_n 0, 1) ∧ decode cX8_act 39 = .ok (.getfield 20, 3) ∧ decode cX8_act 42 = .ok (.iconst 5, 1) ∧ decode cX8_act 43 = .ok (.iload_n 1, 1) ∧ decode cX8_act 44 = .ok (.imul, 1) ∧ decode cX8_act 45 = .ok (.iload_n 2, 1) ∧ decode cX8_act 46 = .ok (.iadd, 1) ∧ decode cX8_act 47 = .ok (.iaload, 1) ∧ decode cX8_act 48 = .ok (.ireturn, 1) := by decide +kernel
theorem dX8_act_38 : decode cX8_act 38 = .ok (.aload_n 0, 1) := gg378.1
theorem dX8_act_39 : decode cX8_act 39 = .ok (.getfield 20, 3) := gg378.2.1
theorem dX8_act_42 : decode cX8_act 42 = .ok (.iconst 5, 1) := gg378.2.2.1
theorem dX8_act_43 : decode cX8_act 43 = .ok (.iload_n 1, 1) := gg378.2.2.2.1
theorem dX8_act_44 : decode cX8_act 44 = .ok (.imul, 1) := gg378.2.2.2.2.1
theorem dX8_act_45 : decode cX8_act 45 = .ok (.iload_n 2, 1) := gg378.2.2.2.2.2.1
theorem dX8_act_46 : decode cX8_act 46 = .ok (.iadd, 1) := gg378.2.2.2.2.2.2.1
theorem dX8_act_47 : decode cX8_act 47 = .ok (.iaload, 1) := gg378.2.2.2.2.2.2.2.1
theorem dX8_act_48 : decode cX8_act 48 = .ok (.ireturn, 1) := gg378.2.2.2.2.2.2.2.2
theorem gg379 : decode cX8_year 0 = .ok (.iload_n 1, 1) ∧ decode cX8_year 1 = .ok (.i2l, 1) ∧ decode cX8_year 2 = .ok (.lconst 0, 1) ∧ decode cX8_year 3 = .ok (.ldc2_w 112, 3) ∧ decode cX8_year 6 = .ok (.invokestatic 53, 3) ∧ decode cX8_year 9 = .ok (.ifCond .ne 5, 3) ∧ decode cX8_year 12 = .ok (.iconst (-1), 1) ∧ decode cX8_year 13 = .ok (.ireturn, 1) ∧ decode cX8_year 14 = .ok (.aload_n 0, 1) ∧ decode cX8_year 15 = .ok (.getfield 26, 3) := by decide +kernel
theorem dX8_year_0 : decode cX8_year 0 = .ok (.iload_n 1, 1) := gg379.1
theorem dX8_year_1 : decode cX8_year 1 = .ok (.i2l, 1) := gg379.2.1
theorem dX8_year_2 : decode cX8_year 2 = .ok (.lconst 0, 1) := gg379.2.2.1
theorem dX8_year_3 : decode cX8_year 3 = .ok (.ldc2_w 112, 3) := gg379.2.2.2.1
theorem dX8_year_6 : decode cX8_year 6 = .ok (.invokestatic 53, 3) := gg379.2.2.2.2.1
theorem dX8_year_9 : decode cX8_year 9 = .ok (.ifCond .ne 5, 3) := gg379.2.2.2.2.2.1
theorem dX8_year_12 : decode cX8_year 12 = .ok (.iconst (-1), 1) := gg379.2.2.2.2.2.2.1
theorem dX8_year_13 : decode cX8_year 13 = .ok (.ireturn, 1) := gg379.2.2.2.2.2.2.2.1
theorem dX8_year_14 : decode cX8_year 14 = .ok (.aload_n 0, 1) := gg379.2.2.2.2.2.2.2.2.1
theorem dX8_year_15 : decode cX8_year 15 = .ok (.getfield 26, 3) := gg379.2.2.2.2.2.2.2.2.2
theorem gg380 : decode cX8_year 18 = .ok (.iconst 1, 1) ∧ decode cX8_year 19 = .ok (.laload, 1) ∧ decode cX8_year 20 = .ok (.l2i, 1) ∧ decode cX8_year 21 = .ok (.istore_n 2, 1) ∧ decode cX8_year 22 = .ok (.aload_n 0, 1) ∧ decode cX8_year 23 = .ok (.getfield 26, 3) ∧ decode cX8_year 26 = .ok (.iconst 1, 1) ∧ decode cX8_year 27 = .ok (.iload_n 1, 1) ∧ decode cX8_year 28 = .ok (.i2l, 1) ∧ decode cX8_year 29 = .ok (.lastore, 1) := by decide +kernel
theorem dX8_year_18 : decode cX8_year 18 = .ok (.iconst 1, 1) := gg380.1
theorem dX8_year_19 : decode cX8_year 19 = .ok (.laload, 1) := gg380.2.1
theorem dX8_year_20 : decode cX8_year 20 = .ok (.l2i, 1) := gg380.2.2.1
theorem dX8_year_21 : decode cX8_year 21 = .ok (.istore_n 2, 1) := gg380.2.2.2.1
theorem dX8_year_22 : decode cX8_year 22 = .ok (.aload_n 0, 1) := gg380.2.2.2.2.1
theorem dX8_year_23 : decode cX8_year 23 = .ok (.getfield 26, 3) := gg380.2.2.2.2.2.1
theorem dX8_year_26 : decode cX8_year 26 = .ok (.iconst 1, 1) := gg380.2.2.2.2.2.2.1
theorem dX8_year_27 : decode cX8_year 27 = .ok (.iload_n 1, 1) := gg380.2.2.2.2.2.2.2.1
theorem dX8_year_28 : decode cX8_year 28 = .ok (.i2l, 1) := gg380.2.2.2.2.2.2.2.2.1
theorem dX8_year_29 : decode cX8_year 29 = .ok (.lastore, 1) := gg380.2.2.2.2.2.2.2.2.2
theorem gg381 : decode cX8_year 30 = .ok (.iload_n 2, 1) ∧ decode cX8_year 31 = .ok (.ireturn, 1) := by decide +kernel
theorem dX8_year_30 : decode cX8_year 30 = .ok (.iload_n 2, 1) := gg381.1
theorem dX8_year_31 : decode cX8_year 31 = .ok (.ireturn, 1) := gg381.2
theorem gg382 : decode cX8_ruler 0 = .ok (.aload_n 0, 1) ∧ decode cX8_ruler 1 = .ok (.getfield 13, 3) ∧ decode cX8_ruler 4 = .ok (.iconst 1, 1) ∧ decode cX8_ruler 5 = .ok (.iaload, 1) ∧ decode cX8_ruler 6 = .ok (.aload_n 0, 1) ∧ decode cX8_ruler 7 = .ok (.getfield 13, 3) ∧ decode cX8_ruler 10 = .ok (.iconst 3, 1) ∧ decode cX8_ruler 11 = .ok (.iaload, 1) ∧ decode cX8_ruler 12 = .ok (.imul, 1) ∧ decode cX8_ruler 13 = .ok (.i2l, 1) := by decide +kernel
theorem dX8_ruler_0 : decode cX8_ruler 0 = .ok (.aload_n 0, 1) := gg382.1
theorem dX8_ruler_1 : decode cX8_ruler 1 = .ok (.getfield 13, 3) := gg382.2.1
theorem dX8_ruler_4 : decode cX8_ruler 4 = .ok (.iconst 1, 1) := gg382.2.2.1
theorem dX8_ruler_5 : decode cX8_ruler 5 = .ok (.iaload, 1) := gg382.2.2.2.1
theorem dX8_ruler_6 : decode cX8_ruler 6 = .ok (.aload_n 0, 1) := gg382.2.2.2.2.1
theorem dX8_ruler_7 : decode cX8_ruler 7 = .ok (.getfield 13, 3) := gg382.2.2.2.2.2.1
theorem dX8_ruler_10 : decode cX8_ruler 10 = .ok (.iconst 3, 1) := gg382.2.2.2.2.2.2.1
theorem dX8_ruler_11 : decode cX8_ruler 11 = .ok (.iaload, 1) := gg382.2.2.2.2.2.2.2.1
theorem dX8_ruler_12 : decode cX8_ruler 12 = .ok (.imul, 1) := gg382.2.2.2.2.2.2.2.2.1
theorem dX8_ruler_13 : decode cX8_ruler 13 = .ok (.i2l, 1) := gg382.2.2.2.2.2.2.2.2.2
theorem gg383 : decode cX8_ruler 14 = .ok (.lstore_n 3, 1) ∧ decode cX8_ruler 15 = .ok (.aload_n 0, 1) ∧ decode cX8_ruler 16 = .ok (.getfield 13, 3) ∧ decode cX8_ruler 19 = .ok (.iconst 0, 1) ∧ decode cX8_ruler 20 = .ok (.iaload, 1) ∧ decode cX8_ruler 21 = .ok (.aload_n 0, 1) ∧ decode cX8_ruler 22 = .ok (.getfield 13, 3) ∧ decode cX8_ruler 25 = .ok (.iconst 3, 1) ∧ decode cX8_ruler 26 = .ok (.iaload, 1) ∧ decode cX8_ruler 27 = .ok (.imul, 1) := by decide +kernel
theorem dX8_ruler_14 : decode cX8_ruler 14 = .ok (.lstore_n 3, 1) := gg383.1
theorem dX8_ruler_15 : decode cX8_ruler 15 = .ok (.aload_n 0, 1) := gg383.2.1
theorem dX8_ruler_16 : decode cX8_ruler 16 = .ok (.getfield 13, 3) := gg383.2.2.1
theorem dX8_ruler_19 : decode cX8_ruler 19 = .ok (.iconst 0, 1) := gg383.2.2.2.1
theorem dX8_ruler_20 : decode cX8_ruler 20 = .ok (.iaload, 1) := gg383.2.2.2.2.1
theorem dX8_ruler_21 : decode cX8_ruler 21 = .ok (.aload_n 0, 1) := gg383.2.2.2.2.2.1
theorem dX8_ruler_22 : decode cX8_ruler 22 = .ok (.getfield 13, 3) := gg383.2.2.2.2.2.2.1
theorem dX8_ruler_25 : decode cX8_ruler 25 = .ok (.iconst 3, 1) := gg383.2.2.2.2.2.2.2.1
theorem dX8_ruler_26 : decode cX8_ruler 26 = .ok (.iaload, 1) := gg383.2.2.2.2.2.2.2.2.1
theorem dX8_ruler_27 : decode cX8_ruler 27 = .ok (.imul, 1) := gg383.2.2.2.2.2.2.2.2.2
theorem gg384 : decode cX8_ruler 28 = .ok (.i2l, 1) ∧ decode cX8_ruler 29 = .ok (.lstore 5, 2) ∧ decode cX8_ruler 31 = .ok (.aload_n 0, 1) ∧ decode cX8_ruler 32 = .ok (.getfield 13, 3) ∧ decode cX8_ruler 35 = .ok (.iconst 0, 1) ∧ decode cX8_ruler 36 = .ok (.iaload, 1) ∧ decode cX8_ruler 37 = .ok (.aload_n 0, 1) ∧ decode cX8_ruler 38 = .ok (.getfield 13, 3) ∧ decode cX8_ruler 41 = .ok (.iconst 2, 1) ∧ decode cX8_ruler 42 = .ok (.iaload, 1) := by decide +kernel
theorem dX8_ruler_28 : decode cX8_ruler 28 = .ok (.i2l, 1) := gg384.1
theorem dX8_ruler_29 : decode cX8_ruler 29 = .ok (.lstore 5, 2) := gg384.2.1
theorem dX8_ruler_31 : decode cX8_ruler 31 = .ok (.aload_n 0, 1) := gg384.2.2.1
theorem dX8_ruler_32 : decode cX8_ruler 32 = .ok (.getfield 13, 3) := gg384.2.2.2.1
theorem dX8_ruler_35 : decode cX8_ruler 35 = .ok (.iconst 0, 1) := gg384.2.2.2.2.1
theorem dX8_ruler_36 : decode cX8_ruler 36 = .ok (.iaload, 1) := gg384.2.2.2.2.2.1
theorem dX8_ruler_37 : decode cX8_ruler 37 = .ok (.aload_n 0, 1) := gg384.2.2.2.2.2.2.1
theorem dX8_ruler_38 : decode cX8_ruler 38 = .ok (.getfield 13, 3) := gg384.2.2.2.2.2.2.2.1
theorem dX8_ruler_41 : decode cX8_ruler 41 = .ok (.iconst 2, 1) := gg384.2.2.2.2.2.2.2.2.1
theorem dX8_ruler_42 : decode cX8_ruler 42 = .ok (.iaload, 1) := gg384.2.2.2.2.2.2.2.2.2
theorem gg385 : decode cX8_ruler 43 = .ok (.imul, 1) ∧ decode cX8_ruler 44 = .ok (.i2l, 1) ∧ decode cX8_ruler 45 = .ok (.lstore 7, 2) ∧ decode cX8_ruler 47 = .ok (.lload_n 1, 1) ∧ decode cX8_ruler 48 = .ok (.aload_n 0, 1) ∧ decode cX8_ruler 49 = .ok (.getfield 13, 3) ∧ decode cX8_ruler 52 = .ok (.iconst 4, 1) ∧ decode cX8_ruler 53 = .ok (.iaload, 1) ∧ decode cX8_ruler 54 = .ok (.i2l, 1) ∧ decode cX8_ruler 55 = .ok (.lsub, 1) := by decide +kernel
theorem dX8_ruler_43 : decode cX8_ruler 43 = .ok (.imul, 1) := gg385.1
theorem dX8_ruler_44 : decode cX8_ruler 44 = .ok (.i2l, 1) := gg385.2.1
theorem dX8_ruler_45 : decode cX8_ruler 45 = .ok (.lstore 7, 2) := gg385.2.2.1
theorem dX8_ruler_47 : decode cX8_ruler 47 = .ok (.lload_n 1, 1) := gg385.2.2.2.1
theorem dX8_ruler_48 : decode cX8_ruler 48 = .ok (.aload_n 0, 1) := gg385.2.2.2.2.1
theorem dX8_ruler_49 : decode cX8_ruler 49 = .ok (.getfield 13, 3) := gg385.2.2.2.2.2.1
theorem dX8_ruler_52 : decode cX8_ruler 52 = .ok (.iconst 4, 1) := gg385.2.2.2.2.2.2.1
theorem dX8_ruler_53 : decode cX8_ruler 53 = .ok (.iaload, 1) := gg385.2.2.2.2.2.2.2.1
theorem dX8_ruler_54 : decode cX8_ruler 54 = .ok (.i2l, 1) := gg385.2.2.2.2.2.2.2.2.1
theorem dX8_ruler_55 : decode cX8_ruler 55 = .ok (.lsub, 1) := gg385.2.2.2.2.2.2.2.2.2
theorem gg386 : decode cX8_ruler 56 = .ok (.aload_n 0, 1) ∧ decode cX8_ruler 57 = .ok (.getfield 13, 3) ∧ decode cX8_ruler 60 = .ok (.iconst 5, 1) ∧ decode cX8_ruler 61 = .ok (.iaload, 1) ∧ decode cX8_ruler 62 = .ok (.i2l, 1) ∧ decode cX8_ruler 63 = .ok (.aload_n 0, 1) ∧ decode cX8_ruler 64 = .ok (.getfield 26, 3) ∧ decode cX8_ruler 67 = .ok (.iconst 1, 1) ∧ decode cX8_ruler 68 = .ok (.laload, 1) ∧ decode cX8_ruler 69 = .ok (.lmul, 1) := by decide +kernel
theorem dX8_ruler_56 : decode cX8_ruler 56 = .ok (.aload_n 0, 1) := gg386.1
theorem dX8_ruler_57 : decode cX8_ruler 57 = .ok (.getfield 13, 3) := gg386.2.1
theorem dX8_ruler_60 : decode cX8_ruler 60 = .ok (.iconst 5, 1) := gg386.2.2.1
theorem dX8_ruler_61 : decode cX8_ruler 61 = .ok (.iaload, 1) := gg386.2.2.2.1
theorem dX8_ruler_62 : decode cX8_ruler 62 = .ok (.i2l, 1) := gg386.2.2.2.2.1
theorem dX8_ruler_63 : decode cX8_ruler 63 = .ok (.aload_n 0, 1) := gg386.2.2.2.2.2.1
theorem dX8_ruler_64 : decode cX8_ruler 64 = .ok (.getfield 26, 3) := gg386.2.2.2.2.2.2.1
theorem dX8_ruler_67 : decode cX8_ruler 67 = .ok (.iconst 1, 1) := gg386.2.2.2.2.2.2.2.1
theorem dX8_ruler_68 : decode cX8_ruler 68 = .ok (.laload, 1) := gg386.2.2.2.2.2.2.2.2.1
theorem dX8_ruler_69 : decode cX8_ruler 69 = .ok (.lmul, 1) := gg386.2.2.2.2.2.2.2.2.2
theorem gg387 : decode cX8_ruler 70 = .ok (.lsub, 1) ∧ decode cX8_ruler 71 = .ok (.lload_n 3, 1) ∧ decode cX8_ruler 72 = .ok (.lmul, 1) ∧ decode cX8_ruler 73 = .ok (.lload 5, 2) ∧ decode cX8_ruler 75 = .ok (.lrem, 1) ∧ decode cX8_ruler 76 = .ok (.lstore 9, 2) ∧ decode cX8_ruler 78 = .ok (.lload 9, 2) ∧ decode cX8_ruler 80 = .ok (.lconst 0, 1) ∧ decode cX8_ruler 81 = .ok (.lcmp, 1) ∧ decode cX8_ruler 82 = .ok (.ifCond .ge 11, 3) := by decide +kernel
theorem dX8_ruler_70 : decode cX8_ruler 70 = .ok (.lsub, 1) := gg387.1
theorem dX8_ruler_71 : decode cX8_ruler 71 = .ok (.lload_n 3, 1) := gg387.2.1
theorem dX8_ruler_72 : decode cX8_ruler 72 = .ok (.lmul, 1) := gg387.2.2.1
theorem dX8_ruler_73 : decode cX8_ruler 73 = .ok (.lload 5, 2) := gg387.2.2.2.1
theorem dX8_ruler_75 : decode cX8_ruler 75 = .ok (.lrem, 1) := gg387.2.2.2.2.1
theorem dX8_ruler_76 : decode cX8_ruler 76 = .ok (.lstore 9, 2) := gg387.2.2.2.2.2.1
theorem dX8_ruler_78 : decode cX8_ruler 78 = .ok (.lload 9, 2) := gg387.2.2.2.2.2.2.1
theorem dX8_ruler_80 : decode cX8_ruler 80 = .ok (.lconst 0, 1) := gg387.2.2.2.2.2.2.2.1
theorem dX8_ruler_81 : decode cX8_ruler 81 = .ok (.lcmp, 1) := gg387.2.2.2.2.2.2.2.2.1
theorem dX8_ruler_82 : decode cX8_ruler 82 = .ok (.ifCond .ge 11, 3) := gg387.2.2.2.2.2.2.2.2.2
theorem gg388 : decode cX8_ruler 85 = .ok (.lload 9, 2) ∧ decode cX8_ruler 87 = .ok (.lload 5, 2) ∧ decode cX8_ruler 89 = .ok (.ladd, 1) ∧ decode cX8_ruler 90 = .ok (.goto 5, 3) ∧ decode cX8_ruler 93 = .ok (.lload 9, 2) ∧ decode cX8_ruler 95 = .ok (.lstore 9, 2) ∧ decode cX8_ruler 97 = .ok (.lload 9, 2) ∧ decode cX8_ruler 99 = .ok (.lconst 0, 1) ∧ decode cX8_ruler 100 = .ok (.lcmp, 1) ∧ decode cX8_ruler 101 = .ok (.ifCond .eq 31, 3) := by decide +kernel
theorem dX8_ruler_85 : decode cX8_ruler 85 = .ok (.lload 9, 2) := gg388.1
theorem dX8_ruler_87 : decode cX8_ruler 87 = .ok (.lload 5, 2) := gg388.2.1
theorem dX8_ruler_89 : decode cX8_ruler 89 = .ok (.ladd, 1) := gg388.2.2.1
theorem dX8_ruler_90 : decode cX8_ruler 90 = .ok (.goto 5, 3) := gg388.2.2.2.1
theorem dX8_ruler_93 : decode cX8_ruler 93 = .ok (.lload 9, 2) := gg388.2.2.2.2.1
theorem dX8_ruler_95 : decode cX8_ruler 95 = .ok (.lstore 9, 2) := gg388.2.2.2.2.2.1
theorem dX8_ruler_97 : decode cX8_ruler 97 = .ok (.lload 9, 2) := gg388.2.2.2.2.2.2.1
theorem dX8_ruler_99 : decode cX8_ruler 99 = .ok (.lconst 0, 1) := gg388.2.2.2.2.2.2.2.1
theorem dX8_ruler_100 : decode cX8_ruler 100 = .ok (.lcmp, 1) := gg388.2.2.2.2.2.2.2.2.1
theorem dX8_ruler_101 : decode cX8_ruler 101 = .ok (.ifCond .eq 31, 3) := gg388.2.2.2.2.2.2.2.2.2
theorem gg389 : decode cX8_ruler 104 = .ok (.lload 5, 2) ∧ decode cX8_ruler 106 = .ok (.lload 9, 2) ∧ decode cX8_ruler 108 = .ok (.lsub, 1) ∧ decode cX8_ruler 109 = .ok (.lload_n 3, 1) ∧ decode cX8_ruler 110 = .ok (.lcmp, 1) ∧ decode cX8_ruler 111 = .ok (.ifCond .lt 21, 3) ∧ decode cX8_ruler 114 = .ok (.lload 9, 2) ∧ decode cX8_ruler 116 = .ok (.lload 7, 2) ∧ decode cX8_ruler 118 = .ok (.lcmp, 1) ∧ decode cX8_ruler 119 = .ok (.ifCond .gt 15, 3) := by decide +kernel
theorem dX8_ruler_104 : decode cX8_ruler 104 = .ok (.lload 5, 2) := gg389.1
theorem dX8_ruler_106 : decode cX8_ruler 106 = .ok (.lload 9, 2) := gg389.2.1
theorem dX8_ruler_108 : decode cX8_ruler 108 = .ok (.lsub, 1) := gg389.2.2.1
theorem dX8_ruler_109 : decode cX8_ruler 109 = .ok (.lload_n 3, 1) := gg389.2.2.2.1
theorem dX8_ruler_110 : decode cX8_ruler 110 = .ok (.lcmp, 1) := gg389.2.2.2.2.1
theorem dX8_ruler_111 : decode cX8_ruler 111 = .ok (.ifCond .lt 21, 3) := gg389.2.2.2.2.2.1
theorem dX8_ruler_114 : decode cX8_ruler 114 = .ok (.lload 9, 2) := gg389.2.2.2.2.2.2.1
theorem dX8_ruler_116 : decode cX8_ruler 116 = .ok (.lload 7, 2) := gg389.2.2.2.2.2.2.2.1
theorem dX8_ruler_118 : decode cX8_ruler 118 = .ok (.lcmp, 1) := gg389.2.2.2.2.2.2.2.2.1
theorem dX8_ruler_119 : decode cX8_ruler 119 = .ok (.ifCond .gt 15, 3) := gg389.2.2.2.2.2.2.2.2.2
theorem gg390 : decode cX8_ruler 122 = .ok (.lload 7, 2) ∧ decode cX8_ruler 124 = .ok (.lload 9, 2) ∧ decode cX8_ruler 126 = .ok (.lsub, 1) ∧ decode cX8_ruler 127 = .ok (.lload_n 3, 1) ∧ decode cX8_ruler 128 = .ok (.lcmp, 1) ∧ decode cX8_ruler 129 = .ok (.ifCond .ge 5, 3) ∧ decode cX8_ruler 132 = .ok (.iconst 2, 1) ∧ decode cX8_ruler 133 = .ok (.ireturn, 1) ∧ decode cX8_ruler 134 = .ok (.lload 9, 2) ∧ decode cX8_ruler 136 = .ok (.lload 7, 2) := by decide +kernel
theorem dX8_ruler_122 : decode cX8_ruler 122 = .ok (.lload 7, 2) := gg390.1
theorem dX8_ruler_124 : decode cX8_ruler 124 = .ok (.lload 9, 2) := gg390.2.1
theorem dX8_ruler_126 : decode cX8_ruler 126 = .ok (.lsub, 1) := gg390.2.2.1
theorem dX8_ruler_127 : decode cX8_ruler 127 = .ok (.lload_n 3, 1) := gg390.2.2.2.1
theorem dX8_ruler_128 : decode cX8_ruler 128 = .ok (.lcmp, 1) := gg390.2.2.2.2.1
theorem dX8_ruler_129 : decode cX8_ruler 129 = .ok (.ifCond .ge 5, 3) := gg390.2.2.2.2.2.1
theorem dX8_ruler_132 : decode cX8_ruler 132 = .ok (.iconst 2, 1) := gg390.2.2.2.2.2.2.1
theorem dX8_ruler_133 : decode cX8_ruler 133 = .ok (.ireturn, 1) := gg390.2.2.2.2.2.2.2.1
theorem dX8_ruler_134 : decode cX8_ruler 134 = .ok (.lload 9, 2) := gg390.2.2.2.2.2.2.2.2.1
theorem dX8_ruler_136 : decode cX8_ruler 136 = .ok (.lload 7, 2) := gg390.2.2.2.2.2.2.2.2.2
theorem gg391 : decode cX8_ruler 138 = .ok (.lcmp, 1) ∧ decode cX8_ruler 139 = .ok (.ifCond .ge 7, 3) ∧ decode cX8_ruler 142 = .ok (.iconst 0, 1) ∧ decode cX8_ruler 143 = .ok (.goto 4, 3) ∧ decode cX8_ruler 146 = .ok (.iconst 1, 1) ∧ decode cX8_ruler 147 = .ok (.ireturn, 1) := by decide +kernel
theorem dX8_ruler_138 : decode cX8_ruler 138 = .ok (.lcmp, 1) := gg391.1
theorem dX8_ruler_139 : decode cX8_ruler 139 = .ok (.ifCond .ge 7, 3) := gg391.2.1
theorem dX8_ruler_142 : decode cX8_ruler 142 = .ok (.iconst 0, 1) := gg391.2.2.1
theorem dX8_ruler_143 : decode cX8_ruler 143 = .ok (.goto 4, 3) := gg391.2.2.2.1
theorem dX8_ruler_146 : decode cX8_ruler 146 = .ok (.iconst 1, 1) := gg391.2.2.2.2.1
theorem dX8_ruler_147 : decode cX8_ruler 147 = .ok (.ireturn, 1) := gg391.2.2.2.2.2
theorem gg392 : decode cX8_rules 0 = .ok (.lload_n 1, 1) ∧ decode cX8_rules 1 = .ok (.invokestatic 114, 3) ∧ decode cX8_rules 4 = .ok (.ifCond .eq 11, 3) ∧ decode cX8_rules 7 = .ok (.aload_n 0, 1) ∧ decode cX8_rules 8 = .ok (.lload_n 1, 1) ∧ decode cX8_rules 9 = .ok (.invokevirtual 118, 3) ∧ decode cX8_rules 12 = .ok (.goto 4, 3) ∧ decode cX8_rules 15 = .ok (.iconst (-1), 1) ∧ decode cX8_rules 16 = .ok (.ireturn, 1) := by decide +kernel
theorem dX8_rules_0 : decode cX8_rules 0 = .ok (.lload_n 1, 1) := gg392.1
theorem dX8_rules_1 : decode cX8_rules 1 = .ok (.invokestatic 114, 3) := gg392.2.1
theorem dX8_rules_4 : decode cX8_rules 4 = .ok (.ifCond .eq 11, 3) := gg392.2.2.1
theorem dX8_rules_7 : decode cX8_rules 7 = .ok (.aload_n 0, 1) := gg392.2.2.2.1
theorem dX8_rules_8 : decode cX8_rules 8 = .ok (.lload_n 1, 1) := gg392.2.2.2.2.1
theorem dX8_rules_9 : decode cX8_rules 9 = .ok (.invokevirtual 118, 3) := gg392.2.2.2.2.2.1
theorem dX8_rules_12 : decode cX8_rules 12 = .ok (.goto 4, 3) := gg392.2.2.2.2.2.2.1
theorem dX8_rules_15 : decode cX8_rules 15 = .ok (.iconst (-1), 1) := gg392.2.2.2.2.2.2.2.1
theorem dX8_rules_16 : decode cX8_rules 16 = .ok (.ireturn, 1) := gg392.2.2.2.2.2.2.2.2
theorem gg393 : decode cX8_counted 0 = .ok (.iconst 0, 1) ∧ decode cX8_counted 1 = .ok (.istore 5, 2) ∧ decode cX8_counted 3 = .ok (.iconst 0, 1) ∧ decode cX8_counted 4 = .ok (.istore 6, 2) ∧ decode cX8_counted 6 = .ok (.iload 6, 2) ∧ decode cX8_counted 8 = .ok (.iload_n 3, 1) ∧ decode cX8_counted 9 = .ok (.if_icmp .ge 33, 3) ∧ decode cX8_counted 12 = .ok (.iload 5, 2) ∧ decode cX8_counted 14 = .ok (.aload_n 0, 1) ∧ decode cX8_counted 15 = .ok (.lload_n 1, 1) := by decide +kernel
theorem dX8_counted_0 : decode cX8_counted 0 = .ok (.iconst 0, 1) := gg393.1
theorem dX8_counted_1 : decode cX8_counted 1 = .ok (.istore 5, 2) := gg393.2.1
theorem dX8_counted_3 : decode cX8_counted 3 = .ok (.iconst 0, 1) := gg393.2.2.1
theorem dX8_counted_4 : decode cX8_counted 4 = .ok (.istore 6, 2) := gg393.2.2.2.1
theorem dX8_counted_6 : decode cX8_counted 6 = .ok (.iload 6, 2) := gg393.2.2.2.2.1
theorem dX8_counted_8 : decode cX8_counted 8 = .ok (.iload_n 3, 1) := gg393.2.2.2.2.2.1
theorem dX8_counted_9 : decode cX8_counted 9 = .ok (.if_icmp .ge 33, 3) := gg393.2.2.2.2.2.2.1
theorem dX8_counted_12 : decode cX8_counted 12 = .ok (.iload 5, 2) := gg393.2.2.2.2.2.2.2.1
theorem dX8_counted_14 : decode cX8_counted 14 = .ok (.aload_n 0, 1) := gg393.2.2.2.2.2.2.2.2.1
theorem dX8_counted_15 : decode cX8_counted 15 = .ok (.lload_n 1, 1) := gg393.2.2.2.2.2.2.2.2.2
theorem gg394 : decode cX8_counted 16 = .ok (.iload 6, 2) ∧ decode cX8_counted 18 = .ok (.i2l, 1) ∧ decode cX8_counted 19 = .ok (.ladd, 1) ∧ decode cX8_counted 20 = .ok (.invokevirtual 118, 3) ∧ decode cX8_counted 23 = .ok (.iload 4, 2) ∧ decode cX8_counted 25 = .ok (.if_icmp .ne 7, 3) ∧ decode cX8_counted 28 = .ok (.iconst 1, 1) ∧ decode cX8_counted 29 = .ok (.goto 4, 3) ∧ decode cX8_counted 32 = .ok (.iconst 0, 1) ∧ decode cX8_counted 33 = .ok (.iadd, 1) := by decide +kernel
theorem dX8_counted_16 : decode cX8_counted 16 = .ok (.iload 6, 2) := gg394.1
theorem dX8_counted_18 : decode cX8_counted 18 = .ok (.i2l, 1) := gg394.2.1
theorem dX8_counted_19 : decode cX8_counted 19 = .ok (.ladd, 1) := gg394.2.2.1
theorem dX8_counted_20 : decode cX8_counted 20 = .ok (.invokevirtual 118, 3) := gg394.2.2.2.1
theorem dX8_counted_23 : decode cX8_counted 23 = .ok (.iload 4, 2) := gg394.2.2.2.2.1
theorem dX8_counted_25 : decode cX8_counted 25 = .ok (.if_icmp .ne 7, 3) := gg394.2.2.2.2.2.1
theorem dX8_counted_28 : decode cX8_counted 28 = .ok (.iconst 1, 1) := gg394.2.2.2.2.2.2.1
theorem dX8_counted_29 : decode cX8_counted 29 = .ok (.goto 4, 3) := gg394.2.2.2.2.2.2.2.1
theorem dX8_counted_32 : decode cX8_counted 32 = .ok (.iconst 0, 1) := gg394.2.2.2.2.2.2.2.2.1
theorem dX8_counted_33 : decode cX8_counted 33 = .ok (.iadd, 1) := gg394.2.2.2.2.2.2.2.2.2
theorem gg395 : decode cX8_counted 34 = .ok (.istore 5, 2) ∧ decode cX8_counted 36 = .ok (.iinc 6 1, 3) ∧ decode cX8_counted 39 = .ok (.goto (-33), 3) ∧ decode cX8_counted 42 = .ok (.iload 5, 2) ∧ decode cX8_counted 44 = .ok (.ireturn, 1) := by decide +kernel
theorem dX8_counted_34 : decode cX8_counted 34 = .ok (.istore 5, 2) := gg395.1
theorem dX8_counted_36 : decode cX8_counted 36 = .ok (.iinc 6 1, 3) := gg395.2.1
theorem dX8_counted_39 : decode cX8_counted 39 = .ok (.goto (-33), 3) := gg395.2.2.1
theorem dX8_counted_42 : decode cX8_counted 42 = .ok (.iload 5, 2) := gg395.2.2.2.1
theorem dX8_counted_44 : decode cX8_counted 44 = .ok (.ireturn, 1) := gg395.2.2.2.2
theorem gg396 : decode cX8_minutes 0 = .ok (.lload_n 1, 1) ∧ decode cX8_minutes 1 = .ok (.invokestatic 114, 3) ∧ decode cX8_minutes 4 = .ok (.ifCond .eq 39, 3) ∧ decode cX8_minutes 7 = .ok (.iload_n 3, 1) ∧ decode cX8_minutes 8 = .ok (.i2l, 1) ∧ decode cX8_minutes 9 = .ok (.lconst 0, 1) ∧ decode cX8_minutes 10 = .ok (.ldc2_w 122, 3) ∧ decode cX8_minutes 13 = .ok (.invokestatic 53, 3) ∧ decode cX8_minutes 16 = .ok (.ifCond .eq 27, 3) ∧ decode cX8_minutes 19 = .ok (.iload 4, 2) := by decide +kernel
theorem dX8_minutes_0 : decode cX8_minutes 0 = .ok (.lload_n 1, 1) := gg396.1
theorem dX8_minutes_1 : decode cX8_minutes 1 = .ok (.invokestatic 114, 3) := gg396.2.1
theorem dX8_minutes_4 : decode cX8_minutes 4 = .ok (.ifCond .eq 39, 3) := gg396.2.2.1
theorem dX8_minutes_7 : decode cX8_minutes 7 = .ok (.iload_n 3, 1) := gg396.2.2.2.1
theorem dX8_minutes_8 : decode cX8_minutes 8 = .ok (.i2l, 1) := gg396.2.2.2.2.1
theorem dX8_minutes_9 : decode cX8_minutes 9 = .ok (.lconst 0, 1) := gg396.2.2.2.2.2.1
theorem dX8_minutes_10 : decode cX8_minutes 10 = .ok (.ldc2_w 122, 3) := gg396.2.2.2.2.2.2.1
theorem dX8_minutes_13 : decode cX8_minutes 13 = .ok (.invokestatic 53, 3) := gg396.2.2.2.2.2.2.2.1
theorem dX8_minutes_16 : decode cX8_minutes 16 = .ok (.ifCond .eq 27, 3) := gg396.2.2.2.2.2.2.2.2.1
theorem dX8_minutes_19 : decode cX8_minutes 19 = .ok (.iload 4, 2) := gg396.2.2.2.2.2.2.2.2.2
theorem gg397 : decode cX8_minutes 21 = .ok (.i2l, 1) ∧ decode cX8_minutes 22 = .ok (.lconst 0, 1) ∧ decode cX8_minutes 23 = .ok (.ldc2_w 124, 3) ∧ decode cX8_minutes 26 = .ok (.invokestatic 53, 3) ∧ decode cX8_minutes 29 = .ok (.ifCond .eq 14, 3) ∧ decode cX8_minutes 32 = .ok (.aload_n 0, 1) ∧ decode cX8_minutes 33 = .ok (.lload_n 1, 1) ∧ decode cX8_minutes 34 = .ok (.iload_n 3, 1) ∧ decode cX8_minutes 35 = .ok (.iload 4, 2) ∧ decode cX8_minutes 37 = .ok (.invokevirtual 126, 3) := by decide +kernel
theorem dX8_minutes_21 : decode cX8_minutes 21 = .ok (.i2l, 1) := gg397.1
theorem dX8_minutes_22 : decode cX8_minutes 22 = .ok (.lconst 0, 1) := gg397.2.1
theorem dX8_minutes_23 : decode cX8_minutes 23 = .ok (.ldc2_w 124, 3) := gg397.2.2.1
theorem dX8_minutes_26 : decode cX8_minutes 26 = .ok (.invokestatic 53, 3) := gg397.2.2.2.1
theorem dX8_minutes_29 : decode cX8_minutes 29 = .ok (.ifCond .eq 14, 3) := gg397.2.2.2.2.1
theorem dX8_minutes_32 : decode cX8_minutes 32 = .ok (.aload_n 0, 1) := gg397.2.2.2.2.2.1
theorem dX8_minutes_33 : decode cX8_minutes 33 = .ok (.lload_n 1, 1) := gg397.2.2.2.2.2.2.1
theorem dX8_minutes_34 : decode cX8_minutes 34 = .ok (.iload_n 3, 1) := gg397.2.2.2.2.2.2.2.1
theorem dX8_minutes_35 : decode cX8_minutes 35 = .ok (.iload 4, 2) := gg397.2.2.2.2.2.2.2.2.1
theorem dX8_minutes_37 : decode cX8_minutes 37 = .ok (.invokevirtual 126, 3) := gg397.2.2.2.2.2.2.2.2.2
theorem gg398 : decode cX8_minutes 40 = .ok (.goto 4, 3) ∧ decode cX8_minutes 43 = .ok (.iconst (-1), 1) ∧ decode cX8_minutes 44 = .ok (.ireturn, 1) := by decide +kernel
theorem dX8_minutes_40 : decode cX8_minutes 40 = .ok (.goto 4, 3) := gg398.1
theorem dX8_minutes_43 : decode cX8_minutes 43 = .ok (.iconst (-1), 1) := gg398.2.1
theorem dX8_minutes_44 : decode cX8_minutes 44 = .ok (.ireturn, 1) := gg398.2.2
theorem gg399 : decode cX8_next 0 = .ok (.lload_n 1, 1) ∧ decode cX8_next 1 = .ok (.invokestatic 114, 3) ∧ decode cX8_next 4 = .ok (.ifCond .eq 15, 3) ∧ decode cX8_next 7 = .ok (.iload_n 3, 1) ∧ decode cX8_next 8 = .ok (.i2l, 1) ∧ decode cX8_next 9 = .ok (.lconst 0, 1) ∧ decode cX8_next 10 = .ok (.ldc2_w 124, 3) ∧ decode cX8_next 13 = .ok (.invokestatic 53, 3) ∧ decode cX8_next 16 = .ok (.ifCond .ne 7, 3) ∧ decode cX8_next 19 = .ok (.ldc2_w 130, 3) := by decide +kernel
theorem dX8_next_0 : decode cX8_next 0 = .ok (.lload_n 1, 1) := gg399.1
theorem dX8_next_1 : decode cX8_next 1 = .ok (.invokestatic 114, 3) := gg399.2.1
theorem dX8_next_4 : decode cX8_next 4 = .ok (.ifCond .eq 15, 3) := gg399.2.2.1
theorem dX8_next_7 : decode cX8_next 7 = .ok (.iload_n 3, 1) := gg399.2.2.2.1
theorem dX8_next_8 : decode cX8_next 8 = .ok (.i2l, 1) := gg399.2.2.2.2.1
theorem dX8_next_9 : decode cX8_next 9 = .ok (.lconst 0, 1) := gg399.2.2.2.2.2.1
theorem dX8_next_10 : decode cX8_next 10 = .ok (.ldc2_w 124, 3) := gg399.2.2.2.2.2.2.1
theorem dX8_next_13 : decode cX8_next 13 = .ok (.invokestatic 53, 3) := gg399.2.2.2.2.2.2.2.1
theorem dX8_next_16 : decode cX8_next 16 = .ok (.ifCond .ne 7, 3) := gg399.2.2.2.2.2.2.2.2.1
theorem dX8_next_19 : decode cX8_next 19 = .ok (.ldc2_w 130, 3) := gg399.2.2.2.2.2.2.2.2.2
theorem gg400 : decode cX8_next 22 = .ok (.lreturn, 1) ∧ decode cX8_next 23 = .ok (.lload_n 1, 1) ∧ decode cX8_next 24 = .ok (.lstore 4, 2) ∧ decode cX8_next 26 = .ok (.lload 4, 2) ∧ decode cX8_next 28 = .ok (.lload_n 1, 1) ∧ decode cX8_next 29 = .ok (.ldc2_w 132, 3) ∧ decode cX8_next 32 = .ok (.ladd, 1) ∧ decode cX8_next 33 = .ok (.lcmp, 1) ∧ decode cX8_next 34 = .ok (.ifCond .gt 25, 3) ∧ decode cX8_next 37 = .ok (.aload_n 0, 1) := by decide +kernel
theorem dX8_next_22 : decode cX8_next 22 = .ok (.lreturn, 1) := gg400.1
theorem dX8_next_23 : decode cX8_next 23 = .ok (.lload_n 1, 1) := gg400.2.1
theorem dX8_next_24 : decode cX8_next 24 = .ok (.lstore 4, 2) := gg400.2.2.1
theorem dX8_next_26 : decode cX8_next 26 = .ok (.lload 4, 2) := gg400.2.2.2.1
theorem dX8_next_28 : decode cX8_next 28 = .ok (.lload_n 1, 1) := gg400.2.2.2.2.1
theorem dX8_next_29 : decode cX8_next 29 = .ok (.ldc2_w 132, 3) := gg400.2.2.2.2.2.1
theorem dX8_next_32 : decode cX8_next 32 = .ok (.ladd, 1) := gg400.2.2.2.2.2.2.1
theorem dX8_next_33 : decode cX8_next 33 = .ok (.lcmp, 1) := gg400.2.2.2.2.2.2.2.1
theorem dX8_next_34 : decode cX8_next 34 = .ok (.ifCond .gt 25, 3) := gg400.2.2.2.2.2.2.2.2.1
theorem dX8_next_37 : decode cX8_next 37 = .ok (.aload_n 0, 1) := gg400.2.2.2.2.2.2.2.2.2
theorem gg401 : decode cX8_next 38 = .ok (.lload 4, 2) ∧ decode cX8_next 40 = .ok (.invokevirtual 118, 3) ∧ decode cX8_next 43 = .ok (.iload_n 3, 1) ∧ decode cX8_next 44 = .ok (.if_icmp .ne 6, 3) ∧ decode cX8_next 47 = .ok (.lload 4, 2) ∧ decode cX8_next 49 = .ok (.lreturn, 1) ∧ decode cX8_next 50 = .ok (.lload 4, 2) ∧ decode cX8_next 52 = .ok (.lconst 1, 1) ∧ decode cX8_next 53 = .ok (.ladd, 1) ∧ decode cX8_next 54 = .ok (.lstore 4, 2) := by decide +kernel
theorem dX8_next_38 : decode cX8_next 38 = .ok (.lload 4, 2) := gg401.1
theorem dX8_next_40 : decode cX8_next 40 = .ok (.invokevirtual 118, 3) := gg401.2.1
theorem dX8_next_43 : decode cX8_next 43 = .ok (.iload_n 3, 1) := gg401.2.2.1
theorem dX8_next_44 : decode cX8_next 44 = .ok (.if_icmp .ne 6, 3) := gg401.2.2.2.1
theorem dX8_next_47 : decode cX8_next 47 = .ok (.lload 4, 2) := gg401.2.2.2.2.1
theorem dX8_next_49 : decode cX8_next 49 = .ok (.lreturn, 1) := gg401.2.2.2.2.2.1
theorem dX8_next_50 : decode cX8_next 50 = .ok (.lload 4, 2) := gg401.2.2.2.2.2.2.1
theorem dX8_next_52 : decode cX8_next 52 = .ok (.lconst 1, 1) := gg401.2.2.2.2.2.2.2.1
theorem dX8_next_53 : decode cX8_next 53 = .ok (.ladd, 1) := gg401.2.2.2.2.2.2.2.2.1
theorem dX8_next_54 : decode cX8_next 54 = .ok (.lstore 4, 2) := gg401.2.2.2.2.2.2.2.2.2
theorem gg402 : decode cX8_next 56 = .ok (.goto (-30), 3) ∧ decode cX8_next 59 = .ok (.ldc2_w 134, 3) ∧ decode cX8_next 62 = .ok (.lreturn, 1) := by decide +kernel
theorem dX8_next_56 : decode cX8_next 56 = .ok (.goto (-30), 3) := gg402.1
theorem dX8_next_59 : decode cX8_next 59 = .ok (.ldc2_w 134, 3) := gg402.2.1
theorem dX8_next_62 : decode cX8_next 62 = .ok (.lreturn, 1) := gg402.2.2
theorem gg403 : decode cX8_isKings 0 = .ok (.aload_n 0, 1) ∧ decode cX8_isKings 1 = .ok (.lload_n 2, 1) ∧ decode cX8_isKings 2 = .ok (.invokevirtual 118, 3) ∧ decode cX8_isKings 5 = .ok (.istore 4, 2) ∧ decode cX8_isKings 7 = .ok (.iload 4, 2) ∧ decode cX8_isKings 9 = .ok (.iconst 2, 1) ∧ decode cX8_isKings 10 = .ok (.if_icmp .ge 22, 3) ∧ decode cX8_isKings 13 = .ok (.aload_n 0, 1) ∧ decode cX8_isKings 14 = .ok (.getfield 23, 3) ∧ decode cX8_isKings 17 = .ok (.iload_n 1, 1) := by decide +kernel
theorem dX8_isKings_0 : decode cX8_isKings 0 = .ok (.aload_n 0, 1) := gg403.1
theorem dX8_isKings_1 : decode cX8_isKings 1 = .ok (.lload_n 2, 1) := gg403.2.1
theorem dX8_isKings_2 : decode cX8_isKings 2 = .ok (.invokevirtual 118, 3) := gg403.2.2.1
theorem dX8_isKings_5 : decode cX8_isKings 5 = .ok (.istore 4, 2) := gg403.2.2.2.1
theorem dX8_isKings_7 : decode cX8_isKings 7 = .ok (.iload 4, 2) := gg403.2.2.2.2.1
theorem dX8_isKings_9 : decode cX8_isKings 9 = .ok (.iconst 2, 1) := gg403.2.2.2.2.2.1
theorem dX8_isKings_10 : decode cX8_isKings 10 = .ok (.if_icmp .ge 22, 3) := gg403.2.2.2.2.2.2.1
theorem dX8_isKings_13 : decode cX8_isKings 13 = .ok (.aload_n 0, 1) := gg403.2.2.2.2.2.2.2.1
theorem dX8_isKings_14 : decode cX8_isKings 14 = .ok (.getfield 23, 3) := gg403.2.2.2.2.2.2.2.2.1
theorem dX8_isKings_17 : decode cX8_isKings 17 = .ok (.iload_n 1, 1) := gg403.2.2.2.2.2.2.2.2.2
theorem gg404 : decode cX8_isKings 18 = .ok (.iaload, 1) ∧ decode cX8_isKings 19 = .ok (.iload 4, 2) ∧ decode cX8_isKings 21 = .ok (.ishr, 1) ∧ decode cX8_isKings 22 = .ok (.iconst 1, 1) ∧ decode cX8_isKings 23 = .ok (.iand, 1) ∧ decode cX8_isKings 24 = .ok (.iconst 1, 1) ∧ decode cX8_isKings 25 = .ok (.if_icmp .ne 7, 3) ∧ decode cX8_isKings 28 = .ok (.iconst 1, 1) ∧ decode cX8_isKings 29 = .ok (.goto 4, 3) ∧ decode cX8_isKings 32 = .ok (.iconst 0, 1) := by decide +kernel
theorem dX8_isKings_18 : decode cX8_isKings 18 = .ok (.iaload, 1) := gg404.1
theorem dX8_isKings_19 : decode cX8_isKings 19 = .ok (.iload 4, 2) := gg404.2.1
theorem dX8_isKings_21 : decode cX8_isKings 21 = .ok (.ishr, 1) := gg404.2.2.1
theorem dX8_isKings_22 : decode cX8_isKings 22 = .ok (.iconst 1, 1) := gg404.2.2.2.1
theorem dX8_isKings_23 : decode cX8_isKings 23 = .ok (.iand, 1) := gg404.2.2.2.2.1
theorem dX8_isKings_24 : decode cX8_isKings 24 = .ok (.iconst 1, 1) := gg404.2.2.2.2.2.1
theorem dX8_isKings_25 : decode cX8_isKings 25 = .ok (.if_icmp .ne 7, 3) := gg404.2.2.2.2.2.2.1
theorem dX8_isKings_28 : decode cX8_isKings 28 = .ok (.iconst 1, 1) := gg404.2.2.2.2.2.2.2.1
theorem dX8_isKings_29 : decode cX8_isKings 29 = .ok (.goto 4, 3) := gg404.2.2.2.2.2.2.2.2.1
theorem dX8_isKings_32 : decode cX8_isKings 32 = .ok (.iconst 0, 1) := gg404.2.2.2.2.2.2.2.2.2
theorem dX8_isKings_33 : decode cX8_isKings 33 = .ok (.ireturn, 1) := by decide +kernel
theorem gg406 : decode cX8_isLawful 0 = .ok (.aload_n 0, 1) ∧ decode cX8_isLawful 1 = .ok (.getfield 20, 3) ∧ decode cX8_isLawful 4 = .ok (.iconst 5, 1) ∧ decode cX8_isLawful 5 = .ok (.iload_n 1, 1) ∧ decode cX8_isLawful 6 = .ok (.imul, 1) ∧ decode cX8_isLawful 7 = .ok (.iconst 0, 1) ∧ decode cX8_isLawful 8 = .ok (.iadd, 1) ∧ decode cX8_isLawful 9 = .ok (.iaload, 1) ∧ decode cX8_isLawful 10 = .ok (.istore 4, 2) ∧ decode cX8_isLawful 12 = .ok (.iload 4, 2) := by decide +kernel
theorem dX8_isLawful_0 : decode cX8_isLawful 0 = .ok (.aload_n 0, 1) := gg406.1
theorem dX8_isLawful_1 : decode cX8_isLawful 1 = .ok (.getfield 20, 3) := gg406.2.1
theorem dX8_isLawful_4 : decode cX8_isLawful 4 = .ok (.iconst 5, 1) := gg406.2.2.1
theorem dX8_isLawful_5 : decode cX8_isLawful 5 = .ok (.iload_n 1, 1) := gg406.2.2.2.1
theorem dX8_isLawful_6 : decode cX8_isLawful 6 = .ok (.imul, 1) := gg406.2.2.2.2.1
theorem dX8_isLawful_7 : decode cX8_isLawful 7 = .ok (.iconst 0, 1) := gg406.2.2.2.2.2.1
theorem dX8_isLawful_8 : decode cX8_isLawful 8 = .ok (.iadd, 1) := gg406.2.2.2.2.2.2.1
theorem dX8_isLawful_9 : decode cX8_isLawful 9 = .ok (.iaload, 1) := gg406.2.2.2.2.2.2.2.1
theorem dX8_isLawful_10 : decode cX8_isLawful 10 = .ok (.istore 4, 2) := gg406.2.2.2.2.2.2.2.2.1
theorem dX8_isLawful_12 : decode cX8_isLawful 12 = .ok (.iload 4, 2) := gg406.2.2.2.2.2.2.2.2.2
theorem gg407 : decode cX8_isLawful 14 = .ok (.iconst 3, 1) ∧ decode cX8_isLawful 15 = .ok (.if_icmp .ne 28, 3) ∧ decode cX8_isLawful 18 = .ok (.aload_n 0, 1) ∧ decode cX8_isLawful 19 = .ok (.getfield 23, 3) ∧ decode cX8_isLawful 22 = .ok (.iload_n 1, 1) ∧ decode cX8_isLawful 23 = .ok (.iaload, 1) ∧ decode cX8_isLawful 24 = .ok (.iconst 3, 1) ∧ decode cX8_isLawful 25 = .ok (.if_icmp .ne 16, 3) ∧ decode cX8_isLawful 28 = .ok (.aload_n 0, 1) ∧ decode cX8_isLawful 29 = .ok (.lload_n 2, 1) := by decide +kernel
theorem dX8_isLawful_14 : decode cX8_isLawful 14 = .ok (.iconst 3, 1) := gg407.1
theorem dX8_isLawful_15 : decode cX8_isLawful 15 = .ok (.if_icmp .ne 28, 3) := gg407.2.1
theorem dX8_isLawful_18 : decode cX8_isLawful 18 = .ok (.aload_n 0, 1) := gg407.2.2.1
theorem dX8_isLawful_19 : decode cX8_isLawful 19 = .ok (.getfield 23, 3) := gg407.2.2.2.1
theorem dX8_isLawful_22 : decode cX8_isLawful 22 = .ok (.iload_n 1, 1) := gg407.2.2.2.2.1
theorem dX8_isLawful_23 : decode cX8_isLawful 23 = .ok (.iaload, 1) := gg407.2.2.2.2.2.1
theorem dX8_isLawful_24 : decode cX8_isLawful 24 = .ok (.iconst 3, 1) := gg407.2.2.2.2.2.2.1
theorem dX8_isLawful_25 : decode cX8_isLawful 25 = .ok (.if_icmp .ne 16, 3) := gg407.2.2.2.2.2.2.2.1
theorem dX8_isLawful_28 : decode cX8_isLawful 28 = .ok (.aload_n 0, 1) := gg407.2.2.2.2.2.2.2.2.1
theorem dX8_isLawful_29 : decode cX8_isLawful 29 = .ok (.lload_n 2, 1) := gg407.2.2.2.2.2.2.2.2.2
theorem gg408 : decode cX8_isLawful 30 = .ok (.invokevirtual 118, 3) ∧ decode cX8_isLawful 33 = .ok (.iconst 2, 1) ∧ decode cX8_isLawful 34 = .ok (.if_icmp .ge 7, 3) ∧ decode cX8_isLawful 37 = .ok (.iconst 1, 1) ∧ decode cX8_isLawful 38 = .ok (.goto 4, 3) ∧ decode cX8_isLawful 41 = .ok (.iconst 0, 1) ∧ decode cX8_isLawful 42 = .ok (.ireturn, 1) ∧ decode cX8_isLawful 43 = .ok (.iload 4, 2) ∧ decode cX8_isLawful 45 = .ok (.iconst 4, 1) ∧ decode cX8_isLawful 46 = .ok (.if_icmp .ne 27, 3) := by decide +kernel
theorem dX8_isLawful_30 : decode cX8_isLawful 30 = .ok (.invokevirtual 118, 3) := gg408.1
theorem dX8_isLawful_33 : decode cX8_isLawful 33 = .ok (.iconst 2, 1) := gg408.2.1
theorem dX8_isLawful_34 : decode cX8_isLawful 34 = .ok (.if_icmp .ge 7, 3) := gg408.2.2.1
theorem dX8_isLawful_37 : decode cX8_isLawful 37 = .ok (.iconst 1, 1) := gg408.2.2.2.1
theorem dX8_isLawful_38 : decode cX8_isLawful 38 = .ok (.goto 4, 3) := gg408.2.2.2.2.1
theorem dX8_isLawful_41 : decode cX8_isLawful 41 = .ok (.iconst 0, 1) := gg408.2.2.2.2.2.1
theorem dX8_isLawful_42 : decode cX8_isLawful 42 = .ok (.ireturn, 1) := gg408.2.2.2.2.2.2.1
theorem dX8_isLawful_43 : decode cX8_isLawful 43 = .ok (.iload 4, 2) := gg408.2.2.2.2.2.2.2.1
theorem dX8_isLawful_45 : decode cX8_isLawful 45 = .ok (.iconst 4, 1) := gg408.2.2.2.2.2.2.2.2.1
theorem dX8_isLawful_46 : decode cX8_isLawful 46 = .ok (.if_icmp .ne 27, 3) := gg408.2.2.2.2.2.2.2.2.2
theorem gg409 : decode cX8_isLawful 49 = .ok (.aload_n 0, 1) ∧ decode cX8_isLawful 50 = .ok (.getfield 23, 3) ∧ decode cX8_isLawful 53 = .ok (.iload_n 1, 1) ∧ decode cX8_isLawful 54 = .ok (.iaload, 1) ∧ decode cX8_isLawful 55 = .ok (.ifCond .le 16, 3) ∧ decode cX8_isLawful 58 = .ok (.aload_n 0, 1) ∧ decode cX8_isLawful 59 = .ok (.lload_n 2, 1) ∧ decode cX8_isLawful 60 = .ok (.invokevirtual 118, 3) ∧ decode cX8_isLawful 63 = .ok (.iconst 2, 1) ∧ decode cX8_isLawful 64 = .ok (.if_icmp .ne 7, 3) := by decide +kernel
theorem dX8_isLawful_49 : decode cX8_isLawful 49 = .ok (.aload_n 0, 1) := gg409.1
theorem dX8_isLawful_50 : decode cX8_isLawful 50 = .ok (.getfield 23, 3) := gg409.2.1
theorem dX8_isLawful_53 : decode cX8_isLawful 53 = .ok (.iload_n 1, 1) := gg409.2.2.1
theorem dX8_isLawful_54 : decode cX8_isLawful 54 = .ok (.iaload, 1) := gg409.2.2.2.1
theorem dX8_isLawful_55 : decode cX8_isLawful 55 = .ok (.ifCond .le 16, 3) := gg409.2.2.2.2.1
theorem dX8_isLawful_58 : decode cX8_isLawful 58 = .ok (.aload_n 0, 1) := gg409.2.2.2.2.2.1
theorem dX8_isLawful_59 : decode cX8_isLawful 59 = .ok (.lload_n 2, 1) := gg409.2.2.2.2.2.2.1
theorem dX8_isLawful_60 : decode cX8_isLawful 60 = .ok (.invokevirtual 118, 3) := gg409.2.2.2.2.2.2.2.1
theorem dX8_isLawful_63 : decode cX8_isLawful 63 = .ok (.iconst 2, 1) := gg409.2.2.2.2.2.2.2.2.1
theorem dX8_isLawful_64 : decode cX8_isLawful 64 = .ok (.if_icmp .ne 7, 3) := gg409.2.2.2.2.2.2.2.2.2
theorem gg410 : decode cX8_isLawful 67 = .ok (.iconst 1, 1) ∧ decode cX8_isLawful 68 = .ok (.goto 4, 3) ∧ decode cX8_isLawful 71 = .ok (.iconst 0, 1) ∧ decode cX8_isLawful 72 = .ok (.ireturn, 1) ∧ decode cX8_isLawful 73 = .ok (.iconst 1, 1) ∧ decode cX8_isLawful 74 = .ok (.istore 5, 2) ∧ decode cX8_isLawful 76 = .ok (.iconst 0, 1) ∧ decode cX8_isLawful 77 = .ok (.istore 6, 2) ∧ decode cX8_isLawful 79 = .ok (.iload 6, 2) ∧ decode cX8_isLawful 81 = .ok (.iload 4, 2) := by decide +kernel
theorem dX8_isLawful_67 : decode cX8_isLawful 67 = .ok (.iconst 1, 1) := gg410.1
theorem dX8_isLawful_68 : decode cX8_isLawful 68 = .ok (.goto 4, 3) := gg410.2.1
theorem dX8_isLawful_71 : decode cX8_isLawful 71 = .ok (.iconst 0, 1) := gg410.2.2.1
theorem dX8_isLawful_72 : decode cX8_isLawful 72 = .ok (.ireturn, 1) := gg410.2.2.2.1
theorem dX8_isLawful_73 : decode cX8_isLawful 73 = .ok (.iconst 1, 1) := gg410.2.2.2.2.1
theorem dX8_isLawful_74 : decode cX8_isLawful 74 = .ok (.istore 5, 2) := gg410.2.2.2.2.2.1
theorem dX8_isLawful_76 : decode cX8_isLawful 76 = .ok (.iconst 0, 1) := gg410.2.2.2.2.2.2.1
theorem dX8_isLawful_77 : decode cX8_isLawful 77 = .ok (.istore 6, 2) := gg410.2.2.2.2.2.2.2.1
theorem dX8_isLawful_79 : decode cX8_isLawful 79 = .ok (.iload 6, 2) := gg410.2.2.2.2.2.2.2.2.1
theorem dX8_isLawful_81 : decode cX8_isLawful 81 = .ok (.iload 4, 2) := gg410.2.2.2.2.2.2.2.2.2
theorem gg411 : decode cX8_isLawful 83 = .ok (.iconst 1, 1) ∧ decode cX8_isLawful 84 = .ok (.if_icmp .ne 16, 3) ∧ decode cX8_isLawful 87 = .ok (.aload_n 0, 1) ∧ decode cX8_isLawful 88 = .ok (.getfield 20, 3) ∧ decode cX8_isLawful 91 = .ok (.iconst 5, 1) ∧ decode cX8_isLawful 92 = .ok (.iload_n 1, 1) ∧ decode cX8_isLawful 93 = .ok (.imul, 1) ∧ decode cX8_isLawful 94 = .ok (.iconst 2, 1) ∧ decode cX8_isLawful 95 = .ok (.iadd, 1) ∧ decode cX8_isLawful 96 = .ok (.iaload, 1) := by decide +kernel
theorem dX8_isLawful_83 : decode cX8_isLawful 83 = .ok (.iconst 1, 1) := gg411.1
theorem dX8_isLawful_84 : decode cX8_isLawful 84 = .ok (.if_icmp .ne 16, 3) := gg411.2.1
theorem dX8_isLawful_87 : decode cX8_isLawful 87 = .ok (.aload_n 0, 1) := gg411.2.2.1
theorem dX8_isLawful_88 : decode cX8_isLawful 88 = .ok (.getfield 20, 3) := gg411.2.2.2.1
theorem dX8_isLawful_91 : decode cX8_isLawful 91 = .ok (.iconst 5, 1) := gg411.2.2.2.2.1
theorem dX8_isLawful_92 : decode cX8_isLawful 92 = .ok (.iload_n 1, 1) := gg411.2.2.2.2.2.1
theorem dX8_isLawful_93 : decode cX8_isLawful 93 = .ok (.imul, 1) := gg411.2.2.2.2.2.2.1
theorem dX8_isLawful_94 : decode cX8_isLawful 94 = .ok (.iconst 2, 1) := gg411.2.2.2.2.2.2.2.1
theorem dX8_isLawful_95 : decode cX8_isLawful 95 = .ok (.iadd, 1) := gg411.2.2.2.2.2.2.2.2.1
theorem dX8_isLawful_96 : decode cX8_isLawful 96 = .ok (.iaload, 1) := gg411.2.2.2.2.2.2.2.2.2
theorem gg412 : decode cX8_isLawful 97 = .ok (.goto 4, 3) ∧ decode cX8_isLawful 100 = .ok (.iconst 1, 1) ∧ decode cX8_isLawful 101 = .ok (.if_icmp .ge 26, 3) ∧ decode cX8_isLawful 104 = .ok (.iload 5, 2) ∧ decode cX8_isLawful 106 = .ok (.ifCond .eq 21, 3) ∧ decode cX8_isLawful 109 = .ok (.aload_n 0, 1) ∧ decode cX8_isLawful 110 = .ok (.iload_n 1, 1) ∧ decode cX8_isLawful 111 = .ok (.lload_n 2, 1) ∧ decode cX8_isLawful 112 = .ok (.iload 6, 2) ∧ decode cX8_isLawful 114 = .ok (.i2l, 1) := by decide +kernel
theorem dX8_isLawful_97 : decode cX8_isLawful 97 = .ok (.goto 4, 3) := gg412.1
theorem dX8_isLawful_100 : decode cX8_isLawful 100 = .ok (.iconst 1, 1) := gg412.2.1
theorem dX8_isLawful_101 : decode cX8_isLawful 101 = .ok (.if_icmp .ge 26, 3) := gg412.2.2.1
theorem dX8_isLawful_104 : decode cX8_isLawful 104 = .ok (.iload 5, 2) := gg412.2.2.2.1
theorem dX8_isLawful_106 : decode cX8_isLawful 106 = .ok (.ifCond .eq 21, 3) := gg412.2.2.2.2.1
theorem dX8_isLawful_109 : decode cX8_isLawful 109 = .ok (.aload_n 0, 1) := gg412.2.2.2.2.2.1
theorem dX8_isLawful_110 : decode cX8_isLawful 110 = .ok (.iload_n 1, 1) := gg412.2.2.2.2.2.2.1
theorem dX8_isLawful_111 : decode cX8_isLawful 111 = .ok (.lload_n 2, 1) := gg412.2.2.2.2.2.2.2.1
theorem dX8_isLawful_112 : decode cX8_isLawful 112 = .ok (.iload 6, 2) := gg412.2.2.2.2.2.2.2.2.1
theorem dX8_isLawful_114 : decode cX8_isLawful 114 = .ok (.i2l, 1) := gg412.2.2.2.2.2.2.2.2.2
theorem gg413 : decode cX8_isLawful 115 = .ok (.ladd, 1) ∧ decode cX8_isLawful 116 = .ok (.invokevirtual 136, 3) ∧ decode cX8_isLawful 119 = .ok (.istore 5, 2) ∧ decode cX8_isLawful 121 = .ok (.iinc 6 1, 3) ∧ decode cX8_isLawful 124 = .ok (.goto (-45), 3) ∧ decode cX8_isLawful 127 = .ok (.iload 5, 2) ∧ decode cX8_isLawful 129 = .ok (.ireturn, 1) := by decide +kernel
theorem dX8_isLawful_115 : decode cX8_isLawful 115 = .ok (.ladd, 1) := gg413.1
theorem dX8_isLawful_116 : decode cX8_isLawful 116 = .ok (.invokevirtual 136, 3) := gg413.2.1
theorem dX8_isLawful_119 : decode cX8_isLawful 119 = .ok (.istore 5, 2) := gg413.2.2.1
theorem dX8_isLawful_121 : decode cX8_isLawful 121 = .ok (.iinc 6 1, 3) := gg413.2.2.2.1
theorem dX8_isLawful_124 : decode cX8_isLawful 124 = .ok (.goto (-45), 3) := gg413.2.2.2.2.1
theorem dX8_isLawful_127 : decode cX8_isLawful 127 = .ok (.iload 5, 2) := gg413.2.2.2.2.2.1
theorem dX8_isLawful_129 : decode cX8_isLawful 129 = .ok (.ireturn, 1) := gg413.2.2.2.2.2.2
theorem gg414 : decode cX8_lawful 0 = .ok (.aload_n 0, 1) ∧ decode cX8_lawful 1 = .ok (.iload_n 1, 1) ∧ decode cX8_lawful 2 = .ok (.invokevirtual 107, 3) ∧ decode cX8_lawful 5 = .ok (.ifCond .eq 10, 3) ∧ decode cX8_lawful 8 = .ok (.lload_n 2, 1) ∧ decode cX8_lawful 9 = .ok (.invokestatic 114, 3) ∧ decode cX8_lawful 12 = .ok (.ifCond .ne 7, 3) ∧ decode cX8_lawful 15 = .ok (.iconst (-1), 1) ∧ decode cX8_lawful 16 = .ok (.goto 17, 3) ∧ decode cX8_lawful 19 = .ok (.aload_n 0, 1) := by decide +kernel
theorem dX8_lawful_0 : decode cX8_lawful 0 = .ok (.aload_n 0, 1) := gg414.1
theorem dX8_lawful_1 : decode cX8_lawful 1 = .ok (.iload_n 1, 1) := gg414.2.1
theorem dX8_lawful_2 : decode cX8_lawful 2 = .ok (.invokevirtual 107, 3) := gg414.2.2.1
theorem dX8_lawful_5 : decode cX8_lawful 5 = .ok (.ifCond .eq 10, 3) := gg414.2.2.2.1
theorem dX8_lawful_8 : decode cX8_lawful 8 = .ok (.lload_n 2, 1) := gg414.2.2.2.2.1
theorem dX8_lawful_9 : decode cX8_lawful 9 = .ok (.invokestatic 114, 3) := gg414.2.2.2.2.2.1
theorem dX8_lawful_12 : decode cX8_lawful 12 = .ok (.ifCond .ne 7, 3) := gg414.2.2.2.2.2.2.1
theorem dX8_lawful_15 : decode cX8_lawful 15 = .ok (.iconst (-1), 1) := gg414.2.2.2.2.2.2.2.1
theorem dX8_lawful_16 : decode cX8_lawful 16 = .ok (.goto 17, 3) := gg414.2.2.2.2.2.2.2.2.1
theorem dX8_lawful_19 : decode cX8_lawful 19 = .ok (.aload_n 0, 1) := gg414.2.2.2.2.2.2.2.2.2
theorem gg415 : decode cX8_lawful 20 = .ok (.iload_n 1, 1) ∧ decode cX8_lawful 21 = .ok (.lload_n 2, 1) ∧ decode cX8_lawful 22 = .ok (.invokevirtual 140, 3) ∧ decode cX8_lawful 25 = .ok (.ifCond .eq 7, 3) ∧ decode cX8_lawful 28 = .ok (.iconst 1, 1) ∧ decode cX8_lawful 29 = .ok (.goto 4, 3) ∧ decode cX8_lawful 32 = .ok (.iconst 0, 1) ∧ decode cX8_lawful 33 = .ok (.ireturn, 1) := by decide +kernel
theorem dX8_lawful_20 : decode cX8_lawful 20 = .ok (.iload_n 1, 1) := gg415.1
theorem dX8_lawful_21 : decode cX8_lawful 21 = .ok (.lload_n 2, 1) := gg415.2.1
theorem dX8_lawful_22 : decode cX8_lawful 22 = .ok (.invokevirtual 140, 3) := gg415.2.2.1
theorem dX8_lawful_25 : decode cX8_lawful 25 = .ok (.ifCond .eq 7, 3) := gg415.2.2.2.1
theorem dX8_lawful_28 : decode cX8_lawful 28 = .ok (.iconst 1, 1) := gg415.2.2.2.2.1
theorem dX8_lawful_29 : decode cX8_lawful 29 = .ok (.goto 4, 3) := gg415.2.2.2.2.2.1
theorem dX8_lawful_32 : decode cX8_lawful 32 = .ok (.iconst 0, 1) := gg415.2.2.2.2.2.2.1
theorem dX8_lawful_33 : decode cX8_lawful 33 = .ok (.ireturn, 1) := gg415.2.2.2.2.2.2.2
theorem gg416 : decode cX8_lasts 0 = .ok (.aload_n 0, 1) ∧ decode cX8_lasts 1 = .ok (.getfield 20, 3) ∧ decode cX8_lasts 4 = .ok (.iconst 5, 1) ∧ decode cX8_lasts 5 = .ok (.iload_n 1, 1) ∧ decode cX8_lasts 6 = .ok (.imul, 1) ∧ decode cX8_lasts 7 = .ok (.iconst 0, 1) ∧ decode cX8_lasts 8 = .ok (.iadd, 1) ∧ decode cX8_lasts 9 = .ok (.iaload, 1) ∧ decode cX8_lasts 10 = .ok (.istore_n 2, 1) ∧ decode cX8_lasts 11 = .ok (.iload_n 2, 1) := by decide +kernel
theorem dX8_lasts_0 : decode cX8_lasts 0 = .ok (.aload_n 0, 1) := gg416.1
theorem dX8_lasts_1 : decode cX8_lasts 1 = .ok (.getfield 20, 3) := gg416.2.1
theorem dX8_lasts_4 : decode cX8_lasts 4 = .ok (.iconst 5, 1) := gg416.2.2.1
theorem dX8_lasts_5 : decode cX8_lasts 5 = .ok (.iload_n 1, 1) := gg416.2.2.2.1
theorem dX8_lasts_6 : decode cX8_lasts 6 = .ok (.imul, 1) := gg416.2.2.2.2.1
theorem dX8_lasts_7 : decode cX8_lasts 7 = .ok (.iconst 0, 1) := gg416.2.2.2.2.2.1
theorem dX8_lasts_8 : decode cX8_lasts 8 = .ok (.iadd, 1) := gg416.2.2.2.2.2.2.1
theorem dX8_lasts_9 : decode cX8_lasts 9 = .ok (.iaload, 1) := gg416.2.2.2.2.2.2.2.1
theorem dX8_lasts_10 : decode cX8_lasts 10 = .ok (.istore_n 2, 1) := gg416.2.2.2.2.2.2.2.2.1
theorem dX8_lasts_11 : decode cX8_lasts 11 = .ok (.iload_n 2, 1) := gg416.2.2.2.2.2.2.2.2.2
theorem gg417 : decode cX8_lasts 12 = .ok (.iconst 1, 1) ∧ decode cX8_lasts 13 = .ok (.if_icmp .eq 8, 3) ∧ decode cX8_lasts 16 = .ok (.iload_n 2, 1) ∧ decode cX8_lasts 17 = .ok (.iconst 2, 1) ∧ decode cX8_lasts 18 = .ok (.if_icmp .ne 16, 3) ∧ decode cX8_lasts 21 = .ok (.aload_n 0, 1) ∧ decode cX8_lasts 22 = .ok (.getfield 20, 3) ∧ decode cX8_lasts 25 = .ok (.iconst 5, 1) ∧ decode cX8_lasts 26 = .ok (.iload_n 1, 1) ∧ decode cX8_lasts 27 = .ok (.imul, 1) := by decide +kernel
theorem dX8_lasts_12 : decode cX8_lasts 12 = .ok (.iconst 1, 1) := gg417.1
theorem dX8_lasts_13 : decode cX8_lasts 13 = .ok (.if_icmp .eq 8, 3) := gg417.2.1
theorem dX8_lasts_16 : decode cX8_lasts 16 = .ok (.iload_n 2, 1) := gg417.2.2.1
theorem dX8_lasts_17 : decode cX8_lasts 17 = .ok (.iconst 2, 1) := gg417.2.2.2.1
theorem dX8_lasts_18 : decode cX8_lasts 18 = .ok (.if_icmp .ne 16, 3) := gg417.2.2.2.2.1
theorem dX8_lasts_21 : decode cX8_lasts 21 = .ok (.aload_n 0, 1) := gg417.2.2.2.2.2.1
theorem dX8_lasts_22 : decode cX8_lasts 22 = .ok (.getfield 20, 3) := gg417.2.2.2.2.2.2.1
theorem dX8_lasts_25 : decode cX8_lasts 25 = .ok (.iconst 5, 1) := gg417.2.2.2.2.2.2.2.1
theorem dX8_lasts_26 : decode cX8_lasts 26 = .ok (.iload_n 1, 1) := gg417.2.2.2.2.2.2.2.2.1
theorem dX8_lasts_27 : decode cX8_lasts 27 = .ok (.imul, 1) := gg417.2.2.2.2.2.2.2.2.2
theorem gg418 : decode cX8_lasts 28 = .ok (.iconst 2, 1) ∧ decode cX8_lasts 29 = .ok (.iadd, 1) ∧ decode cX8_lasts 30 = .ok (.iaload, 1) ∧ decode cX8_lasts 31 = .ok (.goto 4, 3) ∧ decode cX8_lasts 34 = .ok (.iconst 1, 1) ∧ decode cX8_lasts 35 = .ok (.ireturn, 1) := by decide +kernel
theorem dX8_lasts_28 : decode cX8_lasts 28 = .ok (.iconst 2, 1) := gg418.1
theorem dX8_lasts_29 : decode cX8_lasts 29 = .ok (.iadd, 1) := gg418.2.1
theorem dX8_lasts_30 : decode cX8_lasts 30 = .ok (.iaload, 1) := gg418.2.2.1
theorem dX8_lasts_31 : decode cX8_lasts 31 = .ok (.goto 4, 3) := gg418.2.2.2.1
theorem dX8_lasts_34 : decode cX8_lasts 34 = .ok (.iconst 1, 1) := gg418.2.2.2.2.1
theorem dX8_lasts_35 : decode cX8_lasts 35 = .ok (.ireturn, 1) := gg418.2.2.2.2.2
theorem gg419 : decode cX8_tell 0 = .ok (.aload_n 0, 1) ∧ decode cX8_tell 1 = .ok (.iload_n 1, 1) ∧ decode cX8_tell 2 = .ok (.invokevirtual 107, 3) ∧ decode cX8_tell 5 = .ok (.ifCond .ne 5, 3) ∧ decode cX8_tell 8 = .ok (.iconst (-1), 1) ∧ decode cX8_tell 9 = .ok (.ireturn, 1) ∧ decode cX8_tell 10 = .ok (.aload_n 0, 1) ∧ decode cX8_tell 11 = .ok (.getfield 89, 3) ∧ decode cX8_tell 14 = .ok (.bipush 8, 2) ∧ decode cX8_tell 16 = .ok (.if_icmp .ne 6, 3) := by decide +kernel
theorem dX8_tell_0 : decode cX8_tell 0 = .ok (.aload_n 0, 1) := gg419.1
theorem dX8_tell_1 : decode cX8_tell 1 = .ok (.iload_n 1, 1) := gg419.2.1
theorem dX8_tell_2 : decode cX8_tell 2 = .ok (.invokevirtual 107, 3) := gg419.2.2.1
theorem dX8_tell_5 : decode cX8_tell 5 = .ok (.ifCond .ne 5, 3) := gg419.2.2.2.1
theorem dX8_tell_8 : decode cX8_tell 8 = .ok (.iconst (-1), 1) := gg419.2.2.2.2.1
theorem dX8_tell_9 : decode cX8_tell 9 = .ok (.ireturn, 1) := gg419.2.2.2.2.2.1
theorem dX8_tell_10 : decode cX8_tell 10 = .ok (.aload_n 0, 1) := gg419.2.2.2.2.2.2.1
theorem dX8_tell_11 : decode cX8_tell 11 = .ok (.getfield 89, 3) := gg419.2.2.2.2.2.2.2.1
theorem dX8_tell_14 : decode cX8_tell 14 = .ok (.bipush 8, 2) := gg419.2.2.2.2.2.2.2.2.1
theorem dX8_tell_16 : decode cX8_tell 16 = .ok (.if_icmp .ne 6, 3) := gg419.2.2.2.2.2.2.2.2.2
theorem gg420 : decode cX8_tell 19 = .ok (.bipush (-3), 2) ∧ decode cX8_tell 21 = .ok (.ireturn, 1) ∧ decode cX8_tell 22 = .ok (.aload_n 0, 1) ∧ decode cX8_tell 23 = .ok (.getfield 33, 3) ∧ decode cX8_tell 26 = .ok (.aload_n 0, 1) ∧ decode cX8_tell 27 = .ok (.getfield 89, 3) ∧ decode cX8_tell 30 = .ok (.iload_n 1, 1) ∧ decode cX8_tell 31 = .ok (.iastore, 1) ∧ decode cX8_tell 32 = .ok (.aload_n 0, 1) ∧ decode cX8_tell 33 = .ok (.dup, 1) := by decide +kernel
theorem dX8_tell_19 : decode cX8_tell 19 = .ok (.bipush (-3), 2) := gg420.1
theorem dX8_tell_21 : decode cX8_tell 21 = .ok (.ireturn, 1) := gg420.2.1
theorem dX8_tell_22 : decode cX8_tell 22 = .ok (.aload_n 0, 1) := gg420.2.2.1
theorem dX8_tell_23 : decode cX8_tell 23 = .ok (.getfield 33, 3) := gg420.2.2.2.1
theorem dX8_tell_26 : decode cX8_tell 26 = .ok (.aload_n 0, 1) := gg420.2.2.2.2.1
theorem dX8_tell_27 : decode cX8_tell 27 = .ok (.getfield 89, 3) := gg420.2.2.2.2.2.1
theorem dX8_tell_30 : decode cX8_tell 30 = .ok (.iload_n 1, 1) := gg420.2.2.2.2.2.2.1
theorem dX8_tell_31 : decode cX8_tell 31 = .ok (.iastore, 1) := gg420.2.2.2.2.2.2.2.1
theorem dX8_tell_32 : decode cX8_tell 32 = .ok (.aload_n 0, 1) := gg420.2.2.2.2.2.2.2.2.1
theorem dX8_tell_33 : decode cX8_tell 33 = .ok (.dup, 1) := gg420.2.2.2.2.2.2.2.2.2
theorem gg421 : decode cX8_tell 34 = .ok (.getfield 89, 3) ∧ decode cX8_tell 37 = .ok (.iconst 1, 1) ∧ decode cX8_tell 38 = .ok (.iadd, 1) ∧ decode cX8_tell 39 = .ok (.putfield 89, 3) ∧ decode cX8_tell 42 = .ok (.aload_n 0, 1) ∧ decode cX8_tell 43 = .ok (.getfield 89, 3) ∧ decode cX8_tell 46 = .ok (.ireturn, 1) := by decide +kernel
theorem dX8_tell_34 : decode cX8_tell 34 = .ok (.getfield 89, 3) := gg421.1
theorem dX8_tell_37 : decode cX8_tell 37 = .ok (.iconst 1, 1) := gg421.2.1
theorem dX8_tell_38 : decode cX8_tell 38 = .ok (.iadd, 1) := gg421.2.2.1
theorem dX8_tell_39 : decode cX8_tell 39 = .ok (.putfield 89, 3) := gg421.2.2.2.1
theorem dX8_tell_42 : decode cX8_tell 42 = .ok (.aload_n 0, 1) := gg421.2.2.2.2.1
theorem dX8_tell_43 : decode cX8_tell 43 = .ok (.getfield 89, 3) := gg421.2.2.2.2.2.1
theorem dX8_tell_46 : decode cX8_tell 46 = .ok (.ireturn, 1) := gg421.2.2.2.2.2.2
theorem gg422 : decode cX8_noRow 0 = .ok (.aload_n 0, 1) ∧ decode cX8_noRow 1 = .ok (.getfield 89, 3) ∧ decode cX8_noRow 4 = .ok (.istore_n 1, 1) ∧ decode cX8_noRow 5 = .ok (.aload_n 0, 1) ∧ decode cX8_noRow 6 = .ok (.iconst 0, 1) ∧ decode cX8_noRow 7 = .ok (.putfield 89, 3) ∧ decode cX8_noRow 10 = .ok (.iload_n 1, 1) ∧ decode cX8_noRow 11 = .ok (.ireturn, 1) := by decide +kernel
theorem dX8_noRow_0 : decode cX8_noRow 0 = .ok (.aload_n 0, 1) := gg422.1
theorem dX8_noRow_1 : decode cX8_noRow 1 = .ok (.getfield 89, 3) := gg422.2.1
theorem dX8_noRow_4 : decode cX8_noRow 4 = .ok (.istore_n 1, 1) := gg422.2.2.1
theorem dX8_noRow_5 : decode cX8_noRow 5 = .ok (.aload_n 0, 1) := gg422.2.2.2.1
theorem dX8_noRow_6 : decode cX8_noRow 6 = .ok (.iconst 0, 1) := gg422.2.2.2.2.1
theorem dX8_noRow_7 : decode cX8_noRow 7 = .ok (.putfield 89, 3) := gg422.2.2.2.2.2.1
theorem dX8_noRow_10 : decode cX8_noRow 10 = .ok (.iload_n 1, 1) := gg422.2.2.2.2.2.2.1
theorem dX8_noRow_11 : decode cX8_noRow 11 = .ok (.ireturn, 1) := gg422.2.2.2.2.2.2.2
theorem gg423 : decode cX8_soon 0 = .ok (.lload_n 1, 1) ∧ decode cX8_soon 1 = .ok (.invokestatic 114, 3) ∧ decode cX8_soon 4 = .ok (.ifCond .eq 21, 3) ∧ decode cX8_soon 7 = .ok (.iload_n 3, 1) ∧ decode cX8_soon 8 = .ok (.i2l, 1) ∧ decode cX8_soon 9 = .ok (.ldc2_w 130, 3) ∧ decode cX8_soon 12 = .ok (.aload_n 0, 1) ∧ decode cX8_soon 13 = .ok (.getfield 89, 3) ∧ decode cX8_soon 16 = .ok (.iconst 1, 1) ∧ decode cX8_soon 17 = .ok (.isub, 1) := by decide +kernel
theorem dX8_soon_0 : decode cX8_soon 0 = .ok (.lload_n 1, 1) := gg423.1
theorem dX8_soon_1 : decode cX8_soon 1 = .ok (.invokestatic 114, 3) := gg423.2.1
theorem dX8_soon_4 : decode cX8_soon 4 = .ok (.ifCond .eq 21, 3) := gg423.2.2.1
theorem dX8_soon_7 : decode cX8_soon 7 = .ok (.iload_n 3, 1) := gg423.2.2.2.1
theorem dX8_soon_8 : decode cX8_soon 8 = .ok (.i2l, 1) := gg423.2.2.2.2.1
theorem dX8_soon_9 : decode cX8_soon 9 = .ok (.ldc2_w 130, 3) := gg423.2.2.2.2.2.1
theorem dX8_soon_12 : decode cX8_soon 12 = .ok (.aload_n 0, 1) := gg423.2.2.2.2.2.2.1
theorem dX8_soon_13 : decode cX8_soon 13 = .ok (.getfield 89, 3) := gg423.2.2.2.2.2.2.2.1
theorem dX8_soon_16 : decode cX8_soon 16 = .ok (.iconst 1, 1) := gg423.2.2.2.2.2.2.2.2.1
theorem dX8_soon_17 : decode cX8_soon 17 = .ok (.isub, 1) := gg423.2.2.2.2.2.2.2.2.2
theorem gg424 : decode cX8_soon 18 = .ok (.i2l, 1) ∧ decode cX8_soon 19 = .ok (.invokestatic 53, 3) ∧ decode cX8_soon 22 = .ok (.ifCond .ne 7, 3) ∧ decode cX8_soon 25 = .ok (.ldc2_w 130, 3) ∧ decode cX8_soon 28 = .ok (.lreturn, 1) ∧ decode cX8_soon 29 = .ok (.lload_n 1, 1) ∧ decode cX8_soon 30 = .ok (.lstore 4, 2) ∧ decode cX8_soon 32 = .ok (.iconst 0, 1) ∧ decode cX8_soon 33 = .ok (.istore 6, 2) ∧ decode cX8_soon 35 = .ok (.iload 6, 2) := by decide +kernel
theorem dX8_soon_18 : decode cX8_soon 18 = .ok (.i2l, 1) := gg424.1
theorem dX8_soon_19 : decode cX8_soon 19 = .ok (.invokestatic 53, 3) := gg424.2.1
theorem dX8_soon_22 : decode cX8_soon 22 = .ok (.ifCond .ne 7, 3) := gg424.2.2.1
theorem dX8_soon_25 : decode cX8_soon 25 = .ok (.ldc2_w 130, 3) := gg424.2.2.2.1
theorem dX8_soon_28 : decode cX8_soon 28 = .ok (.lreturn, 1) := gg424.2.2.2.2.1
theorem dX8_soon_29 : decode cX8_soon 29 = .ok (.lload_n 1, 1) := gg424.2.2.2.2.2.1
theorem dX8_soon_30 : decode cX8_soon 30 = .ok (.lstore 4, 2) := gg424.2.2.2.2.2.2.1
theorem dX8_soon_32 : decode cX8_soon 32 = .ok (.iconst 0, 1) := gg424.2.2.2.2.2.2.2.1
theorem dX8_soon_33 : decode cX8_soon 33 = .ok (.istore 6, 2) := gg424.2.2.2.2.2.2.2.2.1
theorem dX8_soon_35 : decode cX8_soon 35 = .ok (.iload 6, 2) := gg424.2.2.2.2.2.2.2.2.2
theorem gg425 : decode cX8_soon 37 = .ok (.aload_n 0, 1) ∧ decode cX8_soon 38 = .ok (.getfield 89, 3) ∧ decode cX8_soon 41 = .ok (.if_icmp .ge 88, 3) ∧ decode cX8_soon 44 = .ok (.lload 4, 2) ∧ decode cX8_soon 46 = .ok (.ldc2_w 143, 3) ∧ decode cX8_soon 49 = .ok (.ladd, 1) ∧ decode cX8_soon 50 = .ok (.lstore 7, 2) ∧ decode cX8_soon 52 = .ok (.lload 4, 2) ∧ decode cX8_soon 54 = .ok (.lload 7, 2) ∧ decode cX8_soon 56 = .ok (.lcmp, 1) := by decide +kernel
theorem dX8_soon_37 : decode cX8_soon 37 = .ok (.aload_n 0, 1) := gg425.1
theorem dX8_soon_38 : decode cX8_soon 38 = .ok (.getfield 89, 3) := gg425.2.1
theorem dX8_soon_41 : decode cX8_soon 41 = .ok (.if_icmp .ge 88, 3) := gg425.2.2.1
theorem dX8_soon_44 : decode cX8_soon 44 = .ok (.lload 4, 2) := gg425.2.2.2.1
theorem dX8_soon_46 : decode cX8_soon 46 = .ok (.ldc2_w 143, 3) := gg425.2.2.2.2.1
theorem dX8_soon_49 : decode cX8_soon 49 = .ok (.ladd, 1) := gg425.2.2.2.2.2.1
theorem dX8_soon_50 : decode cX8_soon 50 = .ok (.lstore 7, 2) := gg425.2.2.2.2.2.2.1
theorem dX8_soon_52 : decode cX8_soon 52 = .ok (.lload 4, 2) := gg425.2.2.2.2.2.2.2.1
theorem dX8_soon_54 : decode cX8_soon 54 = .ok (.lload 7, 2) := gg425.2.2.2.2.2.2.2.2.1
theorem dX8_soon_56 : decode cX8_soon 56 = .ok (.lcmp, 1) := gg425.2.2.2.2.2.2.2.2.2
theorem gg426 : decode cX8_soon 57 = .ok (.ifCond .gt 28, 3) ∧ decode cX8_soon 60 = .ok (.aload_n 0, 1) ∧ decode cX8_soon 61 = .ok (.aload_n 0, 1) ∧ decode cX8_soon 62 = .ok (.getfield 33, 3) ∧ decode cX8_soon 65 = .ok (.iload 6, 2) ∧ decode cX8_soon 67 = .ok (.iaload, 1) ∧ decode cX8_soon 68 = .ok (.lload 4, 2) ∧ decode cX8_soon 70 = .ok (.invokevirtual 140, 3) ∧ decode cX8_soon 73 = .ok (.ifCond .ne 12, 3) ∧ decode cX8_soon 76 = .ok (.lload 4, 2) := by decide +kernel
theorem dX8_soon_57 : decode cX8_soon 57 = .ok (.ifCond .gt 28, 3) := gg426.1
theorem dX8_soon_60 : decode cX8_soon 60 = .ok (.aload_n 0, 1) := gg426.2.1
theorem dX8_soon_61 : decode cX8_soon 61 = .ok (.aload_n 0, 1) := gg426.2.2.1
theorem dX8_soon_62 : decode cX8_soon 62 = .ok (.getfield 33, 3) := gg426.2.2.2.1
theorem dX8_soon_65 : decode cX8_soon 65 = .ok (.iload 6, 2) := gg426.2.2.2.2.1
theorem dX8_soon_67 : decode cX8_soon 67 = .ok (.iaload, 1) := gg426.2.2.2.2.2.1
theorem dX8_soon_68 : decode cX8_soon 68 = .ok (.lload 4, 2) := gg426.2.2.2.2.2.2.1
theorem dX8_soon_70 : decode cX8_soon 70 = .ok (.invokevirtual 140, 3) := gg426.2.2.2.2.2.2.2.1
theorem dX8_soon_73 : decode cX8_soon 73 = .ok (.ifCond .ne 12, 3) := gg426.2.2.2.2.2.2.2.2.1
theorem dX8_soon_76 : decode cX8_soon 76 = .ok (.lload 4, 2) := gg426.2.2.2.2.2.2.2.2.2
theorem gg427 : decode cX8_soon 78 = .ok (.lconst 1, 1) ∧ decode cX8_soon 79 = .ok (.ladd, 1) ∧ decode cX8_soon 80 = .ok (.lstore 4, 2) ∧ decode cX8_soon 82 = .ok (.goto (-30), 3) ∧ decode cX8_soon 85 = .ok (.lload 4, 2) ∧ decode cX8_soon 87 = .ok (.lload 7, 2) ∧ decode cX8_soon 89 = .ok (.lcmp, 1) ∧ decode cX8_soon 90 = .ok (.ifCond .le 7, 3) ∧ decode cX8_soon 93 = .ok (.ldc2_w 134, 3) ∧ decode cX8_soon 96 = .ok (.lreturn, 1) := by decide +kernel
theorem dX8_soon_78 : decode cX8_soon 78 = .ok (.lconst 1, 1) := gg427.1
theorem dX8_soon_79 : decode cX8_soon 79 = .ok (.ladd, 1) := gg427.2.1
theorem dX8_soon_80 : decode cX8_soon 80 = .ok (.lstore 4, 2) := gg427.2.2.1
theorem dX8_soon_82 : decode cX8_soon 82 = .ok (.goto (-30), 3) := gg427.2.2.2.1
theorem dX8_soon_85 : decode cX8_soon 85 = .ok (.lload 4, 2) := gg427.2.2.2.2.1
theorem dX8_soon_87 : decode cX8_soon 87 = .ok (.lload 7, 2) := gg427.2.2.2.2.2.1
theorem dX8_soon_89 : decode cX8_soon 89 = .ok (.lcmp, 1) := gg427.2.2.2.2.2.2.1
theorem dX8_soon_90 : decode cX8_soon 90 = .ok (.ifCond .le 7, 3) := gg427.2.2.2.2.2.2.2.1
theorem dX8_soon_93 : decode cX8_soon 93 = .ok (.ldc2_w 134, 3) := gg427.2.2.2.2.2.2.2.2.1
theorem dX8_soon_96 : decode cX8_soon 96 = .ok (.lreturn, 1) := gg427.2.2.2.2.2.2.2.2.2
theorem gg428 : decode cX8_soon 97 = .ok (.aload_n 0, 1) ∧ decode cX8_soon 98 = .ok (.getfield 36, 3) ∧ decode cX8_soon 101 = .ok (.iload 6, 2) ∧ decode cX8_soon 103 = .ok (.lload 4, 2) ∧ decode cX8_soon 105 = .ok (.lastore, 1) ∧ decode cX8_soon 106 = .ok (.lload 4, 2) ∧ decode cX8_soon 108 = .ok (.aload_n 0, 1) ∧ decode cX8_soon 109 = .ok (.aload_n 0, 1) ∧ decode cX8_soon 110 = .ok (.getfield 33, 3) ∧ decode cX8_soon 113 = .ok (.iload 6, 2) := by decide +kernel
theorem dX8_soon_97 : decode cX8_soon 97 = .ok (.aload_n 0, 1) := gg428.1
theorem dX8_soon_98 : decode cX8_soon 98 = .ok (.getfield 36, 3) := gg428.2.1
theorem dX8_soon_101 : decode cX8_soon 101 = .ok (.iload 6, 2) := gg428.2.2.1
theorem dX8_soon_103 : decode cX8_soon 103 = .ok (.lload 4, 2) := gg428.2.2.2.1
theorem dX8_soon_105 : decode cX8_soon 105 = .ok (.lastore, 1) := gg428.2.2.2.2.1
theorem dX8_soon_106 : decode cX8_soon 106 = .ok (.lload 4, 2) := gg428.2.2.2.2.2.1
theorem dX8_soon_108 : decode cX8_soon 108 = .ok (.aload_n 0, 1) := gg428.2.2.2.2.2.2.1
theorem dX8_soon_109 : decode cX8_soon 109 = .ok (.aload_n 0, 1) := gg428.2.2.2.2.2.2.2.1
theorem dX8_soon_110 : decode cX8_soon 110 = .ok (.getfield 33, 3) := gg428.2.2.2.2.2.2.2.2.1
theorem dX8_soon_113 : decode cX8_soon 113 = .ok (.iload 6, 2) := gg428.2.2.2.2.2.2.2.2.2
theorem gg429 : decode cX8_soon 115 = .ok (.iaload, 1) ∧ decode cX8_soon 116 = .ok (.invokevirtual 145, 3) ∧ decode cX8_soon 119 = .ok (.i2l, 1) ∧ decode cX8_soon 120 = .ok (.ladd, 1) ∧ decode cX8_soon 121 = .ok (.lstore 4, 2) ∧ decode cX8_soon 123 = .ok (.iinc 6 1, 3) ∧ decode cX8_soon 126 = .ok (.goto (-91), 3) ∧ decode cX8_soon 129 = .ok (.iload_n 3, 1) ∧ decode cX8_soon 130 = .ok (.ifCond .ge 8, 3) ∧ decode cX8_soon 133 = .ok (.lload 4, 2) := by decide +kernel
theorem dX8_soon_115 : decode cX8_soon 115 = .ok (.iaload, 1) := gg429.1
theorem dX8_soon_116 : decode cX8_soon 116 = .ok (.invokevirtual 145, 3) := gg429.2.1
theorem dX8_soon_119 : decode cX8_soon 119 = .ok (.i2l, 1) := gg429.2.2.1
theorem dX8_soon_120 : decode cX8_soon 120 = .ok (.ladd, 1) := gg429.2.2.2.1
theorem dX8_soon_121 : decode cX8_soon 121 = .ok (.lstore 4, 2) := gg429.2.2.2.2.1
theorem dX8_soon_123 : decode cX8_soon 123 = .ok (.iinc 6 1, 3) := gg429.2.2.2.2.2.1
theorem dX8_soon_126 : decode cX8_soon 126 = .ok (.goto (-91), 3) := gg429.2.2.2.2.2.2.1
theorem dX8_soon_129 : decode cX8_soon 129 = .ok (.iload_n 3, 1) := gg429.2.2.2.2.2.2.2.1
theorem dX8_soon_130 : decode cX8_soon 130 = .ok (.ifCond .ge 8, 3) := gg429.2.2.2.2.2.2.2.2.1
theorem dX8_soon_133 : decode cX8_soon 133 = .ok (.lload 4, 2) := gg429.2.2.2.2.2.2.2.2.2
theorem gg430 : decode cX8_soon 135 = .ok (.goto 9, 3) ∧ decode cX8_soon 138 = .ok (.aload_n 0, 1) ∧ decode cX8_soon 139 = .ok (.getfield 36, 3) ∧ decode cX8_soon 142 = .ok (.iload_n 3, 1) ∧ decode cX8_soon 143 = .ok (.laload, 1) ∧ decode cX8_soon 144 = .ok (.lreturn, 1) := by decide +kernel
theorem dX8_soon_135 : decode cX8_soon 135 = .ok (.goto 9, 3) := gg430.1
theorem dX8_soon_138 : decode cX8_soon 138 = .ok (.aload_n 0, 1) := gg430.2.1
theorem dX8_soon_139 : decode cX8_soon 139 = .ok (.getfield 36, 3) := gg430.2.2.1
theorem dX8_soon_142 : decode cX8_soon 142 = .ok (.iload_n 3, 1) := gg430.2.2.2.1
theorem dX8_soon_143 : decode cX8_soon 143 = .ok (.laload, 1) := gg430.2.2.2.2.1
theorem dX8_soon_144 : decode cX8_soon 144 = .ok (.lreturn, 1) := gg430.2.2.2.2.2
theorem gg431 : decode cX8_known 0 = .ok (.aload_n 0, 1) ∧ decode cX8_known 1 = .ok (.getfield 86, 3) ∧ decode cX8_known 4 = .ok (.bipush 8, 2) ∧ decode cX8_known 6 = .ok (.if_icmp .ne 45, 3) ∧ decode cX8_known 9 = .ok (.iconst 0, 1) ∧ decode cX8_known 10 = .ok (.istore 4, 2) ∧ decode cX8_known 12 = .ok (.iload 4, 2) ∧ decode cX8_known 14 = .ok (.bipush 21, 2) ∧ decode cX8_known 16 = .ok (.if_icmp .ge 25, 3) ∧ decode cX8_known 19 = .ok (.aload_n 0, 1) := by decide +kernel
theorem dX8_known_0 : decode cX8_known 0 = .ok (.aload_n 0, 1) := gg431.1
theorem dX8_known_1 : decode cX8_known 1 = .ok (.getfield 86, 3) := gg431.2.1
theorem dX8_known_4 : decode cX8_known 4 = .ok (.bipush 8, 2) := gg431.2.2.1
theorem dX8_known_6 : decode cX8_known 6 = .ok (.if_icmp .ne 45, 3) := gg431.2.2.2.1
theorem dX8_known_9 : decode cX8_known 9 = .ok (.iconst 0, 1) := gg431.2.2.2.2.1
theorem dX8_known_10 : decode cX8_known 10 = .ok (.istore 4, 2) := gg431.2.2.2.2.2.1
theorem dX8_known_12 : decode cX8_known 12 = .ok (.iload 4, 2) := gg431.2.2.2.2.2.2.1
theorem dX8_known_14 : decode cX8_known 14 = .ok (.bipush 21, 2) := gg431.2.2.2.2.2.2.2.1
theorem dX8_known_16 : decode cX8_known 16 = .ok (.if_icmp .ge 25, 3) := gg431.2.2.2.2.2.2.2.2.1
theorem dX8_known_19 : decode cX8_known 19 = .ok (.aload_n 0, 1) := gg431.2.2.2.2.2.2.2.2.2
theorem gg432 : decode cX8_known 20 = .ok (.getfield 30, 3) ∧ decode cX8_known 23 = .ok (.iload 4, 2) ∧ decode cX8_known 25 = .ok (.aload_n 0, 1) ∧ decode cX8_known 26 = .ok (.getfield 30, 3) ∧ decode cX8_known 29 = .ok (.iload 4, 2) ∧ decode cX8_known 31 = .ok (.iconst 3, 1) ∧ decode cX8_known 32 = .ok (.iadd, 1) ∧ decode cX8_known 33 = .ok (.iaload, 1) ∧ decode cX8_known 34 = .ok (.iastore, 1) ∧ decode cX8_known 35 = .ok (.iinc 4 1, 3) := by decide +kernel
theorem dX8_known_20 : decode cX8_known 20 = .ok (.getfield 30, 3) := gg432.1
theorem dX8_known_23 : decode cX8_known 23 = .ok (.iload 4, 2) := gg432.2.1
theorem dX8_known_25 : decode cX8_known 25 = .ok (.aload_n 0, 1) := gg432.2.2.1
theorem dX8_known_26 : decode cX8_known 26 = .ok (.getfield 30, 3) := gg432.2.2.2.1
theorem dX8_known_29 : decode cX8_known 29 = .ok (.iload 4, 2) := gg432.2.2.2.2.1
theorem dX8_known_31 : decode cX8_known 31 = .ok (.iconst 3, 1) := gg432.2.2.2.2.2.1
theorem dX8_known_32 : decode cX8_known 32 = .ok (.iadd, 1) := gg432.2.2.2.2.2.2.1
theorem dX8_known_33 : decode cX8_known 33 = .ok (.iaload, 1) := gg432.2.2.2.2.2.2.2.1
theorem dX8_known_34 : decode cX8_known 34 = .ok (.iastore, 1) := gg432.2.2.2.2.2.2.2.2.1
theorem dX8_known_35 : decode cX8_known 35 = .ok (.iinc 4 1, 3) := gg432.2.2.2.2.2.2.2.2.2
theorem gg433 : decode cX8_known 38 = .ok (.goto (-26), 3) ∧ decode cX8_known 41 = .ok (.aload_n 0, 1) ∧ decode cX8_known 42 = .ok (.dup, 1) ∧ decode cX8_known 43 = .ok (.getfield 86, 3) ∧ decode cX8_known 46 = .ok (.iconst 1, 1) ∧ decode cX8_known 47 = .ok (.isub, 1) ∧ decode cX8_known 48 = .ok (.putfield 86, 3) ∧ decode cX8_known 51 = .ok (.aload_n 0, 1) ∧ decode cX8_known 52 = .ok (.getfield 30, 3) ∧ decode cX8_known 55 = .ok (.iconst 3, 1) := by decide +kernel
theorem dX8_known_38 : decode cX8_known 38 = .ok (.goto (-26), 3) := gg433.1
theorem dX8_known_41 : decode cX8_known 41 = .ok (.aload_n 0, 1) := gg433.2.1
theorem dX8_known_42 : decode cX8_known 42 = .ok (.dup, 1) := gg433.2.2.1
theorem dX8_known_43 : decode cX8_known 43 = .ok (.getfield 86, 3) := gg433.2.2.2.1
theorem dX8_known_46 : decode cX8_known 46 = .ok (.iconst 1, 1) := gg433.2.2.2.2.1
theorem dX8_known_47 : decode cX8_known 47 = .ok (.isub, 1) := gg433.2.2.2.2.2.1
theorem dX8_known_48 : decode cX8_known 48 = .ok (.putfield 86, 3) := gg433.2.2.2.2.2.2.1
theorem dX8_known_51 : decode cX8_known 51 = .ok (.aload_n 0, 1) := gg433.2.2.2.2.2.2.2.1
theorem dX8_known_52 : decode cX8_known 52 = .ok (.getfield 30, 3) := gg433.2.2.2.2.2.2.2.2.1
theorem dX8_known_55 : decode cX8_known 55 = .ok (.iconst 3, 1) := gg433.2.2.2.2.2.2.2.2.2
theorem gg434 : decode cX8_known 56 = .ok (.aload_n 0, 1) ∧ decode cX8_known 57 = .ok (.getfield 86, 3) ∧ decode cX8_known 60 = .ok (.imul, 1) ∧ decode cX8_known 61 = .ok (.iload_n 1, 1) ∧ decode cX8_known 62 = .ok (.iastore, 1) ∧ decode cX8_known 63 = .ok (.aload_n 0, 1) ∧ decode cX8_known 64 = .ok (.getfield 30, 3) ∧ decode cX8_known 67 = .ok (.iconst 3, 1) ∧ decode cX8_known 68 = .ok (.aload_n 0, 1) ∧ decode cX8_known 69 = .ok (.getfield 86, 3) := by decide +kernel
theorem dX8_known_56 : decode cX8_known 56 = .ok (.aload_n 0, 1) := gg434.1
theorem dX8_known_57 : decode cX8_known 57 = .ok (.getfield 86, 3) := gg434.2.1
theorem dX8_known_60 : decode cX8_known 60 = .ok (.imul, 1) := gg434.2.2.1
theorem dX8_known_61 : decode cX8_known 61 = .ok (.iload_n 1, 1) := gg434.2.2.2.1
theorem dX8_known_62 : decode cX8_known 62 = .ok (.iastore, 1) := gg434.2.2.2.2.1
theorem dX8_known_63 : decode cX8_known 63 = .ok (.aload_n 0, 1) := gg434.2.2.2.2.2.1
theorem dX8_known_64 : decode cX8_known 64 = .ok (.getfield 30, 3) := gg434.2.2.2.2.2.2.1
theorem dX8_known_67 : decode cX8_known 67 = .ok (.iconst 3, 1) := gg434.2.2.2.2.2.2.2.1
theorem dX8_known_68 : decode cX8_known 68 = .ok (.aload_n 0, 1) := gg434.2.2.2.2.2.2.2.2.1
theorem dX8_known_69 : decode cX8_known 69 = .ok (.getfield 86, 3) := gg434.2.2.2.2.2.2.2.2.2
theorem gg435 : decode cX8_known 72 = .ok (.imul, 1) ∧ decode cX8_known 73 = .ok (.iconst 1, 1) ∧ decode cX8_known 74 = .ok (.iadd, 1) ∧ decode cX8_known 75 = .ok (.iload_n 2, 1) ∧ decode cX8_known 76 = .ok (.iastore, 1) ∧ decode cX8_known 77 = .ok (.aload_n 0, 1) ∧ decode cX8_known 78 = .ok (.getfield 30, 3) ∧ decode cX8_known 81 = .ok (.iconst 3, 1) ∧ decode cX8_known 82 = .ok (.aload_n 0, 1) ∧ decode cX8_known 83 = .ok (.getfield 86, 3) := by decide +kernel
theorem dX8_known_72 : decode cX8_known 72 = .ok (.imul, 1) := gg435.1
theorem dX8_known_73 : decode cX8_known 73 = .ok (.iconst 1, 1) := gg435.2.1
theorem dX8_known_74 : decode cX8_known 74 = .ok (.iadd, 1) := gg435.2.2.1
theorem dX8_known_75 : decode cX8_known 75 = .ok (.iload_n 2, 1) := gg435.2.2.2.1
theorem dX8_known_76 : decode cX8_known 76 = .ok (.iastore, 1) := gg435.2.2.2.2.1
theorem dX8_known_77 : decode cX8_known 77 = .ok (.aload_n 0, 1) := gg435.2.2.2.2.2.1
theorem dX8_known_78 : decode cX8_known 78 = .ok (.getfield 30, 3) := gg435.2.2.2.2.2.2.1
theorem dX8_known_81 : decode cX8_known 81 = .ok (.iconst 3, 1) := gg435.2.2.2.2.2.2.2.1
theorem dX8_known_82 : decode cX8_known 82 = .ok (.aload_n 0, 1) := gg435.2.2.2.2.2.2.2.2.1
theorem dX8_known_83 : decode cX8_known 83 = .ok (.getfield 86, 3) := gg435.2.2.2.2.2.2.2.2.2
theorem gg436 : decode cX8_known 86 = .ok (.imul, 1) ∧ decode cX8_known 87 = .ok (.iconst 2, 1) ∧ decode cX8_known 88 = .ok (.iadd, 1) ∧ decode cX8_known 89 = .ok (.iload_n 3, 1) ∧ decode cX8_known 90 = .ok (.iastore, 1) ∧ decode cX8_known 91 = .ok (.aload_n 0, 1) ∧ decode cX8_known 92 = .ok (.dup, 1) ∧ decode cX8_known 93 = .ok (.getfield 86, 3) ∧ decode cX8_known 96 = .ok (.iconst 1, 1) ∧ decode cX8_known 97 = .ok (.iadd, 1) := by decide +kernel
theorem dX8_known_86 : decode cX8_known 86 = .ok (.imul, 1) := gg436.1
theorem dX8_known_87 : decode cX8_known 87 = .ok (.iconst 2, 1) := gg436.2.1
theorem dX8_known_88 : decode cX8_known 88 = .ok (.iadd, 1) := gg436.2.2.1
theorem dX8_known_89 : decode cX8_known 89 = .ok (.iload_n 3, 1) := gg436.2.2.2.1
theorem dX8_known_90 : decode cX8_known 90 = .ok (.iastore, 1) := gg436.2.2.2.2.1
theorem dX8_known_91 : decode cX8_known 91 = .ok (.aload_n 0, 1) := gg436.2.2.2.2.2.1
theorem dX8_known_92 : decode cX8_known 92 = .ok (.dup, 1) := gg436.2.2.2.2.2.2.1
theorem dX8_known_93 : decode cX8_known 93 = .ok (.getfield 86, 3) := gg436.2.2.2.2.2.2.2.1
theorem dX8_known_96 : decode cX8_known 96 = .ok (.iconst 1, 1) := gg436.2.2.2.2.2.2.2.2.1
theorem dX8_known_97 : decode cX8_known 97 = .ok (.iadd, 1) := gg436.2.2.2.2.2.2.2.2.2
theorem gg437 : decode cX8_known 98 = .ok (.putfield 86, 3) ∧ decode cX8_known 101 = .ok (.return_, 1) := by decide +kernel
theorem dX8_known_98 : decode cX8_known 98 = .ok (.putfield 86, 3) := gg437.1
theorem dX8_known_101 : decode cX8_known 101 = .ok (.return_, 1) := gg437.2
theorem gg438 : decode cX8_pass 0 = .ok (.iload_n 1, 1) ∧ decode cX8_pass 1 = .ok (.i2l, 1) ∧ decode cX8_pass 2 = .ok (.lconst 1, 1) ∧ decode cX8_pass 3 = .ok (.ldc2_w 148, 3) ∧ decode cX8_pass 6 = .ok (.invokestatic 53, 3) ∧ decode cX8_pass 9 = .ok (.ifCond .ne 7, 3) ∧ decode cX8_pass 12 = .ok (.ldc2_w 130, 3) ∧ decode cX8_pass 15 = .ok (.lreturn, 1) ∧ decode cX8_pass 16 = .ok (.aload_n 0, 1) ∧ decode cX8_pass 17 = .ok (.getfield 26, 3) := by decide +kernel
theorem dX8_pass_0 : decode cX8_pass 0 = .ok (.iload_n 1, 1) := gg438.1
theorem dX8_pass_1 : decode cX8_pass 1 = .ok (.i2l, 1) := gg438.2.1
theorem dX8_pass_2 : decode cX8_pass 2 = .ok (.lconst 1, 1) := gg438.2.2.1
theorem dX8_pass_3 : decode cX8_pass 3 = .ok (.ldc2_w 148, 3) := gg438.2.2.2.1
theorem dX8_pass_6 : decode cX8_pass 6 = .ok (.invokestatic 53, 3) := gg438.2.2.2.2.1
theorem dX8_pass_9 : decode cX8_pass 9 = .ok (.ifCond .ne 7, 3) := gg438.2.2.2.2.2.1
theorem dX8_pass_12 : decode cX8_pass 12 = .ok (.ldc2_w 130, 3) := gg438.2.2.2.2.2.2.1
theorem dX8_pass_15 : decode cX8_pass 15 = .ok (.lreturn, 1) := gg438.2.2.2.2.2.2.2.1
theorem dX8_pass_16 : decode cX8_pass 16 = .ok (.aload_n 0, 1) := gg438.2.2.2.2.2.2.2.2.1
theorem dX8_pass_17 : decode cX8_pass 17 = .ok (.getfield 26, 3) := gg438.2.2.2.2.2.2.2.2.2
theorem gg439 : decode cX8_pass 20 = .ok (.iconst 0, 1) ∧ decode cX8_pass 21 = .ok (.dup2, 1) ∧ decode cX8_pass 22 = .ok (.laload, 1) ∧ decode cX8_pass 23 = .ok (.iload_n 1, 1) ∧ decode cX8_pass 24 = .ok (.i2l, 1) ∧ decode cX8_pass 25 = .ok (.ladd, 1) ∧ decode cX8_pass 26 = .ok (.lastore, 1) ∧ decode cX8_pass 27 = .ok (.aload_n 0, 1) ∧ decode cX8_pass 28 = .ok (.iconst 0, 1) ∧ decode cX8_pass 29 = .ok (.iload_n 1, 1) := by decide +kernel
theorem dX8_pass_20 : decode cX8_pass 20 = .ok (.iconst 0, 1) := gg439.1
theorem dX8_pass_21 : decode cX8_pass 21 = .ok (.dup2, 1) := gg439.2.1
theorem dX8_pass_22 : decode cX8_pass 22 = .ok (.laload, 1) := gg439.2.2.1
theorem dX8_pass_23 : decode cX8_pass 23 = .ok (.iload_n 1, 1) := gg439.2.2.2.1
theorem dX8_pass_24 : decode cX8_pass 24 = .ok (.i2l, 1) := gg439.2.2.2.2.1
theorem dX8_pass_25 : decode cX8_pass 25 = .ok (.ladd, 1) := gg439.2.2.2.2.2.1
theorem dX8_pass_26 : decode cX8_pass 26 = .ok (.lastore, 1) := gg439.2.2.2.2.2.2.1
theorem dX8_pass_27 : decode cX8_pass 27 = .ok (.aload_n 0, 1) := gg439.2.2.2.2.2.2.2.1
theorem dX8_pass_28 : decode cX8_pass 28 = .ok (.iconst 0, 1) := gg439.2.2.2.2.2.2.2.2.1
theorem dX8_pass_29 : decode cX8_pass 29 = .ok (.iload_n 1, 1) := gg439.2.2.2.2.2.2.2.2.2
theorem gg440 : decode cX8_pass 30 = .ok (.iconst 0, 1) ∧ decode cX8_pass 31 = .ok (.invokevirtual 150, 3) ∧ decode cX8_pass 34 = .ok (.aload_n 0, 1) ∧ decode cX8_pass 35 = .ok (.getfield 26, 3) ∧ decode cX8_pass 38 = .ok (.iconst 0, 1) ∧ decode cX8_pass 39 = .ok (.laload, 1) ∧ decode cX8_pass 40 = .ok (.lreturn, 1) := by decide +kernel
theorem dX8_pass_30 : decode cX8_pass 30 = .ok (.iconst 0, 1) := gg440.1
theorem dX8_pass_31 : decode cX8_pass 31 = .ok (.invokevirtual 150, 3) := gg440.2.1
theorem dX8_pass_34 : decode cX8_pass 34 = .ok (.aload_n 0, 1) := gg440.2.2.1
theorem dX8_pass_35 : decode cX8_pass 35 = .ok (.getfield 26, 3) := gg440.2.2.2.1
theorem dX8_pass_38 : decode cX8_pass 38 = .ok (.iconst 0, 1) := gg440.2.2.2.2.1
theorem dX8_pass_39 : decode cX8_pass 39 = .ok (.laload, 1) := gg440.2.2.2.2.2.1
theorem dX8_pass_40 : decode cX8_pass 40 = .ok (.lreturn, 1) := gg440.2.2.2.2.2.2

theorem gg441 : decode cX8_doAct 0 = .ok (.aload_n 0, 1) ∧ decode cX8_doAct 1 = .ok (.iload_n 1, 1) ∧ decode cX8_doAct 2 = .ok (.invokevirtual 107, 3) ∧ decode cX8_doAct 5 = .ok (.ifCond .ne 7, 3) ∧ decode cX8_doAct 8 = .ok (.ldc2_w 130, 3) ∧ decode cX8_doAct 11 = .ok (.lreturn, 1) ∧ decode cX8_doAct 12 = .ok (.aload_n 0, 1) ∧ decode cX8_doAct 13 = .ok (.iload_n 1, 1) ∧ decode cX8_doAct 14 = .ok (.aload_n 0, 1) ∧ decode cX8_doAct 15 = .ok (.getfield 26, 3) := by decide +kernel
theorem dX8_doAct_0 : decode cX8_doAct 0 = .ok (.aload_n 0, 1) := gg441.1
theorem dX8_doAct_1 : decode cX8_doAct 1 = .ok (.iload_n 1, 1) := gg441.2.1
theorem dX8_doAct_2 : decode cX8_doAct 2 = .ok (.invokevirtual 107, 3) := gg441.2.2.1
theorem dX8_doAct_5 : decode cX8_doAct 5 = .ok (.ifCond .ne 7, 3) := gg441.2.2.2.1
theorem dX8_doAct_8 : decode cX8_doAct 8 = .ok (.ldc2_w 130, 3) := gg441.2.2.2.2.1
theorem dX8_doAct_11 : decode cX8_doAct 11 = .ok (.lreturn, 1) := gg441.2.2.2.2.2.1
theorem dX8_doAct_12 : decode cX8_doAct 12 = .ok (.aload_n 0, 1) := gg441.2.2.2.2.2.2.1
theorem dX8_doAct_13 : decode cX8_doAct 13 = .ok (.iload_n 1, 1) := gg441.2.2.2.2.2.2.2.1
theorem dX8_doAct_14 : decode cX8_doAct 14 = .ok (.aload_n 0, 1) := gg441.2.2.2.2.2.2.2.2.1
theorem dX8_doAct_15 : decode cX8_doAct 15 = .ok (.getfield 26, 3) := gg441.2.2.2.2.2.2.2.2.2
theorem gg442 : decode cX8_doAct 18 = .ok (.iconst 0, 1) ∧ decode cX8_doAct 19 = .ok (.laload, 1) ∧ decode cX8_doAct 20 = .ok (.invokevirtual 140, 3) ∧ decode cX8_doAct 23 = .ok (.ifCond .ne 7, 3) ∧ decode cX8_doAct 26 = .ok (.ldc2_w 154, 3) ∧ decode cX8_doAct 29 = .ok (.lreturn, 1) ∧ decode cX8_doAct 30 = .ok (.aload_n 0, 1) ∧ decode cX8_doAct 31 = .ok (.getfield 26, 3) ∧ decode cX8_doAct 34 = .ok (.iconst 0, 1) ∧ decode cX8_doAct 35 = .ok (.dup2, 1) := by decide +kernel
theorem dX8_doAct_18 : decode cX8_doAct 18 = .ok (.iconst 0, 1) := gg442.1
theorem dX8_doAct_19 : decode cX8_doAct 19 = .ok (.laload, 1) := gg442.2.1
theorem dX8_doAct_20 : decode cX8_doAct 20 = .ok (.invokevirtual 140, 3) := gg442.2.2.1
theorem dX8_doAct_23 : decode cX8_doAct 23 = .ok (.ifCond .ne 7, 3) := gg442.2.2.2.1
theorem dX8_doAct_26 : decode cX8_doAct 26 = .ok (.ldc2_w 154, 3) := gg442.2.2.2.2.1
theorem dX8_doAct_29 : decode cX8_doAct 29 = .ok (.lreturn, 1) := gg442.2.2.2.2.2.1
theorem dX8_doAct_30 : decode cX8_doAct 30 = .ok (.aload_n 0, 1) := gg442.2.2.2.2.2.2.1
theorem dX8_doAct_31 : decode cX8_doAct 31 = .ok (.getfield 26, 3) := gg442.2.2.2.2.2.2.2.1
theorem dX8_doAct_34 : decode cX8_doAct 34 = .ok (.iconst 0, 1) := gg442.2.2.2.2.2.2.2.2.1
theorem dX8_doAct_35 : decode cX8_doAct 35 = .ok (.dup2, 1) := gg442.2.2.2.2.2.2.2.2.2
theorem gg443 : decode cX8_doAct 36 = .ok (.laload, 1) ∧ decode cX8_doAct 37 = .ok (.aload_n 0, 1) ∧ decode cX8_doAct 38 = .ok (.iload_n 1, 1) ∧ decode cX8_doAct 39 = .ok (.invokevirtual 145, 3) ∧ decode cX8_doAct 42 = .ok (.i2l, 1) ∧ decode cX8_doAct 43 = .ok (.ladd, 1) ∧ decode cX8_doAct 44 = .ok (.lastore, 1) ∧ decode cX8_doAct 45 = .ok (.aload_n 0, 1) ∧ decode cX8_doAct 46 = .ok (.getfield 26, 3) ∧ decode cX8_doAct 49 = .ok (.iconst 2, 1) := by decide +kernel
theorem dX8_doAct_36 : decode cX8_doAct 36 = .ok (.laload, 1) := gg443.1
theorem dX8_doAct_37 : decode cX8_doAct 37 = .ok (.aload_n 0, 1) := gg443.2.1
theorem dX8_doAct_38 : decode cX8_doAct 38 = .ok (.iload_n 1, 1) := gg443.2.2.1
theorem dX8_doAct_39 : decode cX8_doAct 39 = .ok (.invokevirtual 145, 3) := gg443.2.2.2.1
theorem dX8_doAct_42 : decode cX8_doAct 42 = .ok (.i2l, 1) := gg443.2.2.2.2.1
theorem dX8_doAct_43 : decode cX8_doAct 43 = .ok (.ladd, 1) := gg443.2.2.2.2.2.1
theorem dX8_doAct_44 : decode cX8_doAct 44 = .ok (.lastore, 1) := gg443.2.2.2.2.2.2.1
theorem dX8_doAct_45 : decode cX8_doAct 45 = .ok (.aload_n 0, 1) := gg443.2.2.2.2.2.2.2.1
theorem dX8_doAct_46 : decode cX8_doAct 46 = .ok (.getfield 26, 3) := gg443.2.2.2.2.2.2.2.2.1
theorem dX8_doAct_49 : decode cX8_doAct 49 = .ok (.iconst 2, 1) := gg443.2.2.2.2.2.2.2.2.2
theorem gg444 : decode cX8_doAct 50 = .ok (.dup2, 1) ∧ decode cX8_doAct 51 = .ok (.laload, 1) ∧ decode cX8_doAct 52 = .ok (.aload_n 0, 1) ∧ decode cX8_doAct 53 = .ok (.getfield 20, 3) ∧ decode cX8_doAct 56 = .ok (.iconst 5, 1) ∧ decode cX8_doAct 57 = .ok (.iload_n 1, 1) ∧ decode cX8_doAct 58 = .ok (.imul, 1) ∧ decode cX8_doAct 59 = .ok (.iconst 3, 1) ∧ decode cX8_doAct 60 = .ok (.iadd, 1) ∧ decode cX8_doAct 61 = .ok (.iaload, 1) := by decide +kernel
theorem dX8_doAct_50 : decode cX8_doAct 50 = .ok (.dup2, 1) := gg444.1
theorem dX8_doAct_51 : decode cX8_doAct 51 = .ok (.laload, 1) := gg444.2.1
theorem dX8_doAct_52 : decode cX8_doAct 52 = .ok (.aload_n 0, 1) := gg444.2.2.1
theorem dX8_doAct_53 : decode cX8_doAct 53 = .ok (.getfield 20, 3) := gg444.2.2.2.1
theorem dX8_doAct_56 : decode cX8_doAct 56 = .ok (.iconst 5, 1) := gg444.2.2.2.2.1
theorem dX8_doAct_57 : decode cX8_doAct 57 = .ok (.iload_n 1, 1) := gg444.2.2.2.2.2.1
theorem dX8_doAct_58 : decode cX8_doAct 58 = .ok (.imul, 1) := gg444.2.2.2.2.2.2.1
theorem dX8_doAct_59 : decode cX8_doAct 59 = .ok (.iconst 3, 1) := gg444.2.2.2.2.2.2.2.1
theorem dX8_doAct_60 : decode cX8_doAct 60 = .ok (.iadd, 1) := gg444.2.2.2.2.2.2.2.2.1
theorem dX8_doAct_61 : decode cX8_doAct 61 = .ok (.iaload, 1) := gg444.2.2.2.2.2.2.2.2.2
theorem gg445 : decode cX8_doAct 62 = .ok (.bipush 50, 2) ∧ decode cX8_doAct 64 = .ok (.isub, 1) ∧ decode cX8_doAct 65 = .ok (.i2l, 1) ∧ decode cX8_doAct 66 = .ok (.ladd, 1) ∧ decode cX8_doAct 67 = .ok (.lastore, 1) ∧ decode cX8_doAct 68 = .ok (.aload_n 0, 1) ∧ decode cX8_doAct 69 = .ok (.getfield 26, 3) ∧ decode cX8_doAct 72 = .ok (.iconst 3, 1) ∧ decode cX8_doAct 73 = .ok (.dup2, 1) ∧ decode cX8_doAct 74 = .ok (.laload, 1) := by decide +kernel
theorem dX8_doAct_62 : decode cX8_doAct 62 = .ok (.bipush 50, 2) := gg445.1
theorem dX8_doAct_64 : decode cX8_doAct 64 = .ok (.isub, 1) := gg445.2.1
theorem dX8_doAct_65 : decode cX8_doAct 65 = .ok (.i2l, 1) := gg445.2.2.1
theorem dX8_doAct_66 : decode cX8_doAct 66 = .ok (.ladd, 1) := gg445.2.2.2.1
theorem dX8_doAct_67 : decode cX8_doAct 67 = .ok (.lastore, 1) := gg445.2.2.2.2.1
theorem dX8_doAct_68 : decode cX8_doAct 68 = .ok (.aload_n 0, 1) := gg445.2.2.2.2.2.1
theorem dX8_doAct_69 : decode cX8_doAct 69 = .ok (.getfield 26, 3) := gg445.2.2.2.2.2.2.1
theorem dX8_doAct_72 : decode cX8_doAct 72 = .ok (.iconst 3, 1) := gg445.2.2.2.2.2.2.2.1
theorem dX8_doAct_73 : decode cX8_doAct 73 = .ok (.dup2, 1) := gg445.2.2.2.2.2.2.2.2.1
theorem dX8_doAct_74 : decode cX8_doAct 74 = .ok (.laload, 1) := gg445.2.2.2.2.2.2.2.2.2
theorem gg446 : decode cX8_doAct 75 = .ok (.aload_n 0, 1) ∧ decode cX8_doAct 76 = .ok (.getfield 20, 3) ∧ decode cX8_doAct 79 = .ok (.iconst 5, 1) ∧ decode cX8_doAct 80 = .ok (.iload_n 1, 1) ∧ decode cX8_doAct 81 = .ok (.imul, 1) ∧ decode cX8_doAct 82 = .ok (.iconst 4, 1) ∧ decode cX8_doAct 83 = .ok (.iadd, 1) ∧ decode cX8_doAct 84 = .ok (.iaload, 1) ∧ decode cX8_doAct 85 = .ok (.bipush 50, 2) ∧ decode cX8_doAct 87 = .ok (.isub, 1) := by decide +kernel
theorem dX8_doAct_75 : decode cX8_doAct 75 = .ok (.aload_n 0, 1) := gg446.1
theorem dX8_doAct_76 : decode cX8_doAct 76 = .ok (.getfield 20, 3) := gg446.2.1
theorem dX8_doAct_79 : decode cX8_doAct 79 = .ok (.iconst 5, 1) := gg446.2.2.1
theorem dX8_doAct_80 : decode cX8_doAct 80 = .ok (.iload_n 1, 1) := gg446.2.2.2.1
theorem dX8_doAct_81 : decode cX8_doAct 81 = .ok (.imul, 1) := gg446.2.2.2.2.1
theorem dX8_doAct_82 : decode cX8_doAct 82 = .ok (.iconst 4, 1) := gg446.2.2.2.2.2.1
theorem dX8_doAct_83 : decode cX8_doAct 83 = .ok (.iadd, 1) := gg446.2.2.2.2.2.2.1
theorem dX8_doAct_84 : decode cX8_doAct 84 = .ok (.iaload, 1) := gg446.2.2.2.2.2.2.2.1
theorem dX8_doAct_85 : decode cX8_doAct 85 = .ok (.bipush 50, 2) := gg446.2.2.2.2.2.2.2.2.1
theorem dX8_doAct_87 : decode cX8_doAct 87 = .ok (.isub, 1) := gg446.2.2.2.2.2.2.2.2.2
theorem gg447 : decode cX8_doAct 88 = .ok (.i2l, 1) ∧ decode cX8_doAct 89 = .ok (.ladd, 1) ∧ decode cX8_doAct 90 = .ok (.lastore, 1) ∧ decode cX8_doAct 91 = .ok (.aload_n 0, 1) ∧ decode cX8_doAct 92 = .ok (.iconst 1, 1) ∧ decode cX8_doAct 93 = .ok (.iload_n 1, 1) ∧ decode cX8_doAct 94 = .ok (.iconst 0, 1) ∧ decode cX8_doAct 95 = .ok (.invokevirtual 150, 3) ∧ decode cX8_doAct 98 = .ok (.aload_n 0, 1) ∧ decode cX8_doAct 99 = .ok (.getfield 26, 3) := by decide +kernel
theorem dX8_doAct_88 : decode cX8_doAct 88 = .ok (.i2l, 1) := gg447.1
theorem dX8_doAct_89 : decode cX8_doAct 89 = .ok (.ladd, 1) := gg447.2.1
theorem dX8_doAct_90 : decode cX8_doAct 90 = .ok (.lastore, 1) := gg447.2.2.1
theorem dX8_doAct_91 : decode cX8_doAct 91 = .ok (.aload_n 0, 1) := gg447.2.2.2.1
theorem dX8_doAct_92 : decode cX8_doAct 92 = .ok (.iconst 1, 1) := gg447.2.2.2.2.1
theorem dX8_doAct_93 : decode cX8_doAct 93 = .ok (.iload_n 1, 1) := gg447.2.2.2.2.2.1
theorem dX8_doAct_94 : decode cX8_doAct 94 = .ok (.iconst 0, 1) := gg447.2.2.2.2.2.2.1
theorem dX8_doAct_95 : decode cX8_doAct 95 = .ok (.invokevirtual 150, 3) := gg447.2.2.2.2.2.2.2.1
theorem dX8_doAct_98 : decode cX8_doAct 98 = .ok (.aload_n 0, 1) := gg447.2.2.2.2.2.2.2.2.1
theorem dX8_doAct_99 : decode cX8_doAct 99 = .ok (.getfield 26, 3) := gg447.2.2.2.2.2.2.2.2.2
theorem gg448 : decode cX8_doAct 102 = .ok (.iconst 0, 1) ∧ decode cX8_doAct 103 = .ok (.laload, 1) ∧ decode cX8_doAct 104 = .ok (.lreturn, 1) := by decide +kernel
theorem dX8_doAct_102 : decode cX8_doAct 102 = .ok (.iconst 0, 1) := gg448.1
theorem dX8_doAct_103 : decode cX8_doAct 103 = .ok (.laload, 1) := gg448.2.1
theorem dX8_doAct_104 : decode cX8_doAct 104 = .ok (.lreturn, 1) := gg448.2.2
theorem gg449 : decode cX8_allow 0 = .ok (.aload_n 0, 1) ∧ decode cX8_allow 1 = .ok (.iload_n 1, 1) ∧ decode cX8_allow 2 = .ok (.invokevirtual 107, 3) ∧ decode cX8_allow 5 = .ok (.ifCond .eq 13, 3) ∧ decode cX8_allow 8 = .ok (.iload_n 2, 1) ∧ decode cX8_allow 9 = .ok (.i2l, 1) ∧ decode cX8_allow 10 = .ok (.lconst 0, 1) ∧ decode cX8_allow 11 = .ok (.lconst 1, 1) ∧ decode cX8_allow 12 = .ok (.invokestatic 53, 3) ∧ decode cX8_allow 15 = .ok (.ifCond .ne 5, 3) := by decide +kernel
theorem dX8_allow_0 : decode cX8_allow 0 = .ok (.aload_n 0, 1) := gg449.1
theorem dX8_allow_1 : decode cX8_allow 1 = .ok (.iload_n 1, 1) := gg449.2.1
theorem dX8_allow_2 : decode cX8_allow 2 = .ok (.invokevirtual 107, 3) := gg449.2.2.1
theorem dX8_allow_5 : decode cX8_allow 5 = .ok (.ifCond .eq 13, 3) := gg449.2.2.2.1
theorem dX8_allow_8 : decode cX8_allow 8 = .ok (.iload_n 2, 1) := gg449.2.2.2.2.1
theorem dX8_allow_9 : decode cX8_allow 9 = .ok (.i2l, 1) := gg449.2.2.2.2.2.1
theorem dX8_allow_10 : decode cX8_allow 10 = .ok (.lconst 0, 1) := gg449.2.2.2.2.2.2.1
theorem dX8_allow_11 : decode cX8_allow 11 = .ok (.lconst 1, 1) := gg449.2.2.2.2.2.2.2.1
theorem dX8_allow_12 : decode cX8_allow 12 = .ok (.invokestatic 53, 3) := gg449.2.2.2.2.2.2.2.2.1
theorem dX8_allow_15 : decode cX8_allow 15 = .ok (.ifCond .ne 5, 3) := gg449.2.2.2.2.2.2.2.2.2
theorem gg450 : decode cX8_allow 18 = .ok (.iconst (-1), 1) ∧ decode cX8_allow 19 = .ok (.ireturn, 1) ∧ decode cX8_allow 20 = .ok (.aload_n 0, 1) ∧ decode cX8_allow 21 = .ok (.getfield 23, 3) ∧ decode cX8_allow 24 = .ok (.iload_n 1, 1) ∧ decode cX8_allow 25 = .ok (.iaload, 1) ∧ decode cX8_allow 26 = .ok (.iload_n 2, 1) ∧ decode cX8_allow 27 = .ok (.ishr, 1) ∧ decode cX8_allow 28 = .ok (.iconst 1, 1) ∧ decode cX8_allow 29 = .ok (.iand, 1) := by decide +kernel
theorem dX8_allow_18 : decode cX8_allow 18 = .ok (.iconst (-1), 1) := gg450.1
theorem dX8_allow_19 : decode cX8_allow 19 = .ok (.ireturn, 1) := gg450.2.1
theorem dX8_allow_20 : decode cX8_allow 20 = .ok (.aload_n 0, 1) := gg450.2.2.1
theorem dX8_allow_21 : decode cX8_allow 21 = .ok (.getfield 23, 3) := gg450.2.2.2.1
theorem dX8_allow_24 : decode cX8_allow 24 = .ok (.iload_n 1, 1) := gg450.2.2.2.2.1
theorem dX8_allow_25 : decode cX8_allow 25 = .ok (.iaload, 1) := gg450.2.2.2.2.2.1
theorem dX8_allow_26 : decode cX8_allow 26 = .ok (.iload_n 2, 1) := gg450.2.2.2.2.2.2.1
theorem dX8_allow_27 : decode cX8_allow 27 = .ok (.ishr, 1) := gg450.2.2.2.2.2.2.2.1
theorem dX8_allow_28 : decode cX8_allow 28 = .ok (.iconst 1, 1) := gg450.2.2.2.2.2.2.2.2.1
theorem dX8_allow_29 : decode cX8_allow 29 = .ok (.iand, 1) := gg450.2.2.2.2.2.2.2.2.2
theorem gg451 : decode cX8_allow 30 = .ok (.istore 4, 2) ∧ decode cX8_allow 32 = .ok (.aload_n 0, 1) ∧ decode cX8_allow 33 = .ok (.iconst 2, 1) ∧ decode cX8_allow 34 = .ok (.iload_n 1, 1) ∧ decode cX8_allow 35 = .ok (.aload_n 0, 1) ∧ decode cX8_allow 36 = .ok (.getfield 23, 3) ∧ decode cX8_allow 39 = .ok (.iload_n 1, 1) ∧ decode cX8_allow 40 = .ok (.iaload, 1) ∧ decode cX8_allow 41 = .ok (.invokevirtual 150, 3) ∧ decode cX8_allow 44 = .ok (.aload_n 0, 1) := by decide +kernel
theorem dX8_allow_30 : decode cX8_allow 30 = .ok (.istore 4, 2) := gg451.1
theorem dX8_allow_32 : decode cX8_allow 32 = .ok (.aload_n 0, 1) := gg451.2.1
theorem dX8_allow_33 : decode cX8_allow 33 = .ok (.iconst 2, 1) := gg451.2.2.1
theorem dX8_allow_34 : decode cX8_allow 34 = .ok (.iload_n 1, 1) := gg451.2.2.2.1
theorem dX8_allow_35 : decode cX8_allow 35 = .ok (.aload_n 0, 1) := gg451.2.2.2.2.1
theorem dX8_allow_36 : decode cX8_allow 36 = .ok (.getfield 23, 3) := gg451.2.2.2.2.2.1
theorem dX8_allow_39 : decode cX8_allow 39 = .ok (.iload_n 1, 1) := gg451.2.2.2.2.2.2.1
theorem dX8_allow_40 : decode cX8_allow 40 = .ok (.iaload, 1) := gg451.2.2.2.2.2.2.2.1
theorem dX8_allow_41 : decode cX8_allow 41 = .ok (.invokevirtual 150, 3) := gg451.2.2.2.2.2.2.2.2.1
theorem dX8_allow_44 : decode cX8_allow 44 = .ok (.aload_n 0, 1) := gg451.2.2.2.2.2.2.2.2.2
theorem gg452 : decode cX8_allow 45 = .ok (.getfield 23, 3) ∧ decode cX8_allow 48 = .ok (.iload_n 1, 1) ∧ decode cX8_allow 49 = .ok (.iload_n 3, 1) ∧ decode cX8_allow 50 = .ok (.ifCond .eq 16, 3) ∧ decode cX8_allow 53 = .ok (.aload_n 0, 1) ∧ decode cX8_allow 54 = .ok (.getfield 23, 3) ∧ decode cX8_allow 57 = .ok (.iload_n 1, 1) ∧ decode cX8_allow 58 = .ok (.iaload, 1) ∧ decode cX8_allow 59 = .ok (.iconst 1, 1) ∧ decode cX8_allow 60 = .ok (.iload_n 2, 1) := by decide +kernel
theorem dX8_allow_45 : decode cX8_allow 45 = .ok (.getfield 23, 3) := gg452.1
theorem dX8_allow_48 : decode cX8_allow 48 = .ok (.iload_n 1, 1) := gg452.2.1
theorem dX8_allow_49 : decode cX8_allow 49 = .ok (.iload_n 3, 1) := gg452.2.2.1
theorem dX8_allow_50 : decode cX8_allow 50 = .ok (.ifCond .eq 16, 3) := gg452.2.2.2.1
theorem dX8_allow_53 : decode cX8_allow 53 = .ok (.aload_n 0, 1) := gg452.2.2.2.2.1
theorem dX8_allow_54 : decode cX8_allow 54 = .ok (.getfield 23, 3) := gg452.2.2.2.2.2.1
theorem dX8_allow_57 : decode cX8_allow 57 = .ok (.iload_n 1, 1) := gg452.2.2.2.2.2.2.1
theorem dX8_allow_58 : decode cX8_allow 58 = .ok (.iaload, 1) := gg452.2.2.2.2.2.2.2.1
theorem dX8_allow_59 : decode cX8_allow 59 = .ok (.iconst 1, 1) := gg452.2.2.2.2.2.2.2.2.1
theorem dX8_allow_60 : decode cX8_allow 60 = .ok (.iload_n 2, 1) := gg452.2.2.2.2.2.2.2.2.2
theorem gg453 : decode cX8_allow 61 = .ok (.ishl, 1) ∧ decode cX8_allow 62 = .ok (.ior, 1) ∧ decode cX8_allow 63 = .ok (.goto 15, 3) ∧ decode cX8_allow 66 = .ok (.aload_n 0, 1) ∧ decode cX8_allow 67 = .ok (.getfield 23, 3) ∧ decode cX8_allow 70 = .ok (.iload_n 1, 1) ∧ decode cX8_allow 71 = .ok (.iaload, 1) ∧ decode cX8_allow 72 = .ok (.iconst 1, 1) ∧ decode cX8_allow 73 = .ok (.iload_n 2, 1) ∧ decode cX8_allow 74 = .ok (.ishl, 1) := by decide +kernel
theorem dX8_allow_61 : decode cX8_allow 61 = .ok (.ishl, 1) := gg453.1
theorem dX8_allow_62 : decode cX8_allow 62 = .ok (.ior, 1) := gg453.2.1
theorem dX8_allow_63 : decode cX8_allow 63 = .ok (.goto 15, 3) := gg453.2.2.1
theorem dX8_allow_66 : decode cX8_allow 66 = .ok (.aload_n 0, 1) := gg453.2.2.2.1
theorem dX8_allow_67 : decode cX8_allow 67 = .ok (.getfield 23, 3) := gg453.2.2.2.2.1
theorem dX8_allow_70 : decode cX8_allow 70 = .ok (.iload_n 1, 1) := gg453.2.2.2.2.2.1
theorem dX8_allow_71 : decode cX8_allow 71 = .ok (.iaload, 1) := gg453.2.2.2.2.2.2.1
theorem dX8_allow_72 : decode cX8_allow 72 = .ok (.iconst 1, 1) := gg453.2.2.2.2.2.2.2.1
theorem dX8_allow_73 : decode cX8_allow 73 = .ok (.iload_n 2, 1) := gg453.2.2.2.2.2.2.2.2.1
theorem dX8_allow_74 : decode cX8_allow 74 = .ok (.ishl, 1) := gg453.2.2.2.2.2.2.2.2.2
theorem gg454 : decode cX8_allow 75 = .ok (.iconst (-1), 1) ∧ decode cX8_allow 76 = .ok (.ixor, 1) ∧ decode cX8_allow 77 = .ok (.iand, 1) ∧ decode cX8_allow 78 = .ok (.iastore, 1) ∧ decode cX8_allow 79 = .ok (.iload 4, 2) ∧ decode cX8_allow 81 = .ok (.ireturn, 1) := by decide +kernel
theorem dX8_allow_75 : decode cX8_allow 75 = .ok (.iconst (-1), 1) := gg454.1
theorem dX8_allow_76 : decode cX8_allow 76 = .ok (.ixor, 1) := gg454.2.1
theorem dX8_allow_77 : decode cX8_allow 77 = .ok (.iand, 1) := gg454.2.2.1
theorem dX8_allow_78 : decode cX8_allow 78 = .ok (.iastore, 1) := gg454.2.2.2.1
theorem dX8_allow_79 : decode cX8_allow 79 = .ok (.iload 4, 2) := gg454.2.2.2.2.1
theorem dX8_allow_81 : decode cX8_allow 81 = .ok (.ireturn, 1) := gg454.2.2.2.2.2
theorem gg455 : decode cX8_undo 0 = .ok (.aload_n 0, 1) ∧ decode cX8_undo 1 = .ok (.getfield 86, 3) ∧ decode cX8_undo 4 = .ok (.ifCond .ne 6, 3) ∧ decode cX8_undo 7 = .ok (.bipush (-2), 2) ∧ decode cX8_undo 9 = .ok (.ireturn, 1) ∧ decode cX8_undo 10 = .ok (.aload_n 0, 1) ∧ decode cX8_undo 11 = .ok (.dup, 1) ∧ decode cX8_undo 12 = .ok (.getfield 86, 3) ∧ decode cX8_undo 15 = .ok (.iconst 1, 1) ∧ decode cX8_undo 16 = .ok (.isub, 1) := by decide +kernel
theorem dX8_undo_0 : decode cX8_undo 0 = .ok (.aload_n 0, 1) := gg455.1
theorem dX8_undo_1 : decode cX8_undo 1 = .ok (.getfield 86, 3) := gg455.2.1
theorem dX8_undo_4 : decode cX8_undo 4 = .ok (.ifCond .ne 6, 3) := gg455.2.2.1
theorem dX8_undo_7 : decode cX8_undo 7 = .ok (.bipush (-2), 2) := gg455.2.2.2.1
theorem dX8_undo_9 : decode cX8_undo 9 = .ok (.ireturn, 1) := gg455.2.2.2.2.1
theorem dX8_undo_10 : decode cX8_undo 10 = .ok (.aload_n 0, 1) := gg455.2.2.2.2.2.1
theorem dX8_undo_11 : decode cX8_undo 11 = .ok (.dup, 1) := gg455.2.2.2.2.2.2.1
theorem dX8_undo_12 : decode cX8_undo 12 = .ok (.getfield 86, 3) := gg455.2.2.2.2.2.2.2.1
theorem dX8_undo_15 : decode cX8_undo 15 = .ok (.iconst 1, 1) := gg455.2.2.2.2.2.2.2.2.1
theorem dX8_undo_16 : decode cX8_undo 16 = .ok (.isub, 1) := gg455.2.2.2.2.2.2.2.2.2
theorem gg456 : decode cX8_undo 17 = .ok (.putfield 86, 3) ∧ decode cX8_undo 20 = .ok (.aload_n 0, 1) ∧ decode cX8_undo 21 = .ok (.getfield 30, 3) ∧ decode cX8_undo 24 = .ok (.iconst 3, 1) ∧ decode cX8_undo 25 = .ok (.aload_n 0, 1) ∧ decode cX8_undo 26 = .ok (.getfield 86, 3) ∧ decode cX8_undo 29 = .ok (.imul, 1) ∧ decode cX8_undo 30 = .ok (.iconst 1, 1) ∧ decode cX8_undo 31 = .ok (.iadd, 1) ∧ decode cX8_undo 32 = .ok (.iaload, 1) := by decide +kernel
theorem dX8_undo_17 : decode cX8_undo 17 = .ok (.putfield 86, 3) := gg456.1
theorem dX8_undo_20 : decode cX8_undo 20 = .ok (.aload_n 0, 1) := gg456.2.1
theorem dX8_undo_21 : decode cX8_undo 21 = .ok (.getfield 30, 3) := gg456.2.2.1
theorem dX8_undo_24 : decode cX8_undo 24 = .ok (.iconst 3, 1) := gg456.2.2.2.1
theorem dX8_undo_25 : decode cX8_undo 25 = .ok (.aload_n 0, 1) := gg456.2.2.2.2.1
theorem dX8_undo_26 : decode cX8_undo 26 = .ok (.getfield 86, 3) := gg456.2.2.2.2.2.1
theorem dX8_undo_29 : decode cX8_undo 29 = .ok (.imul, 1) := gg456.2.2.2.2.2.2.1
theorem dX8_undo_30 : decode cX8_undo 30 = .ok (.iconst 1, 1) := gg456.2.2.2.2.2.2.2.1
theorem dX8_undo_31 : decode cX8_undo 31 = .ok (.iadd, 1) := gg456.2.2.2.2.2.2.2.2.1
theorem dX8_undo_32 : decode cX8_undo 32 = .ok (.iaload, 1) := gg456.2.2.2.2.2.2.2.2.2
theorem gg457 : decode cX8_undo 33 = .ok (.istore_n 1, 1) ∧ decode cX8_undo 34 = .ok (.aload_n 0, 1) ∧ decode cX8_undo 35 = .ok (.getfield 30, 3) ∧ decode cX8_undo 38 = .ok (.iconst 3, 1) ∧ decode cX8_undo 39 = .ok (.aload_n 0, 1) ∧ decode cX8_undo 40 = .ok (.getfield 86, 3) ∧ decode cX8_undo 43 = .ok (.imul, 1) ∧ decode cX8_undo 44 = .ok (.iaload, 1) ∧ decode cX8_undo 45 = .ok (.ifCond .ne 17, 3) ∧ decode cX8_undo 48 = .ok (.aload_n 0, 1) := by decide +kernel
theorem dX8_undo_33 : decode cX8_undo 33 = .ok (.istore_n 1, 1) := gg457.1
theorem dX8_undo_34 : decode cX8_undo 34 = .ok (.aload_n 0, 1) := gg457.2.1
theorem dX8_undo_35 : decode cX8_undo 35 = .ok (.getfield 30, 3) := gg457.2.2.1
theorem dX8_undo_38 : decode cX8_undo 38 = .ok (.iconst 3, 1) := gg457.2.2.2.1
theorem dX8_undo_39 : decode cX8_undo 39 = .ok (.aload_n 0, 1) := gg457.2.2.2.2.1
theorem dX8_undo_40 : decode cX8_undo 40 = .ok (.getfield 86, 3) := gg457.2.2.2.2.2.1
theorem dX8_undo_43 : decode cX8_undo 43 = .ok (.imul, 1) := gg457.2.2.2.2.2.2.1
theorem dX8_undo_44 : decode cX8_undo 44 = .ok (.iaload, 1) := gg457.2.2.2.2.2.2.2.1
theorem dX8_undo_45 : decode cX8_undo 45 = .ok (.ifCond .ne 17, 3) := gg457.2.2.2.2.2.2.2.2.1
theorem dX8_undo_48 : decode cX8_undo 48 = .ok (.aload_n 0, 1) := gg457.2.2.2.2.2.2.2.2.2
theorem gg458 : decode cX8_undo 49 = .ok (.getfield 26, 3) ∧ decode cX8_undo 52 = .ok (.iconst 0, 1) ∧ decode cX8_undo 53 = .ok (.dup2, 1) ∧ decode cX8_undo 54 = .ok (.laload, 1) ∧ decode cX8_undo 55 = .ok (.iload_n 1, 1) ∧ decode cX8_undo 56 = .ok (.i2l, 1) ∧ decode cX8_undo 57 = .ok (.lsub, 1) ∧ decode cX8_undo 58 = .ok (.lastore, 1) ∧ decode cX8_undo 59 = .ok (.goto 101, 3) ∧ decode cX8_undo 62 = .ok (.aload_n 0, 1) := by decide +kernel
theorem dX8_undo_49 : decode cX8_undo 49 = .ok (.getfield 26, 3) := gg458.1
theorem dX8_undo_52 : decode cX8_undo 52 = .ok (.iconst 0, 1) := gg458.2.1
theorem dX8_undo_53 : decode cX8_undo 53 = .ok (.dup2, 1) := gg458.2.2.1
theorem dX8_undo_54 : decode cX8_undo 54 = .ok (.laload, 1) := gg458.2.2.2.1
theorem dX8_undo_55 : decode cX8_undo 55 = .ok (.iload_n 1, 1) := gg458.2.2.2.2.1
theorem dX8_undo_56 : decode cX8_undo 56 = .ok (.i2l, 1) := gg458.2.2.2.2.2.1
theorem dX8_undo_57 : decode cX8_undo 57 = .ok (.lsub, 1) := gg458.2.2.2.2.2.2.1
theorem dX8_undo_58 : decode cX8_undo 58 = .ok (.lastore, 1) := gg458.2.2.2.2.2.2.2.1
theorem dX8_undo_59 : decode cX8_undo 59 = .ok (.goto 101, 3) := gg458.2.2.2.2.2.2.2.2.1
theorem dX8_undo_62 : decode cX8_undo 62 = .ok (.aload_n 0, 1) := gg458.2.2.2.2.2.2.2.2.2
theorem gg459 : decode cX8_undo 63 = .ok (.getfield 30, 3) ∧ decode cX8_undo 66 = .ok (.iconst 3, 1) ∧ decode cX8_undo 67 = .ok (.aload_n 0, 1) ∧ decode cX8_undo 68 = .ok (.getfield 86, 3) ∧ decode cX8_undo 71 = .ok (.imul, 1) ∧ decode cX8_undo 72 = .ok (.iaload, 1) ∧ decode cX8_undo 73 = .ok (.iconst 1, 1) ∧ decode cX8_undo 74 = .ok (.if_icmp .ne 67, 3) ∧ decode cX8_undo 77 = .ok (.aload_n 0, 1) ∧ decode cX8_undo 78 = .ok (.getfield 26, 3) := by decide +kernel
theorem dX8_undo_63 : decode cX8_undo 63 = .ok (.getfield 30, 3) := gg459.1
theorem dX8_undo_66 : decode cX8_undo 66 = .ok (.iconst 3, 1) := gg459.2.1
theorem dX8_undo_67 : decode cX8_undo 67 = .ok (.aload_n 0, 1) := gg459.2.2.1
theorem dX8_undo_68 : decode cX8_undo 68 = .ok (.getfield 86, 3) := gg459.2.2.2.1
theorem dX8_undo_71 : decode cX8_undo 71 = .ok (.imul, 1) := gg459.2.2.2.2.1
theorem dX8_undo_72 : decode cX8_undo 72 = .ok (.iaload, 1) := gg459.2.2.2.2.2.1
theorem dX8_undo_73 : decode cX8_undo 73 = .ok (.iconst 1, 1) := gg459.2.2.2.2.2.2.1
theorem dX8_undo_74 : decode cX8_undo 74 = .ok (.if_icmp .ne 67, 3) := gg459.2.2.2.2.2.2.2.1
theorem dX8_undo_77 : decode cX8_undo 77 = .ok (.aload_n 0, 1) := gg459.2.2.2.2.2.2.2.2.1
theorem dX8_undo_78 : decode cX8_undo 78 = .ok (.getfield 26, 3) := gg459.2.2.2.2.2.2.2.2.2
theorem gg460 : decode cX8_undo 81 = .ok (.iconst 0, 1) ∧ decode cX8_undo 82 = .ok (.dup2, 1) ∧ decode cX8_undo 83 = .ok (.laload, 1) ∧ decode cX8_undo 84 = .ok (.aload_n 0, 1) ∧ decode cX8_undo 85 = .ok (.iload_n 1, 1) ∧ decode cX8_undo 86 = .ok (.invokevirtual 145, 3) ∧ decode cX8_undo 89 = .ok (.i2l, 1) ∧ decode cX8_undo 90 = .ok (.lsub, 1) ∧ decode cX8_undo 91 = .ok (.lastore, 1) ∧ decode cX8_undo 92 = .ok (.aload_n 0, 1) := by decide +kernel
theorem dX8_undo_81 : decode cX8_undo 81 = .ok (.iconst 0, 1) := gg460.1
theorem dX8_undo_82 : decode cX8_undo 82 = .ok (.dup2, 1) := gg460.2.1
theorem dX8_undo_83 : decode cX8_undo 83 = .ok (.laload, 1) := gg460.2.2.1
theorem dX8_undo_84 : decode cX8_undo 84 = .ok (.aload_n 0, 1) := gg460.2.2.2.1
theorem dX8_undo_85 : decode cX8_undo 85 = .ok (.iload_n 1, 1) := gg460.2.2.2.2.1
theorem dX8_undo_86 : decode cX8_undo 86 = .ok (.invokevirtual 145, 3) := gg460.2.2.2.2.2.1
theorem dX8_undo_89 : decode cX8_undo 89 = .ok (.i2l, 1) := gg460.2.2.2.2.2.2.1
theorem dX8_undo_90 : decode cX8_undo 90 = .ok (.lsub, 1) := gg460.2.2.2.2.2.2.2.1
theorem dX8_undo_91 : decode cX8_undo 91 = .ok (.lastore, 1) := gg460.2.2.2.2.2.2.2.2.1
theorem dX8_undo_92 : decode cX8_undo 92 = .ok (.aload_n 0, 1) := gg460.2.2.2.2.2.2.2.2.2
theorem gg461 : decode cX8_undo 93 = .ok (.getfield 26, 3) ∧ decode cX8_undo 96 = .ok (.iconst 2, 1) ∧ decode cX8_undo 97 = .ok (.dup2, 1) ∧ decode cX8_undo 98 = .ok (.laload, 1) ∧ decode cX8_undo 99 = .ok (.aload_n 0, 1) ∧ decode cX8_undo 100 = .ok (.getfield 20, 3) ∧ decode cX8_undo 103 = .ok (.iconst 5, 1) ∧ decode cX8_undo 104 = .ok (.iload_n 1, 1) ∧ decode cX8_undo 105 = .ok (.imul, 1) ∧ decode cX8_undo 106 = .ok (.iconst 3, 1) := by decide +kernel
theorem dX8_undo_93 : decode cX8_undo 93 = .ok (.getfield 26, 3) := gg461.1
theorem dX8_undo_96 : decode cX8_undo 96 = .ok (.iconst 2, 1) := gg461.2.1
theorem dX8_undo_97 : decode cX8_undo 97 = .ok (.dup2, 1) := gg461.2.2.1
theorem dX8_undo_98 : decode cX8_undo 98 = .ok (.laload, 1) := gg461.2.2.2.1
theorem dX8_undo_99 : decode cX8_undo 99 = .ok (.aload_n 0, 1) := gg461.2.2.2.2.1
theorem dX8_undo_100 : decode cX8_undo 100 = .ok (.getfield 20, 3) := gg461.2.2.2.2.2.1
theorem dX8_undo_103 : decode cX8_undo 103 = .ok (.iconst 5, 1) := gg461.2.2.2.2.2.2.1
theorem dX8_undo_104 : decode cX8_undo 104 = .ok (.iload_n 1, 1) := gg461.2.2.2.2.2.2.2.1
theorem dX8_undo_105 : decode cX8_undo 105 = .ok (.imul, 1) := gg461.2.2.2.2.2.2.2.2.1
theorem dX8_undo_106 : decode cX8_undo 106 = .ok (.iconst 3, 1) := gg461.2.2.2.2.2.2.2.2.2
theorem gg462 : decode cX8_undo 107 = .ok (.iadd, 1) ∧ decode cX8_undo 108 = .ok (.iaload, 1) ∧ decode cX8_undo 109 = .ok (.bipush 50, 2) ∧ decode cX8_undo 111 = .ok (.isub, 1) ∧ decode cX8_undo 112 = .ok (.i2l, 1) ∧ decode cX8_undo 113 = .ok (.lsub, 1) ∧ decode cX8_undo 114 = .ok (.lastore, 1) ∧ decode cX8_undo 115 = .ok (.aload_n 0, 1) ∧ decode cX8_undo 116 = .ok (.getfield 26, 3) ∧ decode cX8_undo 119 = .ok (.iconst 3, 1) := by decide +kernel
theorem dX8_undo_107 : decode cX8_undo 107 = .ok (.iadd, 1) := gg462.1
theorem dX8_undo_108 : decode cX8_undo 108 = .ok (.iaload, 1) := gg462.2.1
theorem dX8_undo_109 : decode cX8_undo 109 = .ok (.bipush 50, 2) := gg462.2.2.1
theorem dX8_undo_111 : decode cX8_undo 111 = .ok (.isub, 1) := gg462.2.2.2.1
theorem dX8_undo_112 : decode cX8_undo 112 = .ok (.i2l, 1) := gg462.2.2.2.2.1
theorem dX8_undo_113 : decode cX8_undo 113 = .ok (.lsub, 1) := gg462.2.2.2.2.2.1
theorem dX8_undo_114 : decode cX8_undo 114 = .ok (.lastore, 1) := gg462.2.2.2.2.2.2.1
theorem dX8_undo_115 : decode cX8_undo 115 = .ok (.aload_n 0, 1) := gg462.2.2.2.2.2.2.2.1
theorem dX8_undo_116 : decode cX8_undo 116 = .ok (.getfield 26, 3) := gg462.2.2.2.2.2.2.2.2.1
theorem dX8_undo_119 : decode cX8_undo 119 = .ok (.iconst 3, 1) := gg462.2.2.2.2.2.2.2.2.2
theorem gg463 : decode cX8_undo 120 = .ok (.dup2, 1) ∧ decode cX8_undo 121 = .ok (.laload, 1) ∧ decode cX8_undo 122 = .ok (.aload_n 0, 1) ∧ decode cX8_undo 123 = .ok (.getfield 20, 3) ∧ decode cX8_undo 126 = .ok (.iconst 5, 1) ∧ decode cX8_undo 127 = .ok (.iload_n 1, 1) ∧ decode cX8_undo 128 = .ok (.imul, 1) ∧ decode cX8_undo 129 = .ok (.iconst 4, 1) ∧ decode cX8_undo 130 = .ok (.iadd, 1) ∧ decode cX8_undo 131 = .ok (.iaload, 1) := by decide +kernel
theorem dX8_undo_120 : decode cX8_undo 120 = .ok (.dup2, 1) := gg463.1
theorem dX8_undo_121 : decode cX8_undo 121 = .ok (.laload, 1) := gg463.2.1
theorem dX8_undo_122 : decode cX8_undo 122 = .ok (.aload_n 0, 1) := gg463.2.2.1
theorem dX8_undo_123 : decode cX8_undo 123 = .ok (.getfield 20, 3) := gg463.2.2.2.1
theorem dX8_undo_126 : decode cX8_undo 126 = .ok (.iconst 5, 1) := gg463.2.2.2.2.1
theorem dX8_undo_127 : decode cX8_undo 127 = .ok (.iload_n 1, 1) := gg463.2.2.2.2.2.1
theorem dX8_undo_128 : decode cX8_undo 128 = .ok (.imul, 1) := gg463.2.2.2.2.2.2.1
theorem dX8_undo_129 : decode cX8_undo 129 = .ok (.iconst 4, 1) := gg463.2.2.2.2.2.2.2.1
theorem dX8_undo_130 : decode cX8_undo 130 = .ok (.iadd, 1) := gg463.2.2.2.2.2.2.2.2.1
theorem dX8_undo_131 : decode cX8_undo 131 = .ok (.iaload, 1) := gg463.2.2.2.2.2.2.2.2.2
theorem gg464 : decode cX8_undo 132 = .ok (.bipush 50, 2) ∧ decode cX8_undo 134 = .ok (.isub, 1) ∧ decode cX8_undo 135 = .ok (.i2l, 1) ∧ decode cX8_undo 136 = .ok (.lsub, 1) ∧ decode cX8_undo 137 = .ok (.lastore, 1) ∧ decode cX8_undo 138 = .ok (.goto 22, 3) ∧ decode cX8_undo 141 = .ok (.aload_n 0, 1) ∧ decode cX8_undo 142 = .ok (.getfield 23, 3) ∧ decode cX8_undo 145 = .ok (.iload_n 1, 1) ∧ decode cX8_undo 146 = .ok (.aload_n 0, 1) := by decide +kernel
theorem dX8_undo_132 : decode cX8_undo 132 = .ok (.bipush 50, 2) := gg464.1
theorem dX8_undo_134 : decode cX8_undo 134 = .ok (.isub, 1) := gg464.2.1
theorem dX8_undo_135 : decode cX8_undo 135 = .ok (.i2l, 1) := gg464.2.2.1
theorem dX8_undo_136 : decode cX8_undo 136 = .ok (.lsub, 1) := gg464.2.2.2.1
theorem dX8_undo_137 : decode cX8_undo 137 = .ok (.lastore, 1) := gg464.2.2.2.2.1
theorem dX8_undo_138 : decode cX8_undo 138 = .ok (.goto 22, 3) := gg464.2.2.2.2.2.1
theorem dX8_undo_141 : decode cX8_undo 141 = .ok (.aload_n 0, 1) := gg464.2.2.2.2.2.2.1
theorem dX8_undo_142 : decode cX8_undo 142 = .ok (.getfield 23, 3) := gg464.2.2.2.2.2.2.2.1
theorem dX8_undo_145 : decode cX8_undo 145 = .ok (.iload_n 1, 1) := gg464.2.2.2.2.2.2.2.2.1
theorem dX8_undo_146 : decode cX8_undo 146 = .ok (.aload_n 0, 1) := gg464.2.2.2.2.2.2.2.2.2
theorem gg465 : decode cX8_undo 147 = .ok (.getfield 30, 3) ∧ decode cX8_undo 150 = .ok (.iconst 3, 1) ∧ decode cX8_undo 151 = .ok (.aload_n 0, 1) ∧ decode cX8_undo 152 = .ok (.getfield 86, 3) ∧ decode cX8_undo 155 = .ok (.imul, 1) ∧ decode cX8_undo 156 = .ok (.iconst 2, 1) ∧ decode cX8_undo 157 = .ok (.iadd, 1) ∧ decode cX8_undo 158 = .ok (.iaload, 1) ∧ decode cX8_undo 159 = .ok (.iastore, 1) ∧ decode cX8_undo 160 = .ok (.aload_n 0, 1) := by decide +kernel
theorem dX8_undo_147 : decode cX8_undo 147 = .ok (.getfield 30, 3) := gg465.1
theorem dX8_undo_150 : decode cX8_undo 150 = .ok (.iconst 3, 1) := gg465.2.1
theorem dX8_undo_151 : decode cX8_undo 151 = .ok (.aload_n 0, 1) := gg465.2.2.1
theorem dX8_undo_152 : decode cX8_undo 152 = .ok (.getfield 86, 3) := gg465.2.2.2.1
theorem dX8_undo_155 : decode cX8_undo 155 = .ok (.imul, 1) := gg465.2.2.2.2.1
theorem dX8_undo_156 : decode cX8_undo 156 = .ok (.iconst 2, 1) := gg465.2.2.2.2.2.1
theorem dX8_undo_157 : decode cX8_undo 157 = .ok (.iadd, 1) := gg465.2.2.2.2.2.2.1
theorem dX8_undo_158 : decode cX8_undo 158 = .ok (.iaload, 1) := gg465.2.2.2.2.2.2.2.1
theorem dX8_undo_159 : decode cX8_undo 159 = .ok (.iastore, 1) := gg465.2.2.2.2.2.2.2.2.1
theorem dX8_undo_160 : decode cX8_undo 160 = .ok (.aload_n 0, 1) := gg465.2.2.2.2.2.2.2.2.2
theorem gg466 : decode cX8_undo 161 = .ok (.getfield 86, 3) ∧ decode cX8_undo 164 = .ok (.ireturn, 1) := by decide +kernel
theorem dX8_undo_161 : decode cX8_undo 161 = .ok (.getfield 86, 3) := gg466.1
theorem dX8_undo_164 : decode cX8_undo 164 = .ok (.ireturn, 1) := gg466.2
theorem gg467 : decode cX8_worth 0 = .ok (.aload_n 0, 1) ∧ decode cX8_worth 1 = .ok (.getfield 20, 3) ∧ decode cX8_worth 4 = .ok (.iconst 5, 1) ∧ decode cX8_worth 5 = .ok (.iload_n 1, 1) ∧ decode cX8_worth 6 = .ok (.imul, 1) ∧ decode cX8_worth 7 = .ok (.iconst 3, 1) ∧ decode cX8_worth 8 = .ok (.iadd, 1) ∧ decode cX8_worth 9 = .ok (.iload_n 2, 1) ∧ decode cX8_worth 10 = .ok (.iadd, 1) ∧ decode cX8_worth 11 = .ok (.iaload, 1) := by decide +kernel
theorem dX8_worth_0 : decode cX8_worth 0 = .ok (.aload_n 0, 1) := gg467.1
theorem dX8_worth_1 : decode cX8_worth 1 = .ok (.getfield 20, 3) := gg467.2.1
theorem dX8_worth_4 : decode cX8_worth 4 = .ok (.iconst 5, 1) := gg467.2.2.1
theorem dX8_worth_5 : decode cX8_worth 5 = .ok (.iload_n 1, 1) := gg467.2.2.2.1
theorem dX8_worth_6 : decode cX8_worth 6 = .ok (.imul, 1) := gg467.2.2.2.2.1
theorem dX8_worth_7 : decode cX8_worth 7 = .ok (.iconst 3, 1) := gg467.2.2.2.2.2.1
theorem dX8_worth_8 : decode cX8_worth 8 = .ok (.iadd, 1) := gg467.2.2.2.2.2.2.1
theorem dX8_worth_9 : decode cX8_worth 9 = .ok (.iload_n 2, 1) := gg467.2.2.2.2.2.2.2.1
theorem dX8_worth_10 : decode cX8_worth 10 = .ok (.iadd, 1) := gg467.2.2.2.2.2.2.2.2.1
theorem dX8_worth_11 : decode cX8_worth 11 = .ok (.iaload, 1) := gg467.2.2.2.2.2.2.2.2.2
theorem gg468 : decode cX8_worth 12 = .ok (.bipush 50, 2) ∧ decode cX8_worth 14 = .ok (.isub, 1) ∧ decode cX8_worth 15 = .ok (.ireturn, 1) := by decide +kernel
theorem dX8_worth_12 : decode cX8_worth 12 = .ok (.bipush 50, 2) := gg468.1
theorem dX8_worth_14 : decode cX8_worth 14 = .ok (.isub, 1) := gg468.2.1
theorem dX8_worth_15 : decode cX8_worth 15 = .ok (.ireturn, 1) := gg468.2.2
theorem gg469 : decode cX8_gains 0 = .ok (.iconst 0, 1) ∧ decode cX8_gains 1 = .ok (.istore 4, 2) ∧ decode cX8_gains 3 = .ok (.iconst 0, 1) ∧ decode cX8_gains 4 = .ok (.istore 5, 2) ∧ decode cX8_gains 6 = .ok (.iload 5, 2) ∧ decode cX8_gains 8 = .ok (.aload_n 0, 1) ∧ decode cX8_gains 9 = .ok (.getfield 17, 3) ∧ decode cX8_gains 12 = .ok (.iconst 0, 1) ∧ decode cX8_gains 13 = .ok (.iaload, 1) ∧ decode cX8_gains 14 = .ok (.if_icmp .ge 73, 3) := by decide +kernel
theorem dX8_gains_0 : decode cX8_gains 0 = .ok (.iconst 0, 1) := gg469.1
theorem dX8_gains_1 : decode cX8_gains 1 = .ok (.istore 4, 2) := gg469.2.1
theorem dX8_gains_3 : decode cX8_gains 3 = .ok (.iconst 0, 1) := gg469.2.2.1
theorem dX8_gains_4 : decode cX8_gains 4 = .ok (.istore 5, 2) := gg469.2.2.2.1
theorem dX8_gains_6 : decode cX8_gains 6 = .ok (.iload 5, 2) := gg469.2.2.2.2.1
theorem dX8_gains_8 : decode cX8_gains 8 = .ok (.aload_n 0, 1) := gg469.2.2.2.2.2.1
theorem dX8_gains_9 : decode cX8_gains 9 = .ok (.getfield 17, 3) := gg469.2.2.2.2.2.2.1
theorem dX8_gains_12 : decode cX8_gains 12 = .ok (.iconst 0, 1) := gg469.2.2.2.2.2.2.2.1
theorem dX8_gains_13 : decode cX8_gains 13 = .ok (.iaload, 1) := gg469.2.2.2.2.2.2.2.2.1
theorem dX8_gains_14 : decode cX8_gains 14 = .ok (.if_icmp .ge 73, 3) := gg469.2.2.2.2.2.2.2.2.2
theorem gg470 : decode cX8_gains 17 = .ok (.aload_n 0, 1) ∧ decode cX8_gains 18 = .ok (.getfield 23, 3) ∧ decode cX8_gains 21 = .ok (.iload 5, 2) ∧ decode cX8_gains 23 = .ok (.iaload, 1) ∧ decode cX8_gains 24 = .ok (.istore 6, 2) ∧ decode cX8_gains 26 = .ok (.iload 5, 2) ∧ decode cX8_gains 28 = .ok (.iload_n 2, 1) ∧ decode cX8_gains 29 = .ok (.if_icmp .ne 10, 3) ∧ decode cX8_gains 32 = .ok (.iload 6, 2) ∧ decode cX8_gains 34 = .ok (.iconst 2, 1) := by decide +kernel
theorem dX8_gains_17 : decode cX8_gains 17 = .ok (.aload_n 0, 1) := gg470.1
theorem dX8_gains_18 : decode cX8_gains 18 = .ok (.getfield 23, 3) := gg470.2.1
theorem dX8_gains_21 : decode cX8_gains 21 = .ok (.iload 5, 2) := gg470.2.2.1
theorem dX8_gains_23 : decode cX8_gains 23 = .ok (.iaload, 1) := gg470.2.2.2.1
theorem dX8_gains_24 : decode cX8_gains 24 = .ok (.istore 6, 2) := gg470.2.2.2.2.1
theorem dX8_gains_26 : decode cX8_gains 26 = .ok (.iload 5, 2) := gg470.2.2.2.2.2.1
theorem dX8_gains_28 : decode cX8_gains 28 = .ok (.iload_n 2, 1) := gg470.2.2.2.2.2.2.1
theorem dX8_gains_29 : decode cX8_gains 29 = .ok (.if_icmp .ne 10, 3) := gg470.2.2.2.2.2.2.2.1
theorem dX8_gains_32 : decode cX8_gains 32 = .ok (.iload 6, 2) := gg470.2.2.2.2.2.2.2.2.1
theorem dX8_gains_34 : decode cX8_gains 34 = .ok (.iconst 2, 1) := gg470.2.2.2.2.2.2.2.2.2
theorem gg471 : decode cX8_gains 35 = .ok (.iand, 1) ∧ decode cX8_gains 36 = .ok (.goto 5, 3) ∧ decode cX8_gains 39 = .ok (.iload 6, 2) ∧ decode cX8_gains 41 = .ok (.istore 6, 2) ∧ decode cX8_gains 43 = .ok (.iload 5, 2) ∧ decode cX8_gains 45 = .ok (.iload_n 3, 1) ∧ decode cX8_gains 46 = .ok (.if_icmp .ne 10, 3) ∧ decode cX8_gains 49 = .ok (.iload 6, 2) ∧ decode cX8_gains 51 = .ok (.iconst 1, 1) ∧ decode cX8_gains 52 = .ok (.iand, 1) := by decide +kernel
theorem dX8_gains_35 : decode cX8_gains 35 = .ok (.iand, 1) := gg471.1
theorem dX8_gains_36 : decode cX8_gains 36 = .ok (.goto 5, 3) := gg471.2.1
theorem dX8_gains_39 : decode cX8_gains 39 = .ok (.iload 6, 2) := gg471.2.2.1
theorem dX8_gains_41 : decode cX8_gains 41 = .ok (.istore 6, 2) := gg471.2.2.2.1
theorem dX8_gains_43 : decode cX8_gains 43 = .ok (.iload 5, 2) := gg471.2.2.2.2.1
theorem dX8_gains_45 : decode cX8_gains 45 = .ok (.iload_n 3, 1) := gg471.2.2.2.2.2.1
theorem dX8_gains_46 : decode cX8_gains 46 = .ok (.if_icmp .ne 10, 3) := gg471.2.2.2.2.2.2.1
theorem dX8_gains_49 : decode cX8_gains 49 = .ok (.iload 6, 2) := gg471.2.2.2.2.2.2.2.1
theorem dX8_gains_51 : decode cX8_gains 51 = .ok (.iconst 1, 1) := gg471.2.2.2.2.2.2.2.2.1
theorem dX8_gains_52 : decode cX8_gains 52 = .ok (.iand, 1) := gg471.2.2.2.2.2.2.2.2.2
theorem gg472 : decode cX8_gains 53 = .ok (.goto 5, 3) ∧ decode cX8_gains 56 = .ok (.iload 6, 2) ∧ decode cX8_gains 58 = .ok (.istore 6, 2) ∧ decode cX8_gains 60 = .ok (.iload 4, 2) ∧ decode cX8_gains 62 = .ok (.iload 6, 2) ∧ decode cX8_gains 64 = .ok (.ifCond .ne 7, 3) ∧ decode cX8_gains 67 = .ok (.iconst 0, 1) ∧ decode cX8_gains 68 = .ok (.goto 10, 3) ∧ decode cX8_gains 71 = .ok (.aload_n 0, 1) ∧ decode cX8_gains 72 = .ok (.iload 5, 2) := by decide +kernel
theorem dX8_gains_53 : decode cX8_gains 53 = .ok (.goto 5, 3) := gg472.1
theorem dX8_gains_56 : decode cX8_gains 56 = .ok (.iload 6, 2) := gg472.2.1
theorem dX8_gains_58 : decode cX8_gains 58 = .ok (.istore 6, 2) := gg472.2.2.1
theorem dX8_gains_60 : decode cX8_gains 60 = .ok (.iload 4, 2) := gg472.2.2.2.1
theorem dX8_gains_62 : decode cX8_gains 62 = .ok (.iload 6, 2) := gg472.2.2.2.2.1
theorem dX8_gains_64 : decode cX8_gains 64 = .ok (.ifCond .ne 7, 3) := gg472.2.2.2.2.2.1
theorem dX8_gains_67 : decode cX8_gains 67 = .ok (.iconst 0, 1) := gg472.2.2.2.2.2.2.1
theorem dX8_gains_68 : decode cX8_gains 68 = .ok (.goto 10, 3) := gg472.2.2.2.2.2.2.2.1
theorem dX8_gains_71 : decode cX8_gains 71 = .ok (.aload_n 0, 1) := gg472.2.2.2.2.2.2.2.2.1
theorem dX8_gains_72 : decode cX8_gains 72 = .ok (.iload 5, 2) := gg472.2.2.2.2.2.2.2.2.2
theorem gg473 : decode cX8_gains 74 = .ok (.iload_n 1, 1) ∧ decode cX8_gains 75 = .ok (.invokevirtual 156, 3) ∧ decode cX8_gains 78 = .ok (.iadd, 1) ∧ decode cX8_gains 79 = .ok (.istore 4, 2) ∧ decode cX8_gains 81 = .ok (.iinc 5 1, 3) ∧ decode cX8_gains 84 = .ok (.goto (-78), 3) ∧ decode cX8_gains 87 = .ok (.iload 4, 2) ∧ decode cX8_gains 89 = .ok (.ireturn, 1) := by decide +kernel
theorem dX8_gains_74 : decode cX8_gains 74 = .ok (.iload_n 1, 1) := gg473.1
theorem dX8_gains_75 : decode cX8_gains 75 = .ok (.invokevirtual 156, 3) := gg473.2.1
theorem dX8_gains_78 : decode cX8_gains 78 = .ok (.iadd, 1) := gg473.2.2.1
theorem dX8_gains_79 : decode cX8_gains 79 = .ok (.istore 4, 2) := gg473.2.2.2.1
theorem dX8_gains_81 : decode cX8_gains 81 = .ok (.iinc 5 1, 3) := gg473.2.2.2.2.1
theorem dX8_gains_84 : decode cX8_gains 84 = .ok (.goto (-78), 3) := gg473.2.2.2.2.2.1
theorem dX8_gains_87 : decode cX8_gains 87 = .ok (.iload 4, 2) := gg473.2.2.2.2.2.2.1
theorem dX8_gains_89 : decode cX8_gains 89 = .ok (.ireturn, 1) := gg473.2.2.2.2.2.2.2
theorem gg474 : decode cX8_gain 0 = .ok (.iload_n 1, 1) ∧ decode cX8_gain 1 = .ok (.i2l, 1) ∧ decode cX8_gain 2 = .ok (.lconst 0, 1) ∧ decode cX8_gain 3 = .ok (.lconst 1, 1) ∧ decode cX8_gain 4 = .ok (.invokestatic 53, 3) ∧ decode cX8_gain 7 = .ok (.ifCond .eq 17, 3) ∧ decode cX8_gain 10 = .ok (.aload_n 0, 1) ∧ decode cX8_gain 11 = .ok (.iload_n 1, 1) ∧ decode cX8_gain 12 = .ok (.iconst (-1), 1) ∧ decode cX8_gain 13 = .ok (.iconst (-1), 1) := by decide +kernel
theorem dX8_gain_0 : decode cX8_gain 0 = .ok (.iload_n 1, 1) := gg474.1
theorem dX8_gain_1 : decode cX8_gain 1 = .ok (.i2l, 1) := gg474.2.1
theorem dX8_gain_2 : decode cX8_gain 2 = .ok (.lconst 0, 1) := gg474.2.2.1
theorem dX8_gain_3 : decode cX8_gain 3 = .ok (.lconst 1, 1) := gg474.2.2.2.1
theorem dX8_gain_4 : decode cX8_gain 4 = .ok (.invokestatic 53, 3) := gg474.2.2.2.2.1
theorem dX8_gain_7 : decode cX8_gain 7 = .ok (.ifCond .eq 17, 3) := gg474.2.2.2.2.2.1
theorem dX8_gain_10 : decode cX8_gain 10 = .ok (.aload_n 0, 1) := gg474.2.2.2.2.2.2.1
theorem dX8_gain_11 : decode cX8_gain 11 = .ok (.iload_n 1, 1) := gg474.2.2.2.2.2.2.2.1
theorem dX8_gain_12 : decode cX8_gain 12 = .ok (.iconst (-1), 1) := gg474.2.2.2.2.2.2.2.2.1
theorem dX8_gain_13 : decode cX8_gain 13 = .ok (.iconst (-1), 1) := gg474.2.2.2.2.2.2.2.2.2
theorem gg475 : decode cX8_gain 14 = .ok (.invokevirtual 160, 3) ∧ decode cX8_gain 17 = .ok (.sipush 1000, 3) ∧ decode cX8_gain 20 = .ok (.iadd, 1) ∧ decode cX8_gain 21 = .ok (.goto 4, 3) ∧ decode cX8_gain 24 = .ok (.iconst (-1), 1) ∧ decode cX8_gain 25 = .ok (.ireturn, 1) := by decide +kernel
theorem dX8_gain_14 : decode cX8_gain 14 = .ok (.invokevirtual 160, 3) := gg475.1
theorem dX8_gain_17 : decode cX8_gain 17 = .ok (.sipush 1000, 3) := gg475.2.1
theorem dX8_gain_20 : decode cX8_gain 20 = .ok (.iadd, 1) := gg475.2.2.1
theorem dX8_gain_21 : decode cX8_gain 21 = .ok (.goto 4, 3) := gg475.2.2.2.1
theorem dX8_gain_24 : decode cX8_gain 24 = .ok (.iconst (-1), 1) := gg475.2.2.2.2.1
theorem dX8_gain_25 : decode cX8_gain 25 = .ok (.ireturn, 1) := gg475.2.2.2.2.2
theorem gg476 : decode cX8_forbid 0 = .ok (.iload_n 1, 1) ∧ decode cX8_forbid 1 = .ok (.i2l, 1) ∧ decode cX8_forbid 2 = .ok (.ldc2_w 130, 3) ∧ decode cX8_forbid 5 = .ok (.aload_n 0, 1) ∧ decode cX8_forbid 6 = .ok (.getfield 17, 3) ∧ decode cX8_forbid 9 = .ok (.iconst 0, 1) ∧ decode cX8_forbid 10 = .ok (.iaload, 1) ∧ decode cX8_forbid 11 = .ok (.iconst 1, 1) ∧ decode cX8_forbid 12 = .ok (.isub, 1) ∧ decode cX8_forbid 13 = .ok (.i2l, 1) := by decide +kernel
theorem dX8_forbid_0 : decode cX8_forbid 0 = .ok (.iload_n 1, 1) := gg476.1
theorem dX8_forbid_1 : decode cX8_forbid 1 = .ok (.i2l, 1) := gg476.2.1
theorem dX8_forbid_2 : decode cX8_forbid 2 = .ok (.ldc2_w 130, 3) := gg476.2.2.1
theorem dX8_forbid_5 : decode cX8_forbid 5 = .ok (.aload_n 0, 1) := gg476.2.2.2.1
theorem dX8_forbid_6 : decode cX8_forbid 6 = .ok (.getfield 17, 3) := gg476.2.2.2.2.1
theorem dX8_forbid_9 : decode cX8_forbid 9 = .ok (.iconst 0, 1) := gg476.2.2.2.2.2.1
theorem dX8_forbid_10 : decode cX8_forbid 10 = .ok (.iaload, 1) := gg476.2.2.2.2.2.2.1
theorem dX8_forbid_11 : decode cX8_forbid 11 = .ok (.iconst 1, 1) := gg476.2.2.2.2.2.2.2.1
theorem dX8_forbid_12 : decode cX8_forbid 12 = .ok (.isub, 1) := gg476.2.2.2.2.2.2.2.2.1
theorem dX8_forbid_13 : decode cX8_forbid 13 = .ok (.i2l, 1) := gg476.2.2.2.2.2.2.2.2.2
theorem gg477 : decode cX8_forbid 14 = .ok (.invokestatic 53, 3) ∧ decode cX8_forbid 17 = .ok (.ifCond .eq 47, 3) ∧ decode cX8_forbid 20 = .ok (.iload_n 2, 1) ∧ decode cX8_forbid 21 = .ok (.i2l, 1) ∧ decode cX8_forbid 22 = .ok (.ldc2_w 130, 3) ∧ decode cX8_forbid 25 = .ok (.aload_n 0, 1) ∧ decode cX8_forbid 26 = .ok (.getfield 17, 3) ∧ decode cX8_forbid 29 = .ok (.iconst 0, 1) ∧ decode cX8_forbid 30 = .ok (.iaload, 1) ∧ decode cX8_forbid 31 = .ok (.iconst 1, 1) := by decide +kernel
theorem dX8_forbid_14 : decode cX8_forbid 14 = .ok (.invokestatic 53, 3) := gg477.1
theorem dX8_forbid_17 : decode cX8_forbid 17 = .ok (.ifCond .eq 47, 3) := gg477.2.1
theorem dX8_forbid_20 : decode cX8_forbid 20 = .ok (.iload_n 2, 1) := gg477.2.2.1
theorem dX8_forbid_21 : decode cX8_forbid 21 = .ok (.i2l, 1) := gg477.2.2.2.1
theorem dX8_forbid_22 : decode cX8_forbid 22 = .ok (.ldc2_w 130, 3) := gg477.2.2.2.2.1
theorem dX8_forbid_25 : decode cX8_forbid 25 = .ok (.aload_n 0, 1) := gg477.2.2.2.2.2.1
theorem dX8_forbid_26 : decode cX8_forbid 26 = .ok (.getfield 17, 3) := gg477.2.2.2.2.2.2.1
theorem dX8_forbid_29 : decode cX8_forbid 29 = .ok (.iconst 0, 1) := gg477.2.2.2.2.2.2.2.1
theorem dX8_forbid_30 : decode cX8_forbid 30 = .ok (.iaload, 1) := gg477.2.2.2.2.2.2.2.2.1
theorem dX8_forbid_31 : decode cX8_forbid 31 = .ok (.iconst 1, 1) := gg477.2.2.2.2.2.2.2.2.2
theorem gg478 : decode cX8_forbid 32 = .ok (.isub, 1) ∧ decode cX8_forbid 33 = .ok (.i2l, 1) ∧ decode cX8_forbid 34 = .ok (.invokestatic 53, 3) ∧ decode cX8_forbid 37 = .ok (.ifCond .eq 27, 3) ∧ decode cX8_forbid 40 = .ok (.iload_n 3, 1) ∧ decode cX8_forbid 41 = .ok (.i2l, 1) ∧ decode cX8_forbid 42 = .ok (.lconst 0, 1) ∧ decode cX8_forbid 43 = .ok (.lconst 1, 1) ∧ decode cX8_forbid 44 = .ok (.invokestatic 53, 3) ∧ decode cX8_forbid 47 = .ok (.ifCond .eq 17, 3) := by decide +kernel
theorem dX8_forbid_32 : decode cX8_forbid 32 = .ok (.isub, 1) := gg478.1
theorem dX8_forbid_33 : decode cX8_forbid 33 = .ok (.i2l, 1) := gg478.2.1
theorem dX8_forbid_34 : decode cX8_forbid 34 = .ok (.invokestatic 53, 3) := gg478.2.2.1
theorem dX8_forbid_37 : decode cX8_forbid 37 = .ok (.ifCond .eq 27, 3) := gg478.2.2.2.1
theorem dX8_forbid_40 : decode cX8_forbid 40 = .ok (.iload_n 3, 1) := gg478.2.2.2.2.1
theorem dX8_forbid_41 : decode cX8_forbid 41 = .ok (.i2l, 1) := gg478.2.2.2.2.2.1
theorem dX8_forbid_42 : decode cX8_forbid 42 = .ok (.lconst 0, 1) := gg478.2.2.2.2.2.2.1
theorem dX8_forbid_43 : decode cX8_forbid 43 = .ok (.lconst 1, 1) := gg478.2.2.2.2.2.2.2.1
theorem dX8_forbid_44 : decode cX8_forbid 44 = .ok (.invokestatic 53, 3) := gg478.2.2.2.2.2.2.2.2.1
theorem dX8_forbid_47 : decode cX8_forbid 47 = .ok (.ifCond .eq 17, 3) := gg478.2.2.2.2.2.2.2.2.2
theorem gg479 : decode cX8_forbid 50 = .ok (.aload_n 0, 1) ∧ decode cX8_forbid 51 = .ok (.iload_n 3, 1) ∧ decode cX8_forbid 52 = .ok (.iload_n 1, 1) ∧ decode cX8_forbid 53 = .ok (.iload_n 2, 1) ∧ decode cX8_forbid 54 = .ok (.invokevirtual 160, 3) ∧ decode cX8_forbid 57 = .ok (.sipush 1000, 3) ∧ decode cX8_forbid 60 = .ok (.iadd, 1) ∧ decode cX8_forbid 61 = .ok (.goto 4, 3) ∧ decode cX8_forbid 64 = .ok (.iconst (-1), 1) ∧ decode cX8_forbid 65 = .ok (.ireturn, 1) := by decide +kernel
theorem dX8_forbid_50 : decode cX8_forbid 50 = .ok (.aload_n 0, 1) := gg479.1
theorem dX8_forbid_51 : decode cX8_forbid 51 = .ok (.iload_n 3, 1) := gg479.2.1
theorem dX8_forbid_52 : decode cX8_forbid 52 = .ok (.iload_n 1, 1) := gg479.2.2.1
theorem dX8_forbid_53 : decode cX8_forbid 53 = .ok (.iload_n 2, 1) := gg479.2.2.2.1
theorem dX8_forbid_54 : decode cX8_forbid 54 = .ok (.invokevirtual 160, 3) := gg479.2.2.2.2.1
theorem dX8_forbid_57 : decode cX8_forbid 57 = .ok (.sipush 1000, 3) := gg479.2.2.2.2.2.1
theorem dX8_forbid_60 : decode cX8_forbid 60 = .ok (.iadd, 1) := gg479.2.2.2.2.2.2.1
theorem dX8_forbid_61 : decode cX8_forbid 61 = .ok (.goto 4, 3) := gg479.2.2.2.2.2.2.2.1
theorem dX8_forbid_64 : decode cX8_forbid 64 = .ok (.iconst (-1), 1) := gg479.2.2.2.2.2.2.2.2.1
theorem dX8_forbid_65 : decode cX8_forbid 65 = .ok (.ireturn, 1) := gg479.2.2.2.2.2.2.2.2.2
theorem gg480 : decode cX8_isRest 0 = .ok (.iconst 1, 1) ∧ decode cX8_isRest 1 = .ok (.istore_n 3, 1) ∧ decode cX8_isRest 2 = .ok (.iconst (-1), 1) ∧ decode cX8_isRest 3 = .ok (.istore 4, 2) ∧ decode cX8_isRest 5 = .ok (.iload 4, 2) ∧ decode cX8_isRest 7 = .ok (.aload_n 0, 1) ∧ decode cX8_isRest 8 = .ok (.getfield 17, 3) ∧ decode cX8_isRest 11 = .ok (.iconst 0, 1) ∧ decode cX8_isRest 12 = .ok (.iaload, 1) ∧ decode cX8_isRest 13 = .ok (.if_icmp .ge 55, 3) := by decide +kernel
theorem dX8_isRest_0 : decode cX8_isRest 0 = .ok (.iconst 1, 1) := gg480.1
theorem dX8_isRest_1 : decode cX8_isRest 1 = .ok (.istore_n 3, 1) := gg480.2.1
theorem dX8_isRest_2 : decode cX8_isRest 2 = .ok (.iconst (-1), 1) := gg480.2.2.1
theorem dX8_isRest_3 : decode cX8_isRest 3 = .ok (.istore 4, 2) := gg480.2.2.2.1
theorem dX8_isRest_5 : decode cX8_isRest 5 = .ok (.iload 4, 2) := gg480.2.2.2.2.1
theorem dX8_isRest_7 : decode cX8_isRest 7 = .ok (.aload_n 0, 1) := gg480.2.2.2.2.2.1
theorem dX8_isRest_8 : decode cX8_isRest 8 = .ok (.getfield 17, 3) := gg480.2.2.2.2.2.2.1
theorem dX8_isRest_11 : decode cX8_isRest 11 = .ok (.iconst 0, 1) := gg480.2.2.2.2.2.2.2.1
theorem dX8_isRest_12 : decode cX8_isRest 12 = .ok (.iaload, 1) := gg480.2.2.2.2.2.2.2.2.1
theorem dX8_isRest_13 : decode cX8_isRest 13 = .ok (.if_icmp .ge 55, 3) := gg480.2.2.2.2.2.2.2.2.2
theorem gg481 : decode cX8_isRest 16 = .ok (.iload_n 3, 1) ∧ decode cX8_isRest 17 = .ok (.ifCond .eq 43, 3) ∧ decode cX8_isRest 20 = .ok (.aload_n 0, 1) ∧ decode cX8_isRest 21 = .ok (.iconst 0, 1) ∧ decode cX8_isRest 22 = .ok (.iload 4, 2) ∧ decode cX8_isRest 24 = .ok (.iload_n 2, 1) ∧ decode cX8_isRest 25 = .ok (.invokevirtual 160, 3) ∧ decode cX8_isRest 28 = .ok (.aload_n 0, 1) ∧ decode cX8_isRest 29 = .ok (.iconst 0, 1) ∧ decode cX8_isRest 30 = .ok (.iload_n 1, 1) := by decide +kernel
theorem dX8_isRest_16 : decode cX8_isRest 16 = .ok (.iload_n 3, 1) := gg481.1
theorem dX8_isRest_17 : decode cX8_isRest 17 = .ok (.ifCond .eq 43, 3) := gg481.2.1
theorem dX8_isRest_20 : decode cX8_isRest 20 = .ok (.aload_n 0, 1) := gg481.2.2.1
theorem dX8_isRest_21 : decode cX8_isRest 21 = .ok (.iconst 0, 1) := gg481.2.2.2.1
theorem dX8_isRest_22 : decode cX8_isRest 22 = .ok (.iload 4, 2) := gg481.2.2.2.2.1
theorem dX8_isRest_24 : decode cX8_isRest 24 = .ok (.iload_n 2, 1) := gg481.2.2.2.2.2.1
theorem dX8_isRest_25 : decode cX8_isRest 25 = .ok (.invokevirtual 160, 3) := gg481.2.2.2.2.2.2.1
theorem dX8_isRest_28 : decode cX8_isRest 28 = .ok (.aload_n 0, 1) := gg481.2.2.2.2.2.2.2.1
theorem dX8_isRest_29 : decode cX8_isRest 29 = .ok (.iconst 0, 1) := gg481.2.2.2.2.2.2.2.2.1
theorem dX8_isRest_30 : decode cX8_isRest 30 = .ok (.iload_n 1, 1) := gg481.2.2.2.2.2.2.2.2.2
theorem gg482 : decode cX8_isRest 31 = .ok (.iload_n 2, 1) ∧ decode cX8_isRest 32 = .ok (.invokevirtual 160, 3) ∧ decode cX8_isRest 35 = .ok (.if_icmp .gt 25, 3) ∧ decode cX8_isRest 38 = .ok (.aload_n 0, 1) ∧ decode cX8_isRest 39 = .ok (.iconst 1, 1) ∧ decode cX8_isRest 40 = .ok (.iload_n 1, 1) ∧ decode cX8_isRest 41 = .ok (.iload 4, 2) ∧ decode cX8_isRest 43 = .ok (.invokevirtual 160, 3) ∧ decode cX8_isRest 46 = .ok (.aload_n 0, 1) ∧ decode cX8_isRest 47 = .ok (.iconst 1, 1) := by decide +kernel
theorem dX8_isRest_31 : decode cX8_isRest 31 = .ok (.iload_n 2, 1) := gg482.1
theorem dX8_isRest_32 : decode cX8_isRest 32 = .ok (.invokevirtual 160, 3) := gg482.2.1
theorem dX8_isRest_35 : decode cX8_isRest 35 = .ok (.if_icmp .gt 25, 3) := gg482.2.2.1
theorem dX8_isRest_38 : decode cX8_isRest 38 = .ok (.aload_n 0, 1) := gg482.2.2.2.1
theorem dX8_isRest_39 : decode cX8_isRest 39 = .ok (.iconst 1, 1) := gg482.2.2.2.2.1
theorem dX8_isRest_40 : decode cX8_isRest 40 = .ok (.iload_n 1, 1) := gg482.2.2.2.2.2.1
theorem dX8_isRest_41 : decode cX8_isRest 41 = .ok (.iload 4, 2) := gg482.2.2.2.2.2.2.1
theorem dX8_isRest_43 : decode cX8_isRest 43 = .ok (.invokevirtual 160, 3) := gg482.2.2.2.2.2.2.2.1
theorem dX8_isRest_46 : decode cX8_isRest 46 = .ok (.aload_n 0, 1) := gg482.2.2.2.2.2.2.2.2.1
theorem dX8_isRest_47 : decode cX8_isRest 47 = .ok (.iconst 1, 1) := gg482.2.2.2.2.2.2.2.2.2
theorem gg483 : decode cX8_isRest 48 = .ok (.iload_n 1, 1) ∧ decode cX8_isRest 49 = .ok (.iload_n 2, 1) ∧ decode cX8_isRest 50 = .ok (.invokevirtual 160, 3) ∧ decode cX8_isRest 53 = .ok (.if_icmp .gt 7, 3) ∧ decode cX8_isRest 56 = .ok (.iconst 1, 1) ∧ decode cX8_isRest 57 = .ok (.goto 4, 3) ∧ decode cX8_isRest 60 = .ok (.iconst 0, 1) ∧ decode cX8_isRest 61 = .ok (.istore_n 3, 1) ∧ decode cX8_isRest 62 = .ok (.iinc 4 1, 3) ∧ decode cX8_isRest 65 = .ok (.goto (-60), 3) := by decide +kernel
theorem dX8_isRest_48 : decode cX8_isRest 48 = .ok (.iload_n 1, 1) := gg483.1
theorem dX8_isRest_49 : decode cX8_isRest 49 = .ok (.iload_n 2, 1) := gg483.2.1
theorem dX8_isRest_50 : decode cX8_isRest 50 = .ok (.invokevirtual 160, 3) := gg483.2.2.1
theorem dX8_isRest_53 : decode cX8_isRest 53 = .ok (.if_icmp .gt 7, 3) := gg483.2.2.2.1
theorem dX8_isRest_56 : decode cX8_isRest 56 = .ok (.iconst 1, 1) := gg483.2.2.2.2.1
theorem dX8_isRest_57 : decode cX8_isRest 57 = .ok (.goto 4, 3) := gg483.2.2.2.2.2.1
theorem dX8_isRest_60 : decode cX8_isRest 60 = .ok (.iconst 0, 1) := gg483.2.2.2.2.2.2.1
theorem dX8_isRest_61 : decode cX8_isRest 61 = .ok (.istore_n 3, 1) := gg483.2.2.2.2.2.2.2.1
theorem dX8_isRest_62 : decode cX8_isRest 62 = .ok (.iinc 4 1, 3) := gg483.2.2.2.2.2.2.2.2.1
theorem dX8_isRest_65 : decode cX8_isRest 65 = .ok (.goto (-60), 3) := gg483.2.2.2.2.2.2.2.2.2
theorem gg484 : decode cX8_isRest 68 = .ok (.iload_n 3, 1) ∧ decode cX8_isRest 69 = .ok (.ireturn, 1) := by decide +kernel
theorem dX8_isRest_68 : decode cX8_isRest 68 = .ok (.iload_n 3, 1) := gg484.1
theorem dX8_isRest_69 : decode cX8_isRest 69 = .ok (.ireturn, 1) := gg484.2
theorem gg485 : decode cX8_rests 0 = .ok (.iload_n 1, 1) ∧ decode cX8_rests 1 = .ok (.i2l, 1) ∧ decode cX8_rests 2 = .ok (.lconst 0, 1) ∧ decode cX8_rests 3 = .ok (.ldc2_w 124, 3) ∧ decode cX8_rests 6 = .ok (.invokestatic 53, 3) ∧ decode cX8_rests 9 = .ok (.ifCond .ne 5, 3) ∧ decode cX8_rests 12 = .ok (.iconst (-1), 1) ∧ decode cX8_rests 13 = .ok (.ireturn, 1) ∧ decode cX8_rests 14 = .ok (.iconst 0, 1) ∧ decode cX8_rests 15 = .ok (.istore_n 2, 1) := by decide +kernel
theorem dX8_rests_0 : decode cX8_rests 0 = .ok (.iload_n 1, 1) := gg485.1
theorem dX8_rests_1 : decode cX8_rests 1 = .ok (.i2l, 1) := gg485.2.1
theorem dX8_rests_2 : decode cX8_rests 2 = .ok (.lconst 0, 1) := gg485.2.2.1
theorem dX8_rests_3 : decode cX8_rests 3 = .ok (.ldc2_w 124, 3) := gg485.2.2.2.1
theorem dX8_rests_6 : decode cX8_rests 6 = .ok (.invokestatic 53, 3) := gg485.2.2.2.2.1
theorem dX8_rests_9 : decode cX8_rests 9 = .ok (.ifCond .ne 5, 3) := gg485.2.2.2.2.2.1
theorem dX8_rests_12 : decode cX8_rests 12 = .ok (.iconst (-1), 1) := gg485.2.2.2.2.2.2.1
theorem dX8_rests_13 : decode cX8_rests 13 = .ok (.ireturn, 1) := gg485.2.2.2.2.2.2.2.1
theorem dX8_rests_14 : decode cX8_rests 14 = .ok (.iconst 0, 1) := gg485.2.2.2.2.2.2.2.2.1
theorem dX8_rests_15 : decode cX8_rests 15 = .ok (.istore_n 2, 1) := gg485.2.2.2.2.2.2.2.2.2
theorem gg486 : decode cX8_rests 16 = .ok (.iconst (-1), 1) ∧ decode cX8_rests 17 = .ok (.istore_n 3, 1) ∧ decode cX8_rests 18 = .ok (.iload_n 3, 1) ∧ decode cX8_rests 19 = .ok (.aload_n 0, 1) ∧ decode cX8_rests 20 = .ok (.getfield 17, 3) ∧ decode cX8_rests 23 = .ok (.iconst 0, 1) ∧ decode cX8_rests 24 = .ok (.iaload, 1) ∧ decode cX8_rests 25 = .ok (.if_icmp .ge 72, 3) ∧ decode cX8_rests 28 = .ok (.iconst (-1), 1) ∧ decode cX8_rests 29 = .ok (.istore 4, 2) := by decide +kernel
theorem dX8_rests_16 : decode cX8_rests 16 = .ok (.iconst (-1), 1) := gg486.1
theorem dX8_rests_17 : decode cX8_rests 17 = .ok (.istore_n 3, 1) := gg486.2.1
theorem dX8_rests_18 : decode cX8_rests 18 = .ok (.iload_n 3, 1) := gg486.2.2.1
theorem dX8_rests_19 : decode cX8_rests 19 = .ok (.aload_n 0, 1) := gg486.2.2.2.1
theorem dX8_rests_20 : decode cX8_rests 20 = .ok (.getfield 17, 3) := gg486.2.2.2.2.1
theorem dX8_rests_23 : decode cX8_rests 23 = .ok (.iconst 0, 1) := gg486.2.2.2.2.2.1
theorem dX8_rests_24 : decode cX8_rests 24 = .ok (.iaload, 1) := gg486.2.2.2.2.2.2.1
theorem dX8_rests_25 : decode cX8_rests 25 = .ok (.if_icmp .ge 72, 3) := gg486.2.2.2.2.2.2.2.1
theorem dX8_rests_28 : decode cX8_rests 28 = .ok (.iconst (-1), 1) := gg486.2.2.2.2.2.2.2.2.1
theorem dX8_rests_29 : decode cX8_rests 29 = .ok (.istore 4, 2) := gg486.2.2.2.2.2.2.2.2.2
theorem gg487 : decode cX8_rests 31 = .ok (.iload 4, 2) ∧ decode cX8_rests 33 = .ok (.aload_n 0, 1) ∧ decode cX8_rests 34 = .ok (.getfield 17, 3) ∧ decode cX8_rests 37 = .ok (.iconst 0, 1) ∧ decode cX8_rests 38 = .ok (.iaload, 1) ∧ decode cX8_rests 39 = .ok (.if_icmp .ge 52, 3) ∧ decode cX8_rests 42 = .ok (.aload_n 0, 1) ∧ decode cX8_rests 43 = .ok (.iload_n 3, 1) ∧ decode cX8_rests 44 = .ok (.iload 4, 2) ∧ decode cX8_rests 46 = .ok (.invokevirtual 164, 3) := by decide +kernel
theorem dX8_rests_31 : decode cX8_rests 31 = .ok (.iload 4, 2) := gg487.1
theorem dX8_rests_33 : decode cX8_rests 33 = .ok (.aload_n 0, 1) := gg487.2.1
theorem dX8_rests_34 : decode cX8_rests 34 = .ok (.getfield 17, 3) := gg487.2.2.1
theorem dX8_rests_37 : decode cX8_rests 37 = .ok (.iconst 0, 1) := gg487.2.2.2.1
theorem dX8_rests_38 : decode cX8_rests 38 = .ok (.iaload, 1) := gg487.2.2.2.2.1
theorem dX8_rests_39 : decode cX8_rests 39 = .ok (.if_icmp .ge 52, 3) := gg487.2.2.2.2.2.1
theorem dX8_rests_42 : decode cX8_rests 42 = .ok (.aload_n 0, 1) := gg487.2.2.2.2.2.2.1
theorem dX8_rests_43 : decode cX8_rests 43 = .ok (.iload_n 3, 1) := gg487.2.2.2.2.2.2.2.1
theorem dX8_rests_44 : decode cX8_rests 44 = .ok (.iload 4, 2) := gg487.2.2.2.2.2.2.2.2.1
theorem dX8_rests_46 : decode cX8_rests 46 = .ok (.invokevirtual 164, 3) := gg487.2.2.2.2.2.2.2.2.2
theorem gg488 : decode cX8_rests 49 = .ok (.ifCond .eq 36, 3) ∧ decode cX8_rests 52 = .ok (.iinc 2 1, 3) ∧ decode cX8_rests 55 = .ok (.iload_n 1, 1) ∧ decode cX8_rests 56 = .ok (.ifCond .le 29, 3) ∧ decode cX8_rests 59 = .ok (.iload_n 1, 1) ∧ decode cX8_rests 60 = .ok (.iconst 1, 1) ∧ decode cX8_rests 61 = .ok (.if_icmp .ne 7, 3) ∧ decode cX8_rests 64 = .ok (.iload_n 3, 1) ∧ decode cX8_rests 65 = .ok (.goto 5, 3) ∧ decode cX8_rests 68 = .ok (.iload 4, 2) := by decide +kernel
theorem dX8_rests_49 : decode cX8_rests 49 = .ok (.ifCond .eq 36, 3) := gg488.1
theorem dX8_rests_52 : decode cX8_rests 52 = .ok (.iinc 2 1, 3) := gg488.2.1
theorem dX8_rests_55 : decode cX8_rests 55 = .ok (.iload_n 1, 1) := gg488.2.2.1
theorem dX8_rests_56 : decode cX8_rests 56 = .ok (.ifCond .le 29, 3) := gg488.2.2.2.1
theorem dX8_rests_59 : decode cX8_rests 59 = .ok (.iload_n 1, 1) := gg488.2.2.2.2.1
theorem dX8_rests_60 : decode cX8_rests 60 = .ok (.iconst 1, 1) := gg488.2.2.2.2.2.1
theorem dX8_rests_61 : decode cX8_rests 61 = .ok (.if_icmp .ne 7, 3) := gg488.2.2.2.2.2.2.1
theorem dX8_rests_64 : decode cX8_rests 64 = .ok (.iload_n 3, 1) := gg488.2.2.2.2.2.2.2.1
theorem dX8_rests_65 : decode cX8_rests 65 = .ok (.goto 5, 3) := gg488.2.2.2.2.2.2.2.2.1
theorem dX8_rests_68 : decode cX8_rests 68 = .ok (.iload 4, 2) := gg488.2.2.2.2.2.2.2.2.2
theorem gg489 : decode cX8_rests 70 = .ok (.istore 5, 2) ∧ decode cX8_rests 72 = .ok (.iload 5, 2) ∧ decode cX8_rests 74 = .ok (.ifCond .ge 8, 3) ∧ decode cX8_rests 77 = .ok (.bipush (-4), 2) ∧ decode cX8_rests 79 = .ok (.goto 5, 3) ∧ decode cX8_rests 82 = .ok (.iload 5, 2) ∧ decode cX8_rests 84 = .ok (.ireturn, 1) ∧ decode cX8_rests 85 = .ok (.iinc 4 1, 3) ∧ decode cX8_rests 88 = .ok (.goto (-57), 3) ∧ decode cX8_rests 91 = .ok (.iinc 3 1, 3) := by decide +kernel
theorem dX8_rests_70 : decode cX8_rests 70 = .ok (.istore 5, 2) := gg489.1
theorem dX8_rests_72 : decode cX8_rests 72 = .ok (.iload 5, 2) := gg489.2.1
theorem dX8_rests_74 : decode cX8_rests 74 = .ok (.ifCond .ge 8, 3) := gg489.2.2.1
theorem dX8_rests_77 : decode cX8_rests 77 = .ok (.bipush (-4), 2) := gg489.2.2.2.1
theorem dX8_rests_79 : decode cX8_rests 79 = .ok (.goto 5, 3) := gg489.2.2.2.2.1
theorem dX8_rests_82 : decode cX8_rests 82 = .ok (.iload 5, 2) := gg489.2.2.2.2.2.1
theorem dX8_rests_84 : decode cX8_rests 84 = .ok (.ireturn, 1) := gg489.2.2.2.2.2.2.1
theorem dX8_rests_85 : decode cX8_rests 85 = .ok (.iinc 4 1, 3) := gg489.2.2.2.2.2.2.2.1
theorem dX8_rests_88 : decode cX8_rests 88 = .ok (.goto (-57), 3) := gg489.2.2.2.2.2.2.2.2.1
theorem dX8_rests_91 : decode cX8_rests 91 = .ok (.iinc 3 1, 3) := gg489.2.2.2.2.2.2.2.2.2
theorem gg490 : decode cX8_rests 94 = .ok (.goto (-76), 3) ∧ decode cX8_rests 97 = .ok (.iload_n 1, 1) ∧ decode cX8_rests 98 = .ok (.ifCond .ne 7, 3) ∧ decode cX8_rests 101 = .ok (.iload_n 2, 1) ∧ decode cX8_rests 102 = .ok (.goto 5, 3) ∧ decode cX8_rests 105 = .ok (.bipush (-4), 2) ∧ decode cX8_rests 107 = .ok (.ireturn, 1) := by decide +kernel
theorem dX8_rests_94 : decode cX8_rests 94 = .ok (.goto (-76), 3) := gg490.1
theorem dX8_rests_97 : decode cX8_rests 97 = .ok (.iload_n 1, 1) := gg490.2.1
theorem dX8_rests_98 : decode cX8_rests 98 = .ok (.ifCond .ne 7, 3) := gg490.2.2.1
theorem dX8_rests_101 : decode cX8_rests 101 = .ok (.iload_n 2, 1) := gg490.2.2.2.1
theorem dX8_rests_102 : decode cX8_rests 102 = .ok (.goto 5, 3) := gg490.2.2.2.2.1
theorem dX8_rests_105 : decode cX8_rests 105 = .ok (.bipush (-4), 2) := gg490.2.2.2.2.2.1
theorem dX8_rests_107 : decode cX8_rests 107 = .ok (.ireturn, 1) := gg490.2.2.2.2.2.2
theorem gg491 : decode cX8_isFirm 0 = .ok (.iconst 1, 1) ∧ decode cX8_isFirm 1 = .ok (.istore_n 2, 1) ∧ decode cX8_isFirm 2 = .ok (.iconst 0, 1) ∧ decode cX8_isFirm 3 = .ok (.istore_n 3, 1) ∧ decode cX8_isFirm 4 = .ok (.iload_n 3, 1) ∧ decode cX8_isFirm 5 = .ok (.aload_n 0, 1) ∧ decode cX8_isFirm 6 = .ok (.getfield 17, 3) ∧ decode cX8_isFirm 9 = .ok (.iconst 0, 1) ∧ decode cX8_isFirm 10 = .ok (.iaload, 1) ∧ decode cX8_isFirm 11 = .ok (.if_icmp .ge 45, 3) := by decide +kernel
theorem dX8_isFirm_0 : decode cX8_isFirm 0 = .ok (.iconst 1, 1) := gg491.1
theorem dX8_isFirm_1 : decode cX8_isFirm 1 = .ok (.istore_n 2, 1) := gg491.2.1
theorem dX8_isFirm_2 : decode cX8_isFirm 2 = .ok (.iconst 0, 1) := gg491.2.2.1
theorem dX8_isFirm_3 : decode cX8_isFirm 3 = .ok (.istore_n 3, 1) := gg491.2.2.2.1
theorem dX8_isFirm_4 : decode cX8_isFirm 4 = .ok (.iload_n 3, 1) := gg491.2.2.2.2.1
theorem dX8_isFirm_5 : decode cX8_isFirm 5 = .ok (.aload_n 0, 1) := gg491.2.2.2.2.2.1
theorem dX8_isFirm_6 : decode cX8_isFirm 6 = .ok (.getfield 17, 3) := gg491.2.2.2.2.2.2.1
theorem dX8_isFirm_9 : decode cX8_isFirm 9 = .ok (.iconst 0, 1) := gg491.2.2.2.2.2.2.2.1
theorem dX8_isFirm_10 : decode cX8_isFirm 10 = .ok (.iaload, 1) := gg491.2.2.2.2.2.2.2.2.1
theorem dX8_isFirm_11 : decode cX8_isFirm 11 = .ok (.if_icmp .ge 45, 3) := gg491.2.2.2.2.2.2.2.2.2
theorem gg492 : decode cX8_isFirm 14 = .ok (.iload_n 2, 1) ∧ decode cX8_isFirm 15 = .ok (.ifCond .eq 33, 3) ∧ decode cX8_isFirm 18 = .ok (.iload_n 1, 1) ∧ decode cX8_isFirm 19 = .ok (.iload_n 3, 1) ∧ decode cX8_isFirm 20 = .ok (.ishr, 1) ∧ decode cX8_isFirm 21 = .ok (.iconst 1, 1) ∧ decode cX8_isFirm 22 = .ok (.iand, 1) ∧ decode cX8_isFirm 23 = .ok (.ifCond .eq 21, 3) ∧ decode cX8_isFirm 26 = .ok (.aload_n 0, 1) ∧ decode cX8_isFirm 27 = .ok (.iload_n 3, 1) := by decide +kernel
theorem dX8_isFirm_14 : decode cX8_isFirm 14 = .ok (.iload_n 2, 1) := gg492.1
theorem dX8_isFirm_15 : decode cX8_isFirm 15 = .ok (.ifCond .eq 33, 3) := gg492.2.1
theorem dX8_isFirm_18 : decode cX8_isFirm 18 = .ok (.iload_n 1, 1) := gg492.2.2.1
theorem dX8_isFirm_19 : decode cX8_isFirm 19 = .ok (.iload_n 3, 1) := gg492.2.2.2.1
theorem dX8_isFirm_20 : decode cX8_isFirm 20 = .ok (.ishr, 1) := gg492.2.2.2.2.1
theorem dX8_isFirm_21 : decode cX8_isFirm 21 = .ok (.iconst 1, 1) := gg492.2.2.2.2.2.1
theorem dX8_isFirm_22 : decode cX8_isFirm 22 = .ok (.iand, 1) := gg492.2.2.2.2.2.2.1
theorem dX8_isFirm_23 : decode cX8_isFirm 23 = .ok (.ifCond .eq 21, 3) := gg492.2.2.2.2.2.2.2.1
theorem dX8_isFirm_26 : decode cX8_isFirm 26 = .ok (.aload_n 0, 1) := gg492.2.2.2.2.2.2.2.2.1
theorem dX8_isFirm_27 : decode cX8_isFirm 27 = .ok (.iload_n 3, 1) := gg492.2.2.2.2.2.2.2.2.2
theorem gg493 : decode cX8_isFirm 28 = .ok (.iconst 0, 1) ∧ decode cX8_isFirm 29 = .ok (.invokevirtual 156, 3) ∧ decode cX8_isFirm 32 = .ok (.ifCond .lt 16, 3) ∧ decode cX8_isFirm 35 = .ok (.aload_n 0, 1) ∧ decode cX8_isFirm 36 = .ok (.iload_n 3, 1) ∧ decode cX8_isFirm 37 = .ok (.iconst 1, 1) ∧ decode cX8_isFirm 38 = .ok (.invokevirtual 156, 3) ∧ decode cX8_isFirm 41 = .ok (.ifCond .lt 7, 3) ∧ decode cX8_isFirm 44 = .ok (.iconst 1, 1) ∧ decode cX8_isFirm 45 = .ok (.goto 4, 3) := by decide +kernel
theorem dX8_isFirm_28 : decode cX8_isFirm 28 = .ok (.iconst 0, 1) := gg493.1
theorem dX8_isFirm_29 : decode cX8_isFirm 29 = .ok (.invokevirtual 156, 3) := gg493.2.1
theorem dX8_isFirm_32 : decode cX8_isFirm 32 = .ok (.ifCond .lt 16, 3) := gg493.2.2.1
theorem dX8_isFirm_35 : decode cX8_isFirm 35 = .ok (.aload_n 0, 1) := gg493.2.2.2.1
theorem dX8_isFirm_36 : decode cX8_isFirm 36 = .ok (.iload_n 3, 1) := gg493.2.2.2.2.1
theorem dX8_isFirm_37 : decode cX8_isFirm 37 = .ok (.iconst 1, 1) := gg493.2.2.2.2.2.1
theorem dX8_isFirm_38 : decode cX8_isFirm 38 = .ok (.invokevirtual 156, 3) := gg493.2.2.2.2.2.2.1
theorem dX8_isFirm_41 : decode cX8_isFirm 41 = .ok (.ifCond .lt 7, 3) := gg493.2.2.2.2.2.2.2.1
theorem dX8_isFirm_44 : decode cX8_isFirm 44 = .ok (.iconst 1, 1) := gg493.2.2.2.2.2.2.2.2.1
theorem dX8_isFirm_45 : decode cX8_isFirm 45 = .ok (.goto 4, 3) := gg493.2.2.2.2.2.2.2.2.2
theorem gg494 : decode cX8_isFirm 48 = .ok (.iconst 0, 1) ∧ decode cX8_isFirm 49 = .ok (.istore_n 2, 1) ∧ decode cX8_isFirm 50 = .ok (.iinc 3 1, 3) ∧ decode cX8_isFirm 53 = .ok (.goto (-49), 3) ∧ decode cX8_isFirm 56 = .ok (.iload_n 2, 1) ∧ decode cX8_isFirm 57 = .ok (.ireturn, 1) := by decide +kernel
theorem dX8_isFirm_48 : decode cX8_isFirm 48 = .ok (.iconst 0, 1) := gg494.1
theorem dX8_isFirm_49 : decode cX8_isFirm 49 = .ok (.istore_n 2, 1) := gg494.2.1
theorem dX8_isFirm_50 : decode cX8_isFirm 50 = .ok (.iinc 3 1, 3) := gg494.2.2.1
theorem dX8_isFirm_53 : decode cX8_isFirm 53 = .ok (.goto (-49), 3) := gg494.2.2.2.1
theorem dX8_isFirm_56 : decode cX8_isFirm 56 = .ok (.iload_n 2, 1) := gg494.2.2.2.2.1
theorem dX8_isFirm_57 : decode cX8_isFirm 57 = .ok (.ireturn, 1) := gg494.2.2.2.2.2
theorem gg495 : decode cX8_isSet 0 = .ok (.iload_n 1, 1) ∧ decode cX8_isSet 1 = .ok (.i2l, 1) ∧ decode cX8_isSet 2 = .ok (.lconst 0, 1) ∧ decode cX8_isSet 3 = .ok (.iconst 1, 1) ∧ decode cX8_isSet 4 = .ok (.aload_n 0, 1) ∧ decode cX8_isSet 5 = .ok (.getfield 17, 3) ∧ decode cX8_isSet 8 = .ok (.iconst 0, 1) ∧ decode cX8_isSet 9 = .ok (.iaload, 1) ∧ decode cX8_isSet 10 = .ok (.ishl, 1) ∧ decode cX8_isSet 11 = .ok (.iconst 1, 1) := by decide +kernel
theorem dX8_isSet_0 : decode cX8_isSet 0 = .ok (.iload_n 1, 1) := gg495.1
theorem dX8_isSet_1 : decode cX8_isSet 1 = .ok (.i2l, 1) := gg495.2.1
theorem dX8_isSet_2 : decode cX8_isSet 2 = .ok (.lconst 0, 1) := gg495.2.2.1
theorem dX8_isSet_3 : decode cX8_isSet 3 = .ok (.iconst 1, 1) := gg495.2.2.2.1
theorem dX8_isSet_4 : decode cX8_isSet 4 = .ok (.aload_n 0, 1) := gg495.2.2.2.2.1
theorem dX8_isSet_5 : decode cX8_isSet 5 = .ok (.getfield 17, 3) := gg495.2.2.2.2.2.1
theorem dX8_isSet_8 : decode cX8_isSet 8 = .ok (.iconst 0, 1) := gg495.2.2.2.2.2.2.1
theorem dX8_isSet_9 : decode cX8_isSet 9 = .ok (.iaload, 1) := gg495.2.2.2.2.2.2.2.1
theorem dX8_isSet_10 : decode cX8_isSet 10 = .ok (.ishl, 1) := gg495.2.2.2.2.2.2.2.2.1
theorem dX8_isSet_11 : decode cX8_isSet 11 = .ok (.iconst 1, 1) := gg495.2.2.2.2.2.2.2.2.2
theorem gg496 : decode cX8_isSet 12 = .ok (.isub, 1) ∧ decode cX8_isSet 13 = .ok (.i2l, 1) ∧ decode cX8_isSet 14 = .ok (.invokestatic 53, 3) ∧ decode cX8_isSet 17 = .ok (.ireturn, 1) := by decide +kernel
theorem dX8_isSet_12 : decode cX8_isSet 12 = .ok (.isub, 1) := gg496.1
theorem dX8_isSet_13 : decode cX8_isSet 13 = .ok (.i2l, 1) := gg496.2.1
theorem dX8_isSet_14 : decode cX8_isSet 14 = .ok (.invokestatic 53, 3) := gg496.2.2.1
theorem dX8_isSet_17 : decode cX8_isSet 17 = .ok (.ireturn, 1) := gg496.2.2.2
theorem gg497 : decode cX8_firm 0 = .ok (.aload_n 0, 1) ∧ decode cX8_firm 1 = .ok (.iload_n 1, 1) ∧ decode cX8_firm 2 = .ok (.invokevirtual 168, 3) ∧ decode cX8_firm 5 = .ok (.ifCond .ne 7, 3) ∧ decode cX8_firm 8 = .ok (.iconst (-1), 1) ∧ decode cX8_firm 9 = .ok (.goto 16, 3) ∧ decode cX8_firm 12 = .ok (.aload_n 0, 1) ∧ decode cX8_firm 13 = .ok (.iload_n 1, 1) ∧ decode cX8_firm 14 = .ok (.invokevirtual 171, 3) ∧ decode cX8_firm 17 = .ok (.ifCond .eq 7, 3) := by decide +kernel
theorem dX8_firm_0 : decode cX8_firm 0 = .ok (.aload_n 0, 1) := gg497.1
theorem dX8_firm_1 : decode cX8_firm 1 = .ok (.iload_n 1, 1) := gg497.2.1
theorem dX8_firm_2 : decode cX8_firm 2 = .ok (.invokevirtual 168, 3) := gg497.2.2.1
theorem dX8_firm_5 : decode cX8_firm 5 = .ok (.ifCond .ne 7, 3) := gg497.2.2.2.1
theorem dX8_firm_8 : decode cX8_firm 8 = .ok (.iconst (-1), 1) := gg497.2.2.2.2.1
theorem dX8_firm_9 : decode cX8_firm 9 = .ok (.goto 16, 3) := gg497.2.2.2.2.2.1
theorem dX8_firm_12 : decode cX8_firm 12 = .ok (.aload_n 0, 1) := gg497.2.2.2.2.2.2.1
theorem dX8_firm_13 : decode cX8_firm 13 = .ok (.iload_n 1, 1) := gg497.2.2.2.2.2.2.2.1
theorem dX8_firm_14 : decode cX8_firm 14 = .ok (.invokevirtual 171, 3) := gg497.2.2.2.2.2.2.2.2.1
theorem dX8_firm_17 : decode cX8_firm 17 = .ok (.ifCond .eq 7, 3) := gg497.2.2.2.2.2.2.2.2.2
theorem gg498 : decode cX8_firm 20 = .ok (.iconst 1, 1) ∧ decode cX8_firm 21 = .ok (.goto 4, 3) ∧ decode cX8_firm 24 = .ok (.iconst 0, 1) ∧ decode cX8_firm 25 = .ok (.ireturn, 1) := by decide +kernel
theorem dX8_firm_20 : decode cX8_firm 20 = .ok (.iconst 1, 1) := gg498.1
theorem dX8_firm_21 : decode cX8_firm 21 = .ok (.goto 4, 3) := gg498.2.1
theorem dX8_firm_24 : decode cX8_firm 24 = .ok (.iconst 0, 1) := gg498.2.2.1
theorem dX8_firm_25 : decode cX8_firm 25 = .ok (.ireturn, 1) := gg498.2.2.2
theorem gg499 : decode cX8_together 0 = .ok (.iconst 0, 1) ∧ decode cX8_together 1 = .ok (.istore_n 2, 1) ∧ decode cX8_together 2 = .ok (.iconst 0, 1) ∧ decode cX8_together 3 = .ok (.istore_n 3, 1) ∧ decode cX8_together 4 = .ok (.iload_n 3, 1) ∧ decode cX8_together 5 = .ok (.aload_n 0, 1) ∧ decode cX8_together 6 = .ok (.getfield 17, 3) ∧ decode cX8_together 9 = .ok (.iconst 0, 1) ∧ decode cX8_together 10 = .ok (.iaload, 1) ∧ decode cX8_together 11 = .ok (.if_icmp .ge 47, 3) := by decide +kernel
theorem dX8_together_0 : decode cX8_together 0 = .ok (.iconst 0, 1) := gg499.1
theorem dX8_together_1 : decode cX8_together 1 = .ok (.istore_n 2, 1) := gg499.2.1
theorem dX8_together_2 : decode cX8_together 2 = .ok (.iconst 0, 1) := gg499.2.2.1
theorem dX8_together_3 : decode cX8_together 3 = .ok (.istore_n 3, 1) := gg499.2.2.2.1
theorem dX8_together_4 : decode cX8_together 4 = .ok (.iload_n 3, 1) := gg499.2.2.2.2.1
theorem dX8_together_5 : decode cX8_together 5 = .ok (.aload_n 0, 1) := gg499.2.2.2.2.2.1
theorem dX8_together_6 : decode cX8_together 6 = .ok (.getfield 17, 3) := gg499.2.2.2.2.2.2.1
theorem dX8_together_9 : decode cX8_together 9 = .ok (.iconst 0, 1) := gg499.2.2.2.2.2.2.2.1
theorem dX8_together_10 : decode cX8_together 10 = .ok (.iaload, 1) := gg499.2.2.2.2.2.2.2.2.1
theorem dX8_together_11 : decode cX8_together 11 = .ok (.if_icmp .ge 47, 3) := gg499.2.2.2.2.2.2.2.2.2
theorem gg500 : decode cX8_together 14 = .ok (.iload_n 2, 1) ∧ decode cX8_together 15 = .ok (.iload_n 1, 1) ∧ decode cX8_together 16 = .ok (.iload_n 3, 1) ∧ decode cX8_together 17 = .ok (.ishr, 1) ∧ decode cX8_together 18 = .ok (.iconst 1, 1) ∧ decode cX8_together 19 = .ok (.iand, 1) ∧ decode cX8_together 20 = .ok (.iconst 1, 1) ∧ decode cX8_together 21 = .ok (.if_icmp .eq 12, 3) ∧ decode cX8_together 24 = .ok (.aload_n 0, 1) ∧ decode cX8_together 25 = .ok (.getfield 23, 3) := by decide +kernel
theorem dX8_together_14 : decode cX8_together 14 = .ok (.iload_n 2, 1) := gg500.1
theorem dX8_together_15 : decode cX8_together 15 = .ok (.iload_n 1, 1) := gg500.2.1
theorem dX8_together_16 : decode cX8_together 16 = .ok (.iload_n 3, 1) := gg500.2.2.1
theorem dX8_together_17 : decode cX8_together 17 = .ok (.ishr, 1) := gg500.2.2.2.1
theorem dX8_together_18 : decode cX8_together 18 = .ok (.iconst 1, 1) := gg500.2.2.2.2.1
theorem dX8_together_19 : decode cX8_together 19 = .ok (.iand, 1) := gg500.2.2.2.2.2.1
theorem dX8_together_20 : decode cX8_together 20 = .ok (.iconst 1, 1) := gg500.2.2.2.2.2.2.1
theorem dX8_together_21 : decode cX8_together 21 = .ok (.if_icmp .eq 12, 3) := gg500.2.2.2.2.2.2.2.1
theorem dX8_together_24 : decode cX8_together 24 = .ok (.aload_n 0, 1) := gg500.2.2.2.2.2.2.2.2.1
theorem dX8_together_25 : decode cX8_together 25 = .ok (.getfield 23, 3) := gg500.2.2.2.2.2.2.2.2.2
theorem gg501 : decode cX8_together 28 = .ok (.iload_n 3, 1) ∧ decode cX8_together 29 = .ok (.iaload, 1) ∧ decode cX8_together 30 = .ok (.ifCond .le 19, 3) ∧ decode cX8_together 33 = .ok (.aload_n 0, 1) ∧ decode cX8_together 34 = .ok (.iload_n 3, 1) ∧ decode cX8_together 35 = .ok (.iconst 0, 1) ∧ decode cX8_together 36 = .ok (.invokevirtual 156, 3) ∧ decode cX8_together 39 = .ok (.aload_n 0, 1) ∧ decode cX8_together 40 = .ok (.iload_n 3, 1) ∧ decode cX8_together 41 = .ok (.iconst 1, 1) := by decide +kernel
theorem dX8_together_28 : decode cX8_together 28 = .ok (.iload_n 3, 1) := gg501.1
theorem dX8_together_29 : decode cX8_together 29 = .ok (.iaload, 1) := gg501.2.1
theorem dX8_together_30 : decode cX8_together 30 = .ok (.ifCond .le 19, 3) := gg501.2.2.1
theorem dX8_together_33 : decode cX8_together 33 = .ok (.aload_n 0, 1) := gg501.2.2.2.1
theorem dX8_together_34 : decode cX8_together 34 = .ok (.iload_n 3, 1) := gg501.2.2.2.2.1
theorem dX8_together_35 : decode cX8_together 35 = .ok (.iconst 0, 1) := gg501.2.2.2.2.2.1
theorem dX8_together_36 : decode cX8_together 36 = .ok (.invokevirtual 156, 3) := gg501.2.2.2.2.2.2.1
theorem dX8_together_39 : decode cX8_together 39 = .ok (.aload_n 0, 1) := gg501.2.2.2.2.2.2.2.1
theorem dX8_together_40 : decode cX8_together 40 = .ok (.iload_n 3, 1) := gg501.2.2.2.2.2.2.2.2.1
theorem dX8_together_41 : decode cX8_together 41 = .ok (.iconst 1, 1) := gg501.2.2.2.2.2.2.2.2.2
theorem gg502 : decode cX8_together 42 = .ok (.invokevirtual 156, 3) ∧ decode cX8_together 45 = .ok (.iadd, 1) ∧ decode cX8_together 46 = .ok (.goto 4, 3) ∧ decode cX8_together 49 = .ok (.iconst 0, 1) ∧ decode cX8_together 50 = .ok (.iadd, 1) ∧ decode cX8_together 51 = .ok (.istore_n 2, 1) ∧ decode cX8_together 52 = .ok (.iinc 3 1, 3) ∧ decode cX8_together 55 = .ok (.goto (-51), 3) ∧ decode cX8_together 58 = .ok (.iload_n 2, 1) ∧ decode cX8_together 59 = .ok (.ireturn, 1) := by decide +kernel
theorem dX8_together_42 : decode cX8_together 42 = .ok (.invokevirtual 156, 3) := gg502.1
theorem dX8_together_45 : decode cX8_together 45 = .ok (.iadd, 1) := gg502.2.1
theorem dX8_together_46 : decode cX8_together 46 = .ok (.goto 4, 3) := gg502.2.2.1
theorem dX8_together_49 : decode cX8_together 49 = .ok (.iconst 0, 1) := gg502.2.2.2.1
theorem dX8_together_50 : decode cX8_together 50 = .ok (.iadd, 1) := gg502.2.2.2.2.1
theorem dX8_together_51 : decode cX8_together 51 = .ok (.istore_n 2, 1) := gg502.2.2.2.2.2.1
theorem dX8_together_52 : decode cX8_together 52 = .ok (.iinc 3 1, 3) := gg502.2.2.2.2.2.2.1
theorem dX8_together_55 : decode cX8_together 55 = .ok (.goto (-51), 3) := gg502.2.2.2.2.2.2.2.1
theorem dX8_together_58 : decode cX8_together 58 = .ok (.iload_n 2, 1) := gg502.2.2.2.2.2.2.2.2.1
theorem dX8_together_59 : decode cX8_together 59 = .ok (.ireturn, 1) := gg502.2.2.2.2.2.2.2.2.2
theorem gg503 : decode cX8_treaty 0 = .ok (.iload_n 1, 1) ∧ decode cX8_treaty 1 = .ok (.i2l, 1) ∧ decode cX8_treaty 2 = .ok (.lconst 0, 1) ∧ decode cX8_treaty 3 = .ok (.lconst 1, 1) ∧ decode cX8_treaty 4 = .ok (.invokestatic 53, 3) ∧ decode cX8_treaty 7 = .ok (.ifCond .ne 5, 3) ∧ decode cX8_treaty 10 = .ok (.iconst (-1), 1) ∧ decode cX8_treaty 11 = .ok (.ireturn, 1) ∧ decode cX8_treaty 12 = .ok (.iconst 0, 1) ∧ decode cX8_treaty 13 = .ok (.istore_n 2, 1) := by decide +kernel
theorem dX8_treaty_0 : decode cX8_treaty 0 = .ok (.iload_n 1, 1) := gg503.1
theorem dX8_treaty_1 : decode cX8_treaty 1 = .ok (.i2l, 1) := gg503.2.1
theorem dX8_treaty_2 : decode cX8_treaty 2 = .ok (.lconst 0, 1) := gg503.2.2.1
theorem dX8_treaty_3 : decode cX8_treaty 3 = .ok (.lconst 1, 1) := gg503.2.2.2.1
theorem dX8_treaty_4 : decode cX8_treaty 4 = .ok (.invokestatic 53, 3) := gg503.2.2.2.2.1
theorem dX8_treaty_7 : decode cX8_treaty 7 = .ok (.ifCond .ne 5, 3) := gg503.2.2.2.2.2.1
theorem dX8_treaty_10 : decode cX8_treaty 10 = .ok (.iconst (-1), 1) := gg503.2.2.2.2.2.2.1
theorem dX8_treaty_11 : decode cX8_treaty 11 = .ok (.ireturn, 1) := gg503.2.2.2.2.2.2.2.1
theorem dX8_treaty_12 : decode cX8_treaty 12 = .ok (.iconst 0, 1) := gg503.2.2.2.2.2.2.2.2.1
theorem dX8_treaty_13 : decode cX8_treaty 13 = .ok (.istore_n 2, 1) := gg503.2.2.2.2.2.2.2.2.2
theorem gg504 : decode cX8_treaty 14 = .ok (.aload_n 0, 1) ∧ decode cX8_treaty 15 = .ok (.iconst 0, 1) ∧ decode cX8_treaty 16 = .ok (.invokevirtual 174, 3) ∧ decode cX8_treaty 19 = .ok (.istore_n 3, 1) ∧ decode cX8_treaty 20 = .ok (.iconst 1, 1) ∧ decode cX8_treaty 21 = .ok (.istore 4, 2) ∧ decode cX8_treaty 23 = .ok (.iload 4, 2) ∧ decode cX8_treaty 25 = .ok (.iconst 1, 1) ∧ decode cX8_treaty 26 = .ok (.aload_n 0, 1) ∧ decode cX8_treaty 27 = .ok (.getfield 17, 3) := by decide +kernel
theorem dX8_treaty_14 : decode cX8_treaty 14 = .ok (.aload_n 0, 1) := gg504.1
theorem dX8_treaty_15 : decode cX8_treaty 15 = .ok (.iconst 0, 1) := gg504.2.1
theorem dX8_treaty_16 : decode cX8_treaty 16 = .ok (.invokevirtual 174, 3) := gg504.2.2.1
theorem dX8_treaty_19 : decode cX8_treaty 19 = .ok (.istore_n 3, 1) := gg504.2.2.2.1
theorem dX8_treaty_20 : decode cX8_treaty 20 = .ok (.iconst 1, 1) := gg504.2.2.2.2.1
theorem dX8_treaty_21 : decode cX8_treaty 21 = .ok (.istore 4, 2) := gg504.2.2.2.2.2.1
theorem dX8_treaty_23 : decode cX8_treaty 23 = .ok (.iload 4, 2) := gg504.2.2.2.2.2.2.1
theorem dX8_treaty_25 : decode cX8_treaty 25 = .ok (.iconst 1, 1) := gg504.2.2.2.2.2.2.2.1
theorem dX8_treaty_26 : decode cX8_treaty 26 = .ok (.aload_n 0, 1) := gg504.2.2.2.2.2.2.2.2.1
theorem dX8_treaty_27 : decode cX8_treaty 27 = .ok (.getfield 17, 3) := gg504.2.2.2.2.2.2.2.2.2
theorem gg505 : decode cX8_treaty 30 = .ok (.iconst 0, 1) ∧ decode cX8_treaty 31 = .ok (.iaload, 1) ∧ decode cX8_treaty 32 = .ok (.ishl, 1) ∧ decode cX8_treaty 33 = .ok (.if_icmp .ge 38, 3) ∧ decode cX8_treaty 36 = .ok (.aload_n 0, 1) ∧ decode cX8_treaty 37 = .ok (.iload 4, 2) ∧ decode cX8_treaty 39 = .ok (.invokevirtual 171, 3) ∧ decode cX8_treaty 42 = .ok (.ifCond .eq 23, 3) ∧ decode cX8_treaty 45 = .ok (.aload_n 0, 1) ∧ decode cX8_treaty 46 = .ok (.iload 4, 2) := by decide +kernel
theorem dX8_treaty_30 : decode cX8_treaty 30 = .ok (.iconst 0, 1) := gg505.1
theorem dX8_treaty_31 : decode cX8_treaty 31 = .ok (.iaload, 1) := gg505.2.1
theorem dX8_treaty_32 : decode cX8_treaty 32 = .ok (.ishl, 1) := gg505.2.2.1
theorem dX8_treaty_33 : decode cX8_treaty 33 = .ok (.if_icmp .ge 38, 3) := gg505.2.2.2.1
theorem dX8_treaty_36 : decode cX8_treaty 36 = .ok (.aload_n 0, 1) := gg505.2.2.2.2.1
theorem dX8_treaty_37 : decode cX8_treaty 37 = .ok (.iload 4, 2) := gg505.2.2.2.2.2.1
theorem dX8_treaty_39 : decode cX8_treaty 39 = .ok (.invokevirtual 171, 3) := gg505.2.2.2.2.2.2.1
theorem dX8_treaty_42 : decode cX8_treaty 42 = .ok (.ifCond .eq 23, 3) := gg505.2.2.2.2.2.2.2.1
theorem dX8_treaty_45 : decode cX8_treaty 45 = .ok (.aload_n 0, 1) := gg505.2.2.2.2.2.2.2.2.1
theorem dX8_treaty_46 : decode cX8_treaty 46 = .ok (.iload 4, 2) := gg505.2.2.2.2.2.2.2.2.2
theorem gg506 : decode cX8_treaty 48 = .ok (.invokevirtual 174, 3) ∧ decode cX8_treaty 51 = .ok (.iload_n 3, 1) ∧ decode cX8_treaty 52 = .ok (.if_icmp .le 13, 3) ∧ decode cX8_treaty 55 = .ok (.iload 4, 2) ∧ decode cX8_treaty 57 = .ok (.istore_n 2, 1) ∧ decode cX8_treaty 58 = .ok (.aload_n 0, 1) ∧ decode cX8_treaty 59 = .ok (.iload 4, 2) ∧ decode cX8_treaty 61 = .ok (.invokevirtual 174, 3) ∧ decode cX8_treaty 64 = .ok (.istore_n 3, 1) ∧ decode cX8_treaty 65 = .ok (.iinc 4 1, 3) := by decide +kernel
theorem dX8_treaty_48 : decode cX8_treaty 48 = .ok (.invokevirtual 174, 3) := gg506.1
theorem dX8_treaty_51 : decode cX8_treaty 51 = .ok (.iload_n 3, 1) := gg506.2.1
theorem dX8_treaty_52 : decode cX8_treaty 52 = .ok (.if_icmp .le 13, 3) := gg506.2.2.1
theorem dX8_treaty_55 : decode cX8_treaty 55 = .ok (.iload 4, 2) := gg506.2.2.2.1
theorem dX8_treaty_57 : decode cX8_treaty 57 = .ok (.istore_n 2, 1) := gg506.2.2.2.2.1
theorem dX8_treaty_58 : decode cX8_treaty 58 = .ok (.aload_n 0, 1) := gg506.2.2.2.2.2.1
theorem dX8_treaty_59 : decode cX8_treaty 59 = .ok (.iload 4, 2) := gg506.2.2.2.2.2.2.1
theorem dX8_treaty_61 : decode cX8_treaty 61 = .ok (.invokevirtual 174, 3) := gg506.2.2.2.2.2.2.2.1
theorem dX8_treaty_64 : decode cX8_treaty 64 = .ok (.istore_n 3, 1) := gg506.2.2.2.2.2.2.2.2.1
theorem dX8_treaty_65 : decode cX8_treaty 65 = .ok (.iinc 4 1, 3) := gg506.2.2.2.2.2.2.2.2.2
theorem gg507 : decode cX8_treaty 68 = .ok (.goto (-45), 3) ∧ decode cX8_treaty 71 = .ok (.iload_n 1, 1) ∧ decode cX8_treaty 72 = .ok (.ifCond .ne 7, 3) ∧ decode cX8_treaty 75 = .ok (.iload_n 2, 1) ∧ decode cX8_treaty 76 = .ok (.goto 8, 3) ∧ decode cX8_treaty 79 = .ok (.iload_n 3, 1) ∧ decode cX8_treaty 80 = .ok (.sipush 2000, 3) ∧ decode cX8_treaty 83 = .ok (.iadd, 1) ∧ decode cX8_treaty 84 = .ok (.ireturn, 1) := by decide +kernel
theorem dX8_treaty_68 : decode cX8_treaty 68 = .ok (.goto (-45), 3) := gg507.1
theorem dX8_treaty_71 : decode cX8_treaty 71 = .ok (.iload_n 1, 1) := gg507.2.1
theorem dX8_treaty_72 : decode cX8_treaty 72 = .ok (.ifCond .ne 7, 3) := gg507.2.2.1
theorem dX8_treaty_75 : decode cX8_treaty 75 = .ok (.iload_n 2, 1) := gg507.2.2.2.1
theorem dX8_treaty_76 : decode cX8_treaty 76 = .ok (.goto 8, 3) := gg507.2.2.2.2.1
theorem dX8_treaty_79 : decode cX8_treaty 79 = .ok (.iload_n 3, 1) := gg507.2.2.2.2.2.1
theorem dX8_treaty_80 : decode cX8_treaty 80 = .ok (.sipush 2000, 3) := gg507.2.2.2.2.2.2.1
theorem dX8_treaty_83 : decode cX8_treaty 83 = .ok (.iadd, 1) := gg507.2.2.2.2.2.2.2.1
theorem dX8_treaty_84 : decode cX8_treaty 84 = .ok (.ireturn, 1) := gg507.2.2.2.2.2.2.2.2
theorem gg508 : decode cX8_bargain 0 = .ok (.aload_n 0, 1) ∧ decode cX8_bargain 1 = .ok (.iload_n 1, 1) ∧ decode cX8_bargain 2 = .ok (.invokevirtual 107, 3) ∧ decode cX8_bargain 5 = .ok (.ifCond .eq 23, 3) ∧ decode cX8_bargain 8 = .ok (.aload_n 0, 1) ∧ decode cX8_bargain 9 = .ok (.iload_n 2, 1) ∧ decode cX8_bargain 10 = .ok (.invokevirtual 107, 3) ∧ decode cX8_bargain 13 = .ok (.ifCond .eq 15, 3) ∧ decode cX8_bargain 16 = .ok (.iload_n 1, 1) ∧ decode cX8_bargain 17 = .ok (.iload_n 2, 1) := by decide +kernel
theorem dX8_bargain_0 : decode cX8_bargain 0 = .ok (.aload_n 0, 1) := gg508.1
theorem dX8_bargain_1 : decode cX8_bargain 1 = .ok (.iload_n 1, 1) := gg508.2.1
theorem dX8_bargain_2 : decode cX8_bargain 2 = .ok (.invokevirtual 107, 3) := gg508.2.2.1
theorem dX8_bargain_5 : decode cX8_bargain 5 = .ok (.ifCond .eq 23, 3) := gg508.2.2.2.1
theorem dX8_bargain_8 : decode cX8_bargain 8 = .ok (.aload_n 0, 1) := gg508.2.2.2.2.1
theorem dX8_bargain_9 : decode cX8_bargain 9 = .ok (.iload_n 2, 1) := gg508.2.2.2.2.2.1
theorem dX8_bargain_10 : decode cX8_bargain 10 = .ok (.invokevirtual 107, 3) := gg508.2.2.2.2.2.2.1
theorem dX8_bargain_13 : decode cX8_bargain 13 = .ok (.ifCond .eq 15, 3) := gg508.2.2.2.2.2.2.2.1
theorem dX8_bargain_16 : decode cX8_bargain 16 = .ok (.iload_n 1, 1) := gg508.2.2.2.2.2.2.2.2.1
theorem dX8_bargain_17 : decode cX8_bargain 17 = .ok (.iload_n 2, 1) := gg508.2.2.2.2.2.2.2.2.2
theorem gg509 : decode cX8_bargain 18 = .ok (.if_icmp .eq 10, 3) ∧ decode cX8_bargain 21 = .ok (.lload_n 3, 1) ∧ decode cX8_bargain 22 = .ok (.invokestatic 114, 3) ∧ decode cX8_bargain 25 = .ok (.ifCond .ne 7, 3) ∧ decode cX8_bargain 28 = .ok (.ldc2_w 130, 3) ∧ decode cX8_bargain 31 = .ok (.lreturn, 1) ∧ decode cX8_bargain 32 = .ok (.lload_n 3, 1) ∧ decode cX8_bargain 33 = .ok (.lstore 5, 2) ∧ decode cX8_bargain 35 = .ok (.lload 5, 2) ∧ decode cX8_bargain 37 = .ok (.lload_n 3, 1) := by decide +kernel
theorem dX8_bargain_18 : decode cX8_bargain 18 = .ok (.if_icmp .eq 10, 3) := gg509.1
theorem dX8_bargain_21 : decode cX8_bargain 21 = .ok (.lload_n 3, 1) := gg509.2.1
theorem dX8_bargain_22 : decode cX8_bargain 22 = .ok (.invokestatic 114, 3) := gg509.2.2.1
theorem dX8_bargain_25 : decode cX8_bargain 25 = .ok (.ifCond .ne 7, 3) := gg509.2.2.2.1
theorem dX8_bargain_28 : decode cX8_bargain 28 = .ok (.ldc2_w 130, 3) := gg509.2.2.2.2.1
theorem dX8_bargain_31 : decode cX8_bargain 31 = .ok (.lreturn, 1) := gg509.2.2.2.2.2.1
theorem dX8_bargain_32 : decode cX8_bargain 32 = .ok (.lload_n 3, 1) := gg509.2.2.2.2.2.2.1
theorem dX8_bargain_33 : decode cX8_bargain 33 = .ok (.lstore 5, 2) := gg509.2.2.2.2.2.2.2.1
theorem dX8_bargain_35 : decode cX8_bargain 35 = .ok (.lload 5, 2) := gg509.2.2.2.2.2.2.2.2.1
theorem dX8_bargain_37 : decode cX8_bargain 37 = .ok (.lload_n 3, 1) := gg509.2.2.2.2.2.2.2.2.2
theorem gg510 : decode cX8_bargain 38 = .ok (.ldc2_w 143, 3) ∧ decode cX8_bargain 41 = .ok (.ladd, 1) ∧ decode cX8_bargain 42 = .ok (.lcmp, 1) ∧ decode cX8_bargain 43 = .ok (.ifCond .gt 35, 3) ∧ decode cX8_bargain 46 = .ok (.aload_n 0, 1) ∧ decode cX8_bargain 47 = .ok (.iload_n 1, 1) ∧ decode cX8_bargain 48 = .ok (.lload 5, 2) ∧ decode cX8_bargain 50 = .ok (.invokevirtual 140, 3) ∧ decode cX8_bargain 53 = .ok (.ifCond .eq 16, 3) ∧ decode cX8_bargain 56 = .ok (.aload_n 0, 1) := by decide +kernel
theorem dX8_bargain_38 : decode cX8_bargain 38 = .ok (.ldc2_w 143, 3) := gg510.1
theorem dX8_bargain_41 : decode cX8_bargain 41 = .ok (.ladd, 1) := gg510.2.1
theorem dX8_bargain_42 : decode cX8_bargain 42 = .ok (.lcmp, 1) := gg510.2.2.1
theorem dX8_bargain_43 : decode cX8_bargain 43 = .ok (.ifCond .gt 35, 3) := gg510.2.2.2.1
theorem dX8_bargain_46 : decode cX8_bargain 46 = .ok (.aload_n 0, 1) := gg510.2.2.2.2.1
theorem dX8_bargain_47 : decode cX8_bargain 47 = .ok (.iload_n 1, 1) := gg510.2.2.2.2.2.1
theorem dX8_bargain_48 : decode cX8_bargain 48 = .ok (.lload 5, 2) := gg510.2.2.2.2.2.2.1
theorem dX8_bargain_50 : decode cX8_bargain 50 = .ok (.invokevirtual 140, 3) := gg510.2.2.2.2.2.2.2.1
theorem dX8_bargain_53 : decode cX8_bargain 53 = .ok (.ifCond .eq 16, 3) := gg510.2.2.2.2.2.2.2.2.1
theorem dX8_bargain_56 : decode cX8_bargain 56 = .ok (.aload_n 0, 1) := gg510.2.2.2.2.2.2.2.2.2
theorem gg511 : decode cX8_bargain 57 = .ok (.iload_n 2, 1) ∧ decode cX8_bargain 58 = .ok (.lload 5, 2) ∧ decode cX8_bargain 60 = .ok (.invokevirtual 140, 3) ∧ decode cX8_bargain 63 = .ok (.ifCond .eq 6, 3) ∧ decode cX8_bargain 66 = .ok (.lload 5, 2) ∧ decode cX8_bargain 68 = .ok (.lreturn, 1) ∧ decode cX8_bargain 69 = .ok (.lload 5, 2) ∧ decode cX8_bargain 71 = .ok (.lconst 1, 1) ∧ decode cX8_bargain 72 = .ok (.ladd, 1) ∧ decode cX8_bargain 73 = .ok (.lstore 5, 2) := by decide +kernel
theorem dX8_bargain_57 : decode cX8_bargain 57 = .ok (.iload_n 2, 1) := gg511.1
theorem dX8_bargain_58 : decode cX8_bargain 58 = .ok (.lload 5, 2) := gg511.2.1
theorem dX8_bargain_60 : decode cX8_bargain 60 = .ok (.invokevirtual 140, 3) := gg511.2.2.1
theorem dX8_bargain_63 : decode cX8_bargain 63 = .ok (.ifCond .eq 6, 3) := gg511.2.2.2.1
theorem dX8_bargain_66 : decode cX8_bargain 66 = .ok (.lload 5, 2) := gg511.2.2.2.2.1
theorem dX8_bargain_68 : decode cX8_bargain 68 = .ok (.lreturn, 1) := gg511.2.2.2.2.2.1
theorem dX8_bargain_69 : decode cX8_bargain 69 = .ok (.lload 5, 2) := gg511.2.2.2.2.2.2.1
theorem dX8_bargain_71 : decode cX8_bargain 71 = .ok (.lconst 1, 1) := gg511.2.2.2.2.2.2.2.1
theorem dX8_bargain_72 : decode cX8_bargain 72 = .ok (.ladd, 1) := gg511.2.2.2.2.2.2.2.2.1
theorem dX8_bargain_73 : decode cX8_bargain 73 = .ok (.lstore 5, 2) := gg511.2.2.2.2.2.2.2.2.2
theorem gg512 : decode cX8_bargain 75 = .ok (.goto (-40), 3) ∧ decode cX8_bargain 78 = .ok (.ldc2_w 134, 3) ∧ decode cX8_bargain 81 = .ok (.lreturn, 1) := by decide +kernel
theorem dX8_bargain_75 : decode cX8_bargain 75 = .ok (.goto (-40), 3) := gg512.1
theorem dX8_bargain_78 : decode cX8_bargain 78 = .ok (.ldc2_w 134, 3) := gg512.2.1
theorem dX8_bargain_81 : decode cX8_bargain 81 = .ok (.lreturn, 1) := gg512.2.2
theorem gg513 : decode cX8_line 0 = .ok (.iload_n 1, 1) ∧ decode cX8_line 1 = .ok (.i2l, 1) ∧ decode cX8_line 2 = .ok (.lconst 0, 1) ∧ decode cX8_line 3 = .ok (.ldc2_w 177, 3) ∧ decode cX8_line 6 = .ok (.invokestatic 53, 3) ∧ decode cX8_line 9 = .ok (.ifCond .eq 15, 3) ∧ decode cX8_line 12 = .ok (.iload_n 2, 1) ∧ decode cX8_line 13 = .ok (.i2l, 1) ∧ decode cX8_line 14 = .ok (.lconst 0, 1) ∧ decode cX8_line 15 = .ok (.ldc2_w 124, 3) := by decide +kernel
theorem dX8_line_0 : decode cX8_line 0 = .ok (.iload_n 1, 1) := gg513.1
theorem dX8_line_1 : decode cX8_line 1 = .ok (.i2l, 1) := gg513.2.1
theorem dX8_line_2 : decode cX8_line 2 = .ok (.lconst 0, 1) := gg513.2.2.1
theorem dX8_line_3 : decode cX8_line 3 = .ok (.ldc2_w 177, 3) := gg513.2.2.2.1
theorem dX8_line_6 : decode cX8_line 6 = .ok (.invokestatic 53, 3) := gg513.2.2.2.2.1
theorem dX8_line_9 : decode cX8_line 9 = .ok (.ifCond .eq 15, 3) := gg513.2.2.2.2.2.1
theorem dX8_line_12 : decode cX8_line 12 = .ok (.iload_n 2, 1) := gg513.2.2.2.2.2.2.1
theorem dX8_line_13 : decode cX8_line 13 = .ok (.i2l, 1) := gg513.2.2.2.2.2.2.2.1
theorem dX8_line_14 : decode cX8_line 14 = .ok (.lconst 0, 1) := gg513.2.2.2.2.2.2.2.2.1
theorem dX8_line_15 : decode cX8_line 15 = .ok (.ldc2_w 124, 3) := gg513.2.2.2.2.2.2.2.2.2
theorem gg514 : decode cX8_line 18 = .ok (.invokestatic 53, 3) ∧ decode cX8_line 21 = .ok (.ifCond .ne 5, 3) ∧ decode cX8_line 24 = .ok (.iconst (-1), 1) ∧ decode cX8_line 25 = .ok (.ireturn, 1) ∧ decode cX8_line 26 = .ok (.aload_n 0, 1) ∧ decode cX8_line 27 = .ok (.getfield 92, 3) ∧ decode cX8_line 30 = .ok (.bipush 10, 2) ∧ decode cX8_line 32 = .ok (.if_icmp .ne 6, 3) ∧ decode cX8_line 35 = .ok (.bipush (-3), 2) ∧ decode cX8_line 37 = .ok (.ireturn, 1) := by decide +kernel
theorem dX8_line_18 : decode cX8_line 18 = .ok (.invokestatic 53, 3) := gg514.1
theorem dX8_line_21 : decode cX8_line 21 = .ok (.ifCond .ne 5, 3) := gg514.2.1
theorem dX8_line_24 : decode cX8_line 24 = .ok (.iconst (-1), 1) := gg514.2.2.1
theorem dX8_line_25 : decode cX8_line 25 = .ok (.ireturn, 1) := gg514.2.2.2.1
theorem dX8_line_26 : decode cX8_line 26 = .ok (.aload_n 0, 1) := gg514.2.2.2.2.1
theorem dX8_line_27 : decode cX8_line 27 = .ok (.getfield 92, 3) := gg514.2.2.2.2.2.1
theorem dX8_line_30 : decode cX8_line 30 = .ok (.bipush 10, 2) := gg514.2.2.2.2.2.2.1
theorem dX8_line_32 : decode cX8_line 32 = .ok (.if_icmp .ne 6, 3) := gg514.2.2.2.2.2.2.2.1
theorem dX8_line_35 : decode cX8_line 35 = .ok (.bipush (-3), 2) := gg514.2.2.2.2.2.2.2.2.1
theorem dX8_line_37 : decode cX8_line 37 = .ok (.ireturn, 1) := gg514.2.2.2.2.2.2.2.2.2
theorem gg515 : decode cX8_line 38 = .ok (.aload_n 0, 1) ∧ decode cX8_line 39 = .ok (.getfield 39, 3) ∧ decode cX8_line 42 = .ok (.iconst 2, 1) ∧ decode cX8_line 43 = .ok (.aload_n 0, 1) ∧ decode cX8_line 44 = .ok (.getfield 92, 3) ∧ decode cX8_line 47 = .ok (.imul, 1) ∧ decode cX8_line 48 = .ok (.iload_n 1, 1) ∧ decode cX8_line 49 = .ok (.iastore, 1) ∧ decode cX8_line 50 = .ok (.aload_n 0, 1) ∧ decode cX8_line 51 = .ok (.getfield 39, 3) := by decide +kernel
theorem dX8_line_38 : decode cX8_line 38 = .ok (.aload_n 0, 1) := gg515.1
theorem dX8_line_39 : decode cX8_line 39 = .ok (.getfield 39, 3) := gg515.2.1
theorem dX8_line_42 : decode cX8_line 42 = .ok (.iconst 2, 1) := gg515.2.2.1
theorem dX8_line_43 : decode cX8_line 43 = .ok (.aload_n 0, 1) := gg515.2.2.2.1
theorem dX8_line_44 : decode cX8_line 44 = .ok (.getfield 92, 3) := gg515.2.2.2.2.1
theorem dX8_line_47 : decode cX8_line 47 = .ok (.imul, 1) := gg515.2.2.2.2.2.1
theorem dX8_line_48 : decode cX8_line 48 = .ok (.iload_n 1, 1) := gg515.2.2.2.2.2.2.1
theorem dX8_line_49 : decode cX8_line 49 = .ok (.iastore, 1) := gg515.2.2.2.2.2.2.2.1
theorem dX8_line_50 : decode cX8_line 50 = .ok (.aload_n 0, 1) := gg515.2.2.2.2.2.2.2.2.1
theorem dX8_line_51 : decode cX8_line 51 = .ok (.getfield 39, 3) := gg515.2.2.2.2.2.2.2.2.2
theorem gg516 : decode cX8_line 54 = .ok (.iconst 2, 1) ∧ decode cX8_line 55 = .ok (.aload_n 0, 1) ∧ decode cX8_line 56 = .ok (.getfield 92, 3) ∧ decode cX8_line 59 = .ok (.imul, 1) ∧ decode cX8_line 60 = .ok (.iconst 1, 1) ∧ decode cX8_line 61 = .ok (.iadd, 1) ∧ decode cX8_line 62 = .ok (.iload_n 2, 1) ∧ decode cX8_line 63 = .ok (.iastore, 1) ∧ decode cX8_line 64 = .ok (.aload_n 0, 1) ∧ decode cX8_line 65 = .ok (.dup, 1) := by decide +kernel
theorem dX8_line_54 : decode cX8_line 54 = .ok (.iconst 2, 1) := gg516.1
theorem dX8_line_55 : decode cX8_line 55 = .ok (.aload_n 0, 1) := gg516.2.1
theorem dX8_line_56 : decode cX8_line 56 = .ok (.getfield 92, 3) := gg516.2.2.1
theorem dX8_line_59 : decode cX8_line 59 = .ok (.imul, 1) := gg516.2.2.2.1
theorem dX8_line_60 : decode cX8_line 60 = .ok (.iconst 1, 1) := gg516.2.2.2.2.1
theorem dX8_line_61 : decode cX8_line 61 = .ok (.iadd, 1) := gg516.2.2.2.2.2.1
theorem dX8_line_62 : decode cX8_line 62 = .ok (.iload_n 2, 1) := gg516.2.2.2.2.2.2.1
theorem dX8_line_63 : decode cX8_line 63 = .ok (.iastore, 1) := gg516.2.2.2.2.2.2.2.1
theorem dX8_line_64 : decode cX8_line 64 = .ok (.aload_n 0, 1) := gg516.2.2.2.2.2.2.2.2.1
theorem dX8_line_65 : decode cX8_line 65 = .ok (.dup, 1) := gg516.2.2.2.2.2.2.2.2.2
theorem gg517 : decode cX8_line 66 = .ok (.getfield 92, 3) ∧ decode cX8_line 69 = .ok (.iconst 1, 1) ∧ decode cX8_line 70 = .ok (.iadd, 1) ∧ decode cX8_line 71 = .ok (.putfield 92, 3) ∧ decode cX8_line 74 = .ok (.aload_n 0, 1) ∧ decode cX8_line 75 = .ok (.getfield 92, 3) ∧ decode cX8_line 78 = .ok (.ireturn, 1) := by decide +kernel
theorem dX8_line_66 : decode cX8_line 66 = .ok (.getfield 92, 3) := gg517.1
theorem dX8_line_69 : decode cX8_line 69 = .ok (.iconst 1, 1) := gg517.2.1
theorem dX8_line_70 : decode cX8_line 70 = .ok (.iadd, 1) := gg517.2.2.1
theorem dX8_line_71 : decode cX8_line 71 = .ok (.putfield 92, 3) := gg517.2.2.2.1
theorem dX8_line_74 : decode cX8_line 74 = .ok (.aload_n 0, 1) := gg517.2.2.2.2.1
theorem dX8_line_75 : decode cX8_line 75 = .ok (.getfield 92, 3) := gg517.2.2.2.2.2.1
theorem dX8_line_78 : decode cX8_line 78 = .ok (.ireturn, 1) := gg517.2.2.2.2.2.2
theorem gg518 : decode cX8_noTable 0 = .ok (.aload_n 0, 1) ∧ decode cX8_noTable 1 = .ok (.getfield 92, 3) ∧ decode cX8_noTable 4 = .ok (.istore_n 1, 1) ∧ decode cX8_noTable 5 = .ok (.aload_n 0, 1) ∧ decode cX8_noTable 6 = .ok (.iconst 0, 1) ∧ decode cX8_noTable 7 = .ok (.putfield 92, 3) ∧ decode cX8_noTable 10 = .ok (.iload_n 1, 1) ∧ decode cX8_noTable 11 = .ok (.ireturn, 1) := by decide +kernel
theorem dX8_noTable_0 : decode cX8_noTable 0 = .ok (.aload_n 0, 1) := gg518.1
theorem dX8_noTable_1 : decode cX8_noTable 1 = .ok (.getfield 92, 3) := gg518.2.1
theorem dX8_noTable_4 : decode cX8_noTable 4 = .ok (.istore_n 1, 1) := gg518.2.2.1
theorem dX8_noTable_5 : decode cX8_noTable 5 = .ok (.aload_n 0, 1) := gg518.2.2.2.1
theorem dX8_noTable_6 : decode cX8_noTable 6 = .ok (.iconst 0, 1) := gg518.2.2.2.2.1
theorem dX8_noTable_7 : decode cX8_noTable 7 = .ok (.putfield 92, 3) := gg518.2.2.2.2.2.1
theorem dX8_noTable_10 : decode cX8_noTable 10 = .ok (.iload_n 1, 1) := gg518.2.2.2.2.2.2.1
theorem dX8_noTable_11 : decode cX8_noTable 11 = .ok (.ireturn, 1) := gg518.2.2.2.2.2.2.2
theorem gg519 : decode cX8_forged 0 = .ok (.iconst 0, 1) ∧ decode cX8_forged 1 = .ok (.istore_n 1, 1) ∧ decode cX8_forged 2 = .ok (.iconst 0, 1) ∧ decode cX8_forged 3 = .ok (.istore_n 2, 1) ∧ decode cX8_forged 4 = .ok (.iload_n 2, 1) ∧ decode cX8_forged 5 = .ok (.aload_n 0, 1) ∧ decode cX8_forged 6 = .ok (.getfield 92, 3) ∧ decode cX8_forged 9 = .ok (.if_icmp .ge 45, 3) ∧ decode cX8_forged 12 = .ok (.iload_n 1, 1) ∧ decode cX8_forged 13 = .ok (.aload_n 0, 1) := by decide +kernel
theorem dX8_forged_0 : decode cX8_forged 0 = .ok (.iconst 0, 1) := gg519.1
theorem dX8_forged_1 : decode cX8_forged 1 = .ok (.istore_n 1, 1) := gg519.2.1
theorem dX8_forged_2 : decode cX8_forged 2 = .ok (.iconst 0, 1) := gg519.2.2.1
theorem dX8_forged_3 : decode cX8_forged 3 = .ok (.istore_n 2, 1) := gg519.2.2.2.1
theorem dX8_forged_4 : decode cX8_forged 4 = .ok (.iload_n 2, 1) := gg519.2.2.2.2.1
theorem dX8_forged_5 : decode cX8_forged 5 = .ok (.aload_n 0, 1) := gg519.2.2.2.2.2.1
theorem dX8_forged_6 : decode cX8_forged 6 = .ok (.getfield 92, 3) := gg519.2.2.2.2.2.2.1
theorem dX8_forged_9 : decode cX8_forged 9 = .ok (.if_icmp .ge 45, 3) := gg519.2.2.2.2.2.2.2.1
theorem dX8_forged_12 : decode cX8_forged 12 = .ok (.iload_n 1, 1) := gg519.2.2.2.2.2.2.2.2.1
theorem dX8_forged_13 : decode cX8_forged 13 = .ok (.aload_n 0, 1) := gg519.2.2.2.2.2.2.2.2.2
theorem gg520 : decode cX8_forged 14 = .ok (.aload_n 0, 1) ∧ decode cX8_forged 15 = .ok (.getfield 39, 3) ∧ decode cX8_forged 18 = .ok (.iconst 2, 1) ∧ decode cX8_forged 19 = .ok (.iload_n 2, 1) ∧ decode cX8_forged 20 = .ok (.imul, 1) ∧ decode cX8_forged 21 = .ok (.iaload, 1) ∧ decode cX8_forged 22 = .ok (.i2l, 1) ∧ decode cX8_forged 23 = .ok (.invokevirtual 118, 3) ∧ decode cX8_forged 26 = .ok (.aload_n 0, 1) ∧ decode cX8_forged 27 = .ok (.getfield 39, 3) := by decide +kernel
theorem dX8_forged_14 : decode cX8_forged 14 = .ok (.aload_n 0, 1) := gg520.1
theorem dX8_forged_15 : decode cX8_forged 15 = .ok (.getfield 39, 3) := gg520.2.1
theorem dX8_forged_18 : decode cX8_forged 18 = .ok (.iconst 2, 1) := gg520.2.2.1
theorem dX8_forged_19 : decode cX8_forged 19 = .ok (.iload_n 2, 1) := gg520.2.2.2.1
theorem dX8_forged_20 : decode cX8_forged 20 = .ok (.imul, 1) := gg520.2.2.2.2.1
theorem dX8_forged_21 : decode cX8_forged 21 = .ok (.iaload, 1) := gg520.2.2.2.2.2.1
theorem dX8_forged_22 : decode cX8_forged 22 = .ok (.i2l, 1) := gg520.2.2.2.2.2.2.1
theorem dX8_forged_23 : decode cX8_forged 23 = .ok (.invokevirtual 118, 3) := gg520.2.2.2.2.2.2.2.1
theorem dX8_forged_26 : decode cX8_forged 26 = .ok (.aload_n 0, 1) := gg520.2.2.2.2.2.2.2.2.1
theorem dX8_forged_27 : decode cX8_forged 27 = .ok (.getfield 39, 3) := gg520.2.2.2.2.2.2.2.2.2
theorem gg521 : decode cX8_forged 30 = .ok (.iconst 2, 1) ∧ decode cX8_forged 31 = .ok (.iload_n 2, 1) ∧ decode cX8_forged 32 = .ok (.imul, 1) ∧ decode cX8_forged 33 = .ok (.iconst 1, 1) ∧ decode cX8_forged 34 = .ok (.iadd, 1) ∧ decode cX8_forged 35 = .ok (.iaload, 1) ∧ decode cX8_forged 36 = .ok (.if_icmp .ne 7, 3) ∧ decode cX8_forged 39 = .ok (.iconst 0, 1) ∧ decode cX8_forged 40 = .ok (.goto 6, 3) ∧ decode cX8_forged 43 = .ok (.iconst 1, 1) := by decide +kernel
theorem dX8_forged_30 : decode cX8_forged 30 = .ok (.iconst 2, 1) := gg521.1
theorem dX8_forged_31 : decode cX8_forged 31 = .ok (.iload_n 2, 1) := gg521.2.1
theorem dX8_forged_32 : decode cX8_forged 32 = .ok (.imul, 1) := gg521.2.2.1
theorem dX8_forged_33 : decode cX8_forged 33 = .ok (.iconst 1, 1) := gg521.2.2.2.1
theorem dX8_forged_34 : decode cX8_forged 34 = .ok (.iadd, 1) := gg521.2.2.2.2.1
theorem dX8_forged_35 : decode cX8_forged 35 = .ok (.iaload, 1) := gg521.2.2.2.2.2.1
theorem dX8_forged_36 : decode cX8_forged 36 = .ok (.if_icmp .ne 7, 3) := gg521.2.2.2.2.2.2.1
theorem dX8_forged_39 : decode cX8_forged 39 = .ok (.iconst 0, 1) := gg521.2.2.2.2.2.2.2.1
theorem dX8_forged_40 : decode cX8_forged 40 = .ok (.goto 6, 3) := gg521.2.2.2.2.2.2.2.2.1
theorem dX8_forged_43 : decode cX8_forged 43 = .ok (.iconst 1, 1) := gg521.2.2.2.2.2.2.2.2.2
theorem gg522 : decode cX8_forged 44 = .ok (.iload_n 2, 1) ∧ decode cX8_forged 45 = .ok (.ishl, 1) ∧ decode cX8_forged 46 = .ok (.ior, 1) ∧ decode cX8_forged 47 = .ok (.istore_n 1, 1) ∧ decode cX8_forged 48 = .ok (.iinc 2 1, 3) ∧ decode cX8_forged 51 = .ok (.goto (-47), 3) ∧ decode cX8_forged 54 = .ok (.iload_n 1, 1) ∧ decode cX8_forged 55 = .ok (.ireturn, 1) := by decide +kernel
theorem dX8_forged_44 : decode cX8_forged 44 = .ok (.iload_n 2, 1) := gg522.1
theorem dX8_forged_45 : decode cX8_forged 45 = .ok (.ishl, 1) := gg522.2.1
theorem dX8_forged_46 : decode cX8_forged 46 = .ok (.ior, 1) := gg522.2.2.1
theorem dX8_forged_47 : decode cX8_forged 47 = .ok (.istore_n 1, 1) := gg522.2.2.2.1
theorem dX8_forged_48 : decode cX8_forged 48 = .ok (.iinc 2 1, 3) := gg522.2.2.2.2.1
theorem dX8_forged_51 : decode cX8_forged 51 = .ok (.goto (-47), 3) := gg522.2.2.2.2.2.1
theorem dX8_forged_54 : decode cX8_forged 54 = .ok (.iload_n 1, 1) := gg522.2.2.2.2.2.2.1
theorem dX8_forged_55 : decode cX8_forged 55 = .ok (.ireturn, 1) := gg522.2.2.2.2.2.2.2
theorem gg523 : decode cX8_so 0 = .ok (.iconst 0, 1) ∧ decode cX8_so 1 = .ok (.istore_n 2, 1) ∧ decode cX8_so 2 = .ok (.iconst 0, 1) ∧ decode cX8_so 3 = .ok (.istore_n 3, 1) ∧ decode cX8_so 4 = .ok (.iload_n 3, 1) ∧ decode cX8_so 5 = .ok (.aload_n 0, 1) ∧ decode cX8_so 6 = .ok (.getfield 92, 3) ∧ decode cX8_so 9 = .ok (.if_icmp .ge 60, 3) ∧ decode cX8_so 12 = .ok (.aload_n 0, 1) ∧ decode cX8_so 13 = .ok (.getfield 39, 3) := by decide +kernel
theorem dX8_so_0 : decode cX8_so 0 = .ok (.iconst 0, 1) := gg523.1
theorem dX8_so_1 : decode cX8_so 1 = .ok (.istore_n 2, 1) := gg523.2.1
theorem dX8_so_2 : decode cX8_so 2 = .ok (.iconst 0, 1) := gg523.2.2.1
theorem dX8_so_3 : decode cX8_so 3 = .ok (.istore_n 3, 1) := gg523.2.2.2.1
theorem dX8_so_4 : decode cX8_so 4 = .ok (.iload_n 3, 1) := gg523.2.2.2.2.1
theorem dX8_so_5 : decode cX8_so 5 = .ok (.aload_n 0, 1) := gg523.2.2.2.2.2.1
theorem dX8_so_6 : decode cX8_so 6 = .ok (.getfield 92, 3) := gg523.2.2.2.2.2.2.1
theorem dX8_so_9 : decode cX8_so 9 = .ok (.if_icmp .ge 60, 3) := gg523.2.2.2.2.2.2.2.1
theorem dX8_so_12 : decode cX8_so 12 = .ok (.aload_n 0, 1) := gg523.2.2.2.2.2.2.2.2.1
theorem dX8_so_13 : decode cX8_so 13 = .ok (.getfield 39, 3) := gg523.2.2.2.2.2.2.2.2.2
theorem gg524 : decode cX8_so 16 = .ok (.iconst 2, 1) ∧ decode cX8_so 17 = .ok (.iload_n 3, 1) ∧ decode cX8_so 18 = .ok (.imul, 1) ∧ decode cX8_so 19 = .ok (.iaload, 1) ∧ decode cX8_so 20 = .ok (.iload_n 1, 1) ∧ decode cX8_so 21 = .ok (.iadd, 1) ∧ decode cX8_so 22 = .ok (.i2l, 1) ∧ decode cX8_so 23 = .ok (.lstore 4, 2) ∧ decode cX8_so 25 = .ok (.iload_n 2, 1) ∧ decode cX8_so 26 = .ok (.aload_n 0, 1) := by decide +kernel
theorem dX8_so_16 : decode cX8_so 16 = .ok (.iconst 2, 1) := gg524.1
theorem dX8_so_17 : decode cX8_so 17 = .ok (.iload_n 3, 1) := gg524.2.1
theorem dX8_so_18 : decode cX8_so 18 = .ok (.imul, 1) := gg524.2.2.1
theorem dX8_so_19 : decode cX8_so 19 = .ok (.iaload, 1) := gg524.2.2.2.1
theorem dX8_so_20 : decode cX8_so 20 = .ok (.iload_n 1, 1) := gg524.2.2.2.2.1
theorem dX8_so_21 : decode cX8_so 21 = .ok (.iadd, 1) := gg524.2.2.2.2.2.1
theorem dX8_so_22 : decode cX8_so 22 = .ok (.i2l, 1) := gg524.2.2.2.2.2.2.1
theorem dX8_so_23 : decode cX8_so 23 = .ok (.lstore 4, 2) := gg524.2.2.2.2.2.2.2.1
theorem dX8_so_25 : decode cX8_so 25 = .ok (.iload_n 2, 1) := gg524.2.2.2.2.2.2.2.2.1
theorem dX8_so_26 : decode cX8_so 26 = .ok (.aload_n 0, 1) := gg524.2.2.2.2.2.2.2.2.2
theorem gg525 : decode cX8_so 27 = .ok (.lload 4, 2) ∧ decode cX8_so 29 = .ok (.lconst 0, 1) ∧ decode cX8_so 30 = .ok (.lcmp, 1) ∧ decode cX8_so 31 = .ok (.ifCond .ge 7, 3) ∧ decode cX8_so 34 = .ok (.lconst 0, 1) ∧ decode cX8_so 35 = .ok (.goto 5, 3) ∧ decode cX8_so 38 = .ok (.lload 4, 2) ∧ decode cX8_so 40 = .ok (.invokevirtual 118, 3) ∧ decode cX8_so 43 = .ok (.aload_n 0, 1) ∧ decode cX8_so 44 = .ok (.getfield 39, 3) := by decide +kernel
theorem dX8_so_27 : decode cX8_so 27 = .ok (.lload 4, 2) := gg525.1
theorem dX8_so_29 : decode cX8_so 29 = .ok (.lconst 0, 1) := gg525.2.1
theorem dX8_so_30 : decode cX8_so 30 = .ok (.lcmp, 1) := gg525.2.2.1
theorem dX8_so_31 : decode cX8_so 31 = .ok (.ifCond .ge 7, 3) := gg525.2.2.2.1
theorem dX8_so_34 : decode cX8_so 34 = .ok (.lconst 0, 1) := gg525.2.2.2.2.1
theorem dX8_so_35 : decode cX8_so 35 = .ok (.goto 5, 3) := gg525.2.2.2.2.2.1
theorem dX8_so_38 : decode cX8_so 38 = .ok (.lload 4, 2) := gg525.2.2.2.2.2.2.1
theorem dX8_so_40 : decode cX8_so 40 = .ok (.invokevirtual 118, 3) := gg525.2.2.2.2.2.2.2.1
theorem dX8_so_43 : decode cX8_so 43 = .ok (.aload_n 0, 1) := gg525.2.2.2.2.2.2.2.2.1
theorem dX8_so_44 : decode cX8_so 44 = .ok (.getfield 39, 3) := gg525.2.2.2.2.2.2.2.2.2
theorem gg526 : decode cX8_so 47 = .ok (.iconst 2, 1) ∧ decode cX8_so 48 = .ok (.iload_n 3, 1) ∧ decode cX8_so 49 = .ok (.imul, 1) ∧ decode cX8_so 50 = .ok (.iconst 1, 1) ∧ decode cX8_so 51 = .ok (.iadd, 1) ∧ decode cX8_so 52 = .ok (.iaload, 1) ∧ decode cX8_so 53 = .ok (.if_icmp .ne 7, 3) ∧ decode cX8_so 56 = .ok (.iconst 1, 1) ∧ decode cX8_so 57 = .ok (.goto 4, 3) ∧ decode cX8_so 60 = .ok (.iconst 0, 1) := by decide +kernel
theorem dX8_so_47 : decode cX8_so 47 = .ok (.iconst 2, 1) := gg526.1
theorem dX8_so_48 : decode cX8_so 48 = .ok (.iload_n 3, 1) := gg526.2.1
theorem dX8_so_49 : decode cX8_so 49 = .ok (.imul, 1) := gg526.2.2.1
theorem dX8_so_50 : decode cX8_so 50 = .ok (.iconst 1, 1) := gg526.2.2.2.1
theorem dX8_so_51 : decode cX8_so 51 = .ok (.iadd, 1) := gg526.2.2.2.2.1
theorem dX8_so_52 : decode cX8_so 52 = .ok (.iaload, 1) := gg526.2.2.2.2.2.1
theorem dX8_so_53 : decode cX8_so 53 = .ok (.if_icmp .ne 7, 3) := gg526.2.2.2.2.2.2.1
theorem dX8_so_56 : decode cX8_so 56 = .ok (.iconst 1, 1) := gg526.2.2.2.2.2.2.2.1
theorem dX8_so_57 : decode cX8_so 57 = .ok (.goto 4, 3) := gg526.2.2.2.2.2.2.2.2.1
theorem dX8_so_60 : decode cX8_so 60 = .ok (.iconst 0, 1) := gg526.2.2.2.2.2.2.2.2.2
theorem gg527 : decode cX8_so 61 = .ok (.iadd, 1) ∧ decode cX8_so 62 = .ok (.istore_n 2, 1) ∧ decode cX8_so 63 = .ok (.iinc 3 1, 3) ∧ decode cX8_so 66 = .ok (.goto (-62), 3) ∧ decode cX8_so 69 = .ok (.iload_n 2, 1) ∧ decode cX8_so 70 = .ok (.ireturn, 1) := by decide +kernel
theorem dX8_so_61 : decode cX8_so 61 = .ok (.iadd, 1) := gg527.1
theorem dX8_so_62 : decode cX8_so 62 = .ok (.istore_n 2, 1) := gg527.2.1
theorem dX8_so_63 : decode cX8_so 63 = .ok (.iinc 3 1, 3) := gg527.2.2.1
theorem dX8_so_66 : decode cX8_so 66 = .ok (.goto (-62), 3) := gg527.2.2.2.1
theorem dX8_so_69 : decode cX8_so 69 = .ok (.iload_n 2, 1) := gg527.2.2.2.2.1
theorem dX8_so_70 : decode cX8_so 70 = .ok (.ireturn, 1) := gg527.2.2.2.2.2
theorem gg528 : decode cX8_shift 0 = .ok (.iload_n 1, 1) ∧ decode cX8_shift 1 = .ok (.i2l, 1) ∧ decode cX8_shift 2 = .ok (.lconst 0, 1) ∧ decode cX8_shift 3 = .ok (.lconst 1, 1) ∧ decode cX8_shift 4 = .ok (.invokestatic 53, 3) ∧ decode cX8_shift 7 = .ok (.ifCond .ne 5, 3) ∧ decode cX8_shift 10 = .ok (.iconst (-1), 1) ∧ decode cX8_shift 11 = .ok (.ireturn, 1) ∧ decode cX8_shift 12 = .ok (.aload_n 0, 1) ∧ decode cX8_shift 13 = .ok (.iconst 0, 1) := by decide +kernel
theorem dX8_shift_0 : decode cX8_shift 0 = .ok (.iload_n 1, 1) := gg528.1
theorem dX8_shift_1 : decode cX8_shift 1 = .ok (.i2l, 1) := gg528.2.1
theorem dX8_shift_2 : decode cX8_shift 2 = .ok (.lconst 0, 1) := gg528.2.2.1
theorem dX8_shift_3 : decode cX8_shift 3 = .ok (.lconst 1, 1) := gg528.2.2.2.1
theorem dX8_shift_4 : decode cX8_shift 4 = .ok (.invokestatic 53, 3) := gg528.2.2.2.2.1
theorem dX8_shift_7 : decode cX8_shift 7 = .ok (.ifCond .ne 5, 3) := gg528.2.2.2.2.2.1
theorem dX8_shift_10 : decode cX8_shift 10 = .ok (.iconst (-1), 1) := gg528.2.2.2.2.2.2.1
theorem dX8_shift_11 : decode cX8_shift 11 = .ok (.ireturn, 1) := gg528.2.2.2.2.2.2.2.1
theorem dX8_shift_12 : decode cX8_shift 12 = .ok (.aload_n 0, 1) := gg528.2.2.2.2.2.2.2.2.1
theorem dX8_shift_13 : decode cX8_shift 13 = .ok (.iconst 0, 1) := gg528.2.2.2.2.2.2.2.2.2
theorem gg529 : decode cX8_shift 14 = .ok (.invokevirtual 179, 3) ∧ decode cX8_shift 17 = .ok (.istore_n 2, 1) ∧ decode cX8_shift 18 = .ok (.aload_n 0, 1) ∧ decode cX8_shift 19 = .ok (.iconst 0, 1) ∧ decode cX8_shift 20 = .ok (.putfield 182, 3) ∧ decode cX8_shift 23 = .ok (.iconst 1, 1) ∧ decode cX8_shift 24 = .ok (.istore_n 3, 1) ∧ decode cX8_shift 25 = .ok (.iload_n 3, 1) ∧ decode cX8_shift 26 = .ok (.bipush 30, 2) ∧ decode cX8_shift 28 = .ok (.if_icmp .gt 68, 3) := by decide +kernel
theorem dX8_shift_14 : decode cX8_shift 14 = .ok (.invokevirtual 179, 3) := gg529.1
theorem dX8_shift_17 : decode cX8_shift 17 = .ok (.istore_n 2, 1) := gg529.2.1
theorem dX8_shift_18 : decode cX8_shift 18 = .ok (.aload_n 0, 1) := gg529.2.2.1
theorem dX8_shift_19 : decode cX8_shift 19 = .ok (.iconst 0, 1) := gg529.2.2.2.1
theorem dX8_shift_20 : decode cX8_shift 20 = .ok (.putfield 182, 3) := gg529.2.2.2.2.1
theorem dX8_shift_23 : decode cX8_shift 23 = .ok (.iconst 1, 1) := gg529.2.2.2.2.2.1
theorem dX8_shift_24 : decode cX8_shift 24 = .ok (.istore_n 3, 1) := gg529.2.2.2.2.2.2.1
theorem dX8_shift_25 : decode cX8_shift 25 = .ok (.iload_n 3, 1) := gg529.2.2.2.2.2.2.2.1
theorem dX8_shift_26 : decode cX8_shift 26 = .ok (.bipush 30, 2) := gg529.2.2.2.2.2.2.2.2.1
theorem dX8_shift_28 : decode cX8_shift 28 = .ok (.if_icmp .gt 68, 3) := gg529.2.2.2.2.2.2.2.2.2
theorem gg530 : decode cX8_shift 31 = .ok (.iconst (-1), 1) ∧ decode cX8_shift 32 = .ok (.istore 4, 2) ∧ decode cX8_shift 34 = .ok (.iload 4, 2) ∧ decode cX8_shift 36 = .ok (.iconst 2, 1) ∧ decode cX8_shift 37 = .ok (.if_icmp .ge 53, 3) ∧ decode cX8_shift 40 = .ok (.aload_n 0, 1) ∧ decode cX8_shift 41 = .ok (.iload 4, 2) ∧ decode cX8_shift 43 = .ok (.iload_n 3, 1) ∧ decode cX8_shift 44 = .ok (.imul, 1) ∧ decode cX8_shift 45 = .ok (.invokevirtual 179, 3) := by decide +kernel
theorem dX8_shift_31 : decode cX8_shift 31 = .ok (.iconst (-1), 1) := gg530.1
theorem dX8_shift_32 : decode cX8_shift 32 = .ok (.istore 4, 2) := gg530.2.1
theorem dX8_shift_34 : decode cX8_shift 34 = .ok (.iload 4, 2) := gg530.2.2.1
theorem dX8_shift_36 : decode cX8_shift 36 = .ok (.iconst 2, 1) := gg530.2.2.2.1
theorem dX8_shift_37 : decode cX8_shift 37 = .ok (.if_icmp .ge 53, 3) := gg530.2.2.2.2.1
theorem dX8_shift_40 : decode cX8_shift 40 = .ok (.aload_n 0, 1) := gg530.2.2.2.2.2.1
theorem dX8_shift_41 : decode cX8_shift 41 = .ok (.iload 4, 2) := gg530.2.2.2.2.2.2.1
theorem dX8_shift_43 : decode cX8_shift 43 = .ok (.iload_n 3, 1) := gg530.2.2.2.2.2.2.2.1
theorem dX8_shift_44 : decode cX8_shift 44 = .ok (.imul, 1) := gg530.2.2.2.2.2.2.2.2.1
theorem dX8_shift_45 : decode cX8_shift 45 = .ok (.invokevirtual 179, 3) := gg530.2.2.2.2.2.2.2.2.2
theorem gg531 : decode cX8_shift 48 = .ok (.istore 5, 2) ∧ decode cX8_shift 50 = .ok (.aload_n 0, 1) ∧ decode cX8_shift 51 = .ok (.iload 5, 2) ∧ decode cX8_shift 53 = .ok (.iload_n 2, 1) ∧ decode cX8_shift 54 = .ok (.if_icmp .le 10, 3) ∧ decode cX8_shift 57 = .ok (.iload 4, 2) ∧ decode cX8_shift 59 = .ok (.iload_n 3, 1) ∧ decode cX8_shift 60 = .ok (.imul, 1) ∧ decode cX8_shift 61 = .ok (.goto 7, 3) ∧ decode cX8_shift 64 = .ok (.aload_n 0, 1) := by decide +kernel
theorem dX8_shift_48 : decode cX8_shift 48 = .ok (.istore 5, 2) := gg531.1
theorem dX8_shift_50 : decode cX8_shift 50 = .ok (.aload_n 0, 1) := gg531.2.1
theorem dX8_shift_51 : decode cX8_shift 51 = .ok (.iload 5, 2) := gg531.2.2.1
theorem dX8_shift_53 : decode cX8_shift 53 = .ok (.iload_n 2, 1) := gg531.2.2.2.1
theorem dX8_shift_54 : decode cX8_shift 54 = .ok (.if_icmp .le 10, 3) := gg531.2.2.2.2.1
theorem dX8_shift_57 : decode cX8_shift 57 = .ok (.iload 4, 2) := gg531.2.2.2.2.2.1
theorem dX8_shift_59 : decode cX8_shift 59 = .ok (.iload_n 3, 1) := gg531.2.2.2.2.2.2.1
theorem dX8_shift_60 : decode cX8_shift 60 = .ok (.imul, 1) := gg531.2.2.2.2.2.2.2.1
theorem dX8_shift_61 : decode cX8_shift 61 = .ok (.goto 7, 3) := gg531.2.2.2.2.2.2.2.2.1
theorem dX8_shift_64 : decode cX8_shift 64 = .ok (.aload_n 0, 1) := gg531.2.2.2.2.2.2.2.2.2
theorem gg532 : decode cX8_shift 65 = .ok (.getfield 182, 3) ∧ decode cX8_shift 68 = .ok (.putfield 182, 3) ∧ decode cX8_shift 71 = .ok (.iload 5, 2) ∧ decode cX8_shift 73 = .ok (.iload_n 2, 1) ∧ decode cX8_shift 74 = .ok (.if_icmp .le 8, 3) ∧ decode cX8_shift 77 = .ok (.iload 5, 2) ∧ decode cX8_shift 79 = .ok (.goto 4, 3) ∧ decode cX8_shift 82 = .ok (.iload_n 2, 1) ∧ decode cX8_shift 83 = .ok (.istore_n 2, 1) ∧ decode cX8_shift 84 = .ok (.iinc 4 2, 3) := by decide +kernel
theorem dX8_shift_65 : decode cX8_shift 65 = .ok (.getfield 182, 3) := gg532.1
theorem dX8_shift_68 : decode cX8_shift 68 = .ok (.putfield 182, 3) := gg532.2.1
theorem dX8_shift_71 : decode cX8_shift 71 = .ok (.iload 5, 2) := gg532.2.2.1
theorem dX8_shift_73 : decode cX8_shift 73 = .ok (.iload_n 2, 1) := gg532.2.2.2.1
theorem dX8_shift_74 : decode cX8_shift 74 = .ok (.if_icmp .le 8, 3) := gg532.2.2.2.2.1
theorem dX8_shift_77 : decode cX8_shift 77 = .ok (.iload 5, 2) := gg532.2.2.2.2.2.1
theorem dX8_shift_79 : decode cX8_shift 79 = .ok (.goto 4, 3) := gg532.2.2.2.2.2.2.1
theorem dX8_shift_82 : decode cX8_shift 82 = .ok (.iload_n 2, 1) := gg532.2.2.2.2.2.2.2.1
theorem dX8_shift_83 : decode cX8_shift 83 = .ok (.istore_n 2, 1) := gg532.2.2.2.2.2.2.2.2.1
theorem dX8_shift_84 : decode cX8_shift 84 = .ok (.iinc 4 2, 3) := gg532.2.2.2.2.2.2.2.2.2
theorem gg533 : decode cX8_shift 87 = .ok (.goto (-53), 3) ∧ decode cX8_shift 90 = .ok (.iinc 3 1, 3) ∧ decode cX8_shift 93 = .ok (.goto (-68), 3) ∧ decode cX8_shift 96 = .ok (.iload_n 1, 1) ∧ decode cX8_shift 97 = .ok (.ifCond .ne 7, 3) ∧ decode cX8_shift 100 = .ok (.iload_n 2, 1) ∧ decode cX8_shift 101 = .ok (.goto 10, 3) ∧ decode cX8_shift 104 = .ok (.aload_n 0, 1) ∧ decode cX8_shift 105 = .ok (.getfield 182, 3) ∧ decode cX8_shift 108 = .ok (.bipush 30, 2) := by decide +kernel
theorem dX8_shift_87 : decode cX8_shift 87 = .ok (.goto (-53), 3) := gg533.1
theorem dX8_shift_90 : decode cX8_shift 90 = .ok (.iinc 3 1, 3) := gg533.2.1
theorem dX8_shift_93 : decode cX8_shift 93 = .ok (.goto (-68), 3) := gg533.2.2.1
theorem dX8_shift_96 : decode cX8_shift 96 = .ok (.iload_n 1, 1) := gg533.2.2.2.1
theorem dX8_shift_97 : decode cX8_shift 97 = .ok (.ifCond .ne 7, 3) := gg533.2.2.2.2.1
theorem dX8_shift_100 : decode cX8_shift 100 = .ok (.iload_n 2, 1) := gg533.2.2.2.2.2.1
theorem dX8_shift_101 : decode cX8_shift 101 = .ok (.goto 10, 3) := gg533.2.2.2.2.2.2.1
theorem dX8_shift_104 : decode cX8_shift 104 = .ok (.aload_n 0, 1) := gg533.2.2.2.2.2.2.2.1
theorem dX8_shift_105 : decode cX8_shift 105 = .ok (.getfield 182, 3) := gg533.2.2.2.2.2.2.2.2.1
theorem dX8_shift_108 : decode cX8_shift 108 = .ok (.bipush 30, 2) := gg533.2.2.2.2.2.2.2.2.2
theorem gg534 : decode cX8_shift 110 = .ok (.iadd, 1) ∧ decode cX8_shift 111 = .ok (.ireturn, 1) := by decide +kernel
theorem dX8_shift_110 : decode cX8_shift 110 = .ok (.iadd, 1) := gg534.1
theorem dX8_shift_111 : decode cX8_shift 111 = .ok (.ireturn, 1) := gg534.2
theorem gg535 : decode cX8_wreck 0 = .ok (.lload_n 1, 1) ∧ decode cX8_wreck 1 = .ok (.invokestatic 114, 3) ∧ decode cX8_wreck 4 = .ok (.ifCond .eq 37, 3) ∧ decode cX8_wreck 7 = .ok (.iload_n 3, 1) ∧ decode cX8_wreck 8 = .ok (.i2l, 1) ∧ decode cX8_wreck 9 = .ok (.lconst 1, 1) ∧ decode cX8_wreck 10 = .ok (.ldc2_w 185, 3) ∧ decode cX8_wreck 13 = .ok (.invokestatic 53, 3) ∧ decode cX8_wreck 16 = .ok (.ifCond .eq 25, 3) ∧ decode cX8_wreck 19 = .ok (.iload 4, 2) := by decide +kernel
theorem dX8_wreck_0 : decode cX8_wreck 0 = .ok (.lload_n 1, 1) := gg535.1
theorem dX8_wreck_1 : decode cX8_wreck 1 = .ok (.invokestatic 114, 3) := gg535.2.1
theorem dX8_wreck_4 : decode cX8_wreck 4 = .ok (.ifCond .eq 37, 3) := gg535.2.2.1
theorem dX8_wreck_7 : decode cX8_wreck 7 = .ok (.iload_n 3, 1) := gg535.2.2.2.1
theorem dX8_wreck_8 : decode cX8_wreck 8 = .ok (.i2l, 1) := gg535.2.2.2.2.1
theorem dX8_wreck_9 : decode cX8_wreck 9 = .ok (.lconst 1, 1) := gg535.2.2.2.2.2.1
theorem dX8_wreck_10 : decode cX8_wreck 10 = .ok (.ldc2_w 185, 3) := gg535.2.2.2.2.2.2.1
theorem dX8_wreck_13 : decode cX8_wreck 13 = .ok (.invokestatic 53, 3) := gg535.2.2.2.2.2.2.2.1
theorem dX8_wreck_16 : decode cX8_wreck 16 = .ok (.ifCond .eq 25, 3) := gg535.2.2.2.2.2.2.2.2.1
theorem dX8_wreck_19 : decode cX8_wreck 19 = .ok (.iload 4, 2) := gg535.2.2.2.2.2.2.2.2.2
theorem gg536 : decode cX8_wreck 21 = .ok (.i2l, 1) ∧ decode cX8_wreck 22 = .ok (.lconst 0, 1) ∧ decode cX8_wreck 23 = .ok (.lconst 1, 1) ∧ decode cX8_wreck 24 = .ok (.invokestatic 53, 3) ∧ decode cX8_wreck 27 = .ok (.ifCond .eq 14, 3) ∧ decode cX8_wreck 30 = .ok (.iload 5, 2) ∧ decode cX8_wreck 32 = .ok (.i2l, 1) ∧ decode cX8_wreck 33 = .ok (.lconst 0, 1) ∧ decode cX8_wreck 34 = .ok (.lconst 1, 1) ∧ decode cX8_wreck 35 = .ok (.invokestatic 53, 3) := by decide +kernel
theorem dX8_wreck_21 : decode cX8_wreck 21 = .ok (.i2l, 1) := gg536.1
theorem dX8_wreck_22 : decode cX8_wreck 22 = .ok (.lconst 0, 1) := gg536.2.1
theorem dX8_wreck_23 : decode cX8_wreck 23 = .ok (.lconst 1, 1) := gg536.2.2.1
theorem dX8_wreck_24 : decode cX8_wreck 24 = .ok (.invokestatic 53, 3) := gg536.2.2.2.1
theorem dX8_wreck_27 : decode cX8_wreck 27 = .ok (.ifCond .eq 14, 3) := gg536.2.2.2.2.1
theorem dX8_wreck_30 : decode cX8_wreck 30 = .ok (.iload 5, 2) := gg536.2.2.2.2.2.1
theorem dX8_wreck_32 : decode cX8_wreck 32 = .ok (.i2l, 1) := gg536.2.2.2.2.2.2.1
theorem dX8_wreck_33 : decode cX8_wreck 33 = .ok (.lconst 0, 1) := gg536.2.2.2.2.2.2.2.1
theorem dX8_wreck_34 : decode cX8_wreck 34 = .ok (.lconst 1, 1) := gg536.2.2.2.2.2.2.2.2.1
theorem dX8_wreck_35 : decode cX8_wreck 35 = .ok (.invokestatic 53, 3) := gg536.2.2.2.2.2.2.2.2.2
theorem gg537 : decode cX8_wreck 38 = .ok (.ifCond .ne 5, 3) ∧ decode cX8_wreck 41 = .ok (.iconst (-1), 1) ∧ decode cX8_wreck 42 = .ok (.ireturn, 1) ∧ decode cX8_wreck 43 = .ok (.aload_n 0, 1) ∧ decode cX8_wreck 44 = .ok (.lload_n 1, 1) ∧ decode cX8_wreck 45 = .ok (.iload_n 3, 1) ∧ decode cX8_wreck 46 = .ok (.iload 4, 2) ∧ decode cX8_wreck 48 = .ok (.invokevirtual 126, 3) ∧ decode cX8_wreck 51 = .ok (.istore 6, 2) ∧ decode cX8_wreck 53 = .ok (.iload 6, 2) := by decide +kernel
theorem dX8_wreck_38 : decode cX8_wreck 38 = .ok (.ifCond .ne 5, 3) := gg537.1
theorem dX8_wreck_41 : decode cX8_wreck 41 = .ok (.iconst (-1), 1) := gg537.2.1
theorem dX8_wreck_42 : decode cX8_wreck 42 = .ok (.ireturn, 1) := gg537.2.2.1
theorem dX8_wreck_43 : decode cX8_wreck 43 = .ok (.aload_n 0, 1) := gg537.2.2.2.1
theorem dX8_wreck_44 : decode cX8_wreck 44 = .ok (.lload_n 1, 1) := gg537.2.2.2.2.1
theorem dX8_wreck_45 : decode cX8_wreck 45 = .ok (.iload_n 3, 1) := gg537.2.2.2.2.2.1
theorem dX8_wreck_46 : decode cX8_wreck 46 = .ok (.iload 4, 2) := gg537.2.2.2.2.2.2.1
theorem dX8_wreck_48 : decode cX8_wreck 48 = .ok (.invokevirtual 126, 3) := gg537.2.2.2.2.2.2.2.1
theorem dX8_wreck_51 : decode cX8_wreck 51 = .ok (.istore 6, 2) := gg537.2.2.2.2.2.2.2.2.1
theorem dX8_wreck_53 : decode cX8_wreck 53 = .ok (.iload 6, 2) := gg537.2.2.2.2.2.2.2.2.2
theorem gg538 : decode cX8_wreck 55 = .ok (.aload_n 0, 1) ∧ decode cX8_wreck 56 = .ok (.lload_n 1, 1) ∧ decode cX8_wreck 57 = .ok (.iload_n 3, 1) ∧ decode cX8_wreck 58 = .ok (.iconst 1, 1) ∧ decode cX8_wreck 59 = .ok (.iload 4, 2) ∧ decode cX8_wreck 61 = .ok (.isub, 1) ∧ decode cX8_wreck 62 = .ok (.invokevirtual 126, 3) ∧ decode cX8_wreck 65 = .ok (.iadd, 1) ∧ decode cX8_wreck 66 = .ok (.istore 7, 2) ∧ decode cX8_wreck 68 = .ok (.iload 7, 2) := by decide +kernel
theorem dX8_wreck_55 : decode cX8_wreck 55 = .ok (.aload_n 0, 1) := gg538.1
theorem dX8_wreck_56 : decode cX8_wreck 56 = .ok (.lload_n 1, 1) := gg538.2.1
theorem dX8_wreck_57 : decode cX8_wreck 57 = .ok (.iload_n 3, 1) := gg538.2.2.1
theorem dX8_wreck_58 : decode cX8_wreck 58 = .ok (.iconst 1, 1) := gg538.2.2.2.1
theorem dX8_wreck_59 : decode cX8_wreck 59 = .ok (.iload 4, 2) := gg538.2.2.2.2.1
theorem dX8_wreck_61 : decode cX8_wreck 61 = .ok (.isub, 1) := gg538.2.2.2.2.2.1
theorem dX8_wreck_62 : decode cX8_wreck 62 = .ok (.invokevirtual 126, 3) := gg538.2.2.2.2.2.2.1
theorem dX8_wreck_65 : decode cX8_wreck 65 = .ok (.iadd, 1) := gg538.2.2.2.2.2.2.2.1
theorem dX8_wreck_66 : decode cX8_wreck 66 = .ok (.istore 7, 2) := gg538.2.2.2.2.2.2.2.2.1
theorem dX8_wreck_68 : decode cX8_wreck 68 = .ok (.iload 7, 2) := gg538.2.2.2.2.2.2.2.2.2
theorem gg539 : decode cX8_wreck 70 = .ok (.ifCond .ne 6, 3) ∧ decode cX8_wreck 73 = .ok (.bipush (-4), 2) ∧ decode cX8_wreck 75 = .ok (.ireturn, 1) ∧ decode cX8_wreck 76 = .ok (.iload 6, 2) ∧ decode cX8_wreck 78 = .ok (.istore 8, 2) ∧ decode cX8_wreck 80 = .ok (.iload 7, 2) ∧ decode cX8_wreck 82 = .ok (.istore 9, 2) ∧ decode cX8_wreck 84 = .ok (.iload 9, 2) ∧ decode cX8_wreck 86 = .ok (.ifCond .eq 21, 3) ∧ decode cX8_wreck 89 = .ok (.iload 8, 2) := by decide +kernel
theorem dX8_wreck_70 : decode cX8_wreck 70 = .ok (.ifCond .ne 6, 3) := gg539.1
theorem dX8_wreck_73 : decode cX8_wreck 73 = .ok (.bipush (-4), 2) := gg539.2.1
theorem dX8_wreck_75 : decode cX8_wreck 75 = .ok (.ireturn, 1) := gg539.2.2.1
theorem dX8_wreck_76 : decode cX8_wreck 76 = .ok (.iload 6, 2) := gg539.2.2.2.1
theorem dX8_wreck_78 : decode cX8_wreck 78 = .ok (.istore 8, 2) := gg539.2.2.2.2.1
theorem dX8_wreck_80 : decode cX8_wreck 80 = .ok (.iload 7, 2) := gg539.2.2.2.2.2.1
theorem dX8_wreck_82 : decode cX8_wreck 82 = .ok (.istore 9, 2) := gg539.2.2.2.2.2.2.1
theorem dX8_wreck_84 : decode cX8_wreck 84 = .ok (.iload 9, 2) := gg539.2.2.2.2.2.2.2.1
theorem dX8_wreck_86 : decode cX8_wreck 86 = .ok (.ifCond .eq 21, 3) := gg539.2.2.2.2.2.2.2.2.1
theorem dX8_wreck_89 : decode cX8_wreck 89 = .ok (.iload 8, 2) := gg539.2.2.2.2.2.2.2.2.2
theorem gg540 : decode cX8_wreck 91 = .ok (.iload 9, 2) ∧ decode cX8_wreck 93 = .ok (.irem, 1) ∧ decode cX8_wreck 94 = .ok (.istore 10, 2) ∧ decode cX8_wreck 96 = .ok (.iload 9, 2) ∧ decode cX8_wreck 98 = .ok (.istore 8, 2) ∧ decode cX8_wreck 100 = .ok (.iload 10, 2) ∧ decode cX8_wreck 102 = .ok (.istore 9, 2) ∧ decode cX8_wreck 104 = .ok (.goto (-20), 3) ∧ decode cX8_wreck 107 = .ok (.iload 5, 2) ∧ decode cX8_wreck 109 = .ok (.ifCond .ne 11, 3) := by decide +kernel
theorem dX8_wreck_91 : decode cX8_wreck 91 = .ok (.iload 9, 2) := gg540.1
theorem dX8_wreck_93 : decode cX8_wreck 93 = .ok (.irem, 1) := gg540.2.1
theorem dX8_wreck_94 : decode cX8_wreck 94 = .ok (.istore 10, 2) := gg540.2.2.1
theorem dX8_wreck_96 : decode cX8_wreck 96 = .ok (.iload 9, 2) := gg540.2.2.2.1
theorem dX8_wreck_98 : decode cX8_wreck 98 = .ok (.istore 8, 2) := gg540.2.2.2.2.1
theorem dX8_wreck_100 : decode cX8_wreck 100 = .ok (.iload 10, 2) := gg540.2.2.2.2.2.1
theorem dX8_wreck_102 : decode cX8_wreck 102 = .ok (.istore 9, 2) := gg540.2.2.2.2.2.2.1
theorem dX8_wreck_104 : decode cX8_wreck 104 = .ok (.goto (-20), 3) := gg540.2.2.2.2.2.2.2.1
theorem dX8_wreck_107 : decode cX8_wreck 107 = .ok (.iload 5, 2) := gg540.2.2.2.2.2.2.2.2.1
theorem dX8_wreck_109 : decode cX8_wreck 109 = .ok (.ifCond .ne 11, 3) := gg540.2.2.2.2.2.2.2.2.2
theorem gg541 : decode cX8_wreck 112 = .ok (.iload 6, 2) ∧ decode cX8_wreck 114 = .ok (.iload 8, 2) ∧ decode cX8_wreck 116 = .ok (.idiv, 1) ∧ decode cX8_wreck 117 = .ok (.goto 8, 3) ∧ decode cX8_wreck 120 = .ok (.iload 7, 2) ∧ decode cX8_wreck 122 = .ok (.iload 8, 2) ∧ decode cX8_wreck 124 = .ok (.idiv, 1) ∧ decode cX8_wreck 125 = .ok (.ireturn, 1) := by decide +kernel
theorem dX8_wreck_112 : decode cX8_wreck 112 = .ok (.iload 6, 2) := gg541.1
theorem dX8_wreck_114 : decode cX8_wreck 114 = .ok (.iload 8, 2) := gg541.2.1
theorem dX8_wreck_116 : decode cX8_wreck 116 = .ok (.idiv, 1) := gg541.2.2.1
theorem dX8_wreck_117 : decode cX8_wreck 117 = .ok (.goto 8, 3) := gg541.2.2.2.1
theorem dX8_wreck_120 : decode cX8_wreck 120 = .ok (.iload 7, 2) := gg541.2.2.2.2.1
theorem dX8_wreck_122 : decode cX8_wreck 122 = .ok (.iload 8, 2) := gg541.2.2.2.2.2.1
theorem dX8_wreck_124 : decode cX8_wreck 124 = .ok (.idiv, 1) := gg541.2.2.2.2.2.2.1
theorem dX8_wreck_125 : decode cX8_wreck 125 = .ok (.ireturn, 1) := gg541.2.2.2.2.2.2.2
theorem gg542 : decode cX8_drawn 0 = .ok (.iload_n 1, 1) ∧ decode cX8_drawn 1 = .ok (.i2l, 1) ∧ decode cX8_drawn 2 = .ok (.lconst 0, 1) ∧ decode cX8_drawn 3 = .ok (.ldc2_w 148, 3) ∧ decode cX8_drawn 6 = .ok (.invokestatic 53, 3) ∧ decode cX8_drawn 9 = .ok (.ifCond .eq 15, 3) ∧ decode cX8_drawn 12 = .ok (.iload_n 2, 1) ∧ decode cX8_drawn 13 = .ok (.i2l, 1) ∧ decode cX8_drawn 14 = .ok (.lconst 1, 1) ∧ decode cX8_drawn 15 = .ok (.ldc2_w 187, 3) := by decide +kernel
theorem dX8_drawn_0 : decode cX8_drawn 0 = .ok (.iload_n 1, 1) := gg542.1
theorem dX8_drawn_1 : decode cX8_drawn 1 = .ok (.i2l, 1) := gg542.2.1
theorem dX8_drawn_2 : decode cX8_drawn 2 = .ok (.lconst 0, 1) := gg542.2.2.1
theorem dX8_drawn_3 : decode cX8_drawn 3 = .ok (.ldc2_w 148, 3) := gg542.2.2.2.1
theorem dX8_drawn_6 : decode cX8_drawn 6 = .ok (.invokestatic 53, 3) := gg542.2.2.2.2.1
theorem dX8_drawn_9 : decode cX8_drawn 9 = .ok (.ifCond .eq 15, 3) := gg542.2.2.2.2.2.1
theorem dX8_drawn_12 : decode cX8_drawn 12 = .ok (.iload_n 2, 1) := gg542.2.2.2.2.2.2.1
theorem dX8_drawn_13 : decode cX8_drawn 13 = .ok (.i2l, 1) := gg542.2.2.2.2.2.2.2.1
theorem dX8_drawn_14 : decode cX8_drawn 14 = .ok (.lconst 1, 1) := gg542.2.2.2.2.2.2.2.2.1
theorem dX8_drawn_15 : decode cX8_drawn 15 = .ok (.ldc2_w 187, 3) := gg542.2.2.2.2.2.2.2.2.2
theorem gg543 : decode cX8_drawn 18 = .ok (.invokestatic 53, 3) ∧ decode cX8_drawn 21 = .ok (.ifCond .ne 5, 3) ∧ decode cX8_drawn 24 = .ok (.iconst (-1), 1) ∧ decode cX8_drawn 25 = .ok (.ireturn, 1) ∧ decode cX8_drawn 26 = .ok (.iconst 0, 1) ∧ decode cX8_drawn 27 = .ok (.istore_n 3, 1) ∧ decode cX8_drawn 28 = .ok (.iconst 0, 1) ∧ decode cX8_drawn 29 = .ok (.istore 4, 2) ∧ decode cX8_drawn 31 = .ok (.iload 4, 2) ∧ decode cX8_drawn 33 = .ok (.iload_n 2, 1) := by decide +kernel
theorem dX8_drawn_18 : decode cX8_drawn 18 = .ok (.invokestatic 53, 3) := gg543.1
theorem dX8_drawn_21 : decode cX8_drawn 21 = .ok (.ifCond .ne 5, 3) := gg543.2.1
theorem dX8_drawn_24 : decode cX8_drawn 24 = .ok (.iconst (-1), 1) := gg543.2.2.1
theorem dX8_drawn_25 : decode cX8_drawn 25 = .ok (.ireturn, 1) := gg543.2.2.2.1
theorem dX8_drawn_26 : decode cX8_drawn 26 = .ok (.iconst 0, 1) := gg543.2.2.2.2.1
theorem dX8_drawn_27 : decode cX8_drawn 27 = .ok (.istore_n 3, 1) := gg543.2.2.2.2.2.1
theorem dX8_drawn_28 : decode cX8_drawn 28 = .ok (.iconst 0, 1) := gg543.2.2.2.2.2.2.1
theorem dX8_drawn_29 : decode cX8_drawn 29 = .ok (.istore 4, 2) := gg543.2.2.2.2.2.2.2.1
theorem dX8_drawn_31 : decode cX8_drawn 31 = .ok (.iload 4, 2) := gg543.2.2.2.2.2.2.2.2.1
theorem dX8_drawn_33 : decode cX8_drawn 33 = .ok (.iload_n 2, 1) := gg543.2.2.2.2.2.2.2.2.2
theorem gg544 : decode cX8_drawn 34 = .ok (.if_icmp .ge 60, 3) ∧ decode cX8_drawn 37 = .ok (.ldc2_w 189, 3) ∧ decode cX8_drawn 40 = .ok (.iload_n 1, 1) ∧ decode cX8_drawn 41 = .ok (.i2l, 1) ∧ decode cX8_drawn 42 = .ok (.lmul, 1) ∧ decode cX8_drawn 43 = .ok (.ldc2_w 191, 3) ∧ decode cX8_drawn 46 = .ok (.iload 4, 2) ∧ decode cX8_drawn 48 = .ok (.i2l, 1) ∧ decode cX8_drawn 49 = .ok (.lmul, 1) ∧ decode cX8_drawn 50 = .ok (.ladd, 1) := by decide +kernel
theorem dX8_drawn_34 : decode cX8_drawn 34 = .ok (.if_icmp .ge 60, 3) := gg544.1
theorem dX8_drawn_37 : decode cX8_drawn 37 = .ok (.ldc2_w 189, 3) := gg544.2.1
theorem dX8_drawn_40 : decode cX8_drawn 40 = .ok (.iload_n 1, 1) := gg544.2.2.1
theorem dX8_drawn_41 : decode cX8_drawn 41 = .ok (.i2l, 1) := gg544.2.2.2.1
theorem dX8_drawn_42 : decode cX8_drawn 42 = .ok (.lmul, 1) := gg544.2.2.2.2.1
theorem dX8_drawn_43 : decode cX8_drawn 43 = .ok (.ldc2_w 191, 3) := gg544.2.2.2.2.2.1
theorem dX8_drawn_46 : decode cX8_drawn 46 = .ok (.iload 4, 2) := gg544.2.2.2.2.2.2.1
theorem dX8_drawn_48 : decode cX8_drawn 48 = .ok (.i2l, 1) := gg544.2.2.2.2.2.2.2.1
theorem dX8_drawn_49 : decode cX8_drawn 49 = .ok (.lmul, 1) := gg544.2.2.2.2.2.2.2.2.1
theorem dX8_drawn_50 : decode cX8_drawn 50 = .ok (.ladd, 1) := gg544.2.2.2.2.2.2.2.2.2
theorem gg545 : decode cX8_drawn 51 = .ok (.lconst 1, 1) ∧ decode cX8_drawn 52 = .ok (.ladd, 1) ∧ decode cX8_drawn 53 = .ok (.lstore 5, 2) ∧ decode cX8_drawn 55 = .ok (.iload_n 3, 1) ∧ decode cX8_drawn 56 = .ok (.aload_n 0, 1) ∧ decode cX8_drawn 57 = .ok (.iload 4, 2) ∧ decode cX8_drawn 59 = .ok (.aload_n 0, 1) ∧ decode cX8_drawn 60 = .ok (.getfield 17, 3) ∧ decode cX8_drawn 63 = .ok (.iconst 0, 1) ∧ decode cX8_drawn 64 = .ok (.iaload, 1) := by decide +kernel
theorem dX8_drawn_51 : decode cX8_drawn 51 = .ok (.lconst 1, 1) := gg545.1
theorem dX8_drawn_52 : decode cX8_drawn 52 = .ok (.ladd, 1) := gg545.2.1
theorem dX8_drawn_53 : decode cX8_drawn 53 = .ok (.lstore 5, 2) := gg545.2.2.1
theorem dX8_drawn_55 : decode cX8_drawn 55 = .ok (.iload_n 3, 1) := gg545.2.2.2.1
theorem dX8_drawn_56 : decode cX8_drawn 56 = .ok (.aload_n 0, 1) := gg545.2.2.2.2.1
theorem dX8_drawn_57 : decode cX8_drawn 57 = .ok (.iload 4, 2) := gg545.2.2.2.2.2.1
theorem dX8_drawn_59 : decode cX8_drawn 59 = .ok (.aload_n 0, 1) := gg545.2.2.2.2.2.2.1
theorem dX8_drawn_60 : decode cX8_drawn 60 = .ok (.getfield 17, 3) := gg545.2.2.2.2.2.2.2.1
theorem dX8_drawn_63 : decode cX8_drawn 63 = .ok (.iconst 0, 1) := gg545.2.2.2.2.2.2.2.2.1
theorem dX8_drawn_64 : decode cX8_drawn 64 = .ok (.iaload, 1) := gg545.2.2.2.2.2.2.2.2.2
theorem gg546 : decode cX8_drawn 65 = .ok (.irem, 1) ∧ decode cX8_drawn 66 = .ok (.lload 5, 2) ∧ decode cX8_drawn 68 = .ok (.lload 5, 2) ∧ decode cX8_drawn 70 = .ok (.lmul, 1) ∧ decode cX8_drawn 71 = .ok (.ldc2_w 193, 3) ∧ decode cX8_drawn 74 = .ok (.lrem, 1) ∧ decode cX8_drawn 75 = .ok (.invokevirtual 140, 3) ∧ decode cX8_drawn 78 = .ok (.ifCond .eq 7, 3) ∧ decode cX8_drawn 81 = .ok (.iconst 1, 1) ∧ decode cX8_drawn 82 = .ok (.goto 4, 3) := by decide +kernel
theorem dX8_drawn_65 : decode cX8_drawn 65 = .ok (.irem, 1) := gg546.1
theorem dX8_drawn_66 : decode cX8_drawn 66 = .ok (.lload 5, 2) := gg546.2.1
theorem dX8_drawn_68 : decode cX8_drawn 68 = .ok (.lload 5, 2) := gg546.2.2.1
theorem dX8_drawn_70 : decode cX8_drawn 70 = .ok (.lmul, 1) := gg546.2.2.2.1
theorem dX8_drawn_71 : decode cX8_drawn 71 = .ok (.ldc2_w 193, 3) := gg546.2.2.2.2.1
theorem dX8_drawn_74 : decode cX8_drawn 74 = .ok (.lrem, 1) := gg546.2.2.2.2.2.1
theorem dX8_drawn_75 : decode cX8_drawn 75 = .ok (.invokevirtual 140, 3) := gg546.2.2.2.2.2.2.1
theorem dX8_drawn_78 : decode cX8_drawn 78 = .ok (.ifCond .eq 7, 3) := gg546.2.2.2.2.2.2.2.1
theorem dX8_drawn_81 : decode cX8_drawn 81 = .ok (.iconst 1, 1) := gg546.2.2.2.2.2.2.2.2.1
theorem dX8_drawn_82 : decode cX8_drawn 82 = .ok (.goto 4, 3) := gg546.2.2.2.2.2.2.2.2.2
theorem gg547 : decode cX8_drawn 85 = .ok (.iconst 0, 1) ∧ decode cX8_drawn 86 = .ok (.iadd, 1) ∧ decode cX8_drawn 87 = .ok (.istore_n 3, 1) ∧ decode cX8_drawn 88 = .ok (.iinc 4 1, 3) ∧ decode cX8_drawn 91 = .ok (.goto (-60), 3) ∧ decode cX8_drawn 94 = .ok (.iload_n 3, 1) ∧ decode cX8_drawn 95 = .ok (.ireturn, 1) := by decide +kernel
theorem dX8_drawn_85 : decode cX8_drawn 85 = .ok (.iconst 0, 1) := gg547.1
theorem dX8_drawn_86 : decode cX8_drawn 86 = .ok (.iadd, 1) := gg547.2.1
theorem dX8_drawn_87 : decode cX8_drawn 87 = .ok (.istore_n 3, 1) := gg547.2.2.1
theorem dX8_drawn_88 : decode cX8_drawn 88 = .ok (.iinc 4 1, 3) := gg547.2.2.2.1
theorem dX8_drawn_91 : decode cX8_drawn 91 = .ok (.goto (-60), 3) := gg547.2.2.2.2.1
theorem dX8_drawn_94 : decode cX8_drawn 94 = .ok (.iload_n 3, 1) := gg547.2.2.2.2.2.1
theorem dX8_drawn_95 : decode cX8_drawn 95 = .ok (.ireturn, 1) := gg547.2.2.2.2.2.2
theorem gg548 : decode cX8_copies 0 = .ok (.iconst 0, 1) ∧ decode cX8_copies 1 = .ok (.istore_n 3, 1) ∧ decode cX8_copies 2 = .ok (.iload_n 3, 1) ∧ decode cX8_copies 3 = .ok (.bipush 6, 2) ∧ decode cX8_copies 5 = .ok (.if_icmp .ge 31, 3) ∧ decode cX8_copies 8 = .ok (.aload_n 0, 1) ∧ decode cX8_copies 9 = .ok (.getfield 23, 3) ∧ decode cX8_copies 12 = .ok (.bipush 6, 2) ∧ decode cX8_copies 14 = .ok (.iload_n 2, 1) ∧ decode cX8_copies 15 = .ok (.imul, 1) := by decide +kernel
theorem dX8_copies_0 : decode cX8_copies 0 = .ok (.iconst 0, 1) := gg548.1
theorem dX8_copies_1 : decode cX8_copies 1 = .ok (.istore_n 3, 1) := gg548.2.1
theorem dX8_copies_2 : decode cX8_copies 2 = .ok (.iload_n 3, 1) := gg548.2.2.1
theorem dX8_copies_3 : decode cX8_copies 3 = .ok (.bipush 6, 2) := gg548.2.2.2.1
theorem dX8_copies_5 : decode cX8_copies 5 = .ok (.if_icmp .ge 31, 3) := gg548.2.2.2.2.1
theorem dX8_copies_8 : decode cX8_copies 8 = .ok (.aload_n 0, 1) := gg548.2.2.2.2.2.1
theorem dX8_copies_9 : decode cX8_copies 9 = .ok (.getfield 23, 3) := gg548.2.2.2.2.2.2.1
theorem dX8_copies_12 : decode cX8_copies 12 = .ok (.bipush 6, 2) := gg548.2.2.2.2.2.2.2.1
theorem dX8_copies_14 : decode cX8_copies 14 = .ok (.iload_n 2, 1) := gg548.2.2.2.2.2.2.2.2.1
theorem dX8_copies_15 : decode cX8_copies 15 = .ok (.imul, 1) := gg548.2.2.2.2.2.2.2.2.2
theorem gg549 : decode cX8_copies 16 = .ok (.iload_n 3, 1) ∧ decode cX8_copies 17 = .ok (.iadd, 1) ∧ decode cX8_copies 18 = .ok (.aload_n 0, 1) ∧ decode cX8_copies 19 = .ok (.getfield 23, 3) ∧ decode cX8_copies 22 = .ok (.bipush 6, 2) ∧ decode cX8_copies 24 = .ok (.iload_n 1, 1) ∧ decode cX8_copies 25 = .ok (.imul, 1) ∧ decode cX8_copies 26 = .ok (.iload_n 3, 1) ∧ decode cX8_copies 27 = .ok (.iadd, 1) ∧ decode cX8_copies 28 = .ok (.iaload, 1) := by decide +kernel
theorem dX8_copies_16 : decode cX8_copies 16 = .ok (.iload_n 3, 1) := gg549.1
theorem dX8_copies_17 : decode cX8_copies 17 = .ok (.iadd, 1) := gg549.2.1
theorem dX8_copies_18 : decode cX8_copies 18 = .ok (.aload_n 0, 1) := gg549.2.2.1
theorem dX8_copies_19 : decode cX8_copies 19 = .ok (.getfield 23, 3) := gg549.2.2.2.1
theorem dX8_copies_22 : decode cX8_copies 22 = .ok (.bipush 6, 2) := gg549.2.2.2.2.1
theorem dX8_copies_24 : decode cX8_copies 24 = .ok (.iload_n 1, 1) := gg549.2.2.2.2.2.1
theorem dX8_copies_25 : decode cX8_copies 25 = .ok (.imul, 1) := gg549.2.2.2.2.2.2.1
theorem dX8_copies_26 : decode cX8_copies 26 = .ok (.iload_n 3, 1) := gg549.2.2.2.2.2.2.2.1
theorem dX8_copies_27 : decode cX8_copies 27 = .ok (.iadd, 1) := gg549.2.2.2.2.2.2.2.2.1
theorem dX8_copies_28 : decode cX8_copies 28 = .ok (.iaload, 1) := gg549.2.2.2.2.2.2.2.2.2
theorem gg550 : decode cX8_copies 29 = .ok (.iastore, 1) ∧ decode cX8_copies 30 = .ok (.iinc 3 1, 3) ∧ decode cX8_copies 33 = .ok (.goto (-31), 3) ∧ decode cX8_copies 36 = .ok (.iconst 0, 1) ∧ decode cX8_copies 37 = .ok (.istore_n 3, 1) ∧ decode cX8_copies 38 = .ok (.iload_n 3, 1) ∧ decode cX8_copies 39 = .ok (.iconst 4, 1) ∧ decode cX8_copies 40 = .ok (.if_icmp .ge 29, 3) ∧ decode cX8_copies 43 = .ok (.aload_n 0, 1) ∧ decode cX8_copies 44 = .ok (.getfield 26, 3) := by decide +kernel
theorem dX8_copies_29 : decode cX8_copies 29 = .ok (.iastore, 1) := gg550.1
theorem dX8_copies_30 : decode cX8_copies 30 = .ok (.iinc 3 1, 3) := gg550.2.1
theorem dX8_copies_33 : decode cX8_copies 33 = .ok (.goto (-31), 3) := gg550.2.2.1
theorem dX8_copies_36 : decode cX8_copies 36 = .ok (.iconst 0, 1) := gg550.2.2.2.1
theorem dX8_copies_37 : decode cX8_copies 37 = .ok (.istore_n 3, 1) := gg550.2.2.2.2.1
theorem dX8_copies_38 : decode cX8_copies 38 = .ok (.iload_n 3, 1) := gg550.2.2.2.2.2.1
theorem dX8_copies_39 : decode cX8_copies 39 = .ok (.iconst 4, 1) := gg550.2.2.2.2.2.2.1
theorem dX8_copies_40 : decode cX8_copies 40 = .ok (.if_icmp .ge 29, 3) := gg550.2.2.2.2.2.2.2.1
theorem dX8_copies_43 : decode cX8_copies 43 = .ok (.aload_n 0, 1) := gg550.2.2.2.2.2.2.2.2.1
theorem dX8_copies_44 : decode cX8_copies 44 = .ok (.getfield 26, 3) := gg550.2.2.2.2.2.2.2.2.2
theorem gg551 : decode cX8_copies 47 = .ok (.iconst 4, 1) ∧ decode cX8_copies 48 = .ok (.iload_n 2, 1) ∧ decode cX8_copies 49 = .ok (.imul, 1) ∧ decode cX8_copies 50 = .ok (.iload_n 3, 1) ∧ decode cX8_copies 51 = .ok (.iadd, 1) ∧ decode cX8_copies 52 = .ok (.aload_n 0, 1) ∧ decode cX8_copies 53 = .ok (.getfield 26, 3) ∧ decode cX8_copies 56 = .ok (.iconst 4, 1) ∧ decode cX8_copies 57 = .ok (.iload_n 1, 1) ∧ decode cX8_copies 58 = .ok (.imul, 1) := by decide +kernel
theorem dX8_copies_47 : decode cX8_copies 47 = .ok (.iconst 4, 1) := gg551.1
theorem dX8_copies_48 : decode cX8_copies 48 = .ok (.iload_n 2, 1) := gg551.2.1
theorem dX8_copies_49 : decode cX8_copies 49 = .ok (.imul, 1) := gg551.2.2.1
theorem dX8_copies_50 : decode cX8_copies 50 = .ok (.iload_n 3, 1) := gg551.2.2.2.1
theorem dX8_copies_51 : decode cX8_copies 51 = .ok (.iadd, 1) := gg551.2.2.2.2.1
theorem dX8_copies_52 : decode cX8_copies 52 = .ok (.aload_n 0, 1) := gg551.2.2.2.2.2.1
theorem dX8_copies_53 : decode cX8_copies 53 = .ok (.getfield 26, 3) := gg551.2.2.2.2.2.2.1
theorem dX8_copies_56 : decode cX8_copies 56 = .ok (.iconst 4, 1) := gg551.2.2.2.2.2.2.2.1
theorem dX8_copies_57 : decode cX8_copies 57 = .ok (.iload_n 1, 1) := gg551.2.2.2.2.2.2.2.2.1
theorem dX8_copies_58 : decode cX8_copies 58 = .ok (.imul, 1) := gg551.2.2.2.2.2.2.2.2.2
theorem gg552 : decode cX8_copies 59 = .ok (.iload_n 3, 1) ∧ decode cX8_copies 60 = .ok (.iadd, 1) ∧ decode cX8_copies 61 = .ok (.laload, 1) ∧ decode cX8_copies 62 = .ok (.lastore, 1) ∧ decode cX8_copies 63 = .ok (.iinc 3 1, 3) ∧ decode cX8_copies 66 = .ok (.goto (-28), 3) ∧ decode cX8_copies 69 = .ok (.return_, 1) := by decide +kernel
theorem dX8_copies_59 : decode cX8_copies 59 = .ok (.iload_n 3, 1) := gg552.1
theorem dX8_copies_60 : decode cX8_copies 60 = .ok (.iadd, 1) := gg552.2.1
theorem dX8_copies_61 : decode cX8_copies 61 = .ok (.laload, 1) := gg552.2.2.1
theorem dX8_copies_62 : decode cX8_copies 62 = .ok (.lastore, 1) := gg552.2.2.2.1
theorem dX8_copies_63 : decode cX8_copies 63 = .ok (.iinc 3 1, 3) := gg552.2.2.2.2.1
theorem dX8_copies_66 : decode cX8_copies 66 = .ok (.goto (-28), 3) := gg552.2.2.2.2.2.1
theorem dX8_copies_69 : decode cX8_copies 69 = .ok (.return_, 1) := gg552.2.2.2.2.2.2
theorem gg553 : decode cX8_keep 0 = .ok (.aload_n 0, 1) ∧ decode cX8_keep 1 = .ok (.getfield 95, 3) ∧ decode cX8_keep 4 = .ok (.iconst 2, 1) ∧ decode cX8_keep 5 = .ok (.if_icmp .ne 6, 3) ∧ decode cX8_keep 8 = .ok (.bipush (-3), 2) ∧ decode cX8_keep 10 = .ok (.ireturn, 1) ∧ decode cX8_keep 11 = .ok (.aload_n 0, 1) ∧ decode cX8_keep 12 = .ok (.dup, 1) ∧ decode cX8_keep 13 = .ok (.getfield 95, 3) ∧ decode cX8_keep 16 = .ok (.iconst 1, 1) := by decide +kernel
theorem dX8_keep_0 : decode cX8_keep 0 = .ok (.aload_n 0, 1) := gg553.1
theorem dX8_keep_1 : decode cX8_keep 1 = .ok (.getfield 95, 3) := gg553.2.1
theorem dX8_keep_4 : decode cX8_keep 4 = .ok (.iconst 2, 1) := gg553.2.2.1
theorem dX8_keep_5 : decode cX8_keep 5 = .ok (.if_icmp .ne 6, 3) := gg553.2.2.2.1
theorem dX8_keep_8 : decode cX8_keep 8 = .ok (.bipush (-3), 2) := gg553.2.2.2.2.1
theorem dX8_keep_10 : decode cX8_keep 10 = .ok (.ireturn, 1) := gg553.2.2.2.2.2.1
theorem dX8_keep_11 : decode cX8_keep 11 = .ok (.aload_n 0, 1) := gg553.2.2.2.2.2.2.1
theorem dX8_keep_12 : decode cX8_keep 12 = .ok (.dup, 1) := gg553.2.2.2.2.2.2.2.1
theorem dX8_keep_13 : decode cX8_keep 13 = .ok (.getfield 95, 3) := gg553.2.2.2.2.2.2.2.2.1
theorem dX8_keep_16 : decode cX8_keep 16 = .ok (.iconst 1, 1) := gg553.2.2.2.2.2.2.2.2.2
theorem gg554 : decode cX8_keep 17 = .ok (.iadd, 1) ∧ decode cX8_keep 18 = .ok (.putfield 95, 3) ∧ decode cX8_keep 21 = .ok (.aload_n 0, 1) ∧ decode cX8_keep 22 = .ok (.iconst 0, 1) ∧ decode cX8_keep 23 = .ok (.aload_n 0, 1) ∧ decode cX8_keep 24 = .ok (.getfield 95, 3) ∧ decode cX8_keep 27 = .ok (.invokevirtual 195, 3) ∧ decode cX8_keep 30 = .ok (.aload_n 0, 1) ∧ decode cX8_keep 31 = .ok (.getfield 95, 3) ∧ decode cX8_keep 34 = .ok (.ireturn, 1) := by decide +kernel
theorem dX8_keep_17 : decode cX8_keep 17 = .ok (.iadd, 1) := gg554.1
theorem dX8_keep_18 : decode cX8_keep 18 = .ok (.putfield 95, 3) := gg554.2.1
theorem dX8_keep_21 : decode cX8_keep 21 = .ok (.aload_n 0, 1) := gg554.2.2.1
theorem dX8_keep_22 : decode cX8_keep 22 = .ok (.iconst 0, 1) := gg554.2.2.2.1
theorem dX8_keep_23 : decode cX8_keep 23 = .ok (.aload_n 0, 1) := gg554.2.2.2.2.1
theorem dX8_keep_24 : decode cX8_keep 24 = .ok (.getfield 95, 3) := gg554.2.2.2.2.2.1
theorem dX8_keep_27 : decode cX8_keep 27 = .ok (.invokevirtual 195, 3) := gg554.2.2.2.2.2.2.1
theorem dX8_keep_30 : decode cX8_keep 30 = .ok (.aload_n 0, 1) := gg554.2.2.2.2.2.2.2.1
theorem dX8_keep_31 : decode cX8_keep 31 = .ok (.getfield 95, 3) := gg554.2.2.2.2.2.2.2.2.1
theorem dX8_keep_34 : decode cX8_keep 34 = .ok (.ireturn, 1) := gg554.2.2.2.2.2.2.2.2.2
theorem gg555 : decode cX8_back 0 = .ok (.aload_n 0, 1) ∧ decode cX8_back 1 = .ok (.getfield 95, 3) ∧ decode cX8_back 4 = .ok (.ifCond .ne 6, 3) ∧ decode cX8_back 7 = .ok (.bipush (-2), 2) ∧ decode cX8_back 9 = .ok (.ireturn, 1) ∧ decode cX8_back 10 = .ok (.aload_n 0, 1) ∧ decode cX8_back 11 = .ok (.aload_n 0, 1) ∧ decode cX8_back 12 = .ok (.getfield 95, 3) ∧ decode cX8_back 15 = .ok (.iconst 0, 1) ∧ decode cX8_back 16 = .ok (.invokevirtual 195, 3) := by decide +kernel
theorem dX8_back_0 : decode cX8_back 0 = .ok (.aload_n 0, 1) := gg555.1
theorem dX8_back_1 : decode cX8_back 1 = .ok (.getfield 95, 3) := gg555.2.1
theorem dX8_back_4 : decode cX8_back 4 = .ok (.ifCond .ne 6, 3) := gg555.2.2.1
theorem dX8_back_7 : decode cX8_back 7 = .ok (.bipush (-2), 2) := gg555.2.2.2.1
theorem dX8_back_9 : decode cX8_back 9 = .ok (.ireturn, 1) := gg555.2.2.2.2.1
theorem dX8_back_10 : decode cX8_back 10 = .ok (.aload_n 0, 1) := gg555.2.2.2.2.2.1
theorem dX8_back_11 : decode cX8_back 11 = .ok (.aload_n 0, 1) := gg555.2.2.2.2.2.2.1
theorem dX8_back_12 : decode cX8_back 12 = .ok (.getfield 95, 3) := gg555.2.2.2.2.2.2.2.1
theorem dX8_back_15 : decode cX8_back 15 = .ok (.iconst 0, 1) := gg555.2.2.2.2.2.2.2.2.1
theorem dX8_back_16 : decode cX8_back 16 = .ok (.invokevirtual 195, 3) := gg555.2.2.2.2.2.2.2.2.2
theorem gg556 : decode cX8_back 19 = .ok (.aload_n 0, 1) ∧ decode cX8_back 20 = .ok (.dup, 1) ∧ decode cX8_back 21 = .ok (.getfield 95, 3) ∧ decode cX8_back 24 = .ok (.iconst 1, 1) ∧ decode cX8_back 25 = .ok (.isub, 1) ∧ decode cX8_back 26 = .ok (.putfield 95, 3) ∧ decode cX8_back 29 = .ok (.aload_n 0, 1) ∧ decode cX8_back 30 = .ok (.iconst 0, 1) ∧ decode cX8_back 31 = .ok (.putfield 86, 3) ∧ decode cX8_back 34 = .ok (.aload_n 0, 1) := by decide +kernel
theorem dX8_back_19 : decode cX8_back 19 = .ok (.aload_n 0, 1) := gg556.1
theorem dX8_back_20 : decode cX8_back 20 = .ok (.dup, 1) := gg556.2.1
theorem dX8_back_21 : decode cX8_back 21 = .ok (.getfield 95, 3) := gg556.2.2.1
theorem dX8_back_24 : decode cX8_back 24 = .ok (.iconst 1, 1) := gg556.2.2.2.1
theorem dX8_back_25 : decode cX8_back 25 = .ok (.isub, 1) := gg556.2.2.2.2.1
theorem dX8_back_26 : decode cX8_back 26 = .ok (.putfield 95, 3) := gg556.2.2.2.2.2.1
theorem dX8_back_29 : decode cX8_back 29 = .ok (.aload_n 0, 1) := gg556.2.2.2.2.2.2.1
theorem dX8_back_30 : decode cX8_back 30 = .ok (.iconst 0, 1) := gg556.2.2.2.2.2.2.2.1
theorem dX8_back_31 : decode cX8_back 31 = .ok (.putfield 86, 3) := gg556.2.2.2.2.2.2.2.2.1
theorem dX8_back_34 : decode cX8_back 34 = .ok (.aload_n 0, 1) := gg556.2.2.2.2.2.2.2.2.2
theorem gg557 : decode cX8_back 35 = .ok (.getfield 95, 3) ∧ decode cX8_back 38 = .ok (.ireturn, 1) := by decide +kernel
theorem dX8_back_35 : decode cX8_back 35 = .ok (.getfield 95, 3) := gg557.1
theorem dX8_back_38 : decode cX8_back 38 = .ok (.ireturn, 1) := gg557.2
theorem gg558 : decode cX8_count 0 = .ok (.iload_n 1, 1) ∧ decode cX8_count 1 = .ok (.tableswitch 113 0 8 #[51, 58, 63, 71, 76, 81, 86, 97, 108], 51) ∧ decode cX8_count 52 = .ok (.aload_n 0, 1) ∧ decode cX8_count 53 = .ok (.getfield 17, 3) ∧ decode cX8_count 56 = .ok (.iconst 0, 1) ∧ decode cX8_count 57 = .ok (.iaload, 1) ∧ decode cX8_count 58 = .ok (.ireturn, 1) ∧ decode cX8_count 59 = .ok (.aload_n 0, 1) ∧ decode cX8_count 60 = .ok (.getfield 57, 3) ∧ decode cX8_count 63 = .ok (.ireturn, 1) := by decide +kernel
theorem dX8_count_0 : decode cX8_count 0 = .ok (.iload_n 1, 1) := gg558.1
theorem dX8_count_1 : decode cX8_count 1 = .ok (.tableswitch 113 0 8 #[51, 58, 63, 71, 76, 81, 86, 97, 108], 51) := gg558.2.1
theorem dX8_count_52 : decode cX8_count 52 = .ok (.aload_n 0, 1) := gg558.2.2.1
theorem dX8_count_53 : decode cX8_count 53 = .ok (.getfield 17, 3) := gg558.2.2.2.1
theorem dX8_count_56 : decode cX8_count 56 = .ok (.iconst 0, 1) := gg558.2.2.2.2.1
theorem dX8_count_57 : decode cX8_count 57 = .ok (.iaload, 1) := gg558.2.2.2.2.2.1
theorem dX8_count_58 : decode cX8_count 58 = .ok (.ireturn, 1) := gg558.2.2.2.2.2.2.1
theorem dX8_count_59 : decode cX8_count 59 = .ok (.aload_n 0, 1) := gg558.2.2.2.2.2.2.2.1
theorem dX8_count_60 : decode cX8_count 60 = .ok (.getfield 57, 3) := gg558.2.2.2.2.2.2.2.2.1
theorem dX8_count_63 : decode cX8_count 63 = .ok (.ireturn, 1) := gg558.2.2.2.2.2.2.2.2.2
theorem gg559 : decode cX8_count 64 = .ok (.aload_n 0, 1) ∧ decode cX8_count 65 = .ok (.getfield 26, 3) ∧ decode cX8_count 68 = .ok (.iconst 1, 1) ∧ decode cX8_count 69 = .ok (.laload, 1) ∧ decode cX8_count 70 = .ok (.l2i, 1) ∧ decode cX8_count 71 = .ok (.ireturn, 1) ∧ decode cX8_count 72 = .ok (.aload_n 0, 1) ∧ decode cX8_count 73 = .ok (.getfield 89, 3) ∧ decode cX8_count 76 = .ok (.ireturn, 1) ∧ decode cX8_count 77 = .ok (.aload_n 0, 1) := by decide +kernel
theorem dX8_count_64 : decode cX8_count 64 = .ok (.aload_n 0, 1) := gg559.1
theorem dX8_count_65 : decode cX8_count 65 = .ok (.getfield 26, 3) := gg559.2.1
theorem dX8_count_68 : decode cX8_count 68 = .ok (.iconst 1, 1) := gg559.2.2.1
theorem dX8_count_69 : decode cX8_count 69 = .ok (.laload, 1) := gg559.2.2.2.1
theorem dX8_count_70 : decode cX8_count 70 = .ok (.l2i, 1) := gg559.2.2.2.2.1
theorem dX8_count_71 : decode cX8_count 71 = .ok (.ireturn, 1) := gg559.2.2.2.2.2.1
theorem dX8_count_72 : decode cX8_count 72 = .ok (.aload_n 0, 1) := gg559.2.2.2.2.2.2.1
theorem dX8_count_73 : decode cX8_count 73 = .ok (.getfield 89, 3) := gg559.2.2.2.2.2.2.2.1
theorem dX8_count_76 : decode cX8_count 76 = .ok (.ireturn, 1) := gg559.2.2.2.2.2.2.2.2.1
theorem dX8_count_77 : decode cX8_count 77 = .ok (.aload_n 0, 1) := gg559.2.2.2.2.2.2.2.2.2
theorem gg560 : decode cX8_count 78 = .ok (.getfield 92, 3) ∧ decode cX8_count 81 = .ok (.ireturn, 1) ∧ decode cX8_count 82 = .ok (.aload_n 0, 1) ∧ decode cX8_count 83 = .ok (.getfield 86, 3) ∧ decode cX8_count 86 = .ok (.ireturn, 1) ∧ decode cX8_count 87 = .ok (.aload_n 0, 1) ∧ decode cX8_count 88 = .ok (.getfield 26, 3) ∧ decode cX8_count 91 = .ok (.iconst 2, 1) ∧ decode cX8_count 92 = .ok (.laload, 1) ∧ decode cX8_count 93 = .ok (.l2i, 1) := by decide +kernel
theorem dX8_count_78 : decode cX8_count 78 = .ok (.getfield 92, 3) := gg560.1
theorem dX8_count_81 : decode cX8_count 81 = .ok (.ireturn, 1) := gg560.2.1
theorem dX8_count_82 : decode cX8_count 82 = .ok (.aload_n 0, 1) := gg560.2.2.1
theorem dX8_count_83 : decode cX8_count 83 = .ok (.getfield 86, 3) := gg560.2.2.2.1
theorem dX8_count_86 : decode cX8_count 86 = .ok (.ireturn, 1) := gg560.2.2.2.2.1
theorem dX8_count_87 : decode cX8_count 87 = .ok (.aload_n 0, 1) := gg560.2.2.2.2.2.1
theorem dX8_count_88 : decode cX8_count 88 = .ok (.getfield 26, 3) := gg560.2.2.2.2.2.2.1
theorem dX8_count_91 : decode cX8_count 91 = .ok (.iconst 2, 1) := gg560.2.2.2.2.2.2.2.1
theorem dX8_count_92 : decode cX8_count 92 = .ok (.laload, 1) := gg560.2.2.2.2.2.2.2.2.1
theorem dX8_count_93 : decode cX8_count 93 = .ok (.l2i, 1) := gg560.2.2.2.2.2.2.2.2.2
theorem gg561 : decode cX8_count 94 = .ok (.ldc 199, 2) ∧ decode cX8_count 96 = .ok (.iadd, 1) ∧ decode cX8_count 97 = .ok (.ireturn, 1) ∧ decode cX8_count 98 = .ok (.aload_n 0, 1) ∧ decode cX8_count 99 = .ok (.getfield 26, 3) ∧ decode cX8_count 102 = .ok (.iconst 3, 1) ∧ decode cX8_count 103 = .ok (.laload, 1) ∧ decode cX8_count 104 = .ok (.l2i, 1) ∧ decode cX8_count 105 = .ok (.ldc 199, 2) ∧ decode cX8_count 107 = .ok (.iadd, 1) := by decide +kernel
theorem dX8_count_94 : decode cX8_count 94 = .ok (.ldc 199, 2) := gg561.1
theorem dX8_count_96 : decode cX8_count 96 = .ok (.iadd, 1) := gg561.2.1
theorem dX8_count_97 : decode cX8_count 97 = .ok (.ireturn, 1) := gg561.2.2.1
theorem dX8_count_98 : decode cX8_count 98 = .ok (.aload_n 0, 1) := gg561.2.2.2.1
theorem dX8_count_99 : decode cX8_count 99 = .ok (.getfield 26, 3) := gg561.2.2.2.2.1
theorem dX8_count_102 : decode cX8_count 102 = .ok (.iconst 3, 1) := gg561.2.2.2.2.2.1
theorem dX8_count_103 : decode cX8_count 103 = .ok (.laload, 1) := gg561.2.2.2.2.2.2.1
theorem dX8_count_104 : decode cX8_count 104 = .ok (.l2i, 1) := gg561.2.2.2.2.2.2.2.1
theorem dX8_count_105 : decode cX8_count 105 = .ok (.ldc 199, 2) := gg561.2.2.2.2.2.2.2.2.1
theorem dX8_count_107 : decode cX8_count 107 = .ok (.iadd, 1) := gg561.2.2.2.2.2.2.2.2.2
theorem gg562 : decode cX8_count 108 = .ok (.ireturn, 1) ∧ decode cX8_count 109 = .ok (.aload_n 0, 1) ∧ decode cX8_count 110 = .ok (.getfield 95, 3) ∧ decode cX8_count 113 = .ok (.ireturn, 1) ∧ decode cX8_count 114 = .ok (.iconst (-1), 1) ∧ decode cX8_count 115 = .ok (.ireturn, 1) := by decide +kernel
theorem dX8_count_108 : decode cX8_count 108 = .ok (.ireturn, 1) := gg562.1
theorem dX8_count_109 : decode cX8_count 109 = .ok (.aload_n 0, 1) := gg562.2.1
theorem dX8_count_110 : decode cX8_count 110 = .ok (.getfield 95, 3) := gg562.2.2.1
theorem dX8_count_113 : decode cX8_count 113 = .ok (.ireturn, 1) := gg562.2.2.2.1
theorem dX8_count_114 : decode cX8_count 114 = .ok (.iconst (-1), 1) := gg562.2.2.2.2.1
theorem dX8_count_115 : decode cX8_count 115 = .ok (.ireturn, 1) := gg562.2.2.2.2.2
theorem gg563 : decode cJ9_floorMod_f86c9 0 = .ok (.lload_n 0, 1) ∧ decode cJ9_floorMod_f86c9 1 = .ok (.lload_n 2, 1) ∧ decode cJ9_floorMod_f86c9 2 = .ok (.lrem, 1) ∧ decode cJ9_floorMod_f86c9 3 = .ok (.lstore 4, 2) ∧ decode cJ9_floorMod_f86c9 5 = .ok (.lload_n 0, 1) ∧ decode cJ9_floorMod_f86c9 6 = .ok (.lload_n 2, 1) ∧ decode cJ9_floorMod_f86c9 7 = .ok (.lxor, 1) ∧ decode cJ9_floorMod_f86c9 8 = .ok (.lconst 0, 1) ∧ decode cJ9_floorMod_f86c9 9 = .ok (.lcmp, 1) ∧ decode cJ9_floorMod_f86c9 10 = .ok (.ifCond .ge 15, 3) := by decide +kernel
theorem dJ9_floorMod_f86c9_0 : decode cJ9_floorMod_f86c9 0 = .ok (.lload_n 0, 1) := gg563.1
theorem dJ9_floorMod_f86c9_1 : decode cJ9_floorMod_f86c9 1 = .ok (.lload_n 2, 1) := gg563.2.1
theorem dJ9_floorMod_f86c9_2 : decode cJ9_floorMod_f86c9 2 = .ok (.lrem, 1) := gg563.2.2.1
theorem dJ9_floorMod_f86c9_3 : decode cJ9_floorMod_f86c9 3 = .ok (.lstore 4, 2) := gg563.2.2.2.1
theorem dJ9_floorMod_f86c9_5 : decode cJ9_floorMod_f86c9 5 = .ok (.lload_n 0, 1) := gg563.2.2.2.2.1
theorem dJ9_floorMod_f86c9_6 : decode cJ9_floorMod_f86c9 6 = .ok (.lload_n 2, 1) := gg563.2.2.2.2.2.1
theorem dJ9_floorMod_f86c9_7 : decode cJ9_floorMod_f86c9 7 = .ok (.lxor, 1) := gg563.2.2.2.2.2.2.1
theorem dJ9_floorMod_f86c9_8 : decode cJ9_floorMod_f86c9 8 = .ok (.lconst 0, 1) := gg563.2.2.2.2.2.2.2.1
theorem dJ9_floorMod_f86c9_9 : decode cJ9_floorMod_f86c9 9 = .ok (.lcmp, 1) := gg563.2.2.2.2.2.2.2.2.1
theorem dJ9_floorMod_f86c9_10 : decode cJ9_floorMod_f86c9 10 = .ok (.ifCond .ge 15, 3) := gg563.2.2.2.2.2.2.2.2.2
theorem gg564 : decode cJ9_floorMod_f86c9 13 = .ok (.lload 4, 2) ∧ decode cJ9_floorMod_f86c9 15 = .ok (.lconst 0, 1) ∧ decode cJ9_floorMod_f86c9 16 = .ok (.lcmp, 1) ∧ decode cJ9_floorMod_f86c9 17 = .ok (.ifCond .eq 8, 3) ∧ decode cJ9_floorMod_f86c9 20 = .ok (.lload 4, 2) ∧ decode cJ9_floorMod_f86c9 22 = .ok (.lload_n 2, 1) ∧ decode cJ9_floorMod_f86c9 23 = .ok (.ladd, 1) ∧ decode cJ9_floorMod_f86c9 24 = .ok (.lreturn, 1) ∧ decode cJ9_floorMod_f86c9 25 = .ok (.lload 4, 2) ∧ decode cJ9_floorMod_f86c9 27 = .ok (.lreturn, 1) := by decide +kernel
theorem dJ9_floorMod_f86c9_13 : decode cJ9_floorMod_f86c9 13 = .ok (.lload 4, 2) := gg564.1
theorem dJ9_floorMod_f86c9_15 : decode cJ9_floorMod_f86c9 15 = .ok (.lconst 0, 1) := gg564.2.1
theorem dJ9_floorMod_f86c9_16 : decode cJ9_floorMod_f86c9 16 = .ok (.lcmp, 1) := gg564.2.2.1
theorem dJ9_floorMod_f86c9_17 : decode cJ9_floorMod_f86c9 17 = .ok (.ifCond .eq 8, 3) := gg564.2.2.2.1
theorem dJ9_floorMod_f86c9_20 : decode cJ9_floorMod_f86c9 20 = .ok (.lload 4, 2) := gg564.2.2.2.2.1
theorem dJ9_floorMod_f86c9_22 : decode cJ9_floorMod_f86c9 22 = .ok (.lload_n 2, 1) := gg564.2.2.2.2.2.1
theorem dJ9_floorMod_f86c9_23 : decode cJ9_floorMod_f86c9 23 = .ok (.ladd, 1) := gg564.2.2.2.2.2.2.1
theorem dJ9_floorMod_f86c9_24 : decode cJ9_floorMod_f86c9 24 = .ok (.lreturn, 1) := gg564.2.2.2.2.2.2.2.1
theorem dJ9_floorMod_f86c9_25 : decode cJ9_floorMod_f86c9 25 = .ok (.lload 4, 2) := gg564.2.2.2.2.2.2.2.2.1
theorem dJ9_floorMod_f86c9_27 : decode cJ9_floorMod_f86c9 27 = .ok (.lreturn, 1) := gg564.2.2.2.2.2.2.2.2.2
theorem gg565 : decode cJ9_max_7cf53 0 = .ok (.iload_n 0, 1) ∧ decode cJ9_max_7cf53 1 = .ok (.iload_n 1, 1) ∧ decode cJ9_max_7cf53 2 = .ok (.if_icmp .lt 7, 3) ∧ decode cJ9_max_7cf53 5 = .ok (.iload_n 0, 1) ∧ decode cJ9_max_7cf53 6 = .ok (.goto 4, 3) ∧ decode cJ9_max_7cf53 9 = .ok (.iload_n 1, 1) ∧ decode cJ9_max_7cf53 10 = .ok (.ireturn, 1) := by decide +kernel
theorem dJ9_max_7cf53_0 : decode cJ9_max_7cf53 0 = .ok (.iload_n 0, 1) := gg565.1
theorem dJ9_max_7cf53_1 : decode cJ9_max_7cf53 1 = .ok (.iload_n 1, 1) := gg565.2.1
theorem dJ9_max_7cf53_2 : decode cJ9_max_7cf53 2 = .ok (.if_icmp .lt 7, 3) := gg565.2.2.1
theorem dJ9_max_7cf53_5 : decode cJ9_max_7cf53 5 = .ok (.iload_n 0, 1) := gg565.2.2.2.1
theorem dJ9_max_7cf53_6 : decode cJ9_max_7cf53 6 = .ok (.goto 4, 3) := gg565.2.2.2.2.1
theorem dJ9_max_7cf53_9 : decode cJ9_max_7cf53 9 = .ok (.iload_n 1, 1) := gg565.2.2.2.2.2.1
theorem dJ9_max_7cf53_10 : decode cJ9_max_7cf53 10 = .ok (.ireturn, 1) := gg565.2.2.2.2.2.2
theorem gg566 : decode cJ9_max_f86c9 0 = .ok (.lload_n 0, 1) ∧ decode cJ9_max_f86c9 1 = .ok (.lload_n 2, 1) ∧ decode cJ9_max_f86c9 2 = .ok (.lcmp, 1) ∧ decode cJ9_max_f86c9 3 = .ok (.ifCond .lt 7, 3) ∧ decode cJ9_max_f86c9 6 = .ok (.lload_n 0, 1) ∧ decode cJ9_max_f86c9 7 = .ok (.goto 4, 3) ∧ decode cJ9_max_f86c9 10 = .ok (.lload_n 2, 1) ∧ decode cJ9_max_f86c9 11 = .ok (.lreturn, 1) := by decide +kernel
theorem dJ9_max_f86c9_0 : decode cJ9_max_f86c9 0 = .ok (.lload_n 0, 1) := gg566.1
theorem dJ9_max_f86c9_1 : decode cJ9_max_f86c9 1 = .ok (.lload_n 2, 1) := gg566.2.1
theorem dJ9_max_f86c9_2 : decode cJ9_max_f86c9 2 = .ok (.lcmp, 1) := gg566.2.2.1
theorem dJ9_max_f86c9_3 : decode cJ9_max_f86c9 3 = .ok (.ifCond .lt 7, 3) := gg566.2.2.2.1
theorem dJ9_max_f86c9_6 : decode cJ9_max_f86c9 6 = .ok (.lload_n 0, 1) := gg566.2.2.2.2.1
theorem dJ9_max_f86c9_7 : decode cJ9_max_f86c9 7 = .ok (.goto 4, 3) := gg566.2.2.2.2.2.1
theorem dJ9_max_f86c9_10 : decode cJ9_max_f86c9 10 = .ok (.lload_n 2, 1) := gg566.2.2.2.2.2.2.1
theorem dJ9_max_f86c9_11 : decode cJ9_max_f86c9 11 = .ok (.lreturn, 1) := gg566.2.2.2.2.2.2.2
theorem gg567 : decode cJ9_min_7cf53 0 = .ok (.iload_n 0, 1) ∧ decode cJ9_min_7cf53 1 = .ok (.iload_n 1, 1) ∧ decode cJ9_min_7cf53 2 = .ok (.if_icmp .gt 7, 3) ∧ decode cJ9_min_7cf53 5 = .ok (.iload_n 0, 1) ∧ decode cJ9_min_7cf53 6 = .ok (.goto 4, 3) ∧ decode cJ9_min_7cf53 9 = .ok (.iload_n 1, 1) ∧ decode cJ9_min_7cf53 10 = .ok (.ireturn, 1) := by decide +kernel
theorem dJ9_min_7cf53_0 : decode cJ9_min_7cf53 0 = .ok (.iload_n 0, 1) := gg567.1
theorem dJ9_min_7cf53_1 : decode cJ9_min_7cf53 1 = .ok (.iload_n 1, 1) := gg567.2.1
theorem dJ9_min_7cf53_2 : decode cJ9_min_7cf53 2 = .ok (.if_icmp .gt 7, 3) := gg567.2.2.1
theorem dJ9_min_7cf53_5 : decode cJ9_min_7cf53 5 = .ok (.iload_n 0, 1) := gg567.2.2.2.1
theorem dJ9_min_7cf53_6 : decode cJ9_min_7cf53 6 = .ok (.goto 4, 3) := gg567.2.2.2.2.1
theorem dJ9_min_7cf53_9 : decode cJ9_min_7cf53 9 = .ok (.iload_n 1, 1) := gg567.2.2.2.2.2.1
theorem dJ9_min_7cf53_10 : decode cJ9_min_7cf53 10 = .ok (.ireturn, 1) := gg567.2.2.2.2.2.2
theorem gg568 : decode cL_law 0 = .ok (.new 7, 3) ∧ decode cL_law 3 = .ok (.dup, 1) ∧ decode cL_law 4 = .ok (.invokespecial 9, 3) ∧ decode cL_law 7 = .ok (.astore_n 1, 1) ∧ decode cL_law 8 = .ok (.new 10, 3) ∧ decode cL_law 11 = .ok (.dup, 1) ∧ decode cL_law 12 = .ok (.invokespecial 12, 3) ∧ decode cL_law 15 = .ok (.astore_n 2, 1) ∧ decode cL_law 16 = .ok (.iconst 0, 1) ∧ decode cL_law 17 = .ok (.istore_n 3, 1) := by decide +kernel
theorem dL_law_0 : decode cL_law 0 = .ok (.new 7, 3) := gg568.1
theorem dL_law_3 : decode cL_law 3 = .ok (.dup, 1) := gg568.2.1
theorem dL_law_4 : decode cL_law 4 = .ok (.invokespecial 9, 3) := gg568.2.2.1
theorem dL_law_7 : decode cL_law 7 = .ok (.astore_n 1, 1) := gg568.2.2.2.1
theorem dL_law_8 : decode cL_law 8 = .ok (.new 10, 3) := gg568.2.2.2.2.1
theorem dL_law_11 : decode cL_law 11 = .ok (.dup, 1) := gg568.2.2.2.2.2.1
theorem dL_law_12 : decode cL_law 12 = .ok (.invokespecial 12, 3) := gg568.2.2.2.2.2.2.1
theorem dL_law_15 : decode cL_law 15 = .ok (.astore_n 2, 1) := gg568.2.2.2.2.2.2.2.1
theorem dL_law_16 : decode cL_law 16 = .ok (.iconst 0, 1) := gg568.2.2.2.2.2.2.2.2.1
theorem dL_law_17 : decode cL_law 17 = .ok (.istore_n 3, 1) := gg568.2.2.2.2.2.2.2.2.2
theorem gg569 : decode cL_law 18 = .ok (.iload_n 3, 1) ∧ decode cL_law 19 = .ok (.aload_n 0, 1) ∧ decode cL_law 20 = .ok (.arraylength, 1) ∧ decode cL_law 21 = .ok (.bipush 6, 2) ∧ decode cL_law 23 = .ok (.isub, 1) ∧ decode cL_law 24 = .ok (.if_icmp .gt 1240, 3) ∧ decode cL_law 27 = .ok (.aload_n 0, 1) ∧ decode cL_law 28 = .ok (.iload_n 3, 1) ∧ decode cL_law 29 = .ok (.iaload, 1) ∧ decode cL_law 30 = .ok (.bipush 31, 2) := by decide +kernel
theorem dL_law_18 : decode cL_law 18 = .ok (.iload_n 3, 1) := gg569.1
theorem dL_law_19 : decode cL_law 19 = .ok (.aload_n 0, 1) := gg569.2.1
theorem dL_law_20 : decode cL_law 20 = .ok (.arraylength, 1) := gg569.2.2.1
theorem dL_law_21 : decode cL_law 21 = .ok (.bipush 6, 2) := gg569.2.2.2.1
theorem dL_law_23 : decode cL_law 23 = .ok (.isub, 1) := gg569.2.2.2.2.1
theorem dL_law_24 : decode cL_law 24 = .ok (.if_icmp .gt 1240, 3) := gg569.2.2.2.2.2.1
theorem dL_law_27 : decode cL_law 27 = .ok (.aload_n 0, 1) := gg569.2.2.2.2.2.2.1
theorem dL_law_28 : decode cL_law 28 = .ok (.iload_n 3, 1) := gg569.2.2.2.2.2.2.2.1
theorem dL_law_29 : decode cL_law 29 = .ok (.iaload, 1) := gg569.2.2.2.2.2.2.2.2.1
theorem dL_law_30 : decode cL_law 30 = .ok (.bipush 31, 2) := gg569.2.2.2.2.2.2.2.2.2
theorem gg570 : decode cL_law 32 = .ok (.iand, 1) ∧ decode cL_law 33 = .ok (.tableswitch 1225 0 31 #[143, 206, 219, 232, 245, 278, 301, 354, 427, 490, 553, 576, 589, 652, 675, 698, 757, 770, 793, 836, 859, 882, 905, 978, 1011, 1024, 1037, 1060, 1143, 1176, 1189, 1202], 143) ∧ decode cL_law 176 = .ok (.aload_n 1, 1) ∧ decode cL_law 177 = .ok (.aload_n 0, 1) ∧ decode cL_law 178 = .ok (.iload_n 3, 1) ∧ decode cL_law 179 = .ok (.iconst 1, 1) ∧ decode cL_law 180 = .ok (.iadd, 1) ∧ decode cL_law 181 = .ok (.iaload, 1) ∧ decode cL_law 182 = .ok (.aload_n 0, 1) ∧ decode cL_law 183 = .ok (.iload_n 3, 1) := by decide +kernel
theorem dL_law_32 : decode cL_law 32 = .ok (.iand, 1) := gg570.1
theorem dL_law_33 : decode cL_law 33 = .ok (.tableswitch 1225 0 31 #[143, 206, 219, 232, 245, 278, 301, 354, 427, 490, 553, 576, 589, 652, 675, 698, 757, 770, 793, 836, 859, 882, 905, 978, 1011, 1024, 1037, 1060, 1143, 1176, 1189, 1202], 143) := gg570.2.1
theorem dL_law_176 : decode cL_law 176 = .ok (.aload_n 1, 1) := gg570.2.2.1
theorem dL_law_177 : decode cL_law 177 = .ok (.aload_n 0, 1) := gg570.2.2.2.1
theorem dL_law_178 : decode cL_law 178 = .ok (.iload_n 3, 1) := gg570.2.2.2.2.1
theorem dL_law_179 : decode cL_law 179 = .ok (.iconst 1, 1) := gg570.2.2.2.2.2.1
theorem dL_law_180 : decode cL_law 180 = .ok (.iadd, 1) := gg570.2.2.2.2.2.2.1
theorem dL_law_181 : decode cL_law 181 = .ok (.iaload, 1) := gg570.2.2.2.2.2.2.2.1
theorem dL_law_182 : decode cL_law 182 = .ok (.aload_n 0, 1) := gg570.2.2.2.2.2.2.2.2.1
theorem dL_law_183 : decode cL_law 183 = .ok (.iload_n 3, 1) := gg570.2.2.2.2.2.2.2.2.2
theorem gg571 : decode cL_law 184 = .ok (.iconst 2, 1) ∧ decode cL_law 185 = .ok (.iadd, 1) ∧ decode cL_law 186 = .ok (.iaload, 1) ∧ decode cL_law 187 = .ok (.i2l, 1) ∧ decode cL_law 188 = .ok (.bipush 32, 2) ∧ decode cL_law 190 = .ok (.lshl, 1) ∧ decode cL_law 191 = .ok (.aload_n 0, 1) ∧ decode cL_law 192 = .ok (.iload_n 3, 1) ∧ decode cL_law 193 = .ok (.iconst 3, 1) ∧ decode cL_law 194 = .ok (.iadd, 1) := by decide +kernel
theorem dL_law_184 : decode cL_law 184 = .ok (.iconst 2, 1) := gg571.1
theorem dL_law_185 : decode cL_law 185 = .ok (.iadd, 1) := gg571.2.1
theorem dL_law_186 : decode cL_law 186 = .ok (.iaload, 1) := gg571.2.2.1
theorem dL_law_187 : decode cL_law 187 = .ok (.i2l, 1) := gg571.2.2.2.1
theorem dL_law_188 : decode cL_law 188 = .ok (.bipush 32, 2) := gg571.2.2.2.2.1
theorem dL_law_190 : decode cL_law 190 = .ok (.lshl, 1) := gg571.2.2.2.2.2.1
theorem dL_law_191 : decode cL_law 191 = .ok (.aload_n 0, 1) := gg571.2.2.2.2.2.2.1
theorem dL_law_192 : decode cL_law 192 = .ok (.iload_n 3, 1) := gg571.2.2.2.2.2.2.2.1
theorem dL_law_193 : decode cL_law 193 = .ok (.iconst 3, 1) := gg571.2.2.2.2.2.2.2.2.1
theorem dL_law_194 : decode cL_law 194 = .ok (.iadd, 1) := gg571.2.2.2.2.2.2.2.2.2
theorem gg572 : decode cL_law 195 = .ok (.iaload, 1) ∧ decode cL_law 196 = .ok (.i2l, 1) ∧ decode cL_law 197 = .ok (.ldc2_w 13, 3) ∧ decode cL_law 200 = .ok (.land, 1) ∧ decode cL_law 201 = .ok (.lor, 1) ∧ decode cL_law 202 = .ok (.invokevirtual 15, 3) ∧ decode cL_law 205 = .ok (.pop, 1) ∧ decode cL_law 206 = .ok (.aload_n 2, 1) ∧ decode cL_law 207 = .ok (.aload_n 0, 1) ∧ decode cL_law 208 = .ok (.iload_n 3, 1) := by decide +kernel
theorem dL_law_195 : decode cL_law 195 = .ok (.iaload, 1) := gg572.1
theorem dL_law_196 : decode cL_law 196 = .ok (.i2l, 1) := gg572.2.1
theorem dL_law_197 : decode cL_law 197 = .ok (.ldc2_w 13, 3) := gg572.2.2.1
theorem dL_law_200 : decode cL_law 200 = .ok (.land, 1) := gg572.2.2.2.1
theorem dL_law_201 : decode cL_law 201 = .ok (.lor, 1) := gg572.2.2.2.2.1
theorem dL_law_202 : decode cL_law 202 = .ok (.invokevirtual 15, 3) := gg572.2.2.2.2.2.1
theorem dL_law_205 : decode cL_law 205 = .ok (.pop, 1) := gg572.2.2.2.2.2.2.1
theorem dL_law_206 : decode cL_law 206 = .ok (.aload_n 2, 1) := gg572.2.2.2.2.2.2.2.1
theorem dL_law_207 : decode cL_law 207 = .ok (.aload_n 0, 1) := gg572.2.2.2.2.2.2.2.2.1
theorem dL_law_208 : decode cL_law 208 = .ok (.iload_n 3, 1) := gg572.2.2.2.2.2.2.2.2.2
theorem gg573 : decode cL_law 209 = .ok (.iconst 1, 1) ∧ decode cL_law 210 = .ok (.iadd, 1) ∧ decode cL_law 211 = .ok (.iaload, 1) ∧ decode cL_law 212 = .ok (.aload_n 0, 1) ∧ decode cL_law 213 = .ok (.iload_n 3, 1) ∧ decode cL_law 214 = .ok (.iconst 2, 1) ∧ decode cL_law 215 = .ok (.iadd, 1) ∧ decode cL_law 216 = .ok (.iaload, 1) ∧ decode cL_law 217 = .ok (.i2l, 1) ∧ decode cL_law 218 = .ok (.bipush 32, 2) := by decide +kernel
theorem dL_law_209 : decode cL_law 209 = .ok (.iconst 1, 1) := gg573.1
theorem dL_law_210 : decode cL_law 210 = .ok (.iadd, 1) := gg573.2.1
theorem dL_law_211 : decode cL_law 211 = .ok (.iaload, 1) := gg573.2.2.1
theorem dL_law_212 : decode cL_law 212 = .ok (.aload_n 0, 1) := gg573.2.2.2.1
theorem dL_law_213 : decode cL_law 213 = .ok (.iload_n 3, 1) := gg573.2.2.2.2.1
theorem dL_law_214 : decode cL_law 214 = .ok (.iconst 2, 1) := gg573.2.2.2.2.2.1
theorem dL_law_215 : decode cL_law 215 = .ok (.iadd, 1) := gg573.2.2.2.2.2.2.1
theorem dL_law_216 : decode cL_law 216 = .ok (.iaload, 1) := gg573.2.2.2.2.2.2.2.1
theorem dL_law_217 : decode cL_law 217 = .ok (.i2l, 1) := gg573.2.2.2.2.2.2.2.2.1
theorem dL_law_218 : decode cL_law 218 = .ok (.bipush 32, 2) := gg573.2.2.2.2.2.2.2.2.2
theorem gg574 : decode cL_law 220 = .ok (.lshl, 1) ∧ decode cL_law 221 = .ok (.aload_n 0, 1) ∧ decode cL_law 222 = .ok (.iload_n 3, 1) ∧ decode cL_law 223 = .ok (.iconst 3, 1) ∧ decode cL_law 224 = .ok (.iadd, 1) ∧ decode cL_law 225 = .ok (.iaload, 1) ∧ decode cL_law 226 = .ok (.i2l, 1) ∧ decode cL_law 227 = .ok (.ldc2_w 13, 3) ∧ decode cL_law 230 = .ok (.land, 1) ∧ decode cL_law 231 = .ok (.lor, 1) := by decide +kernel
theorem dL_law_220 : decode cL_law 220 = .ok (.lshl, 1) := gg574.1
theorem dL_law_221 : decode cL_law 221 = .ok (.aload_n 0, 1) := gg574.2.1
theorem dL_law_222 : decode cL_law 222 = .ok (.iload_n 3, 1) := gg574.2.2.1
theorem dL_law_223 : decode cL_law 223 = .ok (.iconst 3, 1) := gg574.2.2.2.1
theorem dL_law_224 : decode cL_law 224 = .ok (.iadd, 1) := gg574.2.2.2.2.1
theorem dL_law_225 : decode cL_law 225 = .ok (.iaload, 1) := gg574.2.2.2.2.2.1
theorem dL_law_226 : decode cL_law 226 = .ok (.i2l, 1) := gg574.2.2.2.2.2.2.1
theorem dL_law_227 : decode cL_law 227 = .ok (.ldc2_w 13, 3) := gg574.2.2.2.2.2.2.2.1
theorem dL_law_230 : decode cL_law 230 = .ok (.land, 1) := gg574.2.2.2.2.2.2.2.2.1
theorem dL_law_231 : decode cL_law 231 = .ok (.lor, 1) := gg574.2.2.2.2.2.2.2.2.2
theorem gg575 : decode cL_law 232 = .ok (.invokevirtual 19, 3) ∧ decode cL_law 235 = .ok (.pop, 1) ∧ decode cL_law 236 = .ok (.goto 1022, 3) ∧ decode cL_law 239 = .ok (.aload_n 1, 1) ∧ decode cL_law 240 = .ok (.invokevirtual 20, 3) ∧ decode cL_law 243 = .ok (.pop, 1) ∧ decode cL_law 244 = .ok (.aload_n 2, 1) ∧ decode cL_law 245 = .ok (.invokevirtual 24, 3) ∧ decode cL_law 248 = .ok (.pop, 1) ∧ decode cL_law 249 = .ok (.goto 1009, 3) := by decide +kernel
theorem dL_law_232 : decode cL_law 232 = .ok (.invokevirtual 19, 3) := gg575.1
theorem dL_law_235 : decode cL_law 235 = .ok (.pop, 1) := gg575.2.1
theorem dL_law_236 : decode cL_law 236 = .ok (.goto 1022, 3) := gg575.2.2.1
theorem dL_law_239 : decode cL_law 239 = .ok (.aload_n 1, 1) := gg575.2.2.2.1
theorem dL_law_240 : decode cL_law 240 = .ok (.invokevirtual 20, 3) := gg575.2.2.2.2.1
theorem dL_law_243 : decode cL_law 243 = .ok (.pop, 1) := gg575.2.2.2.2.2.1
theorem dL_law_244 : decode cL_law 244 = .ok (.aload_n 2, 1) := gg575.2.2.2.2.2.2.1
theorem dL_law_245 : decode cL_law 245 = .ok (.invokevirtual 24, 3) := gg575.2.2.2.2.2.2.2.1
theorem dL_law_248 : decode cL_law 248 = .ok (.pop, 1) := gg575.2.2.2.2.2.2.2.2.1
theorem dL_law_249 : decode cL_law 249 = .ok (.goto 1009, 3) := gg575.2.2.2.2.2.2.2.2.2
theorem gg576 : decode cL_law 252 = .ok (.aload_n 1, 1) ∧ decode cL_law 253 = .ok (.invokevirtual 25, 3) ∧ decode cL_law 256 = .ok (.pop, 1) ∧ decode cL_law 257 = .ok (.aload_n 2, 1) ∧ decode cL_law 258 = .ok (.invokevirtual 28, 3) ∧ decode cL_law 261 = .ok (.pop, 1) ∧ decode cL_law 262 = .ok (.goto 996, 3) ∧ decode cL_law 265 = .ok (.aload_n 1, 1) ∧ decode cL_law 266 = .ok (.invokevirtual 29, 3) ∧ decode cL_law 269 = .ok (.pop, 1) := by decide +kernel
theorem dL_law_252 : decode cL_law 252 = .ok (.aload_n 1, 1) := gg576.1
theorem dL_law_253 : decode cL_law 253 = .ok (.invokevirtual 25, 3) := gg576.2.1
theorem dL_law_256 : decode cL_law 256 = .ok (.pop, 1) := gg576.2.2.1
theorem dL_law_257 : decode cL_law 257 = .ok (.aload_n 2, 1) := gg576.2.2.2.1
theorem dL_law_258 : decode cL_law 258 = .ok (.invokevirtual 28, 3) := gg576.2.2.2.2.1
theorem dL_law_261 : decode cL_law 261 = .ok (.pop, 1) := gg576.2.2.2.2.2.1
theorem dL_law_262 : decode cL_law 262 = .ok (.goto 996, 3) := gg576.2.2.2.2.2.2.1
theorem dL_law_265 : decode cL_law 265 = .ok (.aload_n 1, 1) := gg576.2.2.2.2.2.2.2.1
theorem dL_law_266 : decode cL_law 266 = .ok (.invokevirtual 29, 3) := gg576.2.2.2.2.2.2.2.2.1
theorem dL_law_269 : decode cL_law 269 = .ok (.pop, 1) := gg576.2.2.2.2.2.2.2.2.2
theorem gg577 : decode cL_law 270 = .ok (.aload_n 2, 1) ∧ decode cL_law 271 = .ok (.invokevirtual 32, 3) ∧ decode cL_law 274 = .ok (.pop, 1) ∧ decode cL_law 275 = .ok (.goto 983, 3) ∧ decode cL_law 278 = .ok (.aload_n 1, 1) ∧ decode cL_law 279 = .ok (.aload_n 0, 1) ∧ decode cL_law 280 = .ok (.iload_n 3, 1) ∧ decode cL_law 281 = .ok (.iconst 1, 1) ∧ decode cL_law 282 = .ok (.iadd, 1) ∧ decode cL_law 283 = .ok (.iaload, 1) := by decide +kernel
theorem dL_law_270 : decode cL_law 270 = .ok (.aload_n 2, 1) := gg577.1
theorem dL_law_271 : decode cL_law 271 = .ok (.invokevirtual 32, 3) := gg577.2.1
theorem dL_law_274 : decode cL_law 274 = .ok (.pop, 1) := gg577.2.2.1
theorem dL_law_275 : decode cL_law 275 = .ok (.goto 983, 3) := gg577.2.2.2.1
theorem dL_law_278 : decode cL_law 278 = .ok (.aload_n 1, 1) := gg577.2.2.2.2.1
theorem dL_law_279 : decode cL_law 279 = .ok (.aload_n 0, 1) := gg577.2.2.2.2.2.1
theorem dL_law_280 : decode cL_law 280 = .ok (.iload_n 3, 1) := gg577.2.2.2.2.2.2.1
theorem dL_law_281 : decode cL_law 281 = .ok (.iconst 1, 1) := gg577.2.2.2.2.2.2.2.1
theorem dL_law_282 : decode cL_law 282 = .ok (.iadd, 1) := gg577.2.2.2.2.2.2.2.2.1
theorem dL_law_283 : decode cL_law 283 = .ok (.iaload, 1) := gg577.2.2.2.2.2.2.2.2.2
theorem gg578 : decode cL_law 284 = .ok (.aload_n 0, 1) ∧ decode cL_law 285 = .ok (.iload_n 3, 1) ∧ decode cL_law 286 = .ok (.iconst 2, 1) ∧ decode cL_law 287 = .ok (.iadd, 1) ∧ decode cL_law 288 = .ok (.iaload, 1) ∧ decode cL_law 289 = .ok (.invokevirtual 33, 3) ∧ decode cL_law 292 = .ok (.pop, 1) ∧ decode cL_law 293 = .ok (.aload_n 2, 1) ∧ decode cL_law 294 = .ok (.aload_n 0, 1) ∧ decode cL_law 295 = .ok (.iload_n 3, 1) := by decide +kernel
theorem dL_law_284 : decode cL_law 284 = .ok (.aload_n 0, 1) := gg578.1
theorem dL_law_285 : decode cL_law 285 = .ok (.iload_n 3, 1) := gg578.2.1
theorem dL_law_286 : decode cL_law 286 = .ok (.iconst 2, 1) := gg578.2.2.1
theorem dL_law_287 : decode cL_law 287 = .ok (.iadd, 1) := gg578.2.2.2.1
theorem dL_law_288 : decode cL_law 288 = .ok (.iaload, 1) := gg578.2.2.2.2.1
theorem dL_law_289 : decode cL_law 289 = .ok (.invokevirtual 33, 3) := gg578.2.2.2.2.2.1
theorem dL_law_292 : decode cL_law 292 = .ok (.pop, 1) := gg578.2.2.2.2.2.2.1
theorem dL_law_293 : decode cL_law 293 = .ok (.aload_n 2, 1) := gg578.2.2.2.2.2.2.2.1
theorem dL_law_294 : decode cL_law 294 = .ok (.aload_n 0, 1) := gg578.2.2.2.2.2.2.2.2.1
theorem dL_law_295 : decode cL_law 295 = .ok (.iload_n 3, 1) := gg578.2.2.2.2.2.2.2.2.2
theorem gg579 : decode cL_law 296 = .ok (.iconst 1, 1) ∧ decode cL_law 297 = .ok (.iadd, 1) ∧ decode cL_law 298 = .ok (.iaload, 1) ∧ decode cL_law 299 = .ok (.aload_n 0, 1) ∧ decode cL_law 300 = .ok (.iload_n 3, 1) ∧ decode cL_law 301 = .ok (.iconst 2, 1) ∧ decode cL_law 302 = .ok (.iadd, 1) ∧ decode cL_law 303 = .ok (.iaload, 1) ∧ decode cL_law 304 = .ok (.invokevirtual 37, 3) ∧ decode cL_law 307 = .ok (.pop, 1) := by decide +kernel
theorem dL_law_296 : decode cL_law 296 = .ok (.iconst 1, 1) := gg579.1
theorem dL_law_297 : decode cL_law 297 = .ok (.iadd, 1) := gg579.2.1
theorem dL_law_298 : decode cL_law 298 = .ok (.iaload, 1) := gg579.2.2.1
theorem dL_law_299 : decode cL_law 299 = .ok (.aload_n 0, 1) := gg579.2.2.2.1
theorem dL_law_300 : decode cL_law 300 = .ok (.iload_n 3, 1) := gg579.2.2.2.2.1
theorem dL_law_301 : decode cL_law 301 = .ok (.iconst 2, 1) := gg579.2.2.2.2.2.1
theorem dL_law_302 : decode cL_law 302 = .ok (.iadd, 1) := gg579.2.2.2.2.2.2.1
theorem dL_law_303 : decode cL_law 303 = .ok (.iaload, 1) := gg579.2.2.2.2.2.2.2.1
theorem dL_law_304 : decode cL_law 304 = .ok (.invokevirtual 37, 3) := gg579.2.2.2.2.2.2.2.2.1
theorem dL_law_307 : decode cL_law 307 = .ok (.pop, 1) := gg579.2.2.2.2.2.2.2.2.2
theorem gg580 : decode cL_law 308 = .ok (.goto 950, 3) ∧ decode cL_law 311 = .ok (.aload_n 1, 1) ∧ decode cL_law 312 = .ok (.aload_n 0, 1) ∧ decode cL_law 313 = .ok (.iload_n 3, 1) ∧ decode cL_law 314 = .ok (.iconst 1, 1) ∧ decode cL_law 315 = .ok (.iadd, 1) ∧ decode cL_law 316 = .ok (.iaload, 1) ∧ decode cL_law 317 = .ok (.invokevirtual 38, 3) ∧ decode cL_law 320 = .ok (.pop, 1) ∧ decode cL_law 321 = .ok (.aload_n 2, 1) := by decide +kernel
theorem dL_law_308 : decode cL_law 308 = .ok (.goto 950, 3) := gg580.1
theorem dL_law_311 : decode cL_law 311 = .ok (.aload_n 1, 1) := gg580.2.1
theorem dL_law_312 : decode cL_law 312 = .ok (.aload_n 0, 1) := gg580.2.2.1
theorem dL_law_313 : decode cL_law 313 = .ok (.iload_n 3, 1) := gg580.2.2.2.1
theorem dL_law_314 : decode cL_law 314 = .ok (.iconst 1, 1) := gg580.2.2.2.2.1
theorem dL_law_315 : decode cL_law 315 = .ok (.iadd, 1) := gg580.2.2.2.2.2.1
theorem dL_law_316 : decode cL_law 316 = .ok (.iaload, 1) := gg580.2.2.2.2.2.2.1
theorem dL_law_317 : decode cL_law 317 = .ok (.invokevirtual 38, 3) := gg580.2.2.2.2.2.2.2.1
theorem dL_law_320 : decode cL_law 320 = .ok (.pop, 1) := gg580.2.2.2.2.2.2.2.2.1
theorem dL_law_321 : decode cL_law 321 = .ok (.aload_n 2, 1) := gg580.2.2.2.2.2.2.2.2.2
theorem gg581 : decode cL_law 322 = .ok (.aload_n 0, 1) ∧ decode cL_law 323 = .ok (.iload_n 3, 1) ∧ decode cL_law 324 = .ok (.iconst 1, 1) ∧ decode cL_law 325 = .ok (.iadd, 1) ∧ decode cL_law 326 = .ok (.iaload, 1) ∧ decode cL_law 327 = .ok (.invokevirtual 42, 3) ∧ decode cL_law 330 = .ok (.pop, 1) ∧ decode cL_law 331 = .ok (.goto 927, 3) ∧ decode cL_law 334 = .ok (.aload_n 1, 1) ∧ decode cL_law 335 = .ok (.aload_n 0, 1) := by decide +kernel
theorem dL_law_322 : decode cL_law 322 = .ok (.aload_n 0, 1) := gg581.1
theorem dL_law_323 : decode cL_law 323 = .ok (.iload_n 3, 1) := gg581.2.1
theorem dL_law_324 : decode cL_law 324 = .ok (.iconst 1, 1) := gg581.2.2.1
theorem dL_law_325 : decode cL_law 325 = .ok (.iadd, 1) := gg581.2.2.2.1
theorem dL_law_326 : decode cL_law 326 = .ok (.iaload, 1) := gg581.2.2.2.2.1
theorem dL_law_327 : decode cL_law 327 = .ok (.invokevirtual 42, 3) := gg581.2.2.2.2.2.1
theorem dL_law_330 : decode cL_law 330 = .ok (.pop, 1) := gg581.2.2.2.2.2.2.1
theorem dL_law_331 : decode cL_law 331 = .ok (.goto 927, 3) := gg581.2.2.2.2.2.2.2.1
theorem dL_law_334 : decode cL_law 334 = .ok (.aload_n 1, 1) := gg581.2.2.2.2.2.2.2.2.1
theorem dL_law_335 : decode cL_law 335 = .ok (.aload_n 0, 1) := gg581.2.2.2.2.2.2.2.2.2
theorem gg582 : decode cL_law 336 = .ok (.iload_n 3, 1) ∧ decode cL_law 337 = .ok (.iconst 1, 1) ∧ decode cL_law 338 = .ok (.iadd, 1) ∧ decode cL_law 339 = .ok (.iaload, 1) ∧ decode cL_law 340 = .ok (.i2l, 1) ∧ decode cL_law 341 = .ok (.bipush 32, 2) ∧ decode cL_law 343 = .ok (.lshl, 1) ∧ decode cL_law 344 = .ok (.aload_n 0, 1) ∧ decode cL_law 345 = .ok (.iload_n 3, 1) ∧ decode cL_law 346 = .ok (.iconst 2, 1) := by decide +kernel
theorem dL_law_336 : decode cL_law 336 = .ok (.iload_n 3, 1) := gg582.1
theorem dL_law_337 : decode cL_law 337 = .ok (.iconst 1, 1) := gg582.2.1
theorem dL_law_338 : decode cL_law 338 = .ok (.iadd, 1) := gg582.2.2.1
theorem dL_law_339 : decode cL_law 339 = .ok (.iaload, 1) := gg582.2.2.2.1
theorem dL_law_340 : decode cL_law 340 = .ok (.i2l, 1) := gg582.2.2.2.2.1
theorem dL_law_341 : decode cL_law 341 = .ok (.bipush 32, 2) := gg582.2.2.2.2.2.1
theorem dL_law_343 : decode cL_law 343 = .ok (.lshl, 1) := gg582.2.2.2.2.2.2.1
theorem dL_law_344 : decode cL_law 344 = .ok (.aload_n 0, 1) := gg582.2.2.2.2.2.2.2.1
theorem dL_law_345 : decode cL_law 345 = .ok (.iload_n 3, 1) := gg582.2.2.2.2.2.2.2.2.1
theorem dL_law_346 : decode cL_law 346 = .ok (.iconst 2, 1) := gg582.2.2.2.2.2.2.2.2.2
theorem gg583 : decode cL_law 347 = .ok (.iadd, 1) ∧ decode cL_law 348 = .ok (.iaload, 1) ∧ decode cL_law 349 = .ok (.i2l, 1) ∧ decode cL_law 350 = .ok (.ldc2_w 13, 3) ∧ decode cL_law 353 = .ok (.land, 1) ∧ decode cL_law 354 = .ok (.lor, 1) ∧ decode cL_law 355 = .ok (.invokevirtual 43, 3) ∧ decode cL_law 358 = .ok (.pop, 1) ∧ decode cL_law 359 = .ok (.aload_n 2, 1) ∧ decode cL_law 360 = .ok (.aload_n 0, 1) := by decide +kernel
theorem dL_law_347 : decode cL_law 347 = .ok (.iadd, 1) := gg583.1
theorem dL_law_348 : decode cL_law 348 = .ok (.iaload, 1) := gg583.2.1
theorem dL_law_349 : decode cL_law 349 = .ok (.i2l, 1) := gg583.2.2.1
theorem dL_law_350 : decode cL_law 350 = .ok (.ldc2_w 13, 3) := gg583.2.2.2.1
theorem dL_law_353 : decode cL_law 353 = .ok (.land, 1) := gg583.2.2.2.2.1
theorem dL_law_354 : decode cL_law 354 = .ok (.lor, 1) := gg583.2.2.2.2.2.1
theorem dL_law_355 : decode cL_law 355 = .ok (.invokevirtual 43, 3) := gg583.2.2.2.2.2.2.1
theorem dL_law_358 : decode cL_law 358 = .ok (.pop, 1) := gg583.2.2.2.2.2.2.2.1
theorem dL_law_359 : decode cL_law 359 = .ok (.aload_n 2, 1) := gg583.2.2.2.2.2.2.2.2.1
theorem dL_law_360 : decode cL_law 360 = .ok (.aload_n 0, 1) := gg583.2.2.2.2.2.2.2.2.2
theorem gg584 : decode cL_law 361 = .ok (.iload_n 3, 1) ∧ decode cL_law 362 = .ok (.iconst 1, 1) ∧ decode cL_law 363 = .ok (.iadd, 1) ∧ decode cL_law 364 = .ok (.iaload, 1) ∧ decode cL_law 365 = .ok (.i2l, 1) ∧ decode cL_law 366 = .ok (.bipush 32, 2) ∧ decode cL_law 368 = .ok (.lshl, 1) ∧ decode cL_law 369 = .ok (.aload_n 0, 1) ∧ decode cL_law 370 = .ok (.iload_n 3, 1) ∧ decode cL_law 371 = .ok (.iconst 2, 1) := by decide +kernel
theorem dL_law_361 : decode cL_law 361 = .ok (.iload_n 3, 1) := gg584.1
theorem dL_law_362 : decode cL_law 362 = .ok (.iconst 1, 1) := gg584.2.1
theorem dL_law_363 : decode cL_law 363 = .ok (.iadd, 1) := gg584.2.2.1
theorem dL_law_364 : decode cL_law 364 = .ok (.iaload, 1) := gg584.2.2.2.1
theorem dL_law_365 : decode cL_law 365 = .ok (.i2l, 1) := gg584.2.2.2.2.1
theorem dL_law_366 : decode cL_law 366 = .ok (.bipush 32, 2) := gg584.2.2.2.2.2.1
theorem dL_law_368 : decode cL_law 368 = .ok (.lshl, 1) := gg584.2.2.2.2.2.2.1
theorem dL_law_369 : decode cL_law 369 = .ok (.aload_n 0, 1) := gg584.2.2.2.2.2.2.2.1
theorem dL_law_370 : decode cL_law 370 = .ok (.iload_n 3, 1) := gg584.2.2.2.2.2.2.2.2.1
theorem dL_law_371 : decode cL_law 371 = .ok (.iconst 2, 1) := gg584.2.2.2.2.2.2.2.2.2
theorem gg585 : decode cL_law 372 = .ok (.iadd, 1) ∧ decode cL_law 373 = .ok (.iaload, 1) ∧ decode cL_law 374 = .ok (.i2l, 1) ∧ decode cL_law 375 = .ok (.ldc2_w 13, 3) ∧ decode cL_law 378 = .ok (.land, 1) ∧ decode cL_law 379 = .ok (.lor, 1) ∧ decode cL_law 380 = .ok (.invokevirtual 47, 3) ∧ decode cL_law 383 = .ok (.pop, 1) ∧ decode cL_law 384 = .ok (.goto 874, 3) ∧ decode cL_law 387 = .ok (.aload_n 1, 1) := by decide +kernel
theorem dL_law_372 : decode cL_law 372 = .ok (.iadd, 1) := gg585.1
theorem dL_law_373 : decode cL_law 373 = .ok (.iaload, 1) := gg585.2.1
theorem dL_law_374 : decode cL_law 374 = .ok (.i2l, 1) := gg585.2.2.1
theorem dL_law_375 : decode cL_law 375 = .ok (.ldc2_w 13, 3) := gg585.2.2.2.1
theorem dL_law_378 : decode cL_law 378 = .ok (.land, 1) := gg585.2.2.2.2.1
theorem dL_law_379 : decode cL_law 379 = .ok (.lor, 1) := gg585.2.2.2.2.2.1
theorem dL_law_380 : decode cL_law 380 = .ok (.invokevirtual 47, 3) := gg585.2.2.2.2.2.2.1
theorem dL_law_383 : decode cL_law 383 = .ok (.pop, 1) := gg585.2.2.2.2.2.2.2.1
theorem dL_law_384 : decode cL_law 384 = .ok (.goto 874, 3) := gg585.2.2.2.2.2.2.2.2.1
theorem dL_law_387 : decode cL_law 387 = .ok (.aload_n 1, 1) := gg585.2.2.2.2.2.2.2.2.2
theorem gg586 : decode cL_law 388 = .ok (.aload_n 0, 1) ∧ decode cL_law 389 = .ok (.iload_n 3, 1) ∧ decode cL_law 390 = .ok (.iconst 1, 1) ∧ decode cL_law 391 = .ok (.iadd, 1) ∧ decode cL_law 392 = .ok (.iaload, 1) ∧ decode cL_law 393 = .ok (.i2l, 1) ∧ decode cL_law 394 = .ok (.bipush 32, 2) ∧ decode cL_law 396 = .ok (.lshl, 1) ∧ decode cL_law 397 = .ok (.aload_n 0, 1) ∧ decode cL_law 398 = .ok (.iload_n 3, 1) := by decide +kernel
theorem dL_law_388 : decode cL_law 388 = .ok (.aload_n 0, 1) := gg586.1
theorem dL_law_389 : decode cL_law 389 = .ok (.iload_n 3, 1) := gg586.2.1
theorem dL_law_390 : decode cL_law 390 = .ok (.iconst 1, 1) := gg586.2.2.1
theorem dL_law_391 : decode cL_law 391 = .ok (.iadd, 1) := gg586.2.2.2.1
theorem dL_law_392 : decode cL_law 392 = .ok (.iaload, 1) := gg586.2.2.2.2.1
theorem dL_law_393 : decode cL_law 393 = .ok (.i2l, 1) := gg586.2.2.2.2.2.1
theorem dL_law_394 : decode cL_law 394 = .ok (.bipush 32, 2) := gg586.2.2.2.2.2.2.1
theorem dL_law_396 : decode cL_law 396 = .ok (.lshl, 1) := gg586.2.2.2.2.2.2.2.1
theorem dL_law_397 : decode cL_law 397 = .ok (.aload_n 0, 1) := gg586.2.2.2.2.2.2.2.2.1
theorem dL_law_398 : decode cL_law 398 = .ok (.iload_n 3, 1) := gg586.2.2.2.2.2.2.2.2.2
theorem gg587 : decode cL_law 399 = .ok (.iconst 2, 1) ∧ decode cL_law 400 = .ok (.iadd, 1) ∧ decode cL_law 401 = .ok (.iaload, 1) ∧ decode cL_law 402 = .ok (.i2l, 1) ∧ decode cL_law 403 = .ok (.ldc2_w 13, 3) ∧ decode cL_law 406 = .ok (.land, 1) ∧ decode cL_law 407 = .ok (.lor, 1) ∧ decode cL_law 408 = .ok (.aload_n 0, 1) ∧ decode cL_law 409 = .ok (.iload_n 3, 1) ∧ decode cL_law 410 = .ok (.iconst 3, 1) := by decide +kernel
theorem dL_law_399 : decode cL_law 399 = .ok (.iconst 2, 1) := gg587.1
theorem dL_law_400 : decode cL_law 400 = .ok (.iadd, 1) := gg587.2.1
theorem dL_law_401 : decode cL_law 401 = .ok (.iaload, 1) := gg587.2.2.1
theorem dL_law_402 : decode cL_law 402 = .ok (.i2l, 1) := gg587.2.2.2.1
theorem dL_law_403 : decode cL_law 403 = .ok (.ldc2_w 13, 3) := gg587.2.2.2.2.1
theorem dL_law_406 : decode cL_law 406 = .ok (.land, 1) := gg587.2.2.2.2.2.1
theorem dL_law_407 : decode cL_law 407 = .ok (.lor, 1) := gg587.2.2.2.2.2.2.1
theorem dL_law_408 : decode cL_law 408 = .ok (.aload_n 0, 1) := gg587.2.2.2.2.2.2.2.1
theorem dL_law_409 : decode cL_law 409 = .ok (.iload_n 3, 1) := gg587.2.2.2.2.2.2.2.2.1
theorem dL_law_410 : decode cL_law 410 = .ok (.iconst 3, 1) := gg587.2.2.2.2.2.2.2.2.2
theorem gg588 : decode cL_law 411 = .ok (.iadd, 1) ∧ decode cL_law 412 = .ok (.iaload, 1) ∧ decode cL_law 413 = .ok (.aload_n 0, 1) ∧ decode cL_law 414 = .ok (.iload_n 3, 1) ∧ decode cL_law 415 = .ok (.iconst 4, 1) ∧ decode cL_law 416 = .ok (.iadd, 1) ∧ decode cL_law 417 = .ok (.iaload, 1) ∧ decode cL_law 418 = .ok (.invokevirtual 48, 3) ∧ decode cL_law 421 = .ok (.pop, 1) ∧ decode cL_law 422 = .ok (.aload_n 2, 1) := by decide +kernel
theorem dL_law_411 : decode cL_law 411 = .ok (.iadd, 1) := gg588.1
theorem dL_law_412 : decode cL_law 412 = .ok (.iaload, 1) := gg588.2.1
theorem dL_law_413 : decode cL_law 413 = .ok (.aload_n 0, 1) := gg588.2.2.1
theorem dL_law_414 : decode cL_law 414 = .ok (.iload_n 3, 1) := gg588.2.2.2.1
theorem dL_law_415 : decode cL_law 415 = .ok (.iconst 4, 1) := gg588.2.2.2.2.1
theorem dL_law_416 : decode cL_law 416 = .ok (.iadd, 1) := gg588.2.2.2.2.2.1
theorem dL_law_417 : decode cL_law 417 = .ok (.iaload, 1) := gg588.2.2.2.2.2.2.1
theorem dL_law_418 : decode cL_law 418 = .ok (.invokevirtual 48, 3) := gg588.2.2.2.2.2.2.2.1
theorem dL_law_421 : decode cL_law 421 = .ok (.pop, 1) := gg588.2.2.2.2.2.2.2.2.1
theorem dL_law_422 : decode cL_law 422 = .ok (.aload_n 2, 1) := gg588.2.2.2.2.2.2.2.2.2
theorem gg589 : decode cL_law 423 = .ok (.aload_n 0, 1) ∧ decode cL_law 424 = .ok (.iload_n 3, 1) ∧ decode cL_law 425 = .ok (.iconst 1, 1) ∧ decode cL_law 426 = .ok (.iadd, 1) ∧ decode cL_law 427 = .ok (.iaload, 1) ∧ decode cL_law 428 = .ok (.i2l, 1) ∧ decode cL_law 429 = .ok (.bipush 32, 2) ∧ decode cL_law 431 = .ok (.lshl, 1) ∧ decode cL_law 432 = .ok (.aload_n 0, 1) ∧ decode cL_law 433 = .ok (.iload_n 3, 1) := by decide +kernel
theorem dL_law_423 : decode cL_law 423 = .ok (.aload_n 0, 1) := gg589.1
theorem dL_law_424 : decode cL_law 424 = .ok (.iload_n 3, 1) := gg589.2.1
theorem dL_law_425 : decode cL_law 425 = .ok (.iconst 1, 1) := gg589.2.2.1
theorem dL_law_426 : decode cL_law 426 = .ok (.iadd, 1) := gg589.2.2.2.1
theorem dL_law_427 : decode cL_law 427 = .ok (.iaload, 1) := gg589.2.2.2.2.1
theorem dL_law_428 : decode cL_law 428 = .ok (.i2l, 1) := gg589.2.2.2.2.2.1
theorem dL_law_429 : decode cL_law 429 = .ok (.bipush 32, 2) := gg589.2.2.2.2.2.2.1
theorem dL_law_431 : decode cL_law 431 = .ok (.lshl, 1) := gg589.2.2.2.2.2.2.2.1
theorem dL_law_432 : decode cL_law 432 = .ok (.aload_n 0, 1) := gg589.2.2.2.2.2.2.2.2.1
theorem dL_law_433 : decode cL_law 433 = .ok (.iload_n 3, 1) := gg589.2.2.2.2.2.2.2.2.2
theorem gg590 : decode cL_law 434 = .ok (.iconst 2, 1) ∧ decode cL_law 435 = .ok (.iadd, 1) ∧ decode cL_law 436 = .ok (.iaload, 1) ∧ decode cL_law 437 = .ok (.i2l, 1) ∧ decode cL_law 438 = .ok (.ldc2_w 13, 3) ∧ decode cL_law 441 = .ok (.land, 1) ∧ decode cL_law 442 = .ok (.lor, 1) ∧ decode cL_law 443 = .ok (.aload_n 0, 1) ∧ decode cL_law 444 = .ok (.iload_n 3, 1) ∧ decode cL_law 445 = .ok (.iconst 3, 1) := by decide +kernel
theorem dL_law_434 : decode cL_law 434 = .ok (.iconst 2, 1) := gg590.1
theorem dL_law_435 : decode cL_law 435 = .ok (.iadd, 1) := gg590.2.1
theorem dL_law_436 : decode cL_law 436 = .ok (.iaload, 1) := gg590.2.2.1
theorem dL_law_437 : decode cL_law 437 = .ok (.i2l, 1) := gg590.2.2.2.1
theorem dL_law_438 : decode cL_law 438 = .ok (.ldc2_w 13, 3) := gg590.2.2.2.2.1
theorem dL_law_441 : decode cL_law 441 = .ok (.land, 1) := gg590.2.2.2.2.2.1
theorem dL_law_442 : decode cL_law 442 = .ok (.lor, 1) := gg590.2.2.2.2.2.2.1
theorem dL_law_443 : decode cL_law 443 = .ok (.aload_n 0, 1) := gg590.2.2.2.2.2.2.2.1
theorem dL_law_444 : decode cL_law 444 = .ok (.iload_n 3, 1) := gg590.2.2.2.2.2.2.2.2.1
theorem dL_law_445 : decode cL_law 445 = .ok (.iconst 3, 1) := gg590.2.2.2.2.2.2.2.2.2
theorem gg591 : decode cL_law 446 = .ok (.iadd, 1) ∧ decode cL_law 447 = .ok (.iaload, 1) ∧ decode cL_law 448 = .ok (.aload_n 0, 1) ∧ decode cL_law 449 = .ok (.iload_n 3, 1) ∧ decode cL_law 450 = .ok (.iconst 4, 1) ∧ decode cL_law 451 = .ok (.iadd, 1) ∧ decode cL_law 452 = .ok (.iaload, 1) ∧ decode cL_law 453 = .ok (.invokevirtual 52, 3) ∧ decode cL_law 456 = .ok (.pop, 1) ∧ decode cL_law 457 = .ok (.goto 801, 3) := by decide +kernel
theorem dL_law_446 : decode cL_law 446 = .ok (.iadd, 1) := gg591.1
theorem dL_law_447 : decode cL_law 447 = .ok (.iaload, 1) := gg591.2.1
theorem dL_law_448 : decode cL_law 448 = .ok (.aload_n 0, 1) := gg591.2.2.1
theorem dL_law_449 : decode cL_law 449 = .ok (.iload_n 3, 1) := gg591.2.2.2.1
theorem dL_law_450 : decode cL_law 450 = .ok (.iconst 4, 1) := gg591.2.2.2.2.1
theorem dL_law_451 : decode cL_law 451 = .ok (.iadd, 1) := gg591.2.2.2.2.2.1
theorem dL_law_452 : decode cL_law 452 = .ok (.iaload, 1) := gg591.2.2.2.2.2.2.1
theorem dL_law_453 : decode cL_law 453 = .ok (.invokevirtual 52, 3) := gg591.2.2.2.2.2.2.2.1
theorem dL_law_456 : decode cL_law 456 = .ok (.pop, 1) := gg591.2.2.2.2.2.2.2.2.1
theorem dL_law_457 : decode cL_law 457 = .ok (.goto 801, 3) := gg591.2.2.2.2.2.2.2.2.2
theorem gg592 : decode cL_law 460 = .ok (.aload_n 1, 1) ∧ decode cL_law 461 = .ok (.aload_n 0, 1) ∧ decode cL_law 462 = .ok (.iload_n 3, 1) ∧ decode cL_law 463 = .ok (.iconst 1, 1) ∧ decode cL_law 464 = .ok (.iadd, 1) ∧ decode cL_law 465 = .ok (.iaload, 1) ∧ decode cL_law 466 = .ok (.i2l, 1) ∧ decode cL_law 467 = .ok (.bipush 32, 2) ∧ decode cL_law 469 = .ok (.lshl, 1) ∧ decode cL_law 470 = .ok (.aload_n 0, 1) := by decide +kernel
theorem dL_law_460 : decode cL_law 460 = .ok (.aload_n 1, 1) := gg592.1
theorem dL_law_461 : decode cL_law 461 = .ok (.aload_n 0, 1) := gg592.2.1
theorem dL_law_462 : decode cL_law 462 = .ok (.iload_n 3, 1) := gg592.2.2.1
theorem dL_law_463 : decode cL_law 463 = .ok (.iconst 1, 1) := gg592.2.2.2.1
theorem dL_law_464 : decode cL_law 464 = .ok (.iadd, 1) := gg592.2.2.2.2.1
theorem dL_law_465 : decode cL_law 465 = .ok (.iaload, 1) := gg592.2.2.2.2.2.1
theorem dL_law_466 : decode cL_law 466 = .ok (.i2l, 1) := gg592.2.2.2.2.2.2.1
theorem dL_law_467 : decode cL_law 467 = .ok (.bipush 32, 2) := gg592.2.2.2.2.2.2.2.1
theorem dL_law_469 : decode cL_law 469 = .ok (.lshl, 1) := gg592.2.2.2.2.2.2.2.2.1
theorem dL_law_470 : decode cL_law 470 = .ok (.aload_n 0, 1) := gg592.2.2.2.2.2.2.2.2.2
theorem gg593 : decode cL_law 471 = .ok (.iload_n 3, 1) ∧ decode cL_law 472 = .ok (.iconst 2, 1) ∧ decode cL_law 473 = .ok (.iadd, 1) ∧ decode cL_law 474 = .ok (.iaload, 1) ∧ decode cL_law 475 = .ok (.i2l, 1) ∧ decode cL_law 476 = .ok (.ldc2_w 13, 3) ∧ decode cL_law 479 = .ok (.land, 1) ∧ decode cL_law 480 = .ok (.lor, 1) ∧ decode cL_law 481 = .ok (.aload_n 0, 1) ∧ decode cL_law 482 = .ok (.iload_n 3, 1) := by decide +kernel
theorem dL_law_471 : decode cL_law 471 = .ok (.iload_n 3, 1) := gg593.1
theorem dL_law_472 : decode cL_law 472 = .ok (.iconst 2, 1) := gg593.2.1
theorem dL_law_473 : decode cL_law 473 = .ok (.iadd, 1) := gg593.2.2.1
theorem dL_law_474 : decode cL_law 474 = .ok (.iaload, 1) := gg593.2.2.2.1
theorem dL_law_475 : decode cL_law 475 = .ok (.i2l, 1) := gg593.2.2.2.2.1
theorem dL_law_476 : decode cL_law 476 = .ok (.ldc2_w 13, 3) := gg593.2.2.2.2.2.1
theorem dL_law_479 : decode cL_law 479 = .ok (.land, 1) := gg593.2.2.2.2.2.2.1
theorem dL_law_480 : decode cL_law 480 = .ok (.lor, 1) := gg593.2.2.2.2.2.2.2.1
theorem dL_law_481 : decode cL_law 481 = .ok (.aload_n 0, 1) := gg593.2.2.2.2.2.2.2.2.1
theorem dL_law_482 : decode cL_law 482 = .ok (.iload_n 3, 1) := gg593.2.2.2.2.2.2.2.2.2
theorem gg594 : decode cL_law 483 = .ok (.iconst 3, 1) ∧ decode cL_law 484 = .ok (.iadd, 1) ∧ decode cL_law 485 = .ok (.iaload, 1) ∧ decode cL_law 486 = .ok (.invokevirtual 53, 3) ∧ decode cL_law 489 = .ok (.pop2, 1) ∧ decode cL_law 490 = .ok (.aload_n 2, 1) ∧ decode cL_law 491 = .ok (.aload_n 0, 1) ∧ decode cL_law 492 = .ok (.iload_n 3, 1) ∧ decode cL_law 493 = .ok (.iconst 1, 1) ∧ decode cL_law 494 = .ok (.iadd, 1) := by decide +kernel
theorem dL_law_483 : decode cL_law 483 = .ok (.iconst 3, 1) := gg594.1
theorem dL_law_484 : decode cL_law 484 = .ok (.iadd, 1) := gg594.2.1
theorem dL_law_485 : decode cL_law 485 = .ok (.iaload, 1) := gg594.2.2.1
theorem dL_law_486 : decode cL_law 486 = .ok (.invokevirtual 53, 3) := gg594.2.2.2.1
theorem dL_law_489 : decode cL_law 489 = .ok (.pop2, 1) := gg594.2.2.2.2.1
theorem dL_law_490 : decode cL_law 490 = .ok (.aload_n 2, 1) := gg594.2.2.2.2.2.1
theorem dL_law_491 : decode cL_law 491 = .ok (.aload_n 0, 1) := gg594.2.2.2.2.2.2.1
theorem dL_law_492 : decode cL_law 492 = .ok (.iload_n 3, 1) := gg594.2.2.2.2.2.2.2.1
theorem dL_law_493 : decode cL_law 493 = .ok (.iconst 1, 1) := gg594.2.2.2.2.2.2.2.2.1
theorem dL_law_494 : decode cL_law 494 = .ok (.iadd, 1) := gg594.2.2.2.2.2.2.2.2.2
theorem gg595 : decode cL_law 495 = .ok (.iaload, 1) ∧ decode cL_law 496 = .ok (.i2l, 1) ∧ decode cL_law 497 = .ok (.bipush 32, 2) ∧ decode cL_law 499 = .ok (.lshl, 1) ∧ decode cL_law 500 = .ok (.aload_n 0, 1) ∧ decode cL_law 501 = .ok (.iload_n 3, 1) ∧ decode cL_law 502 = .ok (.iconst 2, 1) ∧ decode cL_law 503 = .ok (.iadd, 1) ∧ decode cL_law 504 = .ok (.iaload, 1) ∧ decode cL_law 505 = .ok (.i2l, 1) := by decide +kernel
theorem dL_law_495 : decode cL_law 495 = .ok (.iaload, 1) := gg595.1
theorem dL_law_496 : decode cL_law 496 = .ok (.i2l, 1) := gg595.2.1
theorem dL_law_497 : decode cL_law 497 = .ok (.bipush 32, 2) := gg595.2.2.1
theorem dL_law_499 : decode cL_law 499 = .ok (.lshl, 1) := gg595.2.2.2.1
theorem dL_law_500 : decode cL_law 500 = .ok (.aload_n 0, 1) := gg595.2.2.2.2.1
theorem dL_law_501 : decode cL_law 501 = .ok (.iload_n 3, 1) := gg595.2.2.2.2.2.1
theorem dL_law_502 : decode cL_law 502 = .ok (.iconst 2, 1) := gg595.2.2.2.2.2.2.1
theorem dL_law_503 : decode cL_law 503 = .ok (.iadd, 1) := gg595.2.2.2.2.2.2.2.1
theorem dL_law_504 : decode cL_law 504 = .ok (.iaload, 1) := gg595.2.2.2.2.2.2.2.2.1
theorem dL_law_505 : decode cL_law 505 = .ok (.i2l, 1) := gg595.2.2.2.2.2.2.2.2.2
theorem gg596 : decode cL_law 506 = .ok (.ldc2_w 13, 3) ∧ decode cL_law 509 = .ok (.land, 1) ∧ decode cL_law 510 = .ok (.lor, 1) ∧ decode cL_law 511 = .ok (.aload_n 0, 1) ∧ decode cL_law 512 = .ok (.iload_n 3, 1) ∧ decode cL_law 513 = .ok (.iconst 3, 1) ∧ decode cL_law 514 = .ok (.iadd, 1) ∧ decode cL_law 515 = .ok (.iaload, 1) ∧ decode cL_law 516 = .ok (.invokevirtual 57, 3) ∧ decode cL_law 519 = .ok (.pop2, 1) := by decide +kernel
theorem dL_law_506 : decode cL_law 506 = .ok (.ldc2_w 13, 3) := gg596.1
theorem dL_law_509 : decode cL_law 509 = .ok (.land, 1) := gg596.2.1
theorem dL_law_510 : decode cL_law 510 = .ok (.lor, 1) := gg596.2.2.1
theorem dL_law_511 : decode cL_law 511 = .ok (.aload_n 0, 1) := gg596.2.2.2.1
theorem dL_law_512 : decode cL_law 512 = .ok (.iload_n 3, 1) := gg596.2.2.2.2.1
theorem dL_law_513 : decode cL_law 513 = .ok (.iconst 3, 1) := gg596.2.2.2.2.2.1
theorem dL_law_514 : decode cL_law 514 = .ok (.iadd, 1) := gg596.2.2.2.2.2.2.1
theorem dL_law_515 : decode cL_law 515 = .ok (.iaload, 1) := gg596.2.2.2.2.2.2.2.1
theorem dL_law_516 : decode cL_law 516 = .ok (.invokevirtual 57, 3) := gg596.2.2.2.2.2.2.2.2.1
theorem dL_law_519 : decode cL_law 519 = .ok (.pop2, 1) := gg596.2.2.2.2.2.2.2.2.2
theorem gg597 : decode cL_law 520 = .ok (.goto 738, 3) ∧ decode cL_law 523 = .ok (.aload_n 1, 1) ∧ decode cL_law 524 = .ok (.aload_n 0, 1) ∧ decode cL_law 525 = .ok (.iload_n 3, 1) ∧ decode cL_law 526 = .ok (.iconst 1, 1) ∧ decode cL_law 527 = .ok (.iadd, 1) ∧ decode cL_law 528 = .ok (.iaload, 1) ∧ decode cL_law 529 = .ok (.aload_n 0, 1) ∧ decode cL_law 530 = .ok (.iload_n 3, 1) ∧ decode cL_law 531 = .ok (.iconst 2, 1) := by decide +kernel
theorem dL_law_520 : decode cL_law 520 = .ok (.goto 738, 3) := gg597.1
theorem dL_law_523 : decode cL_law 523 = .ok (.aload_n 1, 1) := gg597.2.1
theorem dL_law_524 : decode cL_law 524 = .ok (.aload_n 0, 1) := gg597.2.2.1
theorem dL_law_525 : decode cL_law 525 = .ok (.iload_n 3, 1) := gg597.2.2.2.1
theorem dL_law_526 : decode cL_law 526 = .ok (.iconst 1, 1) := gg597.2.2.2.2.1
theorem dL_law_527 : decode cL_law 527 = .ok (.iadd, 1) := gg597.2.2.2.2.2.1
theorem dL_law_528 : decode cL_law 528 = .ok (.iaload, 1) := gg597.2.2.2.2.2.2.1
theorem dL_law_529 : decode cL_law 529 = .ok (.aload_n 0, 1) := gg597.2.2.2.2.2.2.2.1
theorem dL_law_530 : decode cL_law 530 = .ok (.iload_n 3, 1) := gg597.2.2.2.2.2.2.2.2.1
theorem dL_law_531 : decode cL_law 531 = .ok (.iconst 2, 1) := gg597.2.2.2.2.2.2.2.2.2
theorem gg598 : decode cL_law 532 = .ok (.iadd, 1) ∧ decode cL_law 533 = .ok (.iaload, 1) ∧ decode cL_law 534 = .ok (.i2l, 1) ∧ decode cL_law 535 = .ok (.bipush 32, 2) ∧ decode cL_law 537 = .ok (.lshl, 1) ∧ decode cL_law 538 = .ok (.aload_n 0, 1) ∧ decode cL_law 539 = .ok (.iload_n 3, 1) ∧ decode cL_law 540 = .ok (.iconst 3, 1) ∧ decode cL_law 541 = .ok (.iadd, 1) ∧ decode cL_law 542 = .ok (.iaload, 1) := by decide +kernel
theorem dL_law_532 : decode cL_law 532 = .ok (.iadd, 1) := gg598.1
theorem dL_law_533 : decode cL_law 533 = .ok (.iaload, 1) := gg598.2.1
theorem dL_law_534 : decode cL_law 534 = .ok (.i2l, 1) := gg598.2.2.1
theorem dL_law_535 : decode cL_law 535 = .ok (.bipush 32, 2) := gg598.2.2.2.1
theorem dL_law_537 : decode cL_law 537 = .ok (.lshl, 1) := gg598.2.2.2.2.1
theorem dL_law_538 : decode cL_law 538 = .ok (.aload_n 0, 1) := gg598.2.2.2.2.2.1
theorem dL_law_539 : decode cL_law 539 = .ok (.iload_n 3, 1) := gg598.2.2.2.2.2.2.1
theorem dL_law_540 : decode cL_law 540 = .ok (.iconst 3, 1) := gg598.2.2.2.2.2.2.2.1
theorem dL_law_541 : decode cL_law 541 = .ok (.iadd, 1) := gg598.2.2.2.2.2.2.2.2.1
theorem dL_law_542 : decode cL_law 542 = .ok (.iaload, 1) := gg598.2.2.2.2.2.2.2.2.2
theorem gg599 : decode cL_law 543 = .ok (.i2l, 1) ∧ decode cL_law 544 = .ok (.ldc2_w 13, 3) ∧ decode cL_law 547 = .ok (.land, 1) ∧ decode cL_law 548 = .ok (.lor, 1) ∧ decode cL_law 549 = .ok (.invokevirtual 58, 3) ∧ decode cL_law 552 = .ok (.pop, 1) ∧ decode cL_law 553 = .ok (.aload_n 2, 1) ∧ decode cL_law 554 = .ok (.aload_n 0, 1) ∧ decode cL_law 555 = .ok (.iload_n 3, 1) ∧ decode cL_law 556 = .ok (.iconst 1, 1) := by decide +kernel
theorem dL_law_543 : decode cL_law 543 = .ok (.i2l, 1) := gg599.1
theorem dL_law_544 : decode cL_law 544 = .ok (.ldc2_w 13, 3) := gg599.2.1
theorem dL_law_547 : decode cL_law 547 = .ok (.land, 1) := gg599.2.2.1
theorem dL_law_548 : decode cL_law 548 = .ok (.lor, 1) := gg599.2.2.2.1
theorem dL_law_549 : decode cL_law 549 = .ok (.invokevirtual 58, 3) := gg599.2.2.2.2.1
theorem dL_law_552 : decode cL_law 552 = .ok (.pop, 1) := gg599.2.2.2.2.2.1
theorem dL_law_553 : decode cL_law 553 = .ok (.aload_n 2, 1) := gg599.2.2.2.2.2.2.1
theorem dL_law_554 : decode cL_law 554 = .ok (.aload_n 0, 1) := gg599.2.2.2.2.2.2.2.1
theorem dL_law_555 : decode cL_law 555 = .ok (.iload_n 3, 1) := gg599.2.2.2.2.2.2.2.2.1
theorem dL_law_556 : decode cL_law 556 = .ok (.iconst 1, 1) := gg599.2.2.2.2.2.2.2.2.2
theorem gg600 : decode cL_law 557 = .ok (.iadd, 1) ∧ decode cL_law 558 = .ok (.iaload, 1) ∧ decode cL_law 559 = .ok (.aload_n 0, 1) ∧ decode cL_law 560 = .ok (.iload_n 3, 1) ∧ decode cL_law 561 = .ok (.iconst 2, 1) ∧ decode cL_law 562 = .ok (.iadd, 1) ∧ decode cL_law 563 = .ok (.iaload, 1) ∧ decode cL_law 564 = .ok (.i2l, 1) ∧ decode cL_law 565 = .ok (.bipush 32, 2) ∧ decode cL_law 567 = .ok (.lshl, 1) := by decide +kernel
theorem dL_law_557 : decode cL_law 557 = .ok (.iadd, 1) := gg600.1
theorem dL_law_558 : decode cL_law 558 = .ok (.iaload, 1) := gg600.2.1
theorem dL_law_559 : decode cL_law 559 = .ok (.aload_n 0, 1) := gg600.2.2.1
theorem dL_law_560 : decode cL_law 560 = .ok (.iload_n 3, 1) := gg600.2.2.2.1
theorem dL_law_561 : decode cL_law 561 = .ok (.iconst 2, 1) := gg600.2.2.2.2.1
theorem dL_law_562 : decode cL_law 562 = .ok (.iadd, 1) := gg600.2.2.2.2.2.1
theorem dL_law_563 : decode cL_law 563 = .ok (.iaload, 1) := gg600.2.2.2.2.2.2.1
theorem dL_law_564 : decode cL_law 564 = .ok (.i2l, 1) := gg600.2.2.2.2.2.2.2.1
theorem dL_law_565 : decode cL_law 565 = .ok (.bipush 32, 2) := gg600.2.2.2.2.2.2.2.2.1
theorem dL_law_567 : decode cL_law 567 = .ok (.lshl, 1) := gg600.2.2.2.2.2.2.2.2.2
theorem gg601 : decode cL_law 568 = .ok (.aload_n 0, 1) ∧ decode cL_law 569 = .ok (.iload_n 3, 1) ∧ decode cL_law 570 = .ok (.iconst 3, 1) ∧ decode cL_law 571 = .ok (.iadd, 1) ∧ decode cL_law 572 = .ok (.iaload, 1) ∧ decode cL_law 573 = .ok (.i2l, 1) ∧ decode cL_law 574 = .ok (.ldc2_w 13, 3) ∧ decode cL_law 577 = .ok (.land, 1) ∧ decode cL_law 578 = .ok (.lor, 1) ∧ decode cL_law 579 = .ok (.invokevirtual 61, 3) := by decide +kernel
theorem dL_law_568 : decode cL_law 568 = .ok (.aload_n 0, 1) := gg601.1
theorem dL_law_569 : decode cL_law 569 = .ok (.iload_n 3, 1) := gg601.2.1
theorem dL_law_570 : decode cL_law 570 = .ok (.iconst 3, 1) := gg601.2.2.1
theorem dL_law_571 : decode cL_law 571 = .ok (.iadd, 1) := gg601.2.2.2.1
theorem dL_law_572 : decode cL_law 572 = .ok (.iaload, 1) := gg601.2.2.2.2.1
theorem dL_law_573 : decode cL_law 573 = .ok (.i2l, 1) := gg601.2.2.2.2.2.1
theorem dL_law_574 : decode cL_law 574 = .ok (.ldc2_w 13, 3) := gg601.2.2.2.2.2.2.1
theorem dL_law_577 : decode cL_law 577 = .ok (.land, 1) := gg601.2.2.2.2.2.2.2.1
theorem dL_law_578 : decode cL_law 578 = .ok (.lor, 1) := gg601.2.2.2.2.2.2.2.2.1
theorem dL_law_579 : decode cL_law 579 = .ok (.invokevirtual 61, 3) := gg601.2.2.2.2.2.2.2.2.2
theorem gg602 : decode cL_law 582 = .ok (.pop, 1) ∧ decode cL_law 583 = .ok (.goto 675, 3) ∧ decode cL_law 586 = .ok (.aload_n 1, 1) ∧ decode cL_law 587 = .ok (.aload_n 0, 1) ∧ decode cL_law 588 = .ok (.iload_n 3, 1) ∧ decode cL_law 589 = .ok (.iconst 1, 1) ∧ decode cL_law 590 = .ok (.iadd, 1) ∧ decode cL_law 591 = .ok (.iaload, 1) ∧ decode cL_law 592 = .ok (.invokevirtual 62, 3) ∧ decode cL_law 595 = .ok (.pop, 1) := by decide +kernel
theorem dL_law_582 : decode cL_law 582 = .ok (.pop, 1) := gg602.1
theorem dL_law_583 : decode cL_law 583 = .ok (.goto 675, 3) := gg602.2.1
theorem dL_law_586 : decode cL_law 586 = .ok (.aload_n 1, 1) := gg602.2.2.1
theorem dL_law_587 : decode cL_law 587 = .ok (.aload_n 0, 1) := gg602.2.2.2.1
theorem dL_law_588 : decode cL_law 588 = .ok (.iload_n 3, 1) := gg602.2.2.2.2.1
theorem dL_law_589 : decode cL_law 589 = .ok (.iconst 1, 1) := gg602.2.2.2.2.2.1
theorem dL_law_590 : decode cL_law 590 = .ok (.iadd, 1) := gg602.2.2.2.2.2.2.1
theorem dL_law_591 : decode cL_law 591 = .ok (.iaload, 1) := gg602.2.2.2.2.2.2.2.1
theorem dL_law_592 : decode cL_law 592 = .ok (.invokevirtual 62, 3) := gg602.2.2.2.2.2.2.2.2.1
theorem dL_law_595 : decode cL_law 595 = .ok (.pop, 1) := gg602.2.2.2.2.2.2.2.2.2
theorem gg603 : decode cL_law 596 = .ok (.aload_n 2, 1) ∧ decode cL_law 597 = .ok (.aload_n 0, 1) ∧ decode cL_law 598 = .ok (.iload_n 3, 1) ∧ decode cL_law 599 = .ok (.iconst 1, 1) ∧ decode cL_law 600 = .ok (.iadd, 1) ∧ decode cL_law 601 = .ok (.iaload, 1) ∧ decode cL_law 602 = .ok (.invokevirtual 65, 3) ∧ decode cL_law 605 = .ok (.pop, 1) ∧ decode cL_law 606 = .ok (.goto 652, 3) ∧ decode cL_law 609 = .ok (.aload_n 1, 1) := by decide +kernel
theorem dL_law_596 : decode cL_law 596 = .ok (.aload_n 2, 1) := gg603.1
theorem dL_law_597 : decode cL_law 597 = .ok (.aload_n 0, 1) := gg603.2.1
theorem dL_law_598 : decode cL_law 598 = .ok (.iload_n 3, 1) := gg603.2.2.1
theorem dL_law_599 : decode cL_law 599 = .ok (.iconst 1, 1) := gg603.2.2.2.1
theorem dL_law_600 : decode cL_law 600 = .ok (.iadd, 1) := gg603.2.2.2.2.1
theorem dL_law_601 : decode cL_law 601 = .ok (.iaload, 1) := gg603.2.2.2.2.2.1
theorem dL_law_602 : decode cL_law 602 = .ok (.invokevirtual 65, 3) := gg603.2.2.2.2.2.2.1
theorem dL_law_605 : decode cL_law 605 = .ok (.pop, 1) := gg603.2.2.2.2.2.2.2.1
theorem dL_law_606 : decode cL_law 606 = .ok (.goto 652, 3) := gg603.2.2.2.2.2.2.2.2.1
theorem dL_law_609 : decode cL_law 609 = .ok (.aload_n 1, 1) := gg603.2.2.2.2.2.2.2.2.2
theorem gg604 : decode cL_law 610 = .ok (.invokevirtual 66, 3) ∧ decode cL_law 613 = .ok (.pop, 1) ∧ decode cL_law 614 = .ok (.aload_n 2, 1) ∧ decode cL_law 615 = .ok (.invokevirtual 69, 3) ∧ decode cL_law 618 = .ok (.pop, 1) ∧ decode cL_law 619 = .ok (.goto 639, 3) ∧ decode cL_law 622 = .ok (.aload_n 1, 1) ∧ decode cL_law 623 = .ok (.aload_n 0, 1) ∧ decode cL_law 624 = .ok (.iload_n 3, 1) ∧ decode cL_law 625 = .ok (.iconst 1, 1) := by decide +kernel
theorem dL_law_610 : decode cL_law 610 = .ok (.invokevirtual 66, 3) := gg604.1
theorem dL_law_613 : decode cL_law 613 = .ok (.pop, 1) := gg604.2.1
theorem dL_law_614 : decode cL_law 614 = .ok (.aload_n 2, 1) := gg604.2.2.1
theorem dL_law_615 : decode cL_law 615 = .ok (.invokevirtual 69, 3) := gg604.2.2.2.1
theorem dL_law_618 : decode cL_law 618 = .ok (.pop, 1) := gg604.2.2.2.2.1
theorem dL_law_619 : decode cL_law 619 = .ok (.goto 639, 3) := gg604.2.2.2.2.2.1
theorem dL_law_622 : decode cL_law 622 = .ok (.aload_n 1, 1) := gg604.2.2.2.2.2.2.1
theorem dL_law_623 : decode cL_law 623 = .ok (.aload_n 0, 1) := gg604.2.2.2.2.2.2.2.1
theorem dL_law_624 : decode cL_law 624 = .ok (.iload_n 3, 1) := gg604.2.2.2.2.2.2.2.2.1
theorem dL_law_625 : decode cL_law 625 = .ok (.iconst 1, 1) := gg604.2.2.2.2.2.2.2.2.2
theorem gg605 : decode cL_law 626 = .ok (.iadd, 1) ∧ decode cL_law 627 = .ok (.iaload, 1) ∧ decode cL_law 628 = .ok (.i2l, 1) ∧ decode cL_law 629 = .ok (.bipush 32, 2) ∧ decode cL_law 631 = .ok (.lshl, 1) ∧ decode cL_law 632 = .ok (.aload_n 0, 1) ∧ decode cL_law 633 = .ok (.iload_n 3, 1) ∧ decode cL_law 634 = .ok (.iconst 2, 1) ∧ decode cL_law 635 = .ok (.iadd, 1) ∧ decode cL_law 636 = .ok (.iaload, 1) := by decide +kernel
theorem dL_law_626 : decode cL_law 626 = .ok (.iadd, 1) := gg605.1
theorem dL_law_627 : decode cL_law 627 = .ok (.iaload, 1) := gg605.2.1
theorem dL_law_628 : decode cL_law 628 = .ok (.i2l, 1) := gg605.2.2.1
theorem dL_law_629 : decode cL_law 629 = .ok (.bipush 32, 2) := gg605.2.2.2.1
theorem dL_law_631 : decode cL_law 631 = .ok (.lshl, 1) := gg605.2.2.2.2.1
theorem dL_law_632 : decode cL_law 632 = .ok (.aload_n 0, 1) := gg605.2.2.2.2.2.1
theorem dL_law_633 : decode cL_law 633 = .ok (.iload_n 3, 1) := gg605.2.2.2.2.2.2.1
theorem dL_law_634 : decode cL_law 634 = .ok (.iconst 2, 1) := gg605.2.2.2.2.2.2.2.1
theorem dL_law_635 : decode cL_law 635 = .ok (.iadd, 1) := gg605.2.2.2.2.2.2.2.2.1
theorem dL_law_636 : decode cL_law 636 = .ok (.iaload, 1) := gg605.2.2.2.2.2.2.2.2.2
theorem gg606 : decode cL_law 637 = .ok (.i2l, 1) ∧ decode cL_law 638 = .ok (.ldc2_w 13, 3) ∧ decode cL_law 641 = .ok (.land, 1) ∧ decode cL_law 642 = .ok (.lor, 1) ∧ decode cL_law 643 = .ok (.aload_n 0, 1) ∧ decode cL_law 644 = .ok (.iload_n 3, 1) ∧ decode cL_law 645 = .ok (.iconst 3, 1) ∧ decode cL_law 646 = .ok (.iadd, 1) ∧ decode cL_law 647 = .ok (.iaload, 1) ∧ decode cL_law 648 = .ok (.invokevirtual 70, 3) := by decide +kernel
theorem dL_law_637 : decode cL_law 637 = .ok (.i2l, 1) := gg606.1
theorem dL_law_638 : decode cL_law 638 = .ok (.ldc2_w 13, 3) := gg606.2.1
theorem dL_law_641 : decode cL_law 641 = .ok (.land, 1) := gg606.2.2.1
theorem dL_law_642 : decode cL_law 642 = .ok (.lor, 1) := gg606.2.2.2.1
theorem dL_law_643 : decode cL_law 643 = .ok (.aload_n 0, 1) := gg606.2.2.2.2.1
theorem dL_law_644 : decode cL_law 644 = .ok (.iload_n 3, 1) := gg606.2.2.2.2.2.1
theorem dL_law_645 : decode cL_law 645 = .ok (.iconst 3, 1) := gg606.2.2.2.2.2.2.1
theorem dL_law_646 : decode cL_law 646 = .ok (.iadd, 1) := gg606.2.2.2.2.2.2.2.1
theorem dL_law_647 : decode cL_law 647 = .ok (.iaload, 1) := gg606.2.2.2.2.2.2.2.2.1
theorem dL_law_648 : decode cL_law 648 = .ok (.invokevirtual 70, 3) := gg606.2.2.2.2.2.2.2.2.2
theorem gg607 : decode cL_law 651 = .ok (.pop2, 1) ∧ decode cL_law 652 = .ok (.aload_n 2, 1) ∧ decode cL_law 653 = .ok (.aload_n 0, 1) ∧ decode cL_law 654 = .ok (.iload_n 3, 1) ∧ decode cL_law 655 = .ok (.iconst 1, 1) ∧ decode cL_law 656 = .ok (.iadd, 1) ∧ decode cL_law 657 = .ok (.iaload, 1) ∧ decode cL_law 658 = .ok (.i2l, 1) ∧ decode cL_law 659 = .ok (.bipush 32, 2) ∧ decode cL_law 661 = .ok (.lshl, 1) := by decide +kernel
theorem dL_law_651 : decode cL_law 651 = .ok (.pop2, 1) := gg607.1
theorem dL_law_652 : decode cL_law 652 = .ok (.aload_n 2, 1) := gg607.2.1
theorem dL_law_653 : decode cL_law 653 = .ok (.aload_n 0, 1) := gg607.2.2.1
theorem dL_law_654 : decode cL_law 654 = .ok (.iload_n 3, 1) := gg607.2.2.2.1
theorem dL_law_655 : decode cL_law 655 = .ok (.iconst 1, 1) := gg607.2.2.2.2.1
theorem dL_law_656 : decode cL_law 656 = .ok (.iadd, 1) := gg607.2.2.2.2.2.1
theorem dL_law_657 : decode cL_law 657 = .ok (.iaload, 1) := gg607.2.2.2.2.2.2.1
theorem dL_law_658 : decode cL_law 658 = .ok (.i2l, 1) := gg607.2.2.2.2.2.2.2.1
theorem dL_law_659 : decode cL_law 659 = .ok (.bipush 32, 2) := gg607.2.2.2.2.2.2.2.2.1
theorem dL_law_661 : decode cL_law 661 = .ok (.lshl, 1) := gg607.2.2.2.2.2.2.2.2.2
theorem gg608 : decode cL_law 662 = .ok (.aload_n 0, 1) ∧ decode cL_law 663 = .ok (.iload_n 3, 1) ∧ decode cL_law 664 = .ok (.iconst 2, 1) ∧ decode cL_law 665 = .ok (.iadd, 1) ∧ decode cL_law 666 = .ok (.iaload, 1) ∧ decode cL_law 667 = .ok (.i2l, 1) ∧ decode cL_law 668 = .ok (.ldc2_w 13, 3) ∧ decode cL_law 671 = .ok (.land, 1) ∧ decode cL_law 672 = .ok (.lor, 1) ∧ decode cL_law 673 = .ok (.aload_n 0, 1) := by decide +kernel
theorem dL_law_662 : decode cL_law 662 = .ok (.aload_n 0, 1) := gg608.1
theorem dL_law_663 : decode cL_law 663 = .ok (.iload_n 3, 1) := gg608.2.1
theorem dL_law_664 : decode cL_law 664 = .ok (.iconst 2, 1) := gg608.2.2.1
theorem dL_law_665 : decode cL_law 665 = .ok (.iadd, 1) := gg608.2.2.2.1
theorem dL_law_666 : decode cL_law 666 = .ok (.iaload, 1) := gg608.2.2.2.2.1
theorem dL_law_667 : decode cL_law 667 = .ok (.i2l, 1) := gg608.2.2.2.2.2.1
theorem dL_law_668 : decode cL_law 668 = .ok (.ldc2_w 13, 3) := gg608.2.2.2.2.2.2.1
theorem dL_law_671 : decode cL_law 671 = .ok (.land, 1) := gg608.2.2.2.2.2.2.2.1
theorem dL_law_672 : decode cL_law 672 = .ok (.lor, 1) := gg608.2.2.2.2.2.2.2.2.1
theorem dL_law_673 : decode cL_law 673 = .ok (.aload_n 0, 1) := gg608.2.2.2.2.2.2.2.2.2
theorem gg609 : decode cL_law 674 = .ok (.iload_n 3, 1) ∧ decode cL_law 675 = .ok (.iconst 3, 1) ∧ decode cL_law 676 = .ok (.iadd, 1) ∧ decode cL_law 677 = .ok (.iaload, 1) ∧ decode cL_law 678 = .ok (.invokevirtual 73, 3) ∧ decode cL_law 681 = .ok (.pop2, 1) ∧ decode cL_law 682 = .ok (.goto 576, 3) ∧ decode cL_law 685 = .ok (.aload_n 1, 1) ∧ decode cL_law 686 = .ok (.aload_n 0, 1) ∧ decode cL_law 687 = .ok (.iload_n 3, 1) := by decide +kernel
theorem dL_law_674 : decode cL_law 674 = .ok (.iload_n 3, 1) := gg609.1
theorem dL_law_675 : decode cL_law 675 = .ok (.iconst 3, 1) := gg609.2.1
theorem dL_law_676 : decode cL_law 676 = .ok (.iadd, 1) := gg609.2.2.1
theorem dL_law_677 : decode cL_law 677 = .ok (.iaload, 1) := gg609.2.2.2.1
theorem dL_law_678 : decode cL_law 678 = .ok (.invokevirtual 73, 3) := gg609.2.2.2.2.1
theorem dL_law_681 : decode cL_law 681 = .ok (.pop2, 1) := gg609.2.2.2.2.2.1
theorem dL_law_682 : decode cL_law 682 = .ok (.goto 576, 3) := gg609.2.2.2.2.2.2.1
theorem dL_law_685 : decode cL_law 685 = .ok (.aload_n 1, 1) := gg609.2.2.2.2.2.2.2.1
theorem dL_law_686 : decode cL_law 686 = .ok (.aload_n 0, 1) := gg609.2.2.2.2.2.2.2.2.1
theorem dL_law_687 : decode cL_law 687 = .ok (.iload_n 3, 1) := gg609.2.2.2.2.2.2.2.2.2
theorem gg610 : decode cL_law 688 = .ok (.iconst 1, 1) ∧ decode cL_law 689 = .ok (.iadd, 1) ∧ decode cL_law 690 = .ok (.iaload, 1) ∧ decode cL_law 691 = .ok (.invokevirtual 74, 3) ∧ decode cL_law 694 = .ok (.pop2, 1) ∧ decode cL_law 695 = .ok (.aload_n 2, 1) ∧ decode cL_law 696 = .ok (.aload_n 0, 1) ∧ decode cL_law 697 = .ok (.iload_n 3, 1) ∧ decode cL_law 698 = .ok (.iconst 1, 1) ∧ decode cL_law 699 = .ok (.iadd, 1) := by decide +kernel
theorem dL_law_688 : decode cL_law 688 = .ok (.iconst 1, 1) := gg610.1
theorem dL_law_689 : decode cL_law 689 = .ok (.iadd, 1) := gg610.2.1
theorem dL_law_690 : decode cL_law 690 = .ok (.iaload, 1) := gg610.2.2.1
theorem dL_law_691 : decode cL_law 691 = .ok (.invokevirtual 74, 3) := gg610.2.2.2.1
theorem dL_law_694 : decode cL_law 694 = .ok (.pop2, 1) := gg610.2.2.2.2.1
theorem dL_law_695 : decode cL_law 695 = .ok (.aload_n 2, 1) := gg610.2.2.2.2.2.1
theorem dL_law_696 : decode cL_law 696 = .ok (.aload_n 0, 1) := gg610.2.2.2.2.2.2.1
theorem dL_law_697 : decode cL_law 697 = .ok (.iload_n 3, 1) := gg610.2.2.2.2.2.2.2.1
theorem dL_law_698 : decode cL_law 698 = .ok (.iconst 1, 1) := gg610.2.2.2.2.2.2.2.2.1
theorem dL_law_699 : decode cL_law 699 = .ok (.iadd, 1) := gg610.2.2.2.2.2.2.2.2.2
theorem gg611 : decode cL_law 700 = .ok (.iaload, 1) ∧ decode cL_law 701 = .ok (.invokevirtual 78, 3) ∧ decode cL_law 704 = .ok (.pop2, 1) ∧ decode cL_law 705 = .ok (.goto 553, 3) ∧ decode cL_law 708 = .ok (.aload_n 1, 1) ∧ decode cL_law 709 = .ok (.aload_n 0, 1) ∧ decode cL_law 710 = .ok (.iload_n 3, 1) ∧ decode cL_law 711 = .ok (.iconst 1, 1) ∧ decode cL_law 712 = .ok (.iadd, 1) ∧ decode cL_law 713 = .ok (.iaload, 1) := by decide +kernel
theorem dL_law_700 : decode cL_law 700 = .ok (.iaload, 1) := gg611.1
theorem dL_law_701 : decode cL_law 701 = .ok (.invokevirtual 78, 3) := gg611.2.1
theorem dL_law_704 : decode cL_law 704 = .ok (.pop2, 1) := gg611.2.2.1
theorem dL_law_705 : decode cL_law 705 = .ok (.goto 553, 3) := gg611.2.2.2.1
theorem dL_law_708 : decode cL_law 708 = .ok (.aload_n 1, 1) := gg611.2.2.2.2.1
theorem dL_law_709 : decode cL_law 709 = .ok (.aload_n 0, 1) := gg611.2.2.2.2.2.1
theorem dL_law_710 : decode cL_law 710 = .ok (.iload_n 3, 1) := gg611.2.2.2.2.2.2.1
theorem dL_law_711 : decode cL_law 711 = .ok (.iconst 1, 1) := gg611.2.2.2.2.2.2.2.1
theorem dL_law_712 : decode cL_law 712 = .ok (.iadd, 1) := gg611.2.2.2.2.2.2.2.2.1
theorem dL_law_713 : decode cL_law 713 = .ok (.iaload, 1) := gg611.2.2.2.2.2.2.2.2.2
theorem gg612 : decode cL_law 714 = .ok (.invokevirtual 79, 3) ∧ decode cL_law 717 = .ok (.pop2, 1) ∧ decode cL_law 718 = .ok (.aload_n 2, 1) ∧ decode cL_law 719 = .ok (.aload_n 0, 1) ∧ decode cL_law 720 = .ok (.iload_n 3, 1) ∧ decode cL_law 721 = .ok (.iconst 1, 1) ∧ decode cL_law 722 = .ok (.iadd, 1) ∧ decode cL_law 723 = .ok (.iaload, 1) ∧ decode cL_law 724 = .ok (.invokevirtual 82, 3) ∧ decode cL_law 727 = .ok (.pop2, 1) := by decide +kernel
theorem dL_law_714 : decode cL_law 714 = .ok (.invokevirtual 79, 3) := gg612.1
theorem dL_law_717 : decode cL_law 717 = .ok (.pop2, 1) := gg612.2.1
theorem dL_law_718 : decode cL_law 718 = .ok (.aload_n 2, 1) := gg612.2.2.1
theorem dL_law_719 : decode cL_law 719 = .ok (.aload_n 0, 1) := gg612.2.2.2.1
theorem dL_law_720 : decode cL_law 720 = .ok (.iload_n 3, 1) := gg612.2.2.2.2.1
theorem dL_law_721 : decode cL_law 721 = .ok (.iconst 1, 1) := gg612.2.2.2.2.2.1
theorem dL_law_722 : decode cL_law 722 = .ok (.iadd, 1) := gg612.2.2.2.2.2.2.1
theorem dL_law_723 : decode cL_law 723 = .ok (.iaload, 1) := gg612.2.2.2.2.2.2.2.1
theorem dL_law_724 : decode cL_law 724 = .ok (.invokevirtual 82, 3) := gg612.2.2.2.2.2.2.2.2.1
theorem dL_law_727 : decode cL_law 727 = .ok (.pop2, 1) := gg612.2.2.2.2.2.2.2.2.2
theorem gg613 : decode cL_law 728 = .ok (.goto 530, 3) ∧ decode cL_law 731 = .ok (.aload_n 1, 1) ∧ decode cL_law 732 = .ok (.aload_n 0, 1) ∧ decode cL_law 733 = .ok (.iload_n 3, 1) ∧ decode cL_law 734 = .ok (.iconst 1, 1) ∧ decode cL_law 735 = .ok (.iadd, 1) ∧ decode cL_law 736 = .ok (.iaload, 1) ∧ decode cL_law 737 = .ok (.aload_n 0, 1) ∧ decode cL_law 738 = .ok (.iload_n 3, 1) ∧ decode cL_law 739 = .ok (.iconst 2, 1) := by decide +kernel
theorem dL_law_728 : decode cL_law 728 = .ok (.goto 530, 3) := gg613.1
theorem dL_law_731 : decode cL_law 731 = .ok (.aload_n 1, 1) := gg613.2.1
theorem dL_law_732 : decode cL_law 732 = .ok (.aload_n 0, 1) := gg613.2.2.1
theorem dL_law_733 : decode cL_law 733 = .ok (.iload_n 3, 1) := gg613.2.2.2.1
theorem dL_law_734 : decode cL_law 734 = .ok (.iconst 1, 1) := gg613.2.2.2.2.1
theorem dL_law_735 : decode cL_law 735 = .ok (.iadd, 1) := gg613.2.2.2.2.2.1
theorem dL_law_736 : decode cL_law 736 = .ok (.iaload, 1) := gg613.2.2.2.2.2.2.1
theorem dL_law_737 : decode cL_law 737 = .ok (.aload_n 0, 1) := gg613.2.2.2.2.2.2.2.1
theorem dL_law_738 : decode cL_law 738 = .ok (.iload_n 3, 1) := gg613.2.2.2.2.2.2.2.2.1
theorem dL_law_739 : decode cL_law 739 = .ok (.iconst 2, 1) := gg613.2.2.2.2.2.2.2.2.2
theorem gg614 : decode cL_law 740 = .ok (.iadd, 1) ∧ decode cL_law 741 = .ok (.iaload, 1) ∧ decode cL_law 742 = .ok (.aload_n 0, 1) ∧ decode cL_law 743 = .ok (.iload_n 3, 1) ∧ decode cL_law 744 = .ok (.iconst 3, 1) ∧ decode cL_law 745 = .ok (.iadd, 1) ∧ decode cL_law 746 = .ok (.iaload, 1) ∧ decode cL_law 747 = .ok (.ifCond .eq 7, 3) ∧ decode cL_law 750 = .ok (.iconst 1, 1) ∧ decode cL_law 751 = .ok (.goto 4, 3) := by decide +kernel
theorem dL_law_740 : decode cL_law 740 = .ok (.iadd, 1) := gg614.1
theorem dL_law_741 : decode cL_law 741 = .ok (.iaload, 1) := gg614.2.1
theorem dL_law_742 : decode cL_law 742 = .ok (.aload_n 0, 1) := gg614.2.2.1
theorem dL_law_743 : decode cL_law 743 = .ok (.iload_n 3, 1) := gg614.2.2.2.1
theorem dL_law_744 : decode cL_law 744 = .ok (.iconst 3, 1) := gg614.2.2.2.2.1
theorem dL_law_745 : decode cL_law 745 = .ok (.iadd, 1) := gg614.2.2.2.2.2.1
theorem dL_law_746 : decode cL_law 746 = .ok (.iaload, 1) := gg614.2.2.2.2.2.2.1
theorem dL_law_747 : decode cL_law 747 = .ok (.ifCond .eq 7, 3) := gg614.2.2.2.2.2.2.2.1
theorem dL_law_750 : decode cL_law 750 = .ok (.iconst 1, 1) := gg614.2.2.2.2.2.2.2.2.1
theorem dL_law_751 : decode cL_law 751 = .ok (.goto 4, 3) := gg614.2.2.2.2.2.2.2.2.2
theorem gg615 : decode cL_law 754 = .ok (.iconst 0, 1) ∧ decode cL_law 755 = .ok (.invokevirtual 83, 3) ∧ decode cL_law 758 = .ok (.pop, 1) ∧ decode cL_law 759 = .ok (.aload_n 2, 1) ∧ decode cL_law 760 = .ok (.aload_n 0, 1) ∧ decode cL_law 761 = .ok (.iload_n 3, 1) ∧ decode cL_law 762 = .ok (.iconst 1, 1) ∧ decode cL_law 763 = .ok (.iadd, 1) ∧ decode cL_law 764 = .ok (.iaload, 1) ∧ decode cL_law 765 = .ok (.aload_n 0, 1) := by decide +kernel
theorem dL_law_754 : decode cL_law 754 = .ok (.iconst 0, 1) := gg615.1
theorem dL_law_755 : decode cL_law 755 = .ok (.invokevirtual 83, 3) := gg615.2.1
theorem dL_law_758 : decode cL_law 758 = .ok (.pop, 1) := gg615.2.2.1
theorem dL_law_759 : decode cL_law 759 = .ok (.aload_n 2, 1) := gg615.2.2.2.1
theorem dL_law_760 : decode cL_law 760 = .ok (.aload_n 0, 1) := gg615.2.2.2.2.1
theorem dL_law_761 : decode cL_law 761 = .ok (.iload_n 3, 1) := gg615.2.2.2.2.2.1
theorem dL_law_762 : decode cL_law 762 = .ok (.iconst 1, 1) := gg615.2.2.2.2.2.2.1
theorem dL_law_763 : decode cL_law 763 = .ok (.iadd, 1) := gg615.2.2.2.2.2.2.2.1
theorem dL_law_764 : decode cL_law 764 = .ok (.iaload, 1) := gg615.2.2.2.2.2.2.2.2.1
theorem dL_law_765 : decode cL_law 765 = .ok (.aload_n 0, 1) := gg615.2.2.2.2.2.2.2.2.2
theorem gg616 : decode cL_law 766 = .ok (.iload_n 3, 1) ∧ decode cL_law 767 = .ok (.iconst 2, 1) ∧ decode cL_law 768 = .ok (.iadd, 1) ∧ decode cL_law 769 = .ok (.iaload, 1) ∧ decode cL_law 770 = .ok (.aload_n 0, 1) ∧ decode cL_law 771 = .ok (.iload_n 3, 1) ∧ decode cL_law 772 = .ok (.iconst 3, 1) ∧ decode cL_law 773 = .ok (.iadd, 1) ∧ decode cL_law 774 = .ok (.iaload, 1) ∧ decode cL_law 775 = .ok (.ifCond .eq 7, 3) := by decide +kernel
theorem dL_law_766 : decode cL_law 766 = .ok (.iload_n 3, 1) := gg616.1
theorem dL_law_767 : decode cL_law 767 = .ok (.iconst 2, 1) := gg616.2.1
theorem dL_law_768 : decode cL_law 768 = .ok (.iadd, 1) := gg616.2.2.1
theorem dL_law_769 : decode cL_law 769 = .ok (.iaload, 1) := gg616.2.2.2.1
theorem dL_law_770 : decode cL_law 770 = .ok (.aload_n 0, 1) := gg616.2.2.2.2.1
theorem dL_law_771 : decode cL_law 771 = .ok (.iload_n 3, 1) := gg616.2.2.2.2.2.1
theorem dL_law_772 : decode cL_law 772 = .ok (.iconst 3, 1) := gg616.2.2.2.2.2.2.1
theorem dL_law_773 : decode cL_law 773 = .ok (.iadd, 1) := gg616.2.2.2.2.2.2.2.1
theorem dL_law_774 : decode cL_law 774 = .ok (.iaload, 1) := gg616.2.2.2.2.2.2.2.2.1
theorem dL_law_775 : decode cL_law 775 = .ok (.ifCond .eq 7, 3) := gg616.2.2.2.2.2.2.2.2.2
theorem gg617 : decode cL_law 778 = .ok (.iconst 1, 1) ∧ decode cL_law 779 = .ok (.goto 4, 3) ∧ decode cL_law 782 = .ok (.iconst 0, 1) ∧ decode cL_law 783 = .ok (.invokevirtual 87, 3) ∧ decode cL_law 786 = .ok (.pop, 1) ∧ decode cL_law 787 = .ok (.goto 471, 3) ∧ decode cL_law 790 = .ok (.aload_n 1, 1) ∧ decode cL_law 791 = .ok (.invokevirtual 88, 3) ∧ decode cL_law 794 = .ok (.pop, 1) ∧ decode cL_law 795 = .ok (.aload_n 2, 1) := by decide +kernel
theorem dL_law_778 : decode cL_law 778 = .ok (.iconst 1, 1) := gg617.1
theorem dL_law_779 : decode cL_law 779 = .ok (.goto 4, 3) := gg617.2.1
theorem dL_law_782 : decode cL_law 782 = .ok (.iconst 0, 1) := gg617.2.2.1
theorem dL_law_783 : decode cL_law 783 = .ok (.invokevirtual 87, 3) := gg617.2.2.2.1
theorem dL_law_786 : decode cL_law 786 = .ok (.pop, 1) := gg617.2.2.2.2.1
theorem dL_law_787 : decode cL_law 787 = .ok (.goto 471, 3) := gg617.2.2.2.2.2.1
theorem dL_law_790 : decode cL_law 790 = .ok (.aload_n 1, 1) := gg617.2.2.2.2.2.2.1
theorem dL_law_791 : decode cL_law 791 = .ok (.invokevirtual 88, 3) := gg617.2.2.2.2.2.2.2.1
theorem dL_law_794 : decode cL_law 794 = .ok (.pop, 1) := gg617.2.2.2.2.2.2.2.2.1
theorem dL_law_795 : decode cL_law 795 = .ok (.aload_n 2, 1) := gg617.2.2.2.2.2.2.2.2.2
theorem gg618 : decode cL_law 796 = .ok (.invokevirtual 91, 3) ∧ decode cL_law 799 = .ok (.pop, 1) ∧ decode cL_law 800 = .ok (.goto 458, 3) ∧ decode cL_law 803 = .ok (.aload_n 1, 1) ∧ decode cL_law 804 = .ok (.aload_n 0, 1) ∧ decode cL_law 805 = .ok (.iload_n 3, 1) ∧ decode cL_law 806 = .ok (.iconst 1, 1) ∧ decode cL_law 807 = .ok (.iadd, 1) ∧ decode cL_law 808 = .ok (.iaload, 1) ∧ decode cL_law 809 = .ok (.invokevirtual 92, 3) := by decide +kernel
theorem dL_law_796 : decode cL_law 796 = .ok (.invokevirtual 91, 3) := gg618.1
theorem dL_law_799 : decode cL_law 799 = .ok (.pop, 1) := gg618.2.1
theorem dL_law_800 : decode cL_law 800 = .ok (.goto 458, 3) := gg618.2.2.1
theorem dL_law_803 : decode cL_law 803 = .ok (.aload_n 1, 1) := gg618.2.2.2.1
theorem dL_law_804 : decode cL_law 804 = .ok (.aload_n 0, 1) := gg618.2.2.2.2.1
theorem dL_law_805 : decode cL_law 805 = .ok (.iload_n 3, 1) := gg618.2.2.2.2.2.1
theorem dL_law_806 : decode cL_law 806 = .ok (.iconst 1, 1) := gg618.2.2.2.2.2.2.1
theorem dL_law_807 : decode cL_law 807 = .ok (.iadd, 1) := gg618.2.2.2.2.2.2.2.1
theorem dL_law_808 : decode cL_law 808 = .ok (.iaload, 1) := gg618.2.2.2.2.2.2.2.2.1
theorem dL_law_809 : decode cL_law 809 = .ok (.invokevirtual 92, 3) := gg618.2.2.2.2.2.2.2.2.2
theorem gg619 : decode cL_law 812 = .ok (.pop, 1) ∧ decode cL_law 813 = .ok (.aload_n 2, 1) ∧ decode cL_law 814 = .ok (.aload_n 0, 1) ∧ decode cL_law 815 = .ok (.iload_n 3, 1) ∧ decode cL_law 816 = .ok (.iconst 1, 1) ∧ decode cL_law 817 = .ok (.iadd, 1) ∧ decode cL_law 818 = .ok (.iaload, 1) ∧ decode cL_law 819 = .ok (.invokevirtual 95, 3) ∧ decode cL_law 822 = .ok (.pop, 1) ∧ decode cL_law 823 = .ok (.goto 435, 3) := by decide +kernel
theorem dL_law_812 : decode cL_law 812 = .ok (.pop, 1) := gg619.1
theorem dL_law_813 : decode cL_law 813 = .ok (.aload_n 2, 1) := gg619.2.1
theorem dL_law_814 : decode cL_law 814 = .ok (.aload_n 0, 1) := gg619.2.2.1
theorem dL_law_815 : decode cL_law 815 = .ok (.iload_n 3, 1) := gg619.2.2.2.1
theorem dL_law_816 : decode cL_law 816 = .ok (.iconst 1, 1) := gg619.2.2.2.2.1
theorem dL_law_817 : decode cL_law 817 = .ok (.iadd, 1) := gg619.2.2.2.2.2.1
theorem dL_law_818 : decode cL_law 818 = .ok (.iaload, 1) := gg619.2.2.2.2.2.2.1
theorem dL_law_819 : decode cL_law 819 = .ok (.invokevirtual 95, 3) := gg619.2.2.2.2.2.2.2.1
theorem dL_law_822 : decode cL_law 822 = .ok (.pop, 1) := gg619.2.2.2.2.2.2.2.2.1
theorem dL_law_823 : decode cL_law 823 = .ok (.goto 435, 3) := gg619.2.2.2.2.2.2.2.2.2
theorem gg620 : decode cL_law 826 = .ok (.aload_n 1, 1) ∧ decode cL_law 827 = .ok (.aload_n 0, 1) ∧ decode cL_law 828 = .ok (.iload_n 3, 1) ∧ decode cL_law 829 = .ok (.iconst 1, 1) ∧ decode cL_law 830 = .ok (.iadd, 1) ∧ decode cL_law 831 = .ok (.iaload, 1) ∧ decode cL_law 832 = .ok (.aload_n 0, 1) ∧ decode cL_law 833 = .ok (.iload_n 3, 1) ∧ decode cL_law 834 = .ok (.iconst 2, 1) ∧ decode cL_law 835 = .ok (.iadd, 1) := by decide +kernel
theorem dL_law_826 : decode cL_law 826 = .ok (.aload_n 1, 1) := gg620.1
theorem dL_law_827 : decode cL_law 827 = .ok (.aload_n 0, 1) := gg620.2.1
theorem dL_law_828 : decode cL_law 828 = .ok (.iload_n 3, 1) := gg620.2.2.1
theorem dL_law_829 : decode cL_law 829 = .ok (.iconst 1, 1) := gg620.2.2.2.1
theorem dL_law_830 : decode cL_law 830 = .ok (.iadd, 1) := gg620.2.2.2.2.1
theorem dL_law_831 : decode cL_law 831 = .ok (.iaload, 1) := gg620.2.2.2.2.2.1
theorem dL_law_832 : decode cL_law 832 = .ok (.aload_n 0, 1) := gg620.2.2.2.2.2.2.1
theorem dL_law_833 : decode cL_law 833 = .ok (.iload_n 3, 1) := gg620.2.2.2.2.2.2.2.1
theorem dL_law_834 : decode cL_law 834 = .ok (.iconst 2, 1) := gg620.2.2.2.2.2.2.2.2.1
theorem dL_law_835 : decode cL_law 835 = .ok (.iadd, 1) := gg620.2.2.2.2.2.2.2.2.2
theorem gg621 : decode cL_law 836 = .ok (.iaload, 1) ∧ decode cL_law 837 = .ok (.aload_n 0, 1) ∧ decode cL_law 838 = .ok (.iload_n 3, 1) ∧ decode cL_law 839 = .ok (.iconst 3, 1) ∧ decode cL_law 840 = .ok (.iadd, 1) ∧ decode cL_law 841 = .ok (.iaload, 1) ∧ decode cL_law 842 = .ok (.invokevirtual 96, 3) ∧ decode cL_law 845 = .ok (.pop, 1) ∧ decode cL_law 846 = .ok (.aload_n 2, 1) ∧ decode cL_law 847 = .ok (.aload_n 0, 1) := by decide +kernel
theorem dL_law_836 : decode cL_law 836 = .ok (.iaload, 1) := gg621.1
theorem dL_law_837 : decode cL_law 837 = .ok (.aload_n 0, 1) := gg621.2.1
theorem dL_law_838 : decode cL_law 838 = .ok (.iload_n 3, 1) := gg621.2.2.1
theorem dL_law_839 : decode cL_law 839 = .ok (.iconst 3, 1) := gg621.2.2.2.1
theorem dL_law_840 : decode cL_law 840 = .ok (.iadd, 1) := gg621.2.2.2.2.1
theorem dL_law_841 : decode cL_law 841 = .ok (.iaload, 1) := gg621.2.2.2.2.2.1
theorem dL_law_842 : decode cL_law 842 = .ok (.invokevirtual 96, 3) := gg621.2.2.2.2.2.2.1
theorem dL_law_845 : decode cL_law 845 = .ok (.pop, 1) := gg621.2.2.2.2.2.2.2.1
theorem dL_law_846 : decode cL_law 846 = .ok (.aload_n 2, 1) := gg621.2.2.2.2.2.2.2.2.1
theorem dL_law_847 : decode cL_law 847 = .ok (.aload_n 0, 1) := gg621.2.2.2.2.2.2.2.2.2
theorem gg622 : decode cL_law 848 = .ok (.iload_n 3, 1) ∧ decode cL_law 849 = .ok (.iconst 1, 1) ∧ decode cL_law 850 = .ok (.iadd, 1) ∧ decode cL_law 851 = .ok (.iaload, 1) ∧ decode cL_law 852 = .ok (.aload_n 0, 1) ∧ decode cL_law 853 = .ok (.iload_n 3, 1) ∧ decode cL_law 854 = .ok (.iconst 2, 1) ∧ decode cL_law 855 = .ok (.iadd, 1) ∧ decode cL_law 856 = .ok (.iaload, 1) ∧ decode cL_law 857 = .ok (.aload_n 0, 1) := by decide +kernel
theorem dL_law_848 : decode cL_law 848 = .ok (.iload_n 3, 1) := gg622.1
theorem dL_law_849 : decode cL_law 849 = .ok (.iconst 1, 1) := gg622.2.1
theorem dL_law_850 : decode cL_law 850 = .ok (.iadd, 1) := gg622.2.2.1
theorem dL_law_851 : decode cL_law 851 = .ok (.iaload, 1) := gg622.2.2.2.1
theorem dL_law_852 : decode cL_law 852 = .ok (.aload_n 0, 1) := gg622.2.2.2.2.1
theorem dL_law_853 : decode cL_law 853 = .ok (.iload_n 3, 1) := gg622.2.2.2.2.2.1
theorem dL_law_854 : decode cL_law 854 = .ok (.iconst 2, 1) := gg622.2.2.2.2.2.2.1
theorem dL_law_855 : decode cL_law 855 = .ok (.iadd, 1) := gg622.2.2.2.2.2.2.2.1
theorem dL_law_856 : decode cL_law 856 = .ok (.iaload, 1) := gg622.2.2.2.2.2.2.2.2.1
theorem dL_law_857 : decode cL_law 857 = .ok (.aload_n 0, 1) := gg622.2.2.2.2.2.2.2.2.2
theorem gg623 : decode cL_law 858 = .ok (.iload_n 3, 1) ∧ decode cL_law 859 = .ok (.iconst 3, 1) ∧ decode cL_law 860 = .ok (.iadd, 1) ∧ decode cL_law 861 = .ok (.iaload, 1) ∧ decode cL_law 862 = .ok (.invokevirtual 100, 3) ∧ decode cL_law 865 = .ok (.pop, 1) ∧ decode cL_law 866 = .ok (.goto 392, 3) ∧ decode cL_law 869 = .ok (.aload_n 1, 1) ∧ decode cL_law 870 = .ok (.aload_n 0, 1) ∧ decode cL_law 871 = .ok (.iload_n 3, 1) := by decide +kernel
theorem dL_law_858 : decode cL_law 858 = .ok (.iload_n 3, 1) := gg623.1
theorem dL_law_859 : decode cL_law 859 = .ok (.iconst 3, 1) := gg623.2.1
theorem dL_law_860 : decode cL_law 860 = .ok (.iadd, 1) := gg623.2.2.1
theorem dL_law_861 : decode cL_law 861 = .ok (.iaload, 1) := gg623.2.2.2.1
theorem dL_law_862 : decode cL_law 862 = .ok (.invokevirtual 100, 3) := gg623.2.2.2.2.1
theorem dL_law_865 : decode cL_law 865 = .ok (.pop, 1) := gg623.2.2.2.2.2.1
theorem dL_law_866 : decode cL_law 866 = .ok (.goto 392, 3) := gg623.2.2.2.2.2.2.1
theorem dL_law_869 : decode cL_law 869 = .ok (.aload_n 1, 1) := gg623.2.2.2.2.2.2.2.1
theorem dL_law_870 : decode cL_law 870 = .ok (.aload_n 0, 1) := gg623.2.2.2.2.2.2.2.2.1
theorem dL_law_871 : decode cL_law 871 = .ok (.iload_n 3, 1) := gg623.2.2.2.2.2.2.2.2.2
theorem gg624 : decode cL_law 872 = .ok (.iconst 1, 1) ∧ decode cL_law 873 = .ok (.iadd, 1) ∧ decode cL_law 874 = .ok (.iaload, 1) ∧ decode cL_law 875 = .ok (.invokevirtual 101, 3) ∧ decode cL_law 878 = .ok (.pop, 1) ∧ decode cL_law 879 = .ok (.aload_n 2, 1) ∧ decode cL_law 880 = .ok (.aload_n 0, 1) ∧ decode cL_law 881 = .ok (.iload_n 3, 1) ∧ decode cL_law 882 = .ok (.iconst 1, 1) ∧ decode cL_law 883 = .ok (.iadd, 1) := by decide +kernel
theorem dL_law_872 : decode cL_law 872 = .ok (.iconst 1, 1) := gg624.1
theorem dL_law_873 : decode cL_law 873 = .ok (.iadd, 1) := gg624.2.1
theorem dL_law_874 : decode cL_law 874 = .ok (.iaload, 1) := gg624.2.2.1
theorem dL_law_875 : decode cL_law 875 = .ok (.invokevirtual 101, 3) := gg624.2.2.2.1
theorem dL_law_878 : decode cL_law 878 = .ok (.pop, 1) := gg624.2.2.2.2.1
theorem dL_law_879 : decode cL_law 879 = .ok (.aload_n 2, 1) := gg624.2.2.2.2.2.1
theorem dL_law_880 : decode cL_law 880 = .ok (.aload_n 0, 1) := gg624.2.2.2.2.2.2.1
theorem dL_law_881 : decode cL_law 881 = .ok (.iload_n 3, 1) := gg624.2.2.2.2.2.2.2.1
theorem dL_law_882 : decode cL_law 882 = .ok (.iconst 1, 1) := gg624.2.2.2.2.2.2.2.2.1
theorem dL_law_883 : decode cL_law 883 = .ok (.iadd, 1) := gg624.2.2.2.2.2.2.2.2.2
theorem gg625 : decode cL_law 884 = .ok (.iaload, 1) ∧ decode cL_law 885 = .ok (.invokevirtual 104, 3) ∧ decode cL_law 888 = .ok (.pop, 1) ∧ decode cL_law 889 = .ok (.goto 369, 3) ∧ decode cL_law 892 = .ok (.aload_n 1, 1) ∧ decode cL_law 893 = .ok (.aload_n 0, 1) ∧ decode cL_law 894 = .ok (.iload_n 3, 1) ∧ decode cL_law 895 = .ok (.iconst 1, 1) ∧ decode cL_law 896 = .ok (.iadd, 1) ∧ decode cL_law 897 = .ok (.iaload, 1) := by decide +kernel
theorem dL_law_884 : decode cL_law 884 = .ok (.iaload, 1) := gg625.1
theorem dL_law_885 : decode cL_law 885 = .ok (.invokevirtual 104, 3) := gg625.2.1
theorem dL_law_888 : decode cL_law 888 = .ok (.pop, 1) := gg625.2.2.1
theorem dL_law_889 : decode cL_law 889 = .ok (.goto 369, 3) := gg625.2.2.2.1
theorem dL_law_892 : decode cL_law 892 = .ok (.aload_n 1, 1) := gg625.2.2.2.2.1
theorem dL_law_893 : decode cL_law 893 = .ok (.aload_n 0, 1) := gg625.2.2.2.2.2.1
theorem dL_law_894 : decode cL_law 894 = .ok (.iload_n 3, 1) := gg625.2.2.2.2.2.2.1
theorem dL_law_895 : decode cL_law 895 = .ok (.iconst 1, 1) := gg625.2.2.2.2.2.2.2.1
theorem dL_law_896 : decode cL_law 896 = .ok (.iadd, 1) := gg625.2.2.2.2.2.2.2.2.1
theorem dL_law_897 : decode cL_law 897 = .ok (.iaload, 1) := gg625.2.2.2.2.2.2.2.2.2
theorem gg626 : decode cL_law 898 = .ok (.invokevirtual 105, 3) ∧ decode cL_law 901 = .ok (.pop, 1) ∧ decode cL_law 902 = .ok (.aload_n 2, 1) ∧ decode cL_law 903 = .ok (.aload_n 0, 1) ∧ decode cL_law 904 = .ok (.iload_n 3, 1) ∧ decode cL_law 905 = .ok (.iconst 1, 1) ∧ decode cL_law 906 = .ok (.iadd, 1) ∧ decode cL_law 907 = .ok (.iaload, 1) ∧ decode cL_law 908 = .ok (.invokevirtual 108, 3) ∧ decode cL_law 911 = .ok (.pop, 1) := by decide +kernel
theorem dL_law_898 : decode cL_law 898 = .ok (.invokevirtual 105, 3) := gg626.1
theorem dL_law_901 : decode cL_law 901 = .ok (.pop, 1) := gg626.2.1
theorem dL_law_902 : decode cL_law 902 = .ok (.aload_n 2, 1) := gg626.2.2.1
theorem dL_law_903 : decode cL_law 903 = .ok (.aload_n 0, 1) := gg626.2.2.2.1
theorem dL_law_904 : decode cL_law 904 = .ok (.iload_n 3, 1) := gg626.2.2.2.2.1
theorem dL_law_905 : decode cL_law 905 = .ok (.iconst 1, 1) := gg626.2.2.2.2.2.1
theorem dL_law_906 : decode cL_law 906 = .ok (.iadd, 1) := gg626.2.2.2.2.2.2.1
theorem dL_law_907 : decode cL_law 907 = .ok (.iaload, 1) := gg626.2.2.2.2.2.2.2.1
theorem dL_law_908 : decode cL_law 908 = .ok (.invokevirtual 108, 3) := gg626.2.2.2.2.2.2.2.2.1
theorem dL_law_911 : decode cL_law 911 = .ok (.pop, 1) := gg626.2.2.2.2.2.2.2.2.2
theorem gg627 : decode cL_law 912 = .ok (.goto 346, 3) ∧ decode cL_law 915 = .ok (.aload_n 1, 1) ∧ decode cL_law 916 = .ok (.aload_n 0, 1) ∧ decode cL_law 917 = .ok (.iload_n 3, 1) ∧ decode cL_law 918 = .ok (.iconst 1, 1) ∧ decode cL_law 919 = .ok (.iadd, 1) ∧ decode cL_law 920 = .ok (.iaload, 1) ∧ decode cL_law 921 = .ok (.invokevirtual 109, 3) ∧ decode cL_law 924 = .ok (.pop, 1) ∧ decode cL_law 925 = .ok (.aload_n 2, 1) := by decide +kernel
theorem dL_law_912 : decode cL_law 912 = .ok (.goto 346, 3) := gg627.1
theorem dL_law_915 : decode cL_law 915 = .ok (.aload_n 1, 1) := gg627.2.1
theorem dL_law_916 : decode cL_law 916 = .ok (.aload_n 0, 1) := gg627.2.2.1
theorem dL_law_917 : decode cL_law 917 = .ok (.iload_n 3, 1) := gg627.2.2.2.1
theorem dL_law_918 : decode cL_law 918 = .ok (.iconst 1, 1) := gg627.2.2.2.2.1
theorem dL_law_919 : decode cL_law 919 = .ok (.iadd, 1) := gg627.2.2.2.2.2.1
theorem dL_law_920 : decode cL_law 920 = .ok (.iaload, 1) := gg627.2.2.2.2.2.2.1
theorem dL_law_921 : decode cL_law 921 = .ok (.invokevirtual 109, 3) := gg627.2.2.2.2.2.2.2.1
theorem dL_law_924 : decode cL_law 924 = .ok (.pop, 1) := gg627.2.2.2.2.2.2.2.2.1
theorem dL_law_925 : decode cL_law 925 = .ok (.aload_n 2, 1) := gg627.2.2.2.2.2.2.2.2.2
theorem gg628 : decode cL_law 926 = .ok (.aload_n 0, 1) ∧ decode cL_law 927 = .ok (.iload_n 3, 1) ∧ decode cL_law 928 = .ok (.iconst 1, 1) ∧ decode cL_law 929 = .ok (.iadd, 1) ∧ decode cL_law 930 = .ok (.iaload, 1) ∧ decode cL_law 931 = .ok (.invokevirtual 112, 3) ∧ decode cL_law 934 = .ok (.pop, 1) ∧ decode cL_law 935 = .ok (.goto 323, 3) ∧ decode cL_law 938 = .ok (.aload_n 1, 1) ∧ decode cL_law 939 = .ok (.aload_n 0, 1) := by decide +kernel
theorem dL_law_926 : decode cL_law 926 = .ok (.aload_n 0, 1) := gg628.1
theorem dL_law_927 : decode cL_law 927 = .ok (.iload_n 3, 1) := gg628.2.1
theorem dL_law_928 : decode cL_law 928 = .ok (.iconst 1, 1) := gg628.2.2.1
theorem dL_law_929 : decode cL_law 929 = .ok (.iadd, 1) := gg628.2.2.2.1
theorem dL_law_930 : decode cL_law 930 = .ok (.iaload, 1) := gg628.2.2.2.2.1
theorem dL_law_931 : decode cL_law 931 = .ok (.invokevirtual 112, 3) := gg628.2.2.2.2.2.1
theorem dL_law_934 : decode cL_law 934 = .ok (.pop, 1) := gg628.2.2.2.2.2.2.1
theorem dL_law_935 : decode cL_law 935 = .ok (.goto 323, 3) := gg628.2.2.2.2.2.2.2.1
theorem dL_law_938 : decode cL_law 938 = .ok (.aload_n 1, 1) := gg628.2.2.2.2.2.2.2.2.1
theorem dL_law_939 : decode cL_law 939 = .ok (.aload_n 0, 1) := gg628.2.2.2.2.2.2.2.2.2
theorem gg629 : decode cL_law 940 = .ok (.iload_n 3, 1) ∧ decode cL_law 941 = .ok (.iconst 1, 1) ∧ decode cL_law 942 = .ok (.iadd, 1) ∧ decode cL_law 943 = .ok (.iaload, 1) ∧ decode cL_law 944 = .ok (.aload_n 0, 1) ∧ decode cL_law 945 = .ok (.iload_n 3, 1) ∧ decode cL_law 946 = .ok (.iconst 2, 1) ∧ decode cL_law 947 = .ok (.iadd, 1) ∧ decode cL_law 948 = .ok (.iaload, 1) ∧ decode cL_law 949 = .ok (.aload_n 0, 1) := by decide +kernel
theorem dL_law_940 : decode cL_law 940 = .ok (.iload_n 3, 1) := gg629.1
theorem dL_law_941 : decode cL_law 941 = .ok (.iconst 1, 1) := gg629.2.1
theorem dL_law_942 : decode cL_law 942 = .ok (.iadd, 1) := gg629.2.2.1
theorem dL_law_943 : decode cL_law 943 = .ok (.iaload, 1) := gg629.2.2.2.1
theorem dL_law_944 : decode cL_law 944 = .ok (.aload_n 0, 1) := gg629.2.2.2.2.1
theorem dL_law_945 : decode cL_law 945 = .ok (.iload_n 3, 1) := gg629.2.2.2.2.2.1
theorem dL_law_946 : decode cL_law 946 = .ok (.iconst 2, 1) := gg629.2.2.2.2.2.2.1
theorem dL_law_947 : decode cL_law 947 = .ok (.iadd, 1) := gg629.2.2.2.2.2.2.2.1
theorem dL_law_948 : decode cL_law 948 = .ok (.iaload, 1) := gg629.2.2.2.2.2.2.2.2.1
theorem dL_law_949 : decode cL_law 949 = .ok (.aload_n 0, 1) := gg629.2.2.2.2.2.2.2.2.2
theorem gg630 : decode cL_law 950 = .ok (.iload_n 3, 1) ∧ decode cL_law 951 = .ok (.iconst 3, 1) ∧ decode cL_law 952 = .ok (.iadd, 1) ∧ decode cL_law 953 = .ok (.iaload, 1) ∧ decode cL_law 954 = .ok (.i2l, 1) ∧ decode cL_law 955 = .ok (.bipush 32, 2) ∧ decode cL_law 957 = .ok (.lshl, 1) ∧ decode cL_law 958 = .ok (.aload_n 0, 1) ∧ decode cL_law 959 = .ok (.iload_n 3, 1) ∧ decode cL_law 960 = .ok (.iconst 4, 1) := by decide +kernel
theorem dL_law_950 : decode cL_law 950 = .ok (.iload_n 3, 1) := gg630.1
theorem dL_law_951 : decode cL_law 951 = .ok (.iconst 3, 1) := gg630.2.1
theorem dL_law_952 : decode cL_law 952 = .ok (.iadd, 1) := gg630.2.2.1
theorem dL_law_953 : decode cL_law 953 = .ok (.iaload, 1) := gg630.2.2.2.1
theorem dL_law_954 : decode cL_law 954 = .ok (.i2l, 1) := gg630.2.2.2.2.1
theorem dL_law_955 : decode cL_law 955 = .ok (.bipush 32, 2) := gg630.2.2.2.2.2.1
theorem dL_law_957 : decode cL_law 957 = .ok (.lshl, 1) := gg630.2.2.2.2.2.2.1
theorem dL_law_958 : decode cL_law 958 = .ok (.aload_n 0, 1) := gg630.2.2.2.2.2.2.2.1
theorem dL_law_959 : decode cL_law 959 = .ok (.iload_n 3, 1) := gg630.2.2.2.2.2.2.2.2.1
theorem dL_law_960 : decode cL_law 960 = .ok (.iconst 4, 1) := gg630.2.2.2.2.2.2.2.2.2
theorem gg631 : decode cL_law 961 = .ok (.iadd, 1) ∧ decode cL_law 962 = .ok (.iaload, 1) ∧ decode cL_law 963 = .ok (.i2l, 1) ∧ decode cL_law 964 = .ok (.ldc2_w 13, 3) ∧ decode cL_law 967 = .ok (.land, 1) ∧ decode cL_law 968 = .ok (.lor, 1) ∧ decode cL_law 969 = .ok (.invokevirtual 113, 3) ∧ decode cL_law 972 = .ok (.pop2, 1) ∧ decode cL_law 973 = .ok (.aload_n 2, 1) ∧ decode cL_law 974 = .ok (.aload_n 0, 1) := by decide +kernel
theorem dL_law_961 : decode cL_law 961 = .ok (.iadd, 1) := gg631.1
theorem dL_law_962 : decode cL_law 962 = .ok (.iaload, 1) := gg631.2.1
theorem dL_law_963 : decode cL_law 963 = .ok (.i2l, 1) := gg631.2.2.1
theorem dL_law_964 : decode cL_law 964 = .ok (.ldc2_w 13, 3) := gg631.2.2.2.1
theorem dL_law_967 : decode cL_law 967 = .ok (.land, 1) := gg631.2.2.2.2.1
theorem dL_law_968 : decode cL_law 968 = .ok (.lor, 1) := gg631.2.2.2.2.2.1
theorem dL_law_969 : decode cL_law 969 = .ok (.invokevirtual 113, 3) := gg631.2.2.2.2.2.2.1
theorem dL_law_972 : decode cL_law 972 = .ok (.pop2, 1) := gg631.2.2.2.2.2.2.2.1
theorem dL_law_973 : decode cL_law 973 = .ok (.aload_n 2, 1) := gg631.2.2.2.2.2.2.2.2.1
theorem dL_law_974 : decode cL_law 974 = .ok (.aload_n 0, 1) := gg631.2.2.2.2.2.2.2.2.2
theorem gg632 : decode cL_law 975 = .ok (.iload_n 3, 1) ∧ decode cL_law 976 = .ok (.iconst 1, 1) ∧ decode cL_law 977 = .ok (.iadd, 1) ∧ decode cL_law 978 = .ok (.iaload, 1) ∧ decode cL_law 979 = .ok (.aload_n 0, 1) ∧ decode cL_law 980 = .ok (.iload_n 3, 1) ∧ decode cL_law 981 = .ok (.iconst 2, 1) ∧ decode cL_law 982 = .ok (.iadd, 1) ∧ decode cL_law 983 = .ok (.iaload, 1) ∧ decode cL_law 984 = .ok (.aload_n 0, 1) := by decide +kernel
theorem dL_law_975 : decode cL_law 975 = .ok (.iload_n 3, 1) := gg632.1
theorem dL_law_976 : decode cL_law 976 = .ok (.iconst 1, 1) := gg632.2.1
theorem dL_law_977 : decode cL_law 977 = .ok (.iadd, 1) := gg632.2.2.1
theorem dL_law_978 : decode cL_law 978 = .ok (.iaload, 1) := gg632.2.2.2.1
theorem dL_law_979 : decode cL_law 979 = .ok (.aload_n 0, 1) := gg632.2.2.2.2.1
theorem dL_law_980 : decode cL_law 980 = .ok (.iload_n 3, 1) := gg632.2.2.2.2.2.1
theorem dL_law_981 : decode cL_law 981 = .ok (.iconst 2, 1) := gg632.2.2.2.2.2.2.1
theorem dL_law_982 : decode cL_law 982 = .ok (.iadd, 1) := gg632.2.2.2.2.2.2.2.1
theorem dL_law_983 : decode cL_law 983 = .ok (.iaload, 1) := gg632.2.2.2.2.2.2.2.2.1
theorem dL_law_984 : decode cL_law 984 = .ok (.aload_n 0, 1) := gg632.2.2.2.2.2.2.2.2.2
theorem gg633 : decode cL_law 985 = .ok (.iload_n 3, 1) ∧ decode cL_law 986 = .ok (.iconst 3, 1) ∧ decode cL_law 987 = .ok (.iadd, 1) ∧ decode cL_law 988 = .ok (.iaload, 1) ∧ decode cL_law 989 = .ok (.i2l, 1) ∧ decode cL_law 990 = .ok (.bipush 32, 2) ∧ decode cL_law 992 = .ok (.lshl, 1) ∧ decode cL_law 993 = .ok (.aload_n 0, 1) ∧ decode cL_law 994 = .ok (.iload_n 3, 1) ∧ decode cL_law 995 = .ok (.iconst 4, 1) := by decide +kernel
theorem dL_law_985 : decode cL_law 985 = .ok (.iload_n 3, 1) := gg633.1
theorem dL_law_986 : decode cL_law 986 = .ok (.iconst 3, 1) := gg633.2.1
theorem dL_law_987 : decode cL_law 987 = .ok (.iadd, 1) := gg633.2.2.1
theorem dL_law_988 : decode cL_law 988 = .ok (.iaload, 1) := gg633.2.2.2.1
theorem dL_law_989 : decode cL_law 989 = .ok (.i2l, 1) := gg633.2.2.2.2.1
theorem dL_law_990 : decode cL_law 990 = .ok (.bipush 32, 2) := gg633.2.2.2.2.2.1
theorem dL_law_992 : decode cL_law 992 = .ok (.lshl, 1) := gg633.2.2.2.2.2.2.1
theorem dL_law_993 : decode cL_law 993 = .ok (.aload_n 0, 1) := gg633.2.2.2.2.2.2.2.1
theorem dL_law_994 : decode cL_law 994 = .ok (.iload_n 3, 1) := gg633.2.2.2.2.2.2.2.2.1
theorem dL_law_995 : decode cL_law 995 = .ok (.iconst 4, 1) := gg633.2.2.2.2.2.2.2.2.2
theorem gg634 : decode cL_law 996 = .ok (.iadd, 1) ∧ decode cL_law 997 = .ok (.iaload, 1) ∧ decode cL_law 998 = .ok (.i2l, 1) ∧ decode cL_law 999 = .ok (.ldc2_w 13, 3) ∧ decode cL_law 1002 = .ok (.land, 1) ∧ decode cL_law 1003 = .ok (.lor, 1) ∧ decode cL_law 1004 = .ok (.invokevirtual 117, 3) ∧ decode cL_law 1007 = .ok (.pop2, 1) ∧ decode cL_law 1008 = .ok (.goto 250, 3) ∧ decode cL_law 1011 = .ok (.aload_n 1, 1) := by decide +kernel
theorem dL_law_996 : decode cL_law 996 = .ok (.iadd, 1) := gg634.1
theorem dL_law_997 : decode cL_law 997 = .ok (.iaload, 1) := gg634.2.1
theorem dL_law_998 : decode cL_law 998 = .ok (.i2l, 1) := gg634.2.2.1
theorem dL_law_999 : decode cL_law 999 = .ok (.ldc2_w 13, 3) := gg634.2.2.2.1
theorem dL_law_1002 : decode cL_law 1002 = .ok (.land, 1) := gg634.2.2.2.2.1
theorem dL_law_1003 : decode cL_law 1003 = .ok (.lor, 1) := gg634.2.2.2.2.2.1
theorem dL_law_1004 : decode cL_law 1004 = .ok (.invokevirtual 117, 3) := gg634.2.2.2.2.2.2.1
theorem dL_law_1007 : decode cL_law 1007 = .ok (.pop2, 1) := gg634.2.2.2.2.2.2.2.1
theorem dL_law_1008 : decode cL_law 1008 = .ok (.goto 250, 3) := gg634.2.2.2.2.2.2.2.2.1
theorem dL_law_1011 : decode cL_law 1011 = .ok (.aload_n 1, 1) := gg634.2.2.2.2.2.2.2.2.2
theorem gg635 : decode cL_law 1012 = .ok (.aload_n 0, 1) ∧ decode cL_law 1013 = .ok (.iload_n 3, 1) ∧ decode cL_law 1014 = .ok (.iconst 1, 1) ∧ decode cL_law 1015 = .ok (.iadd, 1) ∧ decode cL_law 1016 = .ok (.iaload, 1) ∧ decode cL_law 1017 = .ok (.aload_n 0, 1) ∧ decode cL_law 1018 = .ok (.iload_n 3, 1) ∧ decode cL_law 1019 = .ok (.iconst 2, 1) ∧ decode cL_law 1020 = .ok (.iadd, 1) ∧ decode cL_law 1021 = .ok (.iaload, 1) := by decide +kernel
theorem dL_law_1012 : decode cL_law 1012 = .ok (.aload_n 0, 1) := gg635.1
theorem dL_law_1013 : decode cL_law 1013 = .ok (.iload_n 3, 1) := gg635.2.1
theorem dL_law_1014 : decode cL_law 1014 = .ok (.iconst 1, 1) := gg635.2.2.1
theorem dL_law_1015 : decode cL_law 1015 = .ok (.iadd, 1) := gg635.2.2.2.1
theorem dL_law_1016 : decode cL_law 1016 = .ok (.iaload, 1) := gg635.2.2.2.2.1
theorem dL_law_1017 : decode cL_law 1017 = .ok (.aload_n 0, 1) := gg635.2.2.2.2.2.1
theorem dL_law_1018 : decode cL_law 1018 = .ok (.iload_n 3, 1) := gg635.2.2.2.2.2.2.1
theorem dL_law_1019 : decode cL_law 1019 = .ok (.iconst 2, 1) := gg635.2.2.2.2.2.2.2.1
theorem dL_law_1020 : decode cL_law 1020 = .ok (.iadd, 1) := gg635.2.2.2.2.2.2.2.2.1
theorem dL_law_1021 : decode cL_law 1021 = .ok (.iaload, 1) := gg635.2.2.2.2.2.2.2.2.2
theorem gg636 : decode cL_law 1022 = .ok (.invokevirtual 118, 3) ∧ decode cL_law 1025 = .ok (.pop, 1) ∧ decode cL_law 1026 = .ok (.aload_n 2, 1) ∧ decode cL_law 1027 = .ok (.aload_n 0, 1) ∧ decode cL_law 1028 = .ok (.iload_n 3, 1) ∧ decode cL_law 1029 = .ok (.iconst 1, 1) ∧ decode cL_law 1030 = .ok (.iadd, 1) ∧ decode cL_law 1031 = .ok (.iaload, 1) ∧ decode cL_law 1032 = .ok (.aload_n 0, 1) ∧ decode cL_law 1033 = .ok (.iload_n 3, 1) := by decide +kernel
theorem dL_law_1022 : decode cL_law 1022 = .ok (.invokevirtual 118, 3) := gg636.1
theorem dL_law_1025 : decode cL_law 1025 = .ok (.pop, 1) := gg636.2.1
theorem dL_law_1026 : decode cL_law 1026 = .ok (.aload_n 2, 1) := gg636.2.2.1
theorem dL_law_1027 : decode cL_law 1027 = .ok (.aload_n 0, 1) := gg636.2.2.2.1
theorem dL_law_1028 : decode cL_law 1028 = .ok (.iload_n 3, 1) := gg636.2.2.2.2.1
theorem dL_law_1029 : decode cL_law 1029 = .ok (.iconst 1, 1) := gg636.2.2.2.2.2.1
theorem dL_law_1030 : decode cL_law 1030 = .ok (.iadd, 1) := gg636.2.2.2.2.2.2.1
theorem dL_law_1031 : decode cL_law 1031 = .ok (.iaload, 1) := gg636.2.2.2.2.2.2.2.1
theorem dL_law_1032 : decode cL_law 1032 = .ok (.aload_n 0, 1) := gg636.2.2.2.2.2.2.2.2.1
theorem dL_law_1033 : decode cL_law 1033 = .ok (.iload_n 3, 1) := gg636.2.2.2.2.2.2.2.2.2
theorem gg637 : decode cL_law 1034 = .ok (.iconst 2, 1) ∧ decode cL_law 1035 = .ok (.iadd, 1) ∧ decode cL_law 1036 = .ok (.iaload, 1) ∧ decode cL_law 1037 = .ok (.invokevirtual 121, 3) ∧ decode cL_law 1040 = .ok (.pop, 1) ∧ decode cL_law 1041 = .ok (.goto 217, 3) ∧ decode cL_law 1044 = .ok (.aload_n 1, 1) ∧ decode cL_law 1045 = .ok (.invokevirtual 122, 3) ∧ decode cL_law 1048 = .ok (.pop, 1) ∧ decode cL_law 1049 = .ok (.aload_n 2, 1) := by decide +kernel
theorem dL_law_1034 : decode cL_law 1034 = .ok (.iconst 2, 1) := gg637.1
theorem dL_law_1035 : decode cL_law 1035 = .ok (.iadd, 1) := gg637.2.1
theorem dL_law_1036 : decode cL_law 1036 = .ok (.iaload, 1) := gg637.2.2.1
theorem dL_law_1037 : decode cL_law 1037 = .ok (.invokevirtual 121, 3) := gg637.2.2.2.1
theorem dL_law_1040 : decode cL_law 1040 = .ok (.pop, 1) := gg637.2.2.2.2.1
theorem dL_law_1041 : decode cL_law 1041 = .ok (.goto 217, 3) := gg637.2.2.2.2.2.1
theorem dL_law_1044 : decode cL_law 1044 = .ok (.aload_n 1, 1) := gg637.2.2.2.2.2.2.1
theorem dL_law_1045 : decode cL_law 1045 = .ok (.invokevirtual 122, 3) := gg637.2.2.2.2.2.2.2.1
theorem dL_law_1048 : decode cL_law 1048 = .ok (.pop, 1) := gg637.2.2.2.2.2.2.2.2.1
theorem dL_law_1049 : decode cL_law 1049 = .ok (.aload_n 2, 1) := gg637.2.2.2.2.2.2.2.2.2
theorem gg638 : decode cL_law 1050 = .ok (.invokevirtual 125, 3) ∧ decode cL_law 1053 = .ok (.pop, 1) ∧ decode cL_law 1054 = .ok (.goto 204, 3) ∧ decode cL_law 1057 = .ok (.aload_n 1, 1) ∧ decode cL_law 1058 = .ok (.invokevirtual 126, 3) ∧ decode cL_law 1061 = .ok (.pop, 1) ∧ decode cL_law 1062 = .ok (.aload_n 2, 1) ∧ decode cL_law 1063 = .ok (.invokevirtual 129, 3) ∧ decode cL_law 1066 = .ok (.pop, 1) ∧ decode cL_law 1067 = .ok (.goto 191, 3) := by decide +kernel
theorem dL_law_1050 : decode cL_law 1050 = .ok (.invokevirtual 125, 3) := gg638.1
theorem dL_law_1053 : decode cL_law 1053 = .ok (.pop, 1) := gg638.2.1
theorem dL_law_1054 : decode cL_law 1054 = .ok (.goto 204, 3) := gg638.2.2.1
theorem dL_law_1057 : decode cL_law 1057 = .ok (.aload_n 1, 1) := gg638.2.2.2.1
theorem dL_law_1058 : decode cL_law 1058 = .ok (.invokevirtual 126, 3) := gg638.2.2.2.2.1
theorem dL_law_1061 : decode cL_law 1061 = .ok (.pop, 1) := gg638.2.2.2.2.2.1
theorem dL_law_1062 : decode cL_law 1062 = .ok (.aload_n 2, 1) := gg638.2.2.2.2.2.2.1
theorem dL_law_1063 : decode cL_law 1063 = .ok (.invokevirtual 129, 3) := gg638.2.2.2.2.2.2.2.1
theorem dL_law_1066 : decode cL_law 1066 = .ok (.pop, 1) := gg638.2.2.2.2.2.2.2.2.1
theorem dL_law_1067 : decode cL_law 1067 = .ok (.goto 191, 3) := gg638.2.2.2.2.2.2.2.2.2
theorem gg639 : decode cL_law 1070 = .ok (.aload_n 1, 1) ∧ decode cL_law 1071 = .ok (.aload_n 0, 1) ∧ decode cL_law 1072 = .ok (.iload_n 3, 1) ∧ decode cL_law 1073 = .ok (.iconst 1, 1) ∧ decode cL_law 1074 = .ok (.iadd, 1) ∧ decode cL_law 1075 = .ok (.iaload, 1) ∧ decode cL_law 1076 = .ok (.invokevirtual 130, 3) ∧ decode cL_law 1079 = .ok (.pop, 1) ∧ decode cL_law 1080 = .ok (.aload_n 2, 1) ∧ decode cL_law 1081 = .ok (.aload_n 0, 1) := by decide +kernel
theorem dL_law_1070 : decode cL_law 1070 = .ok (.aload_n 1, 1) := gg639.1
theorem dL_law_1071 : decode cL_law 1071 = .ok (.aload_n 0, 1) := gg639.2.1
theorem dL_law_1072 : decode cL_law 1072 = .ok (.iload_n 3, 1) := gg639.2.2.1
theorem dL_law_1073 : decode cL_law 1073 = .ok (.iconst 1, 1) := gg639.2.2.2.1
theorem dL_law_1074 : decode cL_law 1074 = .ok (.iadd, 1) := gg639.2.2.2.2.1
theorem dL_law_1075 : decode cL_law 1075 = .ok (.iaload, 1) := gg639.2.2.2.2.2.1
theorem dL_law_1076 : decode cL_law 1076 = .ok (.invokevirtual 130, 3) := gg639.2.2.2.2.2.2.1
theorem dL_law_1079 : decode cL_law 1079 = .ok (.pop, 1) := gg639.2.2.2.2.2.2.2.1
theorem dL_law_1080 : decode cL_law 1080 = .ok (.aload_n 2, 1) := gg639.2.2.2.2.2.2.2.2.1
theorem dL_law_1081 : decode cL_law 1081 = .ok (.aload_n 0, 1) := gg639.2.2.2.2.2.2.2.2.2
theorem gg640 : decode cL_law 1082 = .ok (.iload_n 3, 1) ∧ decode cL_law 1083 = .ok (.iconst 1, 1) ∧ decode cL_law 1084 = .ok (.iadd, 1) ∧ decode cL_law 1085 = .ok (.iaload, 1) ∧ decode cL_law 1086 = .ok (.invokevirtual 133, 3) ∧ decode cL_law 1089 = .ok (.pop, 1) ∧ decode cL_law 1090 = .ok (.goto 168, 3) ∧ decode cL_law 1093 = .ok (.aload_n 1, 1) ∧ decode cL_law 1094 = .ok (.aload_n 0, 1) ∧ decode cL_law 1095 = .ok (.iload_n 3, 1) := by decide +kernel
theorem dL_law_1082 : decode cL_law 1082 = .ok (.iload_n 3, 1) := gg640.1
theorem dL_law_1083 : decode cL_law 1083 = .ok (.iconst 1, 1) := gg640.2.1
theorem dL_law_1084 : decode cL_law 1084 = .ok (.iadd, 1) := gg640.2.2.1
theorem dL_law_1085 : decode cL_law 1085 = .ok (.iaload, 1) := gg640.2.2.2.1
theorem dL_law_1086 : decode cL_law 1086 = .ok (.invokevirtual 133, 3) := gg640.2.2.2.2.1
theorem dL_law_1089 : decode cL_law 1089 = .ok (.pop, 1) := gg640.2.2.2.2.2.1
theorem dL_law_1090 : decode cL_law 1090 = .ok (.goto 168, 3) := gg640.2.2.2.2.2.2.1
theorem dL_law_1093 : decode cL_law 1093 = .ok (.aload_n 1, 1) := gg640.2.2.2.2.2.2.2.1
theorem dL_law_1094 : decode cL_law 1094 = .ok (.aload_n 0, 1) := gg640.2.2.2.2.2.2.2.2.1
theorem dL_law_1095 : decode cL_law 1095 = .ok (.iload_n 3, 1) := gg640.2.2.2.2.2.2.2.2.2
theorem gg641 : decode cL_law 1096 = .ok (.iconst 1, 1) ∧ decode cL_law 1097 = .ok (.iadd, 1) ∧ decode cL_law 1098 = .ok (.iaload, 1) ∧ decode cL_law 1099 = .ok (.i2l, 1) ∧ decode cL_law 1100 = .ok (.bipush 32, 2) ∧ decode cL_law 1102 = .ok (.lshl, 1) ∧ decode cL_law 1103 = .ok (.aload_n 0, 1) ∧ decode cL_law 1104 = .ok (.iload_n 3, 1) ∧ decode cL_law 1105 = .ok (.iconst 2, 1) ∧ decode cL_law 1106 = .ok (.iadd, 1) := by decide +kernel
theorem dL_law_1096 : decode cL_law 1096 = .ok (.iconst 1, 1) := gg641.1
theorem dL_law_1097 : decode cL_law 1097 = .ok (.iadd, 1) := gg641.2.1
theorem dL_law_1098 : decode cL_law 1098 = .ok (.iaload, 1) := gg641.2.2.1
theorem dL_law_1099 : decode cL_law 1099 = .ok (.i2l, 1) := gg641.2.2.2.1
theorem dL_law_1100 : decode cL_law 1100 = .ok (.bipush 32, 2) := gg641.2.2.2.2.1
theorem dL_law_1102 : decode cL_law 1102 = .ok (.lshl, 1) := gg641.2.2.2.2.2.1
theorem dL_law_1103 : decode cL_law 1103 = .ok (.aload_n 0, 1) := gg641.2.2.2.2.2.2.1
theorem dL_law_1104 : decode cL_law 1104 = .ok (.iload_n 3, 1) := gg641.2.2.2.2.2.2.2.1
theorem dL_law_1105 : decode cL_law 1105 = .ok (.iconst 2, 1) := gg641.2.2.2.2.2.2.2.2.1
theorem dL_law_1106 : decode cL_law 1106 = .ok (.iadd, 1) := gg641.2.2.2.2.2.2.2.2.2
theorem gg642 : decode cL_law 1107 = .ok (.iaload, 1) ∧ decode cL_law 1108 = .ok (.i2l, 1) ∧ decode cL_law 1109 = .ok (.ldc2_w 13, 3) ∧ decode cL_law 1112 = .ok (.land, 1) ∧ decode cL_law 1113 = .ok (.lor, 1) ∧ decode cL_law 1114 = .ok (.aload_n 0, 1) ∧ decode cL_law 1115 = .ok (.iload_n 3, 1) ∧ decode cL_law 1116 = .ok (.iconst 3, 1) ∧ decode cL_law 1117 = .ok (.iadd, 1) ∧ decode cL_law 1118 = .ok (.iaload, 1) := by decide +kernel
theorem dL_law_1107 : decode cL_law 1107 = .ok (.iaload, 1) := gg642.1
theorem dL_law_1108 : decode cL_law 1108 = .ok (.i2l, 1) := gg642.2.1
theorem dL_law_1109 : decode cL_law 1109 = .ok (.ldc2_w 13, 3) := gg642.2.2.1
theorem dL_law_1112 : decode cL_law 1112 = .ok (.land, 1) := gg642.2.2.2.1
theorem dL_law_1113 : decode cL_law 1113 = .ok (.lor, 1) := gg642.2.2.2.2.1
theorem dL_law_1114 : decode cL_law 1114 = .ok (.aload_n 0, 1) := gg642.2.2.2.2.2.1
theorem dL_law_1115 : decode cL_law 1115 = .ok (.iload_n 3, 1) := gg642.2.2.2.2.2.2.1
theorem dL_law_1116 : decode cL_law 1116 = .ok (.iconst 3, 1) := gg642.2.2.2.2.2.2.2.1
theorem dL_law_1117 : decode cL_law 1117 = .ok (.iadd, 1) := gg642.2.2.2.2.2.2.2.2.1
theorem dL_law_1118 : decode cL_law 1118 = .ok (.iaload, 1) := gg642.2.2.2.2.2.2.2.2.2
theorem gg643 : decode cL_law 1119 = .ok (.aload_n 0, 1) ∧ decode cL_law 1120 = .ok (.iload_n 3, 1) ∧ decode cL_law 1121 = .ok (.iconst 4, 1) ∧ decode cL_law 1122 = .ok (.iadd, 1) ∧ decode cL_law 1123 = .ok (.iaload, 1) ∧ decode cL_law 1124 = .ok (.aload_n 0, 1) ∧ decode cL_law 1125 = .ok (.iload_n 3, 1) ∧ decode cL_law 1126 = .ok (.iconst 5, 1) ∧ decode cL_law 1127 = .ok (.iadd, 1) ∧ decode cL_law 1128 = .ok (.iaload, 1) := by decide +kernel
theorem dL_law_1119 : decode cL_law 1119 = .ok (.aload_n 0, 1) := gg643.1
theorem dL_law_1120 : decode cL_law 1120 = .ok (.iload_n 3, 1) := gg643.2.1
theorem dL_law_1121 : decode cL_law 1121 = .ok (.iconst 4, 1) := gg643.2.2.1
theorem dL_law_1122 : decode cL_law 1122 = .ok (.iadd, 1) := gg643.2.2.2.1
theorem dL_law_1123 : decode cL_law 1123 = .ok (.iaload, 1) := gg643.2.2.2.2.1
theorem dL_law_1124 : decode cL_law 1124 = .ok (.aload_n 0, 1) := gg643.2.2.2.2.2.1
theorem dL_law_1125 : decode cL_law 1125 = .ok (.iload_n 3, 1) := gg643.2.2.2.2.2.2.1
theorem dL_law_1126 : decode cL_law 1126 = .ok (.iconst 5, 1) := gg643.2.2.2.2.2.2.2.1
theorem dL_law_1127 : decode cL_law 1127 = .ok (.iadd, 1) := gg643.2.2.2.2.2.2.2.2.1
theorem dL_law_1128 : decode cL_law 1128 = .ok (.iaload, 1) := gg643.2.2.2.2.2.2.2.2.2
theorem gg644 : decode cL_law 1129 = .ok (.invokevirtual 134, 3) ∧ decode cL_law 1132 = .ok (.pop, 1) ∧ decode cL_law 1133 = .ok (.aload_n 2, 1) ∧ decode cL_law 1134 = .ok (.aload_n 0, 1) ∧ decode cL_law 1135 = .ok (.iload_n 3, 1) ∧ decode cL_law 1136 = .ok (.iconst 1, 1) ∧ decode cL_law 1137 = .ok (.iadd, 1) ∧ decode cL_law 1138 = .ok (.iaload, 1) ∧ decode cL_law 1139 = .ok (.i2l, 1) ∧ decode cL_law 1140 = .ok (.bipush 32, 2) := by decide +kernel
theorem dL_law_1129 : decode cL_law 1129 = .ok (.invokevirtual 134, 3) := gg644.1
theorem dL_law_1132 : decode cL_law 1132 = .ok (.pop, 1) := gg644.2.1
theorem dL_law_1133 : decode cL_law 1133 = .ok (.aload_n 2, 1) := gg644.2.2.1
theorem dL_law_1134 : decode cL_law 1134 = .ok (.aload_n 0, 1) := gg644.2.2.2.1
theorem dL_law_1135 : decode cL_law 1135 = .ok (.iload_n 3, 1) := gg644.2.2.2.2.1
theorem dL_law_1136 : decode cL_law 1136 = .ok (.iconst 1, 1) := gg644.2.2.2.2.2.1
theorem dL_law_1137 : decode cL_law 1137 = .ok (.iadd, 1) := gg644.2.2.2.2.2.2.1
theorem dL_law_1138 : decode cL_law 1138 = .ok (.iaload, 1) := gg644.2.2.2.2.2.2.2.1
theorem dL_law_1139 : decode cL_law 1139 = .ok (.i2l, 1) := gg644.2.2.2.2.2.2.2.2.1
theorem dL_law_1140 : decode cL_law 1140 = .ok (.bipush 32, 2) := gg644.2.2.2.2.2.2.2.2.2
theorem gg645 : decode cL_law 1142 = .ok (.lshl, 1) ∧ decode cL_law 1143 = .ok (.aload_n 0, 1) ∧ decode cL_law 1144 = .ok (.iload_n 3, 1) ∧ decode cL_law 1145 = .ok (.iconst 2, 1) ∧ decode cL_law 1146 = .ok (.iadd, 1) ∧ decode cL_law 1147 = .ok (.iaload, 1) ∧ decode cL_law 1148 = .ok (.i2l, 1) ∧ decode cL_law 1149 = .ok (.ldc2_w 13, 3) ∧ decode cL_law 1152 = .ok (.land, 1) ∧ decode cL_law 1153 = .ok (.lor, 1) := by decide +kernel
theorem dL_law_1142 : decode cL_law 1142 = .ok (.lshl, 1) := gg645.1
theorem dL_law_1143 : decode cL_law 1143 = .ok (.aload_n 0, 1) := gg645.2.1
theorem dL_law_1144 : decode cL_law 1144 = .ok (.iload_n 3, 1) := gg645.2.2.1
theorem dL_law_1145 : decode cL_law 1145 = .ok (.iconst 2, 1) := gg645.2.2.2.1
theorem dL_law_1146 : decode cL_law 1146 = .ok (.iadd, 1) := gg645.2.2.2.2.1
theorem dL_law_1147 : decode cL_law 1147 = .ok (.iaload, 1) := gg645.2.2.2.2.2.1
theorem dL_law_1148 : decode cL_law 1148 = .ok (.i2l, 1) := gg645.2.2.2.2.2.2.1
theorem dL_law_1149 : decode cL_law 1149 = .ok (.ldc2_w 13, 3) := gg645.2.2.2.2.2.2.2.1
theorem dL_law_1152 : decode cL_law 1152 = .ok (.land, 1) := gg645.2.2.2.2.2.2.2.2.1
theorem dL_law_1153 : decode cL_law 1153 = .ok (.lor, 1) := gg645.2.2.2.2.2.2.2.2.2
theorem gg646 : decode cL_law 1154 = .ok (.aload_n 0, 1) ∧ decode cL_law 1155 = .ok (.iload_n 3, 1) ∧ decode cL_law 1156 = .ok (.iconst 3, 1) ∧ decode cL_law 1157 = .ok (.iadd, 1) ∧ decode cL_law 1158 = .ok (.iaload, 1) ∧ decode cL_law 1159 = .ok (.aload_n 0, 1) ∧ decode cL_law 1160 = .ok (.iload_n 3, 1) ∧ decode cL_law 1161 = .ok (.iconst 4, 1) ∧ decode cL_law 1162 = .ok (.iadd, 1) ∧ decode cL_law 1163 = .ok (.iaload, 1) := by decide +kernel
theorem dL_law_1154 : decode cL_law 1154 = .ok (.aload_n 0, 1) := gg646.1
theorem dL_law_1155 : decode cL_law 1155 = .ok (.iload_n 3, 1) := gg646.2.1
theorem dL_law_1156 : decode cL_law 1156 = .ok (.iconst 3, 1) := gg646.2.2.1
theorem dL_law_1157 : decode cL_law 1157 = .ok (.iadd, 1) := gg646.2.2.2.1
theorem dL_law_1158 : decode cL_law 1158 = .ok (.iaload, 1) := gg646.2.2.2.2.1
theorem dL_law_1159 : decode cL_law 1159 = .ok (.aload_n 0, 1) := gg646.2.2.2.2.2.1
theorem dL_law_1160 : decode cL_law 1160 = .ok (.iload_n 3, 1) := gg646.2.2.2.2.2.2.1
theorem dL_law_1161 : decode cL_law 1161 = .ok (.iconst 4, 1) := gg646.2.2.2.2.2.2.2.1
theorem dL_law_1162 : decode cL_law 1162 = .ok (.iadd, 1) := gg646.2.2.2.2.2.2.2.2.1
theorem dL_law_1163 : decode cL_law 1163 = .ok (.iaload, 1) := gg646.2.2.2.2.2.2.2.2.2
theorem gg647 : decode cL_law 1164 = .ok (.aload_n 0, 1) ∧ decode cL_law 1165 = .ok (.iload_n 3, 1) ∧ decode cL_law 1166 = .ok (.iconst 5, 1) ∧ decode cL_law 1167 = .ok (.iadd, 1) ∧ decode cL_law 1168 = .ok (.iaload, 1) ∧ decode cL_law 1169 = .ok (.invokevirtual 138, 3) ∧ decode cL_law 1172 = .ok (.pop, 1) ∧ decode cL_law 1173 = .ok (.goto 85, 3) ∧ decode cL_law 1176 = .ok (.aload_n 1, 1) ∧ decode cL_law 1177 = .ok (.aload_n 0, 1) := by decide +kernel
theorem dL_law_1164 : decode cL_law 1164 = .ok (.aload_n 0, 1) := gg647.1
theorem dL_law_1165 : decode cL_law 1165 = .ok (.iload_n 3, 1) := gg647.2.1
theorem dL_law_1166 : decode cL_law 1166 = .ok (.iconst 5, 1) := gg647.2.2.1
theorem dL_law_1167 : decode cL_law 1167 = .ok (.iadd, 1) := gg647.2.2.2.1
theorem dL_law_1168 : decode cL_law 1168 = .ok (.iaload, 1) := gg647.2.2.2.2.1
theorem dL_law_1169 : decode cL_law 1169 = .ok (.invokevirtual 138, 3) := gg647.2.2.2.2.2.1
theorem dL_law_1172 : decode cL_law 1172 = .ok (.pop, 1) := gg647.2.2.2.2.2.2.1
theorem dL_law_1173 : decode cL_law 1173 = .ok (.goto 85, 3) := gg647.2.2.2.2.2.2.2.1
theorem dL_law_1176 : decode cL_law 1176 = .ok (.aload_n 1, 1) := gg647.2.2.2.2.2.2.2.2.1
theorem dL_law_1177 : decode cL_law 1177 = .ok (.aload_n 0, 1) := gg647.2.2.2.2.2.2.2.2.2
theorem gg648 : decode cL_law 1178 = .ok (.iload_n 3, 1) ∧ decode cL_law 1179 = .ok (.iconst 1, 1) ∧ decode cL_law 1180 = .ok (.iadd, 1) ∧ decode cL_law 1181 = .ok (.iaload, 1) ∧ decode cL_law 1182 = .ok (.aload_n 0, 1) ∧ decode cL_law 1183 = .ok (.iload_n 3, 1) ∧ decode cL_law 1184 = .ok (.iconst 2, 1) ∧ decode cL_law 1185 = .ok (.iadd, 1) ∧ decode cL_law 1186 = .ok (.iaload, 1) ∧ decode cL_law 1187 = .ok (.invokevirtual 139, 3) := by decide +kernel
theorem dL_law_1178 : decode cL_law 1178 = .ok (.iload_n 3, 1) := gg648.1
theorem dL_law_1179 : decode cL_law 1179 = .ok (.iconst 1, 1) := gg648.2.1
theorem dL_law_1180 : decode cL_law 1180 = .ok (.iadd, 1) := gg648.2.2.1
theorem dL_law_1181 : decode cL_law 1181 = .ok (.iaload, 1) := gg648.2.2.2.1
theorem dL_law_1182 : decode cL_law 1182 = .ok (.aload_n 0, 1) := gg648.2.2.2.2.1
theorem dL_law_1183 : decode cL_law 1183 = .ok (.iload_n 3, 1) := gg648.2.2.2.2.2.1
theorem dL_law_1184 : decode cL_law 1184 = .ok (.iconst 2, 1) := gg648.2.2.2.2.2.2.1
theorem dL_law_1185 : decode cL_law 1185 = .ok (.iadd, 1) := gg648.2.2.2.2.2.2.2.1
theorem dL_law_1186 : decode cL_law 1186 = .ok (.iaload, 1) := gg648.2.2.2.2.2.2.2.2.1
theorem dL_law_1187 : decode cL_law 1187 = .ok (.invokevirtual 139, 3) := gg648.2.2.2.2.2.2.2.2.2
theorem gg649 : decode cL_law 1190 = .ok (.pop, 1) ∧ decode cL_law 1191 = .ok (.aload_n 2, 1) ∧ decode cL_law 1192 = .ok (.aload_n 0, 1) ∧ decode cL_law 1193 = .ok (.iload_n 3, 1) ∧ decode cL_law 1194 = .ok (.iconst 1, 1) ∧ decode cL_law 1195 = .ok (.iadd, 1) ∧ decode cL_law 1196 = .ok (.iaload, 1) ∧ decode cL_law 1197 = .ok (.aload_n 0, 1) ∧ decode cL_law 1198 = .ok (.iload_n 3, 1) ∧ decode cL_law 1199 = .ok (.iconst 2, 1) := by decide +kernel
theorem dL_law_1190 : decode cL_law 1190 = .ok (.pop, 1) := gg649.1
theorem dL_law_1191 : decode cL_law 1191 = .ok (.aload_n 2, 1) := gg649.2.1
theorem dL_law_1192 : decode cL_law 1192 = .ok (.aload_n 0, 1) := gg649.2.2.1
theorem dL_law_1193 : decode cL_law 1193 = .ok (.iload_n 3, 1) := gg649.2.2.2.1
theorem dL_law_1194 : decode cL_law 1194 = .ok (.iconst 1, 1) := gg649.2.2.2.2.1
theorem dL_law_1195 : decode cL_law 1195 = .ok (.iadd, 1) := gg649.2.2.2.2.2.1
theorem dL_law_1196 : decode cL_law 1196 = .ok (.iaload, 1) := gg649.2.2.2.2.2.2.1
theorem dL_law_1197 : decode cL_law 1197 = .ok (.aload_n 0, 1) := gg649.2.2.2.2.2.2.2.1
theorem dL_law_1198 : decode cL_law 1198 = .ok (.iload_n 3, 1) := gg649.2.2.2.2.2.2.2.2.1
theorem dL_law_1199 : decode cL_law 1199 = .ok (.iconst 2, 1) := gg649.2.2.2.2.2.2.2.2.2
theorem gg650 : decode cL_law 1200 = .ok (.iadd, 1) ∧ decode cL_law 1201 = .ok (.iaload, 1) ∧ decode cL_law 1202 = .ok (.invokevirtual 142, 3) ∧ decode cL_law 1205 = .ok (.pop, 1) ∧ decode cL_law 1206 = .ok (.goto 52, 3) ∧ decode cL_law 1209 = .ok (.aload_n 1, 1) ∧ decode cL_law 1210 = .ok (.invokevirtual 143, 3) ∧ decode cL_law 1213 = .ok (.pop, 1) ∧ decode cL_law 1214 = .ok (.aload_n 2, 1) ∧ decode cL_law 1215 = .ok (.invokevirtual 146, 3) := by decide +kernel
theorem dL_law_1200 : decode cL_law 1200 = .ok (.iadd, 1) := gg650.1
theorem dL_law_1201 : decode cL_law 1201 = .ok (.iaload, 1) := gg650.2.1
theorem dL_law_1202 : decode cL_law 1202 = .ok (.invokevirtual 142, 3) := gg650.2.2.1
theorem dL_law_1205 : decode cL_law 1205 = .ok (.pop, 1) := gg650.2.2.2.1
theorem dL_law_1206 : decode cL_law 1206 = .ok (.goto 52, 3) := gg650.2.2.2.2.1
theorem dL_law_1209 : decode cL_law 1209 = .ok (.aload_n 1, 1) := gg650.2.2.2.2.2.1
theorem dL_law_1210 : decode cL_law 1210 = .ok (.invokevirtual 143, 3) := gg650.2.2.2.2.2.2.1
theorem dL_law_1213 : decode cL_law 1213 = .ok (.pop, 1) := gg650.2.2.2.2.2.2.2.1
theorem dL_law_1214 : decode cL_law 1214 = .ok (.aload_n 2, 1) := gg650.2.2.2.2.2.2.2.2.1
theorem dL_law_1215 : decode cL_law 1215 = .ok (.invokevirtual 146, 3) := gg650.2.2.2.2.2.2.2.2.2
theorem gg651 : decode cL_law 1218 = .ok (.pop, 1) ∧ decode cL_law 1219 = .ok (.goto 39, 3) ∧ decode cL_law 1222 = .ok (.aload_n 1, 1) ∧ decode cL_law 1223 = .ok (.invokevirtual 147, 3) ∧ decode cL_law 1226 = .ok (.pop, 1) ∧ decode cL_law 1227 = .ok (.aload_n 2, 1) ∧ decode cL_law 1228 = .ok (.invokevirtual 150, 3) ∧ decode cL_law 1231 = .ok (.pop, 1) ∧ decode cL_law 1232 = .ok (.goto 26, 3) ∧ decode cL_law 1235 = .ok (.aload_n 1, 1) := by decide +kernel
theorem dL_law_1218 : decode cL_law 1218 = .ok (.pop, 1) := gg651.1
theorem dL_law_1219 : decode cL_law 1219 = .ok (.goto 39, 3) := gg651.2.1
theorem dL_law_1222 : decode cL_law 1222 = .ok (.aload_n 1, 1) := gg651.2.2.1
theorem dL_law_1223 : decode cL_law 1223 = .ok (.invokevirtual 147, 3) := gg651.2.2.2.1
theorem dL_law_1226 : decode cL_law 1226 = .ok (.pop, 1) := gg651.2.2.2.2.1
theorem dL_law_1227 : decode cL_law 1227 = .ok (.aload_n 2, 1) := gg651.2.2.2.2.2.1
theorem dL_law_1228 : decode cL_law 1228 = .ok (.invokevirtual 150, 3) := gg651.2.2.2.2.2.2.1
theorem dL_law_1231 : decode cL_law 1231 = .ok (.pop, 1) := gg651.2.2.2.2.2.2.2.1
theorem dL_law_1232 : decode cL_law 1232 = .ok (.goto 26, 3) := gg651.2.2.2.2.2.2.2.2.1
theorem dL_law_1235 : decode cL_law 1235 = .ok (.aload_n 1, 1) := gg651.2.2.2.2.2.2.2.2.2
theorem gg652 : decode cL_law 1236 = .ok (.aload_n 0, 1) ∧ decode cL_law 1237 = .ok (.iload_n 3, 1) ∧ decode cL_law 1238 = .ok (.iconst 1, 1) ∧ decode cL_law 1239 = .ok (.iadd, 1) ∧ decode cL_law 1240 = .ok (.iaload, 1) ∧ decode cL_law 1241 = .ok (.invokevirtual 151, 3) ∧ decode cL_law 1244 = .ok (.aload_n 2, 1) ∧ decode cL_law 1245 = .ok (.aload_n 0, 1) ∧ decode cL_law 1246 = .ok (.iload_n 3, 1) ∧ decode cL_law 1247 = .ok (.iconst 1, 1) := by decide +kernel
theorem dL_law_1236 : decode cL_law 1236 = .ok (.aload_n 0, 1) := gg652.1
theorem dL_law_1237 : decode cL_law 1237 = .ok (.iload_n 3, 1) := gg652.2.1
theorem dL_law_1238 : decode cL_law 1238 = .ok (.iconst 1, 1) := gg652.2.2.1
theorem dL_law_1239 : decode cL_law 1239 = .ok (.iadd, 1) := gg652.2.2.2.1
theorem dL_law_1240 : decode cL_law 1240 = .ok (.iaload, 1) := gg652.2.2.2.2.1
theorem dL_law_1241 : decode cL_law 1241 = .ok (.invokevirtual 151, 3) := gg652.2.2.2.2.2.1
theorem dL_law_1244 : decode cL_law 1244 = .ok (.aload_n 2, 1) := gg652.2.2.2.2.2.2.1
theorem dL_law_1245 : decode cL_law 1245 = .ok (.aload_n 0, 1) := gg652.2.2.2.2.2.2.2.1
theorem dL_law_1246 : decode cL_law 1246 = .ok (.iload_n 3, 1) := gg652.2.2.2.2.2.2.2.2.1
theorem dL_law_1247 : decode cL_law 1247 = .ok (.iconst 1, 1) := gg652.2.2.2.2.2.2.2.2.2
theorem gg653 : decode cL_law 1248 = .ok (.iadd, 1) ∧ decode cL_law 1249 = .ok (.iaload, 1) ∧ decode cL_law 1250 = .ok (.invokevirtual 154, 3) ∧ decode cL_law 1253 = .ok (.if_icmp .eq 5, 3) ∧ decode cL_law 1256 = .ok (.iconst 0, 1) ∧ decode cL_law 1257 = .ok (.ireturn, 1) ∧ decode cL_law 1258 = .ok (.iinc 3 6, 3) ∧ decode cL_law 1261 = .ok (.goto (-1243), 3) ∧ decode cL_law 1264 = .ok (.iconst 1, 1) ∧ decode cL_law 1265 = .ok (.ireturn, 1) := by decide +kernel
theorem dL_law_1248 : decode cL_law 1248 = .ok (.iadd, 1) := gg653.1
theorem dL_law_1249 : decode cL_law 1249 = .ok (.iaload, 1) := gg653.2.1
theorem dL_law_1250 : decode cL_law 1250 = .ok (.invokevirtual 154, 3) := gg653.2.2.1
theorem dL_law_1253 : decode cL_law 1253 = .ok (.if_icmp .eq 5, 3) := gg653.2.2.2.1
theorem dL_law_1256 : decode cL_law 1256 = .ok (.iconst 0, 1) := gg653.2.2.2.2.1
theorem dL_law_1257 : decode cL_law 1257 = .ok (.ireturn, 1) := gg653.2.2.2.2.2.1
theorem dL_law_1258 : decode cL_law 1258 = .ok (.iinc 3 6, 3) := gg653.2.2.2.2.2.2.1
theorem dL_law_1261 : decode cL_law 1261 = .ok (.goto (-1243), 3) := gg653.2.2.2.2.2.2.2.1
theorem dL_law_1264 : decode cL_law 1264 = .ok (.iconst 1, 1) := gg653.2.2.2.2.2.2.2.2.1
theorem dL_law_1265 : decode cL_law 1265 = .ok (.ireturn, 1) := gg653.2.2.2.2.2.2.2.2.2

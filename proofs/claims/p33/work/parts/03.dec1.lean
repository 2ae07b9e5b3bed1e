theorem gg0 : decode cX0_init 0 = .ok (.aload_n 0, 1) ∧ decode cX0_init 1 = .ok (.invokespecial 3, 3) ∧ decode cX0_init 4 = .ok (.aload_n 0, 1) ∧ decode cX0_init 5 = .ok (.aload_n 1, 1) ∧ decode cX0_init 6 = .ok (.putfield 9, 3) ∧ decode cX0_init 9 = .ok (.aload_n 0, 1) ∧ decode cX0_init 10 = .ok (.aload_n 2, 1) ∧ decode cX0_init 11 = .ok (.putfield 15, 3) ∧ decode cX0_init 14 = .ok (.return_, 1) := by decide +kernel
theorem dX0_init_0 : decode cX0_init 0 = .ok (.aload_n 0, 1) := gg0.1
theorem dX0_init_1 : decode cX0_init 1 = .ok (.invokespecial 3, 3) := gg0.2.1
theorem dX0_init_4 : decode cX0_init 4 = .ok (.aload_n 0, 1) := gg0.2.2.1
theorem dX0_init_5 : decode cX0_init 5 = .ok (.aload_n 1, 1) := gg0.2.2.2.1
theorem dX0_init_6 : decode cX0_init 6 = .ok (.putfield 9, 3) := gg0.2.2.2.2.1
theorem dX0_init_9 : decode cX0_init 9 = .ok (.aload_n 0, 1) := gg0.2.2.2.2.2.1
theorem dX0_init_10 : decode cX0_init 10 = .ok (.aload_n 2, 1) := gg0.2.2.2.2.2.2.1
theorem dX0_init_11 : decode cX0_init 11 = .ok (.putfield 15, 3) := gg0.2.2.2.2.2.2.2.1
theorem dX0_init_14 : decode cX0_init 14 = .ok (.return_, 1) := gg0.2.2.2.2.2.2.2.2
theorem gg1 : decode cX0_gainUnder 0 = .ok (.iconst 0, 1) ∧ decode cX0_gainUnder 1 = .ok (.istore_n 3, 1) ∧ decode cX0_gainUnder 2 = .ok (.iconst 0, 1) ∧ decode cX0_gainUnder 3 = .ok (.istore 4, 2) ∧ decode cX0_gainUnder 5 = .ok (.iload 4, 2) ∧ decode cX0_gainUnder 7 = .ok (.aload_n 0, 1) ∧ decode cX0_gainUnder 8 = .ok (.getfield 9, 3) ∧ decode cX0_gainUnder 11 = .ok (.getfield 19, 3) ∧ decode cX0_gainUnder 14 = .ok (.if_icmp .ge 31, 3) ∧ decode cX0_gainUnder 17 = .ok (.iload_n 1, 1) := by decide +kernel
theorem dX0_gainUnder_0 : decode cX0_gainUnder 0 = .ok (.iconst 0, 1) := gg1.1
theorem dX0_gainUnder_1 : decode cX0_gainUnder 1 = .ok (.istore_n 3, 1) := gg1.2.1
theorem dX0_gainUnder_2 : decode cX0_gainUnder 2 = .ok (.iconst 0, 1) := gg1.2.2.1
theorem dX0_gainUnder_3 : decode cX0_gainUnder 3 = .ok (.istore 4, 2) := gg1.2.2.2.1
theorem dX0_gainUnder_5 : decode cX0_gainUnder 5 = .ok (.iload 4, 2) := gg1.2.2.2.2.1
theorem dX0_gainUnder_7 : decode cX0_gainUnder 7 = .ok (.aload_n 0, 1) := gg1.2.2.2.2.2.1
theorem dX0_gainUnder_8 : decode cX0_gainUnder 8 = .ok (.getfield 9, 3) := gg1.2.2.2.2.2.2.1
theorem dX0_gainUnder_11 : decode cX0_gainUnder 11 = .ok (.getfield 19, 3) := gg1.2.2.2.2.2.2.2.1
theorem dX0_gainUnder_14 : decode cX0_gainUnder 14 = .ok (.if_icmp .ge 31, 3) := gg1.2.2.2.2.2.2.2.2.1
theorem dX0_gainUnder_17 : decode cX0_gainUnder 17 = .ok (.iload_n 1, 1) := gg1.2.2.2.2.2.2.2.2.2
theorem gg2 : decode cX0_gainUnder 18 = .ok (.iload 4, 2) ∧ decode cX0_gainUnder 20 = .ok (.invokestatic 25, 3) ∧ decode cX0_gainUnder 23 = .ok (.ifCond .eq 16, 3) ∧ decode cX0_gainUnder 26 = .ok (.iload_n 3, 1) ∧ decode cX0_gainUnder 27 = .ok (.aload_n 0, 1) ∧ decode cX0_gainUnder 28 = .ok (.getfield 9, 3) ∧ decode cX0_gainUnder 31 = .ok (.iload 4, 2) ∧ decode cX0_gainUnder 33 = .ok (.iload_n 2, 1) ∧ decode cX0_gainUnder 34 = .ok (.invokevirtual 29, 3) ∧ decode cX0_gainUnder 37 = .ok (.iadd, 1) := by decide +kernel
theorem dX0_gainUnder_18 : decode cX0_gainUnder 18 = .ok (.iload 4, 2) := gg2.1
theorem dX0_gainUnder_20 : decode cX0_gainUnder 20 = .ok (.invokestatic 25, 3) := gg2.2.1
theorem dX0_gainUnder_23 : decode cX0_gainUnder 23 = .ok (.ifCond .eq 16, 3) := gg2.2.2.1
theorem dX0_gainUnder_26 : decode cX0_gainUnder 26 = .ok (.iload_n 3, 1) := gg2.2.2.2.1
theorem dX0_gainUnder_27 : decode cX0_gainUnder 27 = .ok (.aload_n 0, 1) := gg2.2.2.2.2.1
theorem dX0_gainUnder_28 : decode cX0_gainUnder 28 = .ok (.getfield 9, 3) := gg2.2.2.2.2.2.1
theorem dX0_gainUnder_31 : decode cX0_gainUnder 31 = .ok (.iload 4, 2) := gg2.2.2.2.2.2.2.1
theorem dX0_gainUnder_33 : decode cX0_gainUnder 33 = .ok (.iload_n 2, 1) := gg2.2.2.2.2.2.2.2.1
theorem dX0_gainUnder_34 : decode cX0_gainUnder 34 = .ok (.invokevirtual 29, 3) := gg2.2.2.2.2.2.2.2.2.1
theorem dX0_gainUnder_37 : decode cX0_gainUnder 37 = .ok (.iadd, 1) := gg2.2.2.2.2.2.2.2.2.2
theorem gg3 : decode cX0_gainUnder 38 = .ok (.istore_n 3, 1) ∧ decode cX0_gainUnder 39 = .ok (.iinc 4 1, 3) ∧ decode cX0_gainUnder 42 = .ok (.goto (-37), 3) ∧ decode cX0_gainUnder 45 = .ok (.iload_n 3, 1) ∧ decode cX0_gainUnder 46 = .ok (.ireturn, 1) := by decide +kernel
theorem dX0_gainUnder_38 : decode cX0_gainUnder 38 = .ok (.istore_n 3, 1) := gg3.1
theorem dX0_gainUnder_39 : decode cX0_gainUnder 39 = .ok (.iinc 4 1, 3) := gg3.2.1
theorem dX0_gainUnder_42 : decode cX0_gainUnder 42 = .ok (.goto (-37), 3) := gg3.2.2.1
theorem dX0_gainUnder_45 : decode cX0_gainUnder 45 = .ok (.iload_n 3, 1) := gg3.2.2.2.1
theorem dX0_gainUnder_46 : decode cX0_gainUnder 46 = .ok (.ireturn, 1) := gg3.2.2.2.2
theorem gg4 : decode cX0_gainIfForbidden 0 = .ok (.aload_n 0, 1) ∧ decode cX0_gainIfForbidden 1 = .ok (.getfield 15, 3) ∧ decode cX0_gainIfForbidden 4 = .ok (.getfield 32, 3) ∧ decode cX0_gainIfForbidden 7 = .ok (.istore 4, 2) ∧ decode cX0_gainIfForbidden 9 = .ok (.iload_n 1, 1) ∧ decode cX0_gainIfForbidden 10 = .ok (.ifCond .lt 15, 3) ∧ decode cX0_gainIfForbidden 13 = .ok (.iload 4, 2) ∧ decode cX0_gainIfForbidden 15 = .ok (.iload_n 1, 1) ∧ decode cX0_gainIfForbidden 16 = .ok (.iconst 1, 1) ∧ decode cX0_gainIfForbidden 17 = .ok (.invokestatic 37, 3) := by decide +kernel
theorem dX0_gainIfForbidden_0 : decode cX0_gainIfForbidden 0 = .ok (.aload_n 0, 1) := gg4.1
theorem dX0_gainIfForbidden_1 : decode cX0_gainIfForbidden 1 = .ok (.getfield 15, 3) := gg4.2.1
theorem dX0_gainIfForbidden_4 : decode cX0_gainIfForbidden 4 = .ok (.getfield 32, 3) := gg4.2.2.1
theorem dX0_gainIfForbidden_7 : decode cX0_gainIfForbidden 7 = .ok (.istore 4, 2) := gg4.2.2.2.1
theorem dX0_gainIfForbidden_9 : decode cX0_gainIfForbidden 9 = .ok (.iload_n 1, 1) := gg4.2.2.2.2.1
theorem dX0_gainIfForbidden_10 : decode cX0_gainIfForbidden 10 = .ok (.ifCond .lt 15, 3) := gg4.2.2.2.2.2.1
theorem dX0_gainIfForbidden_13 : decode cX0_gainIfForbidden 13 = .ok (.iload 4, 2) := gg4.2.2.2.2.2.2.1
theorem dX0_gainIfForbidden_15 : decode cX0_gainIfForbidden 15 = .ok (.iload_n 1, 1) := gg4.2.2.2.2.2.2.2.1
theorem dX0_gainIfForbidden_16 : decode cX0_gainIfForbidden 16 = .ok (.iconst 1, 1) := gg4.2.2.2.2.2.2.2.2.1
theorem dX0_gainIfForbidden_17 : decode cX0_gainIfForbidden 17 = .ok (.invokestatic 37, 3) := gg4.2.2.2.2.2.2.2.2.2
theorem gg5 : decode cX0_gainIfForbidden 20 = .ok (.iconst (-1), 1) ∧ decode cX0_gainIfForbidden 21 = .ok (.ixor, 1) ∧ decode cX0_gainIfForbidden 22 = .ok (.iand, 1) ∧ decode cX0_gainIfForbidden 23 = .ok (.istore 4, 2) ∧ decode cX0_gainIfForbidden 25 = .ok (.iload_n 2, 1) ∧ decode cX0_gainIfForbidden 26 = .ok (.ifCond .lt 15, 3) ∧ decode cX0_gainIfForbidden 29 = .ok (.iload 4, 2) ∧ decode cX0_gainIfForbidden 31 = .ok (.iload_n 2, 1) ∧ decode cX0_gainIfForbidden 32 = .ok (.iconst 2, 1) ∧ decode cX0_gainIfForbidden 33 = .ok (.invokestatic 37, 3) := by decide +kernel
theorem dX0_gainIfForbidden_20 : decode cX0_gainIfForbidden 20 = .ok (.iconst (-1), 1) := gg5.1
theorem dX0_gainIfForbidden_21 : decode cX0_gainIfForbidden 21 = .ok (.ixor, 1) := gg5.2.1
theorem dX0_gainIfForbidden_22 : decode cX0_gainIfForbidden 22 = .ok (.iand, 1) := gg5.2.2.1
theorem dX0_gainIfForbidden_23 : decode cX0_gainIfForbidden 23 = .ok (.istore 4, 2) := gg5.2.2.2.1
theorem dX0_gainIfForbidden_25 : decode cX0_gainIfForbidden 25 = .ok (.iload_n 2, 1) := gg5.2.2.2.2.1
theorem dX0_gainIfForbidden_26 : decode cX0_gainIfForbidden 26 = .ok (.ifCond .lt 15, 3) := gg5.2.2.2.2.2.1
theorem dX0_gainIfForbidden_29 : decode cX0_gainIfForbidden 29 = .ok (.iload 4, 2) := gg5.2.2.2.2.2.2.1
theorem dX0_gainIfForbidden_31 : decode cX0_gainIfForbidden 31 = .ok (.iload_n 2, 1) := gg5.2.2.2.2.2.2.2.1
theorem dX0_gainIfForbidden_32 : decode cX0_gainIfForbidden 32 = .ok (.iconst 2, 1) := gg5.2.2.2.2.2.2.2.2.1
theorem dX0_gainIfForbidden_33 : decode cX0_gainIfForbidden 33 = .ok (.invokestatic 37, 3) := gg5.2.2.2.2.2.2.2.2.2
theorem gg6 : decode cX0_gainIfForbidden 36 = .ok (.iconst (-1), 1) ∧ decode cX0_gainIfForbidden 37 = .ok (.ixor, 1) ∧ decode cX0_gainIfForbidden 38 = .ok (.iand, 1) ∧ decode cX0_gainIfForbidden 39 = .ok (.istore 4, 2) ∧ decode cX0_gainIfForbidden 41 = .ok (.aload_n 0, 1) ∧ decode cX0_gainIfForbidden 42 = .ok (.iload 4, 2) ∧ decode cX0_gainIfForbidden 44 = .ok (.iload_n 3, 1) ∧ decode cX0_gainIfForbidden 45 = .ok (.invokevirtual 40, 3) ∧ decode cX0_gainIfForbidden 48 = .ok (.ireturn, 1) := by decide +kernel
theorem dX0_gainIfForbidden_36 : decode cX0_gainIfForbidden 36 = .ok (.iconst (-1), 1) := gg6.1
theorem dX0_gainIfForbidden_37 : decode cX0_gainIfForbidden 37 = .ok (.ixor, 1) := gg6.2.1
theorem dX0_gainIfForbidden_38 : decode cX0_gainIfForbidden 38 = .ok (.iand, 1) := gg6.2.2.1
theorem dX0_gainIfForbidden_39 : decode cX0_gainIfForbidden 39 = .ok (.istore 4, 2) := gg6.2.2.2.1
theorem dX0_gainIfForbidden_41 : decode cX0_gainIfForbidden 41 = .ok (.aload_n 0, 1) := gg6.2.2.2.2.1
theorem dX0_gainIfForbidden_42 : decode cX0_gainIfForbidden 42 = .ok (.iload 4, 2) := gg6.2.2.2.2.2.1
theorem dX0_gainIfForbidden_44 : decode cX0_gainIfForbidden 44 = .ok (.iload_n 3, 1) := gg6.2.2.2.2.2.2.1
theorem dX0_gainIfForbidden_45 : decode cX0_gainIfForbidden 45 = .ok (.invokevirtual 40, 3) := gg6.2.2.2.2.2.2.2.1
theorem dX0_gainIfForbidden_48 : decode cX0_gainIfForbidden 48 = .ok (.ireturn, 1) := gg6.2.2.2.2.2.2.2.2
theorem gg7 : decode cX0_isRest 0 = .ok (.aload_n 0, 1) ∧ decode cX0_isRest 1 = .ok (.iload_n 1, 1) ∧ decode cX0_isRest 2 = .ok (.iload_n 2, 1) ∧ decode cX0_isRest 3 = .ok (.iconst 0, 1) ∧ decode cX0_isRest 4 = .ok (.invokevirtual 43, 3) ∧ decode cX0_isRest 7 = .ok (.istore_n 3, 1) ∧ decode cX0_isRest 8 = .ok (.aload_n 0, 1) ∧ decode cX0_isRest 9 = .ok (.iload_n 1, 1) ∧ decode cX0_isRest 10 = .ok (.iload_n 2, 1) ∧ decode cX0_isRest 11 = .ok (.iconst 1, 1) := by decide +kernel
theorem dX0_isRest_0 : decode cX0_isRest 0 = .ok (.aload_n 0, 1) := gg7.1
theorem dX0_isRest_1 : decode cX0_isRest 1 = .ok (.iload_n 1, 1) := gg7.2.1
theorem dX0_isRest_2 : decode cX0_isRest 2 = .ok (.iload_n 2, 1) := gg7.2.2.1
theorem dX0_isRest_3 : decode cX0_isRest 3 = .ok (.iconst 0, 1) := gg7.2.2.2.1
theorem dX0_isRest_4 : decode cX0_isRest 4 = .ok (.invokevirtual 43, 3) := gg7.2.2.2.2.1
theorem dX0_isRest_7 : decode cX0_isRest 7 = .ok (.istore_n 3, 1) := gg7.2.2.2.2.2.1
theorem dX0_isRest_8 : decode cX0_isRest 8 = .ok (.aload_n 0, 1) := gg7.2.2.2.2.2.2.1
theorem dX0_isRest_9 : decode cX0_isRest 9 = .ok (.iload_n 1, 1) := gg7.2.2.2.2.2.2.2.1
theorem dX0_isRest_10 : decode cX0_isRest 10 = .ok (.iload_n 2, 1) := gg7.2.2.2.2.2.2.2.2.1
theorem dX0_isRest_11 : decode cX0_isRest 11 = .ok (.iconst 1, 1) := gg7.2.2.2.2.2.2.2.2.2
theorem gg8 : decode cX0_isRest 12 = .ok (.invokevirtual 43, 3) ∧ decode cX0_isRest 15 = .ok (.istore 4, 2) ∧ decode cX0_isRest 17 = .ok (.iconst (-1), 1) ∧ decode cX0_isRest 18 = .ok (.istore 5, 2) ∧ decode cX0_isRest 20 = .ok (.iload 5, 2) ∧ decode cX0_isRest 22 = .ok (.aload_n 0, 1) ∧ decode cX0_isRest 23 = .ok (.getfield 9, 3) ∧ decode cX0_isRest 26 = .ok (.getfield 19, 3) ∧ decode cX0_isRest 29 = .ok (.if_icmp .ge 38, 3) ∧ decode cX0_isRest 32 = .ok (.aload_n 0, 1) := by decide +kernel
theorem dX0_isRest_12 : decode cX0_isRest 12 = .ok (.invokevirtual 43, 3) := gg8.1
theorem dX0_isRest_15 : decode cX0_isRest 15 = .ok (.istore 4, 2) := gg8.2.1
theorem dX0_isRest_17 : decode cX0_isRest 17 = .ok (.iconst (-1), 1) := gg8.2.2.1
theorem dX0_isRest_18 : decode cX0_isRest 18 = .ok (.istore 5, 2) := gg8.2.2.2.1
theorem dX0_isRest_20 : decode cX0_isRest 20 = .ok (.iload 5, 2) := gg8.2.2.2.2.1
theorem dX0_isRest_22 : decode cX0_isRest 22 = .ok (.aload_n 0, 1) := gg8.2.2.2.2.2.1
theorem dX0_isRest_23 : decode cX0_isRest 23 = .ok (.getfield 9, 3) := gg8.2.2.2.2.2.2.1
theorem dX0_isRest_26 : decode cX0_isRest 26 = .ok (.getfield 19, 3) := gg8.2.2.2.2.2.2.2.1
theorem dX0_isRest_29 : decode cX0_isRest 29 = .ok (.if_icmp .ge 38, 3) := gg8.2.2.2.2.2.2.2.2.1
theorem dX0_isRest_32 : decode cX0_isRest 32 = .ok (.aload_n 0, 1) := gg8.2.2.2.2.2.2.2.2.2
theorem gg9 : decode cX0_isRest 33 = .ok (.iload 5, 2) ∧ decode cX0_isRest 35 = .ok (.iload_n 2, 1) ∧ decode cX0_isRest 36 = .ok (.iconst 0, 1) ∧ decode cX0_isRest 37 = .ok (.invokevirtual 43, 3) ∧ decode cX0_isRest 40 = .ok (.iload_n 3, 1) ∧ decode cX0_isRest 41 = .ok (.if_icmp .le 5, 3) ∧ decode cX0_isRest 44 = .ok (.iconst 0, 1) ∧ decode cX0_isRest 45 = .ok (.ireturn, 1) ∧ decode cX0_isRest 46 = .ok (.aload_n 0, 1) ∧ decode cX0_isRest 47 = .ok (.iload_n 1, 1) := by decide +kernel
theorem dX0_isRest_33 : decode cX0_isRest 33 = .ok (.iload 5, 2) := gg9.1
theorem dX0_isRest_35 : decode cX0_isRest 35 = .ok (.iload_n 2, 1) := gg9.2.1
theorem dX0_isRest_36 : decode cX0_isRest 36 = .ok (.iconst 0, 1) := gg9.2.2.1
theorem dX0_isRest_37 : decode cX0_isRest 37 = .ok (.invokevirtual 43, 3) := gg9.2.2.2.1
theorem dX0_isRest_40 : decode cX0_isRest 40 = .ok (.iload_n 3, 1) := gg9.2.2.2.2.1
theorem dX0_isRest_41 : decode cX0_isRest 41 = .ok (.if_icmp .le 5, 3) := gg9.2.2.2.2.2.1
theorem dX0_isRest_44 : decode cX0_isRest 44 = .ok (.iconst 0, 1) := gg9.2.2.2.2.2.2.1
theorem dX0_isRest_45 : decode cX0_isRest 45 = .ok (.ireturn, 1) := gg9.2.2.2.2.2.2.2.1
theorem dX0_isRest_46 : decode cX0_isRest 46 = .ok (.aload_n 0, 1) := gg9.2.2.2.2.2.2.2.2.1
theorem dX0_isRest_47 : decode cX0_isRest 47 = .ok (.iload_n 1, 1) := gg9.2.2.2.2.2.2.2.2.2
theorem gg10 : decode cX0_isRest 48 = .ok (.iload 5, 2) ∧ decode cX0_isRest 50 = .ok (.iconst 1, 1) ∧ decode cX0_isRest 51 = .ok (.invokevirtual 43, 3) ∧ decode cX0_isRest 54 = .ok (.iload 4, 2) ∧ decode cX0_isRest 56 = .ok (.if_icmp .le 5, 3) ∧ decode cX0_isRest 59 = .ok (.iconst 0, 1) ∧ decode cX0_isRest 60 = .ok (.ireturn, 1) ∧ decode cX0_isRest 61 = .ok (.iinc 5 1, 3) ∧ decode cX0_isRest 64 = .ok (.goto (-44), 3) ∧ decode cX0_isRest 67 = .ok (.iconst 1, 1) := by decide +kernel
theorem dX0_isRest_48 : decode cX0_isRest 48 = .ok (.iload 5, 2) := gg10.1
theorem dX0_isRest_50 : decode cX0_isRest 50 = .ok (.iconst 1, 1) := gg10.2.1
theorem dX0_isRest_51 : decode cX0_isRest 51 = .ok (.invokevirtual 43, 3) := gg10.2.2.1
theorem dX0_isRest_54 : decode cX0_isRest 54 = .ok (.iload 4, 2) := gg10.2.2.2.1
theorem dX0_isRest_56 : decode cX0_isRest 56 = .ok (.if_icmp .le 5, 3) := gg10.2.2.2.2.1
theorem dX0_isRest_59 : decode cX0_isRest 59 = .ok (.iconst 0, 1) := gg10.2.2.2.2.2.1
theorem dX0_isRest_60 : decode cX0_isRest 60 = .ok (.ireturn, 1) := gg10.2.2.2.2.2.2.1
theorem dX0_isRest_61 : decode cX0_isRest 61 = .ok (.iinc 5 1, 3) := gg10.2.2.2.2.2.2.2.1
theorem dX0_isRest_64 : decode cX0_isRest 64 = .ok (.goto (-44), 3) := gg10.2.2.2.2.2.2.2.2.1
theorem dX0_isRest_67 : decode cX0_isRest 67 = .ok (.iconst 1, 1) := gg10.2.2.2.2.2.2.2.2.2
theorem dX0_isRest_68 : decode cX0_isRest 68 = .ok (.ireturn, 1) := by decide +kernel
theorem gg12 : decode cX0_restCount 0 = .ok (.iconst 0, 1) ∧ decode cX0_restCount 1 = .ok (.istore_n 1, 1) ∧ decode cX0_restCount 2 = .ok (.iconst (-1), 1) ∧ decode cX0_restCount 3 = .ok (.istore_n 2, 1) ∧ decode cX0_restCount 4 = .ok (.iload_n 2, 1) ∧ decode cX0_restCount 5 = .ok (.aload_n 0, 1) ∧ decode cX0_restCount 6 = .ok (.getfield 9, 3) ∧ decode cX0_restCount 9 = .ok (.getfield 19, 3) ∧ decode cX0_restCount 12 = .ok (.if_icmp .ge 40, 3) ∧ decode cX0_restCount 15 = .ok (.iconst (-1), 1) := by decide +kernel
theorem dX0_restCount_0 : decode cX0_restCount 0 = .ok (.iconst 0, 1) := gg12.1
theorem dX0_restCount_1 : decode cX0_restCount 1 = .ok (.istore_n 1, 1) := gg12.2.1
theorem dX0_restCount_2 : decode cX0_restCount 2 = .ok (.iconst (-1), 1) := gg12.2.2.1
theorem dX0_restCount_3 : decode cX0_restCount 3 = .ok (.istore_n 2, 1) := gg12.2.2.2.1
theorem dX0_restCount_4 : decode cX0_restCount 4 = .ok (.iload_n 2, 1) := gg12.2.2.2.2.1
theorem dX0_restCount_5 : decode cX0_restCount 5 = .ok (.aload_n 0, 1) := gg12.2.2.2.2.2.1
theorem dX0_restCount_6 : decode cX0_restCount 6 = .ok (.getfield 9, 3) := gg12.2.2.2.2.2.2.1
theorem dX0_restCount_9 : decode cX0_restCount 9 = .ok (.getfield 19, 3) := gg12.2.2.2.2.2.2.2.1
theorem dX0_restCount_12 : decode cX0_restCount 12 = .ok (.if_icmp .ge 40, 3) := gg12.2.2.2.2.2.2.2.2.1
theorem dX0_restCount_15 : decode cX0_restCount 15 = .ok (.iconst (-1), 1) := gg12.2.2.2.2.2.2.2.2.2
theorem gg13 : decode cX0_restCount 16 = .ok (.istore_n 3, 1) ∧ decode cX0_restCount 17 = .ok (.iload_n 3, 1) ∧ decode cX0_restCount 18 = .ok (.aload_n 0, 1) ∧ decode cX0_restCount 19 = .ok (.getfield 9, 3) ∧ decode cX0_restCount 22 = .ok (.getfield 19, 3) ∧ decode cX0_restCount 25 = .ok (.if_icmp .ge 21, 3) ∧ decode cX0_restCount 28 = .ok (.aload_n 0, 1) ∧ decode cX0_restCount 29 = .ok (.iload_n 2, 1) ∧ decode cX0_restCount 30 = .ok (.iload_n 3, 1) ∧ decode cX0_restCount 31 = .ok (.invokevirtual 47, 3) := by decide +kernel
theorem dX0_restCount_16 : decode cX0_restCount 16 = .ok (.istore_n 3, 1) := gg13.1
theorem dX0_restCount_17 : decode cX0_restCount 17 = .ok (.iload_n 3, 1) := gg13.2.1
theorem dX0_restCount_18 : decode cX0_restCount 18 = .ok (.aload_n 0, 1) := gg13.2.2.1
theorem dX0_restCount_19 : decode cX0_restCount 19 = .ok (.getfield 9, 3) := gg13.2.2.2.1
theorem dX0_restCount_22 : decode cX0_restCount 22 = .ok (.getfield 19, 3) := gg13.2.2.2.2.1
theorem dX0_restCount_25 : decode cX0_restCount 25 = .ok (.if_icmp .ge 21, 3) := gg13.2.2.2.2.2.1
theorem dX0_restCount_28 : decode cX0_restCount 28 = .ok (.aload_n 0, 1) := gg13.2.2.2.2.2.2.1
theorem dX0_restCount_29 : decode cX0_restCount 29 = .ok (.iload_n 2, 1) := gg13.2.2.2.2.2.2.2.1
theorem dX0_restCount_30 : decode cX0_restCount 30 = .ok (.iload_n 3, 1) := gg13.2.2.2.2.2.2.2.2.1
theorem dX0_restCount_31 : decode cX0_restCount 31 = .ok (.invokevirtual 47, 3) := gg13.2.2.2.2.2.2.2.2.2
theorem gg14 : decode cX0_restCount 34 = .ok (.ifCond .eq 6, 3) ∧ decode cX0_restCount 37 = .ok (.iinc 1 1, 3) ∧ decode cX0_restCount 40 = .ok (.iinc 3 1, 3) ∧ decode cX0_restCount 43 = .ok (.goto (-26), 3) ∧ decode cX0_restCount 46 = .ok (.iinc 2 1, 3) ∧ decode cX0_restCount 49 = .ok (.goto (-45), 3) ∧ decode cX0_restCount 52 = .ok (.iload_n 1, 1) ∧ decode cX0_restCount 53 = .ok (.ireturn, 1) := by decide +kernel
theorem dX0_restCount_34 : decode cX0_restCount 34 = .ok (.ifCond .eq 6, 3) := gg14.1
theorem dX0_restCount_37 : decode cX0_restCount 37 = .ok (.iinc 1 1, 3) := gg14.2.1
theorem dX0_restCount_40 : decode cX0_restCount 40 = .ok (.iinc 3 1, 3) := gg14.2.2.1
theorem dX0_restCount_43 : decode cX0_restCount 43 = .ok (.goto (-26), 3) := gg14.2.2.2.1
theorem dX0_restCount_46 : decode cX0_restCount 46 = .ok (.iinc 2 1, 3) := gg14.2.2.2.2.1
theorem dX0_restCount_49 : decode cX0_restCount 49 = .ok (.goto (-45), 3) := gg14.2.2.2.2.2.1
theorem dX0_restCount_52 : decode cX0_restCount 52 = .ok (.iload_n 1, 1) := gg14.2.2.2.2.2.2.1
theorem dX0_restCount_53 : decode cX0_restCount 53 = .ok (.ireturn, 1) := gg14.2.2.2.2.2.2.2
theorem gg15 : decode cX0_actOfFirstRest 0 = .ok (.iconst (-1), 1) ∧ decode cX0_actOfFirstRest 1 = .ok (.istore_n 2, 1) ∧ decode cX0_actOfFirstRest 2 = .ok (.iload_n 2, 1) ∧ decode cX0_actOfFirstRest 3 = .ok (.aload_n 0, 1) ∧ decode cX0_actOfFirstRest 4 = .ok (.getfield 9, 3) ∧ decode cX0_actOfFirstRest 7 = .ok (.getfield 19, 3) ∧ decode cX0_actOfFirstRest 10 = .ok (.if_icmp .ge 47, 3) ∧ decode cX0_actOfFirstRest 13 = .ok (.iconst (-1), 1) ∧ decode cX0_actOfFirstRest 14 = .ok (.istore_n 3, 1) ∧ decode cX0_actOfFirstRest 15 = .ok (.iload_n 3, 1) := by decide +kernel
theorem dX0_actOfFirstRest_0 : decode cX0_actOfFirstRest 0 = .ok (.iconst (-1), 1) := gg15.1
theorem dX0_actOfFirstRest_1 : decode cX0_actOfFirstRest 1 = .ok (.istore_n 2, 1) := gg15.2.1
theorem dX0_actOfFirstRest_2 : decode cX0_actOfFirstRest 2 = .ok (.iload_n 2, 1) := gg15.2.2.1
theorem dX0_actOfFirstRest_3 : decode cX0_actOfFirstRest 3 = .ok (.aload_n 0, 1) := gg15.2.2.2.1
theorem dX0_actOfFirstRest_4 : decode cX0_actOfFirstRest 4 = .ok (.getfield 9, 3) := gg15.2.2.2.2.1
theorem dX0_actOfFirstRest_7 : decode cX0_actOfFirstRest 7 = .ok (.getfield 19, 3) := gg15.2.2.2.2.2.1
theorem dX0_actOfFirstRest_10 : decode cX0_actOfFirstRest 10 = .ok (.if_icmp .ge 47, 3) := gg15.2.2.2.2.2.2.1
theorem dX0_actOfFirstRest_13 : decode cX0_actOfFirstRest 13 = .ok (.iconst (-1), 1) := gg15.2.2.2.2.2.2.2.1
theorem dX0_actOfFirstRest_14 : decode cX0_actOfFirstRest 14 = .ok (.istore_n 3, 1) := gg15.2.2.2.2.2.2.2.2.1
theorem dX0_actOfFirstRest_15 : decode cX0_actOfFirstRest 15 = .ok (.iload_n 3, 1) := gg15.2.2.2.2.2.2.2.2.2
theorem gg16 : decode cX0_actOfFirstRest 16 = .ok (.aload_n 0, 1) ∧ decode cX0_actOfFirstRest 17 = .ok (.getfield 9, 3) ∧ decode cX0_actOfFirstRest 20 = .ok (.getfield 19, 3) ∧ decode cX0_actOfFirstRest 23 = .ok (.if_icmp .ge 28, 3) ∧ decode cX0_actOfFirstRest 26 = .ok (.aload_n 0, 1) ∧ decode cX0_actOfFirstRest 27 = .ok (.iload_n 2, 1) ∧ decode cX0_actOfFirstRest 28 = .ok (.iload_n 3, 1) ∧ decode cX0_actOfFirstRest 29 = .ok (.invokevirtual 47, 3) ∧ decode cX0_actOfFirstRest 32 = .ok (.ifCond .eq 13, 3) ∧ decode cX0_actOfFirstRest 35 = .ok (.iload_n 1, 1) := by decide +kernel
theorem dX0_actOfFirstRest_16 : decode cX0_actOfFirstRest 16 = .ok (.aload_n 0, 1) := gg16.1
theorem dX0_actOfFirstRest_17 : decode cX0_actOfFirstRest 17 = .ok (.getfield 9, 3) := gg16.2.1
theorem dX0_actOfFirstRest_20 : decode cX0_actOfFirstRest 20 = .ok (.getfield 19, 3) := gg16.2.2.1
theorem dX0_actOfFirstRest_23 : decode cX0_actOfFirstRest 23 = .ok (.if_icmp .ge 28, 3) := gg16.2.2.2.1
theorem dX0_actOfFirstRest_26 : decode cX0_actOfFirstRest 26 = .ok (.aload_n 0, 1) := gg16.2.2.2.2.1
theorem dX0_actOfFirstRest_27 : decode cX0_actOfFirstRest 27 = .ok (.iload_n 2, 1) := gg16.2.2.2.2.2.1
theorem dX0_actOfFirstRest_28 : decode cX0_actOfFirstRest 28 = .ok (.iload_n 3, 1) := gg16.2.2.2.2.2.2.1
theorem dX0_actOfFirstRest_29 : decode cX0_actOfFirstRest 29 = .ok (.invokevirtual 47, 3) := gg16.2.2.2.2.2.2.2.1
theorem dX0_actOfFirstRest_32 : decode cX0_actOfFirstRest 32 = .ok (.ifCond .eq 13, 3) := gg16.2.2.2.2.2.2.2.2.1
theorem dX0_actOfFirstRest_35 : decode cX0_actOfFirstRest 35 = .ok (.iload_n 1, 1) := gg16.2.2.2.2.2.2.2.2.2
theorem gg17 : decode cX0_actOfFirstRest 36 = .ok (.ifCond .ne 7, 3) ∧ decode cX0_actOfFirstRest 39 = .ok (.iload_n 2, 1) ∧ decode cX0_actOfFirstRest 40 = .ok (.goto 4, 3) ∧ decode cX0_actOfFirstRest 43 = .ok (.iload_n 3, 1) ∧ decode cX0_actOfFirstRest 44 = .ok (.ireturn, 1) ∧ decode cX0_actOfFirstRest 45 = .ok (.iinc 3 1, 3) ∧ decode cX0_actOfFirstRest 48 = .ok (.goto (-33), 3) ∧ decode cX0_actOfFirstRest 51 = .ok (.iinc 2 1, 3) ∧ decode cX0_actOfFirstRest 54 = .ok (.goto (-52), 3) ∧ decode cX0_actOfFirstRest 57 = .ok (.iconst (-1), 1) := by decide +kernel
theorem dX0_actOfFirstRest_36 : decode cX0_actOfFirstRest 36 = .ok (.ifCond .ne 7, 3) := gg17.1
theorem dX0_actOfFirstRest_39 : decode cX0_actOfFirstRest 39 = .ok (.iload_n 2, 1) := gg17.2.1
theorem dX0_actOfFirstRest_40 : decode cX0_actOfFirstRest 40 = .ok (.goto 4, 3) := gg17.2.2.1
theorem dX0_actOfFirstRest_43 : decode cX0_actOfFirstRest 43 = .ok (.iload_n 3, 1) := gg17.2.2.2.1
theorem dX0_actOfFirstRest_44 : decode cX0_actOfFirstRest 44 = .ok (.ireturn, 1) := gg17.2.2.2.2.1
theorem dX0_actOfFirstRest_45 : decode cX0_actOfFirstRest 45 = .ok (.iinc 3 1, 3) := gg17.2.2.2.2.2.1
theorem dX0_actOfFirstRest_48 : decode cX0_actOfFirstRest 48 = .ok (.goto (-33), 3) := gg17.2.2.2.2.2.2.1
theorem dX0_actOfFirstRest_51 : decode cX0_actOfFirstRest 51 = .ok (.iinc 2 1, 3) := gg17.2.2.2.2.2.2.2.1
theorem dX0_actOfFirstRest_54 : decode cX0_actOfFirstRest 54 = .ok (.goto (-52), 3) := gg17.2.2.2.2.2.2.2.2.1
theorem dX0_actOfFirstRest_57 : decode cX0_actOfFirstRest 57 = .ok (.iconst (-1), 1) := gg17.2.2.2.2.2.2.2.2.2
theorem dX0_actOfFirstRest_58 : decode cX0_actOfFirstRest 58 = .ok (.ireturn, 1) := by decide +kernel
theorem gg19 : decode cX0_lawsOfTreaty 0 = .ok (.aload_n 0, 1) ∧ decode cX0_lawsOfTreaty 1 = .ok (.getfield 15, 3) ∧ decode cX0_lawsOfTreaty 4 = .ok (.getfield 32, 3) ∧ decode cX0_lawsOfTreaty 7 = .ok (.istore_n 2, 1) ∧ decode cX0_lawsOfTreaty 8 = .ok (.iconst 0, 1) ∧ decode cX0_lawsOfTreaty 9 = .ok (.istore_n 3, 1) ∧ decode cX0_lawsOfTreaty 10 = .ok (.iload_n 3, 1) ∧ decode cX0_lawsOfTreaty 11 = .ok (.aload_n 0, 1) ∧ decode cX0_lawsOfTreaty 12 = .ok (.getfield 9, 3) ∧ decode cX0_lawsOfTreaty 15 = .ok (.getfield 19, 3) := by decide +kernel
theorem dX0_lawsOfTreaty_0 : decode cX0_lawsOfTreaty 0 = .ok (.aload_n 0, 1) := gg19.1
theorem dX0_lawsOfTreaty_1 : decode cX0_lawsOfTreaty 1 = .ok (.getfield 15, 3) := gg19.2.1
theorem dX0_lawsOfTreaty_4 : decode cX0_lawsOfTreaty 4 = .ok (.getfield 32, 3) := gg19.2.2.1
theorem dX0_lawsOfTreaty_7 : decode cX0_lawsOfTreaty 7 = .ok (.istore_n 2, 1) := gg19.2.2.2.1
theorem dX0_lawsOfTreaty_8 : decode cX0_lawsOfTreaty 8 = .ok (.iconst 0, 1) := gg19.2.2.2.2.1
theorem dX0_lawsOfTreaty_9 : decode cX0_lawsOfTreaty 9 = .ok (.istore_n 3, 1) := gg19.2.2.2.2.2.1
theorem dX0_lawsOfTreaty_10 : decode cX0_lawsOfTreaty 10 = .ok (.iload_n 3, 1) := gg19.2.2.2.2.2.2.1
theorem dX0_lawsOfTreaty_11 : decode cX0_lawsOfTreaty 11 = .ok (.aload_n 0, 1) := gg19.2.2.2.2.2.2.2.1
theorem dX0_lawsOfTreaty_12 : decode cX0_lawsOfTreaty 12 = .ok (.getfield 9, 3) := gg19.2.2.2.2.2.2.2.2.1
theorem dX0_lawsOfTreaty_15 : decode cX0_lawsOfTreaty 15 = .ok (.getfield 19, 3) := gg19.2.2.2.2.2.2.2.2.2
theorem gg20 : decode cX0_lawsOfTreaty 18 = .ok (.if_icmp .ge 26, 3) ∧ decode cX0_lawsOfTreaty 21 = .ok (.iload_n 1, 1) ∧ decode cX0_lawsOfTreaty 22 = .ok (.iload_n 3, 1) ∧ decode cX0_lawsOfTreaty 23 = .ok (.ishr, 1) ∧ decode cX0_lawsOfTreaty 24 = .ok (.iconst 1, 1) ∧ decode cX0_lawsOfTreaty 25 = .ok (.iand, 1) ∧ decode cX0_lawsOfTreaty 26 = .ok (.iconst 1, 1) ∧ decode cX0_lawsOfTreaty 27 = .ok (.if_icmp .ne 11, 3) ∧ decode cX0_lawsOfTreaty 30 = .ok (.iload_n 2, 1) ∧ decode cX0_lawsOfTreaty 31 = .ok (.iload_n 3, 1) := by decide +kernel
theorem dX0_lawsOfTreaty_18 : decode cX0_lawsOfTreaty 18 = .ok (.if_icmp .ge 26, 3) := gg20.1
theorem dX0_lawsOfTreaty_21 : decode cX0_lawsOfTreaty 21 = .ok (.iload_n 1, 1) := gg20.2.1
theorem dX0_lawsOfTreaty_22 : decode cX0_lawsOfTreaty 22 = .ok (.iload_n 3, 1) := gg20.2.2.1
theorem dX0_lawsOfTreaty_23 : decode cX0_lawsOfTreaty 23 = .ok (.ishr, 1) := gg20.2.2.2.1
theorem dX0_lawsOfTreaty_24 : decode cX0_lawsOfTreaty 24 = .ok (.iconst 1, 1) := gg20.2.2.2.2.1
theorem dX0_lawsOfTreaty_25 : decode cX0_lawsOfTreaty 25 = .ok (.iand, 1) := gg20.2.2.2.2.2.1
theorem dX0_lawsOfTreaty_26 : decode cX0_lawsOfTreaty 26 = .ok (.iconst 1, 1) := gg20.2.2.2.2.2.2.1
theorem dX0_lawsOfTreaty_27 : decode cX0_lawsOfTreaty 27 = .ok (.if_icmp .ne 11, 3) := gg20.2.2.2.2.2.2.2.1
theorem dX0_lawsOfTreaty_30 : decode cX0_lawsOfTreaty 30 = .ok (.iload_n 2, 1) := gg20.2.2.2.2.2.2.2.2.1
theorem dX0_lawsOfTreaty_31 : decode cX0_lawsOfTreaty 31 = .ok (.iload_n 3, 1) := gg20.2.2.2.2.2.2.2.2.2
theorem gg21 : decode cX0_lawsOfTreaty 32 = .ok (.iconst 3, 1) ∧ decode cX0_lawsOfTreaty 33 = .ok (.invokestatic 37, 3) ∧ decode cX0_lawsOfTreaty 36 = .ok (.ior, 1) ∧ decode cX0_lawsOfTreaty 37 = .ok (.istore_n 2, 1) ∧ decode cX0_lawsOfTreaty 38 = .ok (.iinc 3 1, 3) ∧ decode cX0_lawsOfTreaty 41 = .ok (.goto (-31), 3) ∧ decode cX0_lawsOfTreaty 44 = .ok (.iload_n 2, 1) ∧ decode cX0_lawsOfTreaty 45 = .ok (.ireturn, 1) := by decide +kernel
theorem dX0_lawsOfTreaty_32 : decode cX0_lawsOfTreaty 32 = .ok (.iconst 3, 1) := gg21.1
theorem dX0_lawsOfTreaty_33 : decode cX0_lawsOfTreaty 33 = .ok (.invokestatic 37, 3) := gg21.2.1
theorem dX0_lawsOfTreaty_36 : decode cX0_lawsOfTreaty 36 = .ok (.ior, 1) := gg21.2.2.1
theorem dX0_lawsOfTreaty_37 : decode cX0_lawsOfTreaty 37 = .ok (.istore_n 2, 1) := gg21.2.2.2.1
theorem dX0_lawsOfTreaty_38 : decode cX0_lawsOfTreaty 38 = .ok (.iinc 3 1, 3) := gg21.2.2.2.2.1
theorem dX0_lawsOfTreaty_41 : decode cX0_lawsOfTreaty 41 = .ok (.goto (-31), 3) := gg21.2.2.2.2.2.1
theorem dX0_lawsOfTreaty_44 : decode cX0_lawsOfTreaty 44 = .ok (.iload_n 2, 1) := gg21.2.2.2.2.2.2.1
theorem dX0_lawsOfTreaty_45 : decode cX0_lawsOfTreaty 45 = .ok (.ireturn, 1) := gg21.2.2.2.2.2.2.2
theorem gg22 : decode cX0_isFirm 0 = .ok (.aload_n 0, 1) ∧ decode cX0_isFirm 1 = .ok (.iload_n 1, 1) ∧ decode cX0_isFirm 2 = .ok (.invokevirtual 51, 3) ∧ decode cX0_isFirm 5 = .ok (.istore_n 2, 1) ∧ decode cX0_isFirm 6 = .ok (.iconst 0, 1) ∧ decode cX0_isFirm 7 = .ok (.istore_n 3, 1) ∧ decode cX0_isFirm 8 = .ok (.iload_n 3, 1) ∧ decode cX0_isFirm 9 = .ok (.aload_n 0, 1) ∧ decode cX0_isFirm 10 = .ok (.getfield 9, 3) ∧ decode cX0_isFirm 13 = .ok (.getfield 19, 3) := by decide +kernel
theorem dX0_isFirm_0 : decode cX0_isFirm 0 = .ok (.aload_n 0, 1) := gg22.1
theorem dX0_isFirm_1 : decode cX0_isFirm 1 = .ok (.iload_n 1, 1) := gg22.2.1
theorem dX0_isFirm_2 : decode cX0_isFirm 2 = .ok (.invokevirtual 51, 3) := gg22.2.2.1
theorem dX0_isFirm_5 : decode cX0_isFirm 5 = .ok (.istore_n 2, 1) := gg22.2.2.2.1
theorem dX0_isFirm_6 : decode cX0_isFirm 6 = .ok (.iconst 0, 1) := gg22.2.2.2.2.1
theorem dX0_isFirm_7 : decode cX0_isFirm 7 = .ok (.istore_n 3, 1) := gg22.2.2.2.2.2.1
theorem dX0_isFirm_8 : decode cX0_isFirm 8 = .ok (.iload_n 3, 1) := gg22.2.2.2.2.2.2.1
theorem dX0_isFirm_9 : decode cX0_isFirm 9 = .ok (.aload_n 0, 1) := gg22.2.2.2.2.2.2.2.1
theorem dX0_isFirm_10 : decode cX0_isFirm 10 = .ok (.getfield 9, 3) := gg22.2.2.2.2.2.2.2.2.1
theorem dX0_isFirm_13 : decode cX0_isFirm 13 = .ok (.getfield 19, 3) := gg22.2.2.2.2.2.2.2.2.2
theorem gg23 : decode cX0_isFirm 16 = .ok (.if_icmp .ge 41, 3) ∧ decode cX0_isFirm 19 = .ok (.iload_n 2, 1) ∧ decode cX0_isFirm 20 = .ok (.iload_n 3, 1) ∧ decode cX0_isFirm 21 = .ok (.iconst 3, 1) ∧ decode cX0_isFirm 22 = .ok (.invokestatic 37, 3) ∧ decode cX0_isFirm 25 = .ok (.iconst (-1), 1) ∧ decode cX0_isFirm 26 = .ok (.ixor, 1) ∧ decode cX0_isFirm 27 = .ok (.iand, 1) ∧ decode cX0_isFirm 28 = .ok (.istore 4, 2) ∧ decode cX0_isFirm 30 = .ok (.iload_n 1, 1) := by decide +kernel
theorem dX0_isFirm_16 : decode cX0_isFirm 16 = .ok (.if_icmp .ge 41, 3) := gg23.1
theorem dX0_isFirm_19 : decode cX0_isFirm 19 = .ok (.iload_n 2, 1) := gg23.2.1
theorem dX0_isFirm_20 : decode cX0_isFirm 20 = .ok (.iload_n 3, 1) := gg23.2.2.1
theorem dX0_isFirm_21 : decode cX0_isFirm 21 = .ok (.iconst 3, 1) := gg23.2.2.2.1
theorem dX0_isFirm_22 : decode cX0_isFirm 22 = .ok (.invokestatic 37, 3) := gg23.2.2.2.2.1
theorem dX0_isFirm_25 : decode cX0_isFirm 25 = .ok (.iconst (-1), 1) := gg23.2.2.2.2.2.1
theorem dX0_isFirm_26 : decode cX0_isFirm 26 = .ok (.ixor, 1) := gg23.2.2.2.2.2.2.1
theorem dX0_isFirm_27 : decode cX0_isFirm 27 = .ok (.iand, 1) := gg23.2.2.2.2.2.2.2.1
theorem dX0_isFirm_28 : decode cX0_isFirm 28 = .ok (.istore 4, 2) := gg23.2.2.2.2.2.2.2.2.1
theorem dX0_isFirm_30 : decode cX0_isFirm 30 = .ok (.iload_n 1, 1) := gg23.2.2.2.2.2.2.2.2.2
theorem gg24 : decode cX0_isFirm 31 = .ok (.iload_n 3, 1) ∧ decode cX0_isFirm 32 = .ok (.ishr, 1) ∧ decode cX0_isFirm 33 = .ok (.iconst 1, 1) ∧ decode cX0_isFirm 34 = .ok (.iand, 1) ∧ decode cX0_isFirm 35 = .ok (.iconst 1, 1) ∧ decode cX0_isFirm 36 = .ok (.if_icmp .ne 15, 3) ∧ decode cX0_isFirm 39 = .ok (.aload_n 0, 1) ∧ decode cX0_isFirm 40 = .ok (.iload 4, 2) ∧ decode cX0_isFirm 42 = .ok (.iload_n 2, 1) ∧ decode cX0_isFirm 43 = .ok (.invokevirtual 55, 3) := by decide +kernel
theorem dX0_isFirm_31 : decode cX0_isFirm 31 = .ok (.iload_n 3, 1) := gg24.1
theorem dX0_isFirm_32 : decode cX0_isFirm 32 = .ok (.ishr, 1) := gg24.2.1
theorem dX0_isFirm_33 : decode cX0_isFirm 33 = .ok (.iconst 1, 1) := gg24.2.2.1
theorem dX0_isFirm_34 : decode cX0_isFirm 34 = .ok (.iand, 1) := gg24.2.2.2.1
theorem dX0_isFirm_35 : decode cX0_isFirm 35 = .ok (.iconst 1, 1) := gg24.2.2.2.2.1
theorem dX0_isFirm_36 : decode cX0_isFirm 36 = .ok (.if_icmp .ne 15, 3) := gg24.2.2.2.2.2.1
theorem dX0_isFirm_39 : decode cX0_isFirm 39 = .ok (.aload_n 0, 1) := gg24.2.2.2.2.2.2.1
theorem dX0_isFirm_40 : decode cX0_isFirm 40 = .ok (.iload 4, 2) := gg24.2.2.2.2.2.2.2.1
theorem dX0_isFirm_42 : decode cX0_isFirm 42 = .ok (.iload_n 2, 1) := gg24.2.2.2.2.2.2.2.2.1
theorem dX0_isFirm_43 : decode cX0_isFirm 43 = .ok (.invokevirtual 55, 3) := gg24.2.2.2.2.2.2.2.2.2
theorem gg25 : decode cX0_isFirm 46 = .ok (.ifCond .eq 5, 3) ∧ decode cX0_isFirm 49 = .ok (.iconst 0, 1) ∧ decode cX0_isFirm 50 = .ok (.ireturn, 1) ∧ decode cX0_isFirm 51 = .ok (.iinc 3 1, 3) ∧ decode cX0_isFirm 54 = .ok (.goto (-46), 3) ∧ decode cX0_isFirm 57 = .ok (.iconst 1, 1) ∧ decode cX0_isFirm 58 = .ok (.ireturn, 1) := by decide +kernel
theorem dX0_isFirm_46 : decode cX0_isFirm 46 = .ok (.ifCond .eq 5, 3) := gg25.1
theorem dX0_isFirm_49 : decode cX0_isFirm 49 = .ok (.iconst 0, 1) := gg25.2.1
theorem dX0_isFirm_50 : decode cX0_isFirm 50 = .ok (.ireturn, 1) := gg25.2.2.1
theorem dX0_isFirm_51 : decode cX0_isFirm 51 = .ok (.iinc 3 1, 3) := gg25.2.2.2.1
theorem dX0_isFirm_54 : decode cX0_isFirm 54 = .ok (.goto (-46), 3) := gg25.2.2.2.2.1
theorem dX0_isFirm_57 : decode cX0_isFirm 57 = .ok (.iconst 1, 1) := gg25.2.2.2.2.2.1
theorem dX0_isFirm_58 : decode cX0_isFirm 58 = .ok (.ireturn, 1) := gg25.2.2.2.2.2.2
theorem gg26 : decode cX0_suitsEither 0 = .ok (.aload_n 0, 1) ∧ decode cX0_suitsEither 1 = .ok (.iload_n 1, 1) ∧ decode cX0_suitsEither 2 = .ok (.iconst 0, 1) ∧ decode cX0_suitsEither 3 = .ok (.invokevirtual 40, 3) ∧ decode cX0_suitsEither 6 = .ok (.aload_n 0, 1) ∧ decode cX0_suitsEither 7 = .ok (.iload_n 2, 1) ∧ decode cX0_suitsEither 8 = .ok (.iconst 0, 1) ∧ decode cX0_suitsEither 9 = .ok (.invokevirtual 40, 3) ∧ decode cX0_suitsEither 12 = .ok (.if_icmp .gt 18, 3) ∧ decode cX0_suitsEither 15 = .ok (.aload_n 0, 1) := by decide +kernel
theorem dX0_suitsEither_0 : decode cX0_suitsEither 0 = .ok (.aload_n 0, 1) := gg26.1
theorem dX0_suitsEither_1 : decode cX0_suitsEither 1 = .ok (.iload_n 1, 1) := gg26.2.1
theorem dX0_suitsEither_2 : decode cX0_suitsEither 2 = .ok (.iconst 0, 1) := gg26.2.2.1
theorem dX0_suitsEither_3 : decode cX0_suitsEither 3 = .ok (.invokevirtual 40, 3) := gg26.2.2.2.1
theorem dX0_suitsEither_6 : decode cX0_suitsEither 6 = .ok (.aload_n 0, 1) := gg26.2.2.2.2.1
theorem dX0_suitsEither_7 : decode cX0_suitsEither 7 = .ok (.iload_n 2, 1) := gg26.2.2.2.2.2.1
theorem dX0_suitsEither_8 : decode cX0_suitsEither 8 = .ok (.iconst 0, 1) := gg26.2.2.2.2.2.2.1
theorem dX0_suitsEither_9 : decode cX0_suitsEither 9 = .ok (.invokevirtual 40, 3) := gg26.2.2.2.2.2.2.2.1
theorem dX0_suitsEither_12 : decode cX0_suitsEither 12 = .ok (.if_icmp .gt 18, 3) := gg26.2.2.2.2.2.2.2.2.1
theorem dX0_suitsEither_15 : decode cX0_suitsEither 15 = .ok (.aload_n 0, 1) := gg26.2.2.2.2.2.2.2.2.2
theorem gg27 : decode cX0_suitsEither 16 = .ok (.iload_n 1, 1) ∧ decode cX0_suitsEither 17 = .ok (.iconst 1, 1) ∧ decode cX0_suitsEither 18 = .ok (.invokevirtual 40, 3) ∧ decode cX0_suitsEither 21 = .ok (.aload_n 0, 1) ∧ decode cX0_suitsEither 22 = .ok (.iload_n 2, 1) ∧ decode cX0_suitsEither 23 = .ok (.iconst 1, 1) ∧ decode cX0_suitsEither 24 = .ok (.invokevirtual 40, 3) ∧ decode cX0_suitsEither 27 = .ok (.if_icmp .le 7, 3) ∧ decode cX0_suitsEither 30 = .ok (.iconst 1, 1) ∧ decode cX0_suitsEither 31 = .ok (.goto 4, 3) := by decide +kernel
theorem dX0_suitsEither_16 : decode cX0_suitsEither 16 = .ok (.iload_n 1, 1) := gg27.1
theorem dX0_suitsEither_17 : decode cX0_suitsEither 17 = .ok (.iconst 1, 1) := gg27.2.1
theorem dX0_suitsEither_18 : decode cX0_suitsEither 18 = .ok (.invokevirtual 40, 3) := gg27.2.2.1
theorem dX0_suitsEither_21 : decode cX0_suitsEither 21 = .ok (.aload_n 0, 1) := gg27.2.2.2.1
theorem dX0_suitsEither_22 : decode cX0_suitsEither 22 = .ok (.iload_n 2, 1) := gg27.2.2.2.2.1
theorem dX0_suitsEither_23 : decode cX0_suitsEither 23 = .ok (.iconst 1, 1) := gg27.2.2.2.2.2.1
theorem dX0_suitsEither_24 : decode cX0_suitsEither 24 = .ok (.invokevirtual 40, 3) := gg27.2.2.2.2.2.2.1
theorem dX0_suitsEither_27 : decode cX0_suitsEither 27 = .ok (.if_icmp .le 7, 3) := gg27.2.2.2.2.2.2.2.1
theorem dX0_suitsEither_30 : decode cX0_suitsEither 30 = .ok (.iconst 1, 1) := gg27.2.2.2.2.2.2.2.2.1
theorem dX0_suitsEither_31 : decode cX0_suitsEither 31 = .ok (.goto 4, 3) := gg27.2.2.2.2.2.2.2.2.2
theorem gg28 : decode cX0_suitsEither 34 = .ok (.iconst 0, 1) ∧ decode cX0_suitsEither 35 = .ok (.ireturn, 1) := by decide +kernel
theorem dX0_suitsEither_34 : decode cX0_suitsEither 34 = .ok (.iconst 0, 1) := gg28.1
theorem dX0_suitsEither_35 : decode cX0_suitsEither 35 = .ok (.ireturn, 1) := gg28.2
theorem gg29 : decode cX0_gainsOfTreaty 0 = .ok (.aload_n 0, 1) ∧ decode cX0_gainsOfTreaty 1 = .ok (.iload_n 1, 1) ∧ decode cX0_gainsOfTreaty 2 = .ok (.invokevirtual 51, 3) ∧ decode cX0_gainsOfTreaty 5 = .ok (.istore_n 2, 1) ∧ decode cX0_gainsOfTreaty 6 = .ok (.aload_n 0, 1) ∧ decode cX0_gainsOfTreaty 7 = .ok (.iload_n 2, 1) ∧ decode cX0_gainsOfTreaty 8 = .ok (.iconst 0, 1) ∧ decode cX0_gainsOfTreaty 9 = .ok (.invokevirtual 40, 3) ∧ decode cX0_gainsOfTreaty 12 = .ok (.aload_n 0, 1) ∧ decode cX0_gainsOfTreaty 13 = .ok (.iload_n 2, 1) := by decide +kernel
theorem dX0_gainsOfTreaty_0 : decode cX0_gainsOfTreaty 0 = .ok (.aload_n 0, 1) := gg29.1
theorem dX0_gainsOfTreaty_1 : decode cX0_gainsOfTreaty 1 = .ok (.iload_n 1, 1) := gg29.2.1
theorem dX0_gainsOfTreaty_2 : decode cX0_gainsOfTreaty 2 = .ok (.invokevirtual 51, 3) := gg29.2.2.1
theorem dX0_gainsOfTreaty_5 : decode cX0_gainsOfTreaty 5 = .ok (.istore_n 2, 1) := gg29.2.2.2.1
theorem dX0_gainsOfTreaty_6 : decode cX0_gainsOfTreaty 6 = .ok (.aload_n 0, 1) := gg29.2.2.2.2.1
theorem dX0_gainsOfTreaty_7 : decode cX0_gainsOfTreaty 7 = .ok (.iload_n 2, 1) := gg29.2.2.2.2.2.1
theorem dX0_gainsOfTreaty_8 : decode cX0_gainsOfTreaty 8 = .ok (.iconst 0, 1) := gg29.2.2.2.2.2.2.1
theorem dX0_gainsOfTreaty_9 : decode cX0_gainsOfTreaty 9 = .ok (.invokevirtual 40, 3) := gg29.2.2.2.2.2.2.2.1
theorem dX0_gainsOfTreaty_12 : decode cX0_gainsOfTreaty 12 = .ok (.aload_n 0, 1) := gg29.2.2.2.2.2.2.2.2.1
theorem dX0_gainsOfTreaty_13 : decode cX0_gainsOfTreaty 13 = .ok (.iload_n 2, 1) := gg29.2.2.2.2.2.2.2.2.2
theorem gg30 : decode cX0_gainsOfTreaty 14 = .ok (.iconst 1, 1) ∧ decode cX0_gainsOfTreaty 15 = .ok (.invokevirtual 40, 3) ∧ decode cX0_gainsOfTreaty 18 = .ok (.iadd, 1) ∧ decode cX0_gainsOfTreaty 19 = .ok (.ireturn, 1) := by decide +kernel
theorem dX0_gainsOfTreaty_14 : decode cX0_gainsOfTreaty 14 = .ok (.iconst 1, 1) := gg30.1
theorem dX0_gainsOfTreaty_15 : decode cX0_gainsOfTreaty 15 = .ok (.invokevirtual 40, 3) := gg30.2.1
theorem dX0_gainsOfTreaty_18 : decode cX0_gainsOfTreaty 18 = .ok (.iadd, 1) := gg30.2.2.1
theorem dX0_gainsOfTreaty_19 : decode cX0_gainsOfTreaty 19 = .ok (.ireturn, 1) := gg30.2.2.2
theorem gg31 : decode cX0_bestTreaty 0 = .ok (.iconst 0, 1) ∧ decode cX0_bestTreaty 1 = .ok (.istore_n 1, 1) ∧ decode cX0_bestTreaty 2 = .ok (.aload_n 0, 1) ∧ decode cX0_bestTreaty 3 = .ok (.iconst 0, 1) ∧ decode cX0_bestTreaty 4 = .ok (.invokevirtual 58, 3) ∧ decode cX0_bestTreaty 7 = .ok (.istore_n 2, 1) ∧ decode cX0_bestTreaty 8 = .ok (.iconst 1, 1) ∧ decode cX0_bestTreaty 9 = .ok (.istore_n 3, 1) ∧ decode cX0_bestTreaty 10 = .ok (.iload_n 3, 1) ∧ decode cX0_bestTreaty 11 = .ok (.iconst 1, 1) := by decide +kernel
theorem dX0_bestTreaty_0 : decode cX0_bestTreaty 0 = .ok (.iconst 0, 1) := gg31.1
theorem dX0_bestTreaty_1 : decode cX0_bestTreaty 1 = .ok (.istore_n 1, 1) := gg31.2.1
theorem dX0_bestTreaty_2 : decode cX0_bestTreaty 2 = .ok (.aload_n 0, 1) := gg31.2.2.1
theorem dX0_bestTreaty_3 : decode cX0_bestTreaty 3 = .ok (.iconst 0, 1) := gg31.2.2.2.1
theorem dX0_bestTreaty_4 : decode cX0_bestTreaty 4 = .ok (.invokevirtual 58, 3) := gg31.2.2.2.2.1
theorem dX0_bestTreaty_7 : decode cX0_bestTreaty 7 = .ok (.istore_n 2, 1) := gg31.2.2.2.2.2.1
theorem dX0_bestTreaty_8 : decode cX0_bestTreaty 8 = .ok (.iconst 1, 1) := gg31.2.2.2.2.2.2.1
theorem dX0_bestTreaty_9 : decode cX0_bestTreaty 9 = .ok (.istore_n 3, 1) := gg31.2.2.2.2.2.2.2.1
theorem dX0_bestTreaty_10 : decode cX0_bestTreaty 10 = .ok (.iload_n 3, 1) := gg31.2.2.2.2.2.2.2.2.1
theorem dX0_bestTreaty_11 : decode cX0_bestTreaty 11 = .ok (.iconst 1, 1) := gg31.2.2.2.2.2.2.2.2.2
theorem gg32 : decode cX0_bestTreaty 12 = .ok (.aload_n 0, 1) ∧ decode cX0_bestTreaty 13 = .ok (.getfield 9, 3) ∧ decode cX0_bestTreaty 16 = .ok (.getfield 19, 3) ∧ decode cX0_bestTreaty 19 = .ok (.ishl, 1) ∧ decode cX0_bestTreaty 20 = .ok (.if_icmp .ge 35, 3) ∧ decode cX0_bestTreaty 23 = .ok (.aload_n 0, 1) ∧ decode cX0_bestTreaty 24 = .ok (.iload_n 3, 1) ∧ decode cX0_bestTreaty 25 = .ok (.invokevirtual 58, 3) ∧ decode cX0_bestTreaty 28 = .ok (.istore 4, 2) ∧ decode cX0_bestTreaty 30 = .ok (.iload 4, 2) := by decide +kernel
theorem dX0_bestTreaty_12 : decode cX0_bestTreaty 12 = .ok (.aload_n 0, 1) := gg32.1
theorem dX0_bestTreaty_13 : decode cX0_bestTreaty 13 = .ok (.getfield 9, 3) := gg32.2.1
theorem dX0_bestTreaty_16 : decode cX0_bestTreaty 16 = .ok (.getfield 19, 3) := gg32.2.2.1
theorem dX0_bestTreaty_19 : decode cX0_bestTreaty 19 = .ok (.ishl, 1) := gg32.2.2.2.1
theorem dX0_bestTreaty_20 : decode cX0_bestTreaty 20 = .ok (.if_icmp .ge 35, 3) := gg32.2.2.2.2.1
theorem dX0_bestTreaty_23 : decode cX0_bestTreaty 23 = .ok (.aload_n 0, 1) := gg32.2.2.2.2.2.1
theorem dX0_bestTreaty_24 : decode cX0_bestTreaty 24 = .ok (.iload_n 3, 1) := gg32.2.2.2.2.2.2.1
theorem dX0_bestTreaty_25 : decode cX0_bestTreaty 25 = .ok (.invokevirtual 58, 3) := gg32.2.2.2.2.2.2.2.1
theorem dX0_bestTreaty_28 : decode cX0_bestTreaty 28 = .ok (.istore 4, 2) := gg32.2.2.2.2.2.2.2.2.1
theorem dX0_bestTreaty_30 : decode cX0_bestTreaty 30 = .ok (.iload 4, 2) := gg32.2.2.2.2.2.2.2.2.2
theorem gg33 : decode cX0_bestTreaty 32 = .ok (.iload_n 2, 1) ∧ decode cX0_bestTreaty 33 = .ok (.if_icmp .le 16, 3) ∧ decode cX0_bestTreaty 36 = .ok (.aload_n 0, 1) ∧ decode cX0_bestTreaty 37 = .ok (.iload_n 3, 1) ∧ decode cX0_bestTreaty 38 = .ok (.invokevirtual 61, 3) ∧ decode cX0_bestTreaty 41 = .ok (.ifCond .eq 8, 3) ∧ decode cX0_bestTreaty 44 = .ok (.iload 4, 2) ∧ decode cX0_bestTreaty 46 = .ok (.istore_n 2, 1) ∧ decode cX0_bestTreaty 47 = .ok (.iload_n 3, 1) ∧ decode cX0_bestTreaty 48 = .ok (.istore_n 1, 1) := by decide +kernel
theorem dX0_bestTreaty_32 : decode cX0_bestTreaty 32 = .ok (.iload_n 2, 1) := gg33.1
theorem dX0_bestTreaty_33 : decode cX0_bestTreaty 33 = .ok (.if_icmp .le 16, 3) := gg33.2.1
theorem dX0_bestTreaty_36 : decode cX0_bestTreaty 36 = .ok (.aload_n 0, 1) := gg33.2.2.1
theorem dX0_bestTreaty_37 : decode cX0_bestTreaty 37 = .ok (.iload_n 3, 1) := gg33.2.2.2.1
theorem dX0_bestTreaty_38 : decode cX0_bestTreaty 38 = .ok (.invokevirtual 61, 3) := gg33.2.2.2.2.1
theorem dX0_bestTreaty_41 : decode cX0_bestTreaty 41 = .ok (.ifCond .eq 8, 3) := gg33.2.2.2.2.2.1
theorem dX0_bestTreaty_44 : decode cX0_bestTreaty 44 = .ok (.iload 4, 2) := gg33.2.2.2.2.2.2.1
theorem dX0_bestTreaty_46 : decode cX0_bestTreaty 46 = .ok (.istore_n 2, 1) := gg33.2.2.2.2.2.2.2.1
theorem dX0_bestTreaty_47 : decode cX0_bestTreaty 47 = .ok (.iload_n 3, 1) := gg33.2.2.2.2.2.2.2.2.1
theorem dX0_bestTreaty_48 : decode cX0_bestTreaty 48 = .ok (.istore_n 1, 1) := gg33.2.2.2.2.2.2.2.2.2
theorem gg34 : decode cX0_bestTreaty 49 = .ok (.iinc 3 1, 3) ∧ decode cX0_bestTreaty 52 = .ok (.goto (-42), 3) ∧ decode cX0_bestTreaty 55 = .ok (.iload_n 1, 1) ∧ decode cX0_bestTreaty 56 = .ok (.ireturn, 1) := by decide +kernel
theorem dX0_bestTreaty_49 : decode cX0_bestTreaty 49 = .ok (.iinc 3 1, 3) := gg34.1
theorem dX0_bestTreaty_52 : decode cX0_bestTreaty 52 = .ok (.goto (-42), 3) := gg34.2.1
theorem dX0_bestTreaty_55 : decode cX0_bestTreaty 55 = .ok (.iload_n 1, 1) := gg34.2.2.1
theorem dX0_bestTreaty_56 : decode cX0_bestTreaty 56 = .ok (.ireturn, 1) := gg34.2.2.2
theorem gg35 : decode cX1_init 0 = .ok (.aload_n 0, 1) ∧ decode cX1_init 1 = .ok (.invokespecial 3, 3) ∧ decode cX1_init 4 = .ok (.aload_n 0, 1) ∧ decode cX1_init 5 = .ok (.aload_n 1, 1) ∧ decode cX1_init 6 = .ok (.putfield 9, 3) ∧ decode cX1_init 9 = .ok (.aload_n 0, 1) ∧ decode cX1_init 10 = .ok (.aload_n 2, 1) ∧ decode cX1_init 11 = .ok (.putfield 15, 3) ∧ decode cX1_init 14 = .ok (.return_, 1) := by decide +kernel
theorem dX1_init_0 : decode cX1_init 0 = .ok (.aload_n 0, 1) := gg35.1
theorem dX1_init_1 : decode cX1_init 1 = .ok (.invokespecial 3, 3) := gg35.2.1
theorem dX1_init_4 : decode cX1_init 4 = .ok (.aload_n 0, 1) := gg35.2.2.1
theorem dX1_init_5 : decode cX1_init 5 = .ok (.aload_n 1, 1) := gg35.2.2.2.1
theorem dX1_init_6 : decode cX1_init 6 = .ok (.putfield 9, 3) := gg35.2.2.2.2.1
theorem dX1_init_9 : decode cX1_init 9 = .ok (.aload_n 0, 1) := gg35.2.2.2.2.2.1
theorem dX1_init_10 : decode cX1_init 10 = .ok (.aload_n 2, 1) := gg35.2.2.2.2.2.2.1
theorem dX1_init_11 : decode cX1_init 11 = .ok (.putfield 15, 3) := gg35.2.2.2.2.2.2.2.1
theorem dX1_init_14 : decode cX1_init 14 = .ok (.return_, 1) := gg35.2.2.2.2.2.2.2.2
theorem gg36 : decode cX1_rulerAt 0 = .ok (.aload_n 0, 1) ∧ decode cX1_rulerAt 1 = .ok (.aload_n 0, 1) ∧ decode cX1_rulerAt 2 = .ok (.getfield 9, 3) ∧ decode cX1_rulerAt 5 = .ok (.lload_n 1, 1) ∧ decode cX1_rulerAt 6 = .ok (.aload_n 0, 1) ∧ decode cX1_rulerAt 7 = .ok (.getfield 15, 3) ∧ decode cX1_rulerAt 10 = .ok (.getfield 19, 3) ∧ decode cX1_rulerAt 13 = .ok (.invokevirtual 25, 3) ∧ decode cX1_rulerAt 16 = .ok (.invokevirtual 31, 3) ∧ decode cX1_rulerAt 19 = .ok (.ireturn, 1) := by decide +kernel
theorem dX1_rulerAt_0 : decode cX1_rulerAt 0 = .ok (.aload_n 0, 1) := gg36.1
theorem dX1_rulerAt_1 : decode cX1_rulerAt 1 = .ok (.aload_n 0, 1) := gg36.2.1
theorem dX1_rulerAt_2 : decode cX1_rulerAt 2 = .ok (.getfield 9, 3) := gg36.2.2.1
theorem dX1_rulerAt_5 : decode cX1_rulerAt 5 = .ok (.lload_n 1, 1) := gg36.2.2.2.1
theorem dX1_rulerAt_6 : decode cX1_rulerAt 6 = .ok (.aload_n 0, 1) := gg36.2.2.2.2.1
theorem dX1_rulerAt_7 : decode cX1_rulerAt 7 = .ok (.getfield 15, 3) := gg36.2.2.2.2.2.1
theorem dX1_rulerAt_10 : decode cX1_rulerAt 10 = .ok (.getfield 19, 3) := gg36.2.2.2.2.2.2.1
theorem dX1_rulerAt_13 : decode cX1_rulerAt 13 = .ok (.invokevirtual 25, 3) := gg36.2.2.2.2.2.2.2.1
theorem dX1_rulerAt_16 : decode cX1_rulerAt 16 = .ok (.invokevirtual 31, 3) := gg36.2.2.2.2.2.2.2.2.1
theorem dX1_rulerAt_19 : decode cX1_rulerAt 19 = .ok (.ireturn, 1) := gg36.2.2.2.2.2.2.2.2.2
theorem gg37 : decode cX1_rulerAtParts 0 = .ok (.lload_n 1, 1) ∧ decode cX1_rulerAtParts 1 = .ok (.aload_n 0, 1) ∧ decode cX1_rulerAtParts 2 = .ok (.getfield 9, 3) ∧ decode cX1_rulerAtParts 5 = .ok (.invokevirtual 35, 3) ∧ decode cX1_rulerAtParts 8 = .ok (.i2l, 1) ∧ decode cX1_rulerAtParts 9 = .ok (.ladd, 1) ∧ decode cX1_rulerAtParts 10 = .ok (.lstore_n 3, 1) ∧ decode cX1_rulerAtParts 11 = .ok (.aload_n 0, 1) ∧ decode cX1_rulerAtParts 12 = .ok (.getfield 9, 3) ∧ decode cX1_rulerAtParts 15 = .ok (.invokevirtual 39, 3) := by decide +kernel
theorem dX1_rulerAtParts_0 : decode cX1_rulerAtParts 0 = .ok (.lload_n 1, 1) := gg37.1
theorem dX1_rulerAtParts_1 : decode cX1_rulerAtParts 1 = .ok (.aload_n 0, 1) := gg37.2.1
theorem dX1_rulerAtParts_2 : decode cX1_rulerAtParts 2 = .ok (.getfield 9, 3) := gg37.2.2.1
theorem dX1_rulerAtParts_5 : decode cX1_rulerAtParts 5 = .ok (.invokevirtual 35, 3) := gg37.2.2.2.1
theorem dX1_rulerAtParts_8 : decode cX1_rulerAtParts 8 = .ok (.i2l, 1) := gg37.2.2.2.2.1
theorem dX1_rulerAtParts_9 : decode cX1_rulerAtParts 9 = .ok (.ladd, 1) := gg37.2.2.2.2.2.1
theorem dX1_rulerAtParts_10 : decode cX1_rulerAtParts 10 = .ok (.lstore_n 3, 1) := gg37.2.2.2.2.2.2.1
theorem dX1_rulerAtParts_11 : decode cX1_rulerAtParts 11 = .ok (.aload_n 0, 1) := gg37.2.2.2.2.2.2.2.1
theorem dX1_rulerAtParts_12 : decode cX1_rulerAtParts 12 = .ok (.getfield 9, 3) := gg37.2.2.2.2.2.2.2.2.1
theorem dX1_rulerAtParts_15 : decode cX1_rulerAtParts 15 = .ok (.invokevirtual 39, 3) := gg37.2.2.2.2.2.2.2.2.2
theorem gg38 : decode cX1_rulerAtParts 18 = .ok (.i2l, 1) ∧ decode cX1_rulerAtParts 19 = .ok (.lstore 5, 2) ∧ decode cX1_rulerAtParts 21 = .ok (.lload_n 1, 1) ∧ decode cX1_rulerAtParts 22 = .ok (.lconst 0, 1) ∧ decode cX1_rulerAtParts 23 = .ok (.lcmp, 1) ∧ decode cX1_rulerAtParts 24 = .ok (.ifCond .eq 16, 3) ∧ decode cX1_rulerAtParts 27 = .ok (.lload_n 3, 1) ∧ decode cX1_rulerAtParts 28 = .ok (.aload_n 0, 1) ∧ decode cX1_rulerAtParts 29 = .ok (.getfield 9, 3) ∧ decode cX1_rulerAtParts 32 = .ok (.invokevirtual 42, 3) := by decide +kernel
theorem dX1_rulerAtParts_18 : decode cX1_rulerAtParts 18 = .ok (.i2l, 1) := gg38.1
theorem dX1_rulerAtParts_19 : decode cX1_rulerAtParts 19 = .ok (.lstore 5, 2) := gg38.2.1
theorem dX1_rulerAtParts_21 : decode cX1_rulerAtParts 21 = .ok (.lload_n 1, 1) := gg38.2.2.1
theorem dX1_rulerAtParts_22 : decode cX1_rulerAtParts 22 = .ok (.lconst 0, 1) := gg38.2.2.2.1
theorem dX1_rulerAtParts_23 : decode cX1_rulerAtParts 23 = .ok (.lcmp, 1) := gg38.2.2.2.2.1
theorem dX1_rulerAtParts_24 : decode cX1_rulerAtParts 24 = .ok (.ifCond .eq 16, 3) := gg38.2.2.2.2.2.1
theorem dX1_rulerAtParts_27 : decode cX1_rulerAtParts 27 = .ok (.lload_n 3, 1) := gg38.2.2.2.2.2.2.1
theorem dX1_rulerAtParts_28 : decode cX1_rulerAtParts 28 = .ok (.aload_n 0, 1) := gg38.2.2.2.2.2.2.2.1
theorem dX1_rulerAtParts_29 : decode cX1_rulerAtParts 29 = .ok (.getfield 9, 3) := gg38.2.2.2.2.2.2.2.2.1
theorem dX1_rulerAtParts_32 : decode cX1_rulerAtParts 32 = .ok (.invokevirtual 42, 3) := gg38.2.2.2.2.2.2.2.2.2
theorem gg39 : decode cX1_rulerAtParts 35 = .ok (.i2l, 1) ∧ decode cX1_rulerAtParts 36 = .ok (.lcmp, 1) ∧ decode cX1_rulerAtParts 37 = .ok (.ifCond .le 5, 3) ∧ decode cX1_rulerAtParts 40 = .ok (.iconst 2, 1) ∧ decode cX1_rulerAtParts 41 = .ok (.ireturn, 1) ∧ decode cX1_rulerAtParts 42 = .ok (.lload_n 1, 1) ∧ decode cX1_rulerAtParts 43 = .ok (.lload 5, 2) ∧ decode cX1_rulerAtParts 45 = .ok (.lcmp, 1) ∧ decode cX1_rulerAtParts 46 = .ok (.ifCond .gt 12, 3) ∧ decode cX1_rulerAtParts 49 = .ok (.lload 5, 2) := by decide +kernel
theorem dX1_rulerAtParts_35 : decode cX1_rulerAtParts 35 = .ok (.i2l, 1) := gg39.1
theorem dX1_rulerAtParts_36 : decode cX1_rulerAtParts 36 = .ok (.lcmp, 1) := gg39.2.1
theorem dX1_rulerAtParts_37 : decode cX1_rulerAtParts 37 = .ok (.ifCond .le 5, 3) := gg39.2.2.1
theorem dX1_rulerAtParts_40 : decode cX1_rulerAtParts 40 = .ok (.iconst 2, 1) := gg39.2.2.2.1
theorem dX1_rulerAtParts_41 : decode cX1_rulerAtParts 41 = .ok (.ireturn, 1) := gg39.2.2.2.2.1
theorem dX1_rulerAtParts_42 : decode cX1_rulerAtParts 42 = .ok (.lload_n 1, 1) := gg39.2.2.2.2.2.1
theorem dX1_rulerAtParts_43 : decode cX1_rulerAtParts 43 = .ok (.lload 5, 2) := gg39.2.2.2.2.2.2.1
theorem dX1_rulerAtParts_45 : decode cX1_rulerAtParts 45 = .ok (.lcmp, 1) := gg39.2.2.2.2.2.2.2.1
theorem dX1_rulerAtParts_46 : decode cX1_rulerAtParts 46 = .ok (.ifCond .gt 12, 3) := gg39.2.2.2.2.2.2.2.2.1
theorem dX1_rulerAtParts_49 : decode cX1_rulerAtParts 49 = .ok (.lload 5, 2) := gg39.2.2.2.2.2.2.2.2.2
theorem gg40 : decode cX1_rulerAtParts 51 = .ok (.lload_n 3, 1) ∧ decode cX1_rulerAtParts 52 = .ok (.lcmp, 1) ∧ decode cX1_rulerAtParts 53 = .ok (.ifCond .ge 5, 3) ∧ decode cX1_rulerAtParts 56 = .ok (.iconst 2, 1) ∧ decode cX1_rulerAtParts 57 = .ok (.ireturn, 1) ∧ decode cX1_rulerAtParts 58 = .ok (.lload_n 1, 1) ∧ decode cX1_rulerAtParts 59 = .ok (.lload 5, 2) ∧ decode cX1_rulerAtParts 61 = .ok (.lcmp, 1) ∧ decode cX1_rulerAtParts 62 = .ok (.ifCond .ge 7, 3) ∧ decode cX1_rulerAtParts 65 = .ok (.iconst 0, 1) := by decide +kernel
theorem dX1_rulerAtParts_51 : decode cX1_rulerAtParts 51 = .ok (.lload_n 3, 1) := gg40.1
theorem dX1_rulerAtParts_52 : decode cX1_rulerAtParts 52 = .ok (.lcmp, 1) := gg40.2.1
theorem dX1_rulerAtParts_53 : decode cX1_rulerAtParts 53 = .ok (.ifCond .ge 5, 3) := gg40.2.2.1
theorem dX1_rulerAtParts_56 : decode cX1_rulerAtParts 56 = .ok (.iconst 2, 1) := gg40.2.2.2.1
theorem dX1_rulerAtParts_57 : decode cX1_rulerAtParts 57 = .ok (.ireturn, 1) := gg40.2.2.2.2.1
theorem dX1_rulerAtParts_58 : decode cX1_rulerAtParts 58 = .ok (.lload_n 1, 1) := gg40.2.2.2.2.2.1
theorem dX1_rulerAtParts_59 : decode cX1_rulerAtParts 59 = .ok (.lload 5, 2) := gg40.2.2.2.2.2.2.1
theorem dX1_rulerAtParts_61 : decode cX1_rulerAtParts 61 = .ok (.lcmp, 1) := gg40.2.2.2.2.2.2.2.1
theorem dX1_rulerAtParts_62 : decode cX1_rulerAtParts 62 = .ok (.ifCond .ge 7, 3) := gg40.2.2.2.2.2.2.2.2.1
theorem dX1_rulerAtParts_65 : decode cX1_rulerAtParts 65 = .ok (.iconst 0, 1) := gg40.2.2.2.2.2.2.2.2.2
theorem gg41 : decode cX1_rulerAtParts 66 = .ok (.goto 4, 3) ∧ decode cX1_rulerAtParts 69 = .ok (.iconst 1, 1) ∧ decode cX1_rulerAtParts 70 = .ok (.ireturn, 1) := by decide +kernel
theorem dX1_rulerAtParts_66 : decode cX1_rulerAtParts 66 = .ok (.goto 4, 3) := gg41.1
theorem dX1_rulerAtParts_69 : decode cX1_rulerAtParts 69 = .ok (.iconst 1, 1) := gg41.2.1
theorem dX1_rulerAtParts_70 : decode cX1_rulerAtParts 70 = .ok (.ireturn, 1) := gg41.2.2
theorem gg42 : decode cX1_stretchFrom 0 = .ok (.aload_n 0, 1) ∧ decode cX1_stretchFrom 1 = .ok (.getfield 9, 3) ∧ decode cX1_stretchFrom 4 = .ok (.lload_n 1, 1) ∧ decode cX1_stretchFrom 5 = .ok (.aload_n 0, 1) ∧ decode cX1_stretchFrom 6 = .ok (.getfield 15, 3) ∧ decode cX1_stretchFrom 9 = .ok (.getfield 19, 3) ∧ decode cX1_stretchFrom 12 = .ok (.invokevirtual 25, 3) ∧ decode cX1_stretchFrom 15 = .ok (.lstore_n 3, 1) ∧ decode cX1_stretchFrom 16 = .ok (.aload_n 0, 1) ∧ decode cX1_stretchFrom 17 = .ok (.lload_n 3, 1) := by decide +kernel
theorem dX1_stretchFrom_0 : decode cX1_stretchFrom 0 = .ok (.aload_n 0, 1) := gg42.1
theorem dX1_stretchFrom_1 : decode cX1_stretchFrom 1 = .ok (.getfield 9, 3) := gg42.2.1
theorem dX1_stretchFrom_4 : decode cX1_stretchFrom 4 = .ok (.lload_n 1, 1) := gg42.2.2.1
theorem dX1_stretchFrom_5 : decode cX1_stretchFrom 5 = .ok (.aload_n 0, 1) := gg42.2.2.2.1
theorem dX1_stretchFrom_6 : decode cX1_stretchFrom 6 = .ok (.getfield 15, 3) := gg42.2.2.2.2.1
theorem dX1_stretchFrom_9 : decode cX1_stretchFrom 9 = .ok (.getfield 19, 3) := gg42.2.2.2.2.2.1
theorem dX1_stretchFrom_12 : decode cX1_stretchFrom 12 = .ok (.invokevirtual 25, 3) := gg42.2.2.2.2.2.2.1
theorem dX1_stretchFrom_15 : decode cX1_stretchFrom 15 = .ok (.lstore_n 3, 1) := gg42.2.2.2.2.2.2.2.1
theorem dX1_stretchFrom_16 : decode cX1_stretchFrom 16 = .ok (.aload_n 0, 1) := gg42.2.2.2.2.2.2.2.2.1
theorem dX1_stretchFrom_17 : decode cX1_stretchFrom 17 = .ok (.lload_n 3, 1) := gg42.2.2.2.2.2.2.2.2.2
theorem gg43 : decode cX1_stretchFrom 18 = .ok (.invokevirtual 31, 3) ∧ decode cX1_stretchFrom 21 = .ok (.istore 5, 2) ∧ decode cX1_stretchFrom 23 = .ok (.iload 5, 2) ∧ decode cX1_stretchFrom 25 = .ok (.iconst 2, 1) ∧ decode cX1_stretchFrom 26 = .ok (.if_icmp .ne 5, 3) ∧ decode cX1_stretchFrom 29 = .ok (.iconst 1, 1) ∧ decode cX1_stretchFrom 30 = .ok (.ireturn, 1) ∧ decode cX1_stretchFrom 31 = .ok (.iload 5, 2) ∧ decode cX1_stretchFrom 33 = .ok (.ifCond .ne 14, 3) ∧ decode cX1_stretchFrom 36 = .ok (.aload_n 0, 1) := by decide +kernel
theorem dX1_stretchFrom_18 : decode cX1_stretchFrom 18 = .ok (.invokevirtual 31, 3) := gg43.1
theorem dX1_stretchFrom_21 : decode cX1_stretchFrom 21 = .ok (.istore 5, 2) := gg43.2.1
theorem dX1_stretchFrom_23 : decode cX1_stretchFrom 23 = .ok (.iload 5, 2) := gg43.2.2.1
theorem dX1_stretchFrom_25 : decode cX1_stretchFrom 25 = .ok (.iconst 2, 1) := gg43.2.2.2.1
theorem dX1_stretchFrom_26 : decode cX1_stretchFrom 26 = .ok (.if_icmp .ne 5, 3) := gg43.2.2.2.2.1
theorem dX1_stretchFrom_29 : decode cX1_stretchFrom 29 = .ok (.iconst 1, 1) := gg43.2.2.2.2.2.1
theorem dX1_stretchFrom_30 : decode cX1_stretchFrom 30 = .ok (.ireturn, 1) := gg43.2.2.2.2.2.2.1
theorem dX1_stretchFrom_31 : decode cX1_stretchFrom 31 = .ok (.iload 5, 2) := gg43.2.2.2.2.2.2.2.1
theorem dX1_stretchFrom_33 : decode cX1_stretchFrom 33 = .ok (.ifCond .ne 14, 3) := gg43.2.2.2.2.2.2.2.2.1
theorem dX1_stretchFrom_36 : decode cX1_stretchFrom 36 = .ok (.aload_n 0, 1) := gg43.2.2.2.2.2.2.2.2.2
theorem gg44 : decode cX1_stretchFrom 37 = .ok (.getfield 9, 3) ∧ decode cX1_stretchFrom 40 = .ok (.invokevirtual 39, 3) ∧ decode cX1_stretchFrom 43 = .ok (.i2l, 1) ∧ decode cX1_stretchFrom 44 = .ok (.goto 11, 3) ∧ decode cX1_stretchFrom 47 = .ok (.aload_n 0, 1) ∧ decode cX1_stretchFrom 48 = .ok (.getfield 9, 3) ∧ decode cX1_stretchFrom 51 = .ok (.invokevirtual 42, 3) ∧ decode cX1_stretchFrom 54 = .ok (.i2l, 1) ∧ decode cX1_stretchFrom 55 = .ok (.lstore 6, 2) ∧ decode cX1_stretchFrom 57 = .ok (.lconst 1, 1) := by decide +kernel
theorem dX1_stretchFrom_37 : decode cX1_stretchFrom 37 = .ok (.getfield 9, 3) := gg44.1
theorem dX1_stretchFrom_40 : decode cX1_stretchFrom 40 = .ok (.invokevirtual 39, 3) := gg44.2.1
theorem dX1_stretchFrom_43 : decode cX1_stretchFrom 43 = .ok (.i2l, 1) := gg44.2.2.1
theorem dX1_stretchFrom_44 : decode cX1_stretchFrom 44 = .ok (.goto 11, 3) := gg44.2.2.2.1
theorem dX1_stretchFrom_47 : decode cX1_stretchFrom 47 = .ok (.aload_n 0, 1) := gg44.2.2.2.2.1
theorem dX1_stretchFrom_48 : decode cX1_stretchFrom 48 = .ok (.getfield 9, 3) := gg44.2.2.2.2.2.1
theorem dX1_stretchFrom_51 : decode cX1_stretchFrom 51 = .ok (.invokevirtual 42, 3) := gg44.2.2.2.2.2.2.1
theorem dX1_stretchFrom_54 : decode cX1_stretchFrom 54 = .ok (.i2l, 1) := gg44.2.2.2.2.2.2.2.1
theorem dX1_stretchFrom_55 : decode cX1_stretchFrom 55 = .ok (.lstore 6, 2) := gg44.2.2.2.2.2.2.2.2.1
theorem dX1_stretchFrom_57 : decode cX1_stretchFrom 57 = .ok (.lconst 1, 1) := gg44.2.2.2.2.2.2.2.2.2
theorem gg45 : decode cX1_stretchFrom 58 = .ok (.lload 6, 2) ∧ decode cX1_stretchFrom 60 = .ok (.lload_n 3, 1) ∧ decode cX1_stretchFrom 61 = .ok (.lsub, 1) ∧ decode cX1_stretchFrom 62 = .ok (.aload_n 0, 1) ∧ decode cX1_stretchFrom 63 = .ok (.getfield 9, 3) ∧ decode cX1_stretchFrom 66 = .ok (.invokevirtual 35, 3) ∧ decode cX1_stretchFrom 69 = .ok (.i2l, 1) ∧ decode cX1_stretchFrom 70 = .ok (.ldiv, 1) ∧ decode cX1_stretchFrom 71 = .ok (.invokestatic 45, 3) ∧ decode cX1_stretchFrom 74 = .ok (.l2i, 1) := by decide +kernel
theorem dX1_stretchFrom_58 : decode cX1_stretchFrom 58 = .ok (.lload 6, 2) := gg45.1
theorem dX1_stretchFrom_60 : decode cX1_stretchFrom 60 = .ok (.lload_n 3, 1) := gg45.2.1
theorem dX1_stretchFrom_61 : decode cX1_stretchFrom 61 = .ok (.lsub, 1) := gg45.2.2.1
theorem dX1_stretchFrom_62 : decode cX1_stretchFrom 62 = .ok (.aload_n 0, 1) := gg45.2.2.2.1
theorem dX1_stretchFrom_63 : decode cX1_stretchFrom 63 = .ok (.getfield 9, 3) := gg45.2.2.2.2.1
theorem dX1_stretchFrom_66 : decode cX1_stretchFrom 66 = .ok (.invokevirtual 35, 3) := gg45.2.2.2.2.2.1
theorem dX1_stretchFrom_69 : decode cX1_stretchFrom 69 = .ok (.i2l, 1) := gg45.2.2.2.2.2.2.1
theorem dX1_stretchFrom_70 : decode cX1_stretchFrom 70 = .ok (.ldiv, 1) := gg45.2.2.2.2.2.2.2.1
theorem dX1_stretchFrom_71 : decode cX1_stretchFrom 71 = .ok (.invokestatic 45, 3) := gg45.2.2.2.2.2.2.2.2.1
theorem dX1_stretchFrom_74 : decode cX1_stretchFrom 74 = .ok (.l2i, 1) := gg45.2.2.2.2.2.2.2.2.2
theorem dX1_stretchFrom_75 : decode cX1_stretchFrom 75 = .ok (.ireturn, 1) := by decide +kernel
theorem gg47 : decode cX1_minutesOf 0 = .ok (.aload_n 0, 1) ∧ decode cX1_minutesOf 1 = .ok (.getfield 9, 3) ∧ decode cX1_minutesOf 4 = .ok (.invokevirtual 51, 3) ∧ decode cX1_minutesOf 7 = .ok (.istore 5, 2) ∧ decode cX1_minutesOf 9 = .ok (.iload 4, 2) ∧ decode cX1_minutesOf 11 = .ok (.iload 5, 2) ∧ decode cX1_minutesOf 13 = .ok (.idiv, 1) ∧ decode cX1_minutesOf 14 = .ok (.aload_n 0, 1) ∧ decode cX1_minutesOf 15 = .ok (.iload_n 1, 1) ∧ decode cX1_minutesOf 16 = .ok (.lload_n 2, 1) := by decide +kernel
theorem dX1_minutesOf_0 : decode cX1_minutesOf 0 = .ok (.aload_n 0, 1) := gg47.1
theorem dX1_minutesOf_1 : decode cX1_minutesOf 1 = .ok (.getfield 9, 3) := gg47.2.1
theorem dX1_minutesOf_4 : decode cX1_minutesOf 4 = .ok (.invokevirtual 51, 3) := gg47.2.2.1
theorem dX1_minutesOf_7 : decode cX1_minutesOf 7 = .ok (.istore 5, 2) := gg47.2.2.2.1
theorem dX1_minutesOf_9 : decode cX1_minutesOf 9 = .ok (.iload 4, 2) := gg47.2.2.2.2.1
theorem dX1_minutesOf_11 : decode cX1_minutesOf 11 = .ok (.iload 5, 2) := gg47.2.2.2.2.2.1
theorem dX1_minutesOf_13 : decode cX1_minutesOf 13 = .ok (.idiv, 1) := gg47.2.2.2.2.2.2.1
theorem dX1_minutesOf_14 : decode cX1_minutesOf 14 = .ok (.aload_n 0, 1) := gg47.2.2.2.2.2.2.2.1
theorem dX1_minutesOf_15 : decode cX1_minutesOf 15 = .ok (.iload_n 1, 1) := gg47.2.2.2.2.2.2.2.2.1
theorem dX1_minutesOf_16 : decode cX1_minutesOf 16 = .ok (.lload_n 2, 1) := gg47.2.2.2.2.2.2.2.2.2
theorem gg48 : decode cX1_minutesOf 17 = .ok (.iload 5, 2) ∧ decode cX1_minutesOf 19 = .ok (.invokevirtual 54, 3) ∧ decode cX1_minutesOf 22 = .ok (.imul, 1) ∧ decode cX1_minutesOf 23 = .ok (.aload_n 0, 1) ∧ decode cX1_minutesOf 24 = .ok (.iload_n 1, 1) ∧ decode cX1_minutesOf 25 = .ok (.lload_n 2, 1) ∧ decode cX1_minutesOf 26 = .ok (.iload 4, 2) ∧ decode cX1_minutesOf 28 = .ok (.iload 5, 2) ∧ decode cX1_minutesOf 30 = .ok (.irem, 1) ∧ decode cX1_minutesOf 31 = .ok (.invokevirtual 54, 3) := by decide +kernel
theorem dX1_minutesOf_17 : decode cX1_minutesOf 17 = .ok (.iload 5, 2) := gg48.1
theorem dX1_minutesOf_19 : decode cX1_minutesOf 19 = .ok (.invokevirtual 54, 3) := gg48.2.1
theorem dX1_minutesOf_22 : decode cX1_minutesOf 22 = .ok (.imul, 1) := gg48.2.2.1
theorem dX1_minutesOf_23 : decode cX1_minutesOf 23 = .ok (.aload_n 0, 1) := gg48.2.2.2.1
theorem dX1_minutesOf_24 : decode cX1_minutesOf 24 = .ok (.iload_n 1, 1) := gg48.2.2.2.2.1
theorem dX1_minutesOf_25 : decode cX1_minutesOf 25 = .ok (.lload_n 2, 1) := gg48.2.2.2.2.2.1
theorem dX1_minutesOf_26 : decode cX1_minutesOf 26 = .ok (.iload 4, 2) := gg48.2.2.2.2.2.2.1
theorem dX1_minutesOf_28 : decode cX1_minutesOf 28 = .ok (.iload 5, 2) := gg48.2.2.2.2.2.2.2.1
theorem dX1_minutesOf_30 : decode cX1_minutesOf 30 = .ok (.irem, 1) := gg48.2.2.2.2.2.2.2.2.1
theorem dX1_minutesOf_31 : decode cX1_minutesOf 31 = .ok (.invokevirtual 54, 3) := gg48.2.2.2.2.2.2.2.2.2
theorem gg49 : decode cX1_minutesOf 34 = .ok (.iadd, 1) ∧ decode cX1_minutesOf 35 = .ok (.ireturn, 1) := by decide +kernel
theorem dX1_minutesOf_34 : decode cX1_minutesOf 34 = .ok (.iadd, 1) := gg49.1
theorem dX1_minutesOf_35 : decode cX1_minutesOf 35 = .ok (.ireturn, 1) := gg49.2
theorem gg50 : decode cX1_minutesWithinRound 0 = .ok (.iconst 0, 1) ∧ decode cX1_minutesWithinRound 1 = .ok (.istore 5, 2) ∧ decode cX1_minutesWithinRound 3 = .ok (.iconst 1, 1) ∧ decode cX1_minutesWithinRound 4 = .ok (.istore 6, 2) ∧ decode cX1_minutesWithinRound 6 = .ok (.iconst 0, 1) ∧ decode cX1_minutesWithinRound 7 = .ok (.istore 7, 2) ∧ decode cX1_minutesWithinRound 9 = .ok (.iload 7, 2) ∧ decode cX1_minutesWithinRound 11 = .ok (.iload 4, 2) ∧ decode cX1_minutesWithinRound 13 = .ok (.if_icmp .ge 56, 3) ∧ decode cX1_minutesWithinRound 16 = .ok (.aload_n 0, 1) := by decide +kernel
theorem dX1_minutesWithinRound_0 : decode cX1_minutesWithinRound 0 = .ok (.iconst 0, 1) := gg50.1
theorem dX1_minutesWithinRound_1 : decode cX1_minutesWithinRound 1 = .ok (.istore 5, 2) := gg50.2.1
theorem dX1_minutesWithinRound_3 : decode cX1_minutesWithinRound 3 = .ok (.iconst 1, 1) := gg50.2.2.1
theorem dX1_minutesWithinRound_4 : decode cX1_minutesWithinRound 4 = .ok (.istore 6, 2) := gg50.2.2.2.1
theorem dX1_minutesWithinRound_6 : decode cX1_minutesWithinRound 6 = .ok (.iconst 0, 1) := gg50.2.2.2.2.1
theorem dX1_minutesWithinRound_7 : decode cX1_minutesWithinRound 7 = .ok (.istore 7, 2) := gg50.2.2.2.2.2.1
theorem dX1_minutesWithinRound_9 : decode cX1_minutesWithinRound 9 = .ok (.iload 7, 2) := gg50.2.2.2.2.2.2.1
theorem dX1_minutesWithinRound_11 : decode cX1_minutesWithinRound 11 = .ok (.iload 4, 2) := gg50.2.2.2.2.2.2.2.1
theorem dX1_minutesWithinRound_13 : decode cX1_minutesWithinRound 13 = .ok (.if_icmp .ge 56, 3) := gg50.2.2.2.2.2.2.2.2.1
theorem dX1_minutesWithinRound_16 : decode cX1_minutesWithinRound 16 = .ok (.aload_n 0, 1) := gg50.2.2.2.2.2.2.2.2.2
theorem gg51 : decode cX1_minutesWithinRound 17 = .ok (.lload_n 2, 1) ∧ decode cX1_minutesWithinRound 18 = .ok (.iload 7, 2) ∧ decode cX1_minutesWithinRound 20 = .ok (.i2l, 1) ∧ decode cX1_minutesWithinRound 21 = .ok (.ladd, 1) ∧ decode cX1_minutesWithinRound 22 = .ok (.invokevirtual 58, 3) ∧ decode cX1_minutesWithinRound 25 = .ok (.iload 4, 2) ∧ decode cX1_minutesWithinRound 27 = .ok (.iload 7, 2) ∧ decode cX1_minutesWithinRound 29 = .ok (.isub, 1) ∧ decode cX1_minutesWithinRound 30 = .ok (.invokestatic 61, 3) ∧ decode cX1_minutesWithinRound 33 = .ok (.istore 6, 2) := by decide +kernel
theorem dX1_minutesWithinRound_17 : decode cX1_minutesWithinRound 17 = .ok (.lload_n 2, 1) := gg51.1
theorem dX1_minutesWithinRound_18 : decode cX1_minutesWithinRound 18 = .ok (.iload 7, 2) := gg51.2.1
theorem dX1_minutesWithinRound_20 : decode cX1_minutesWithinRound 20 = .ok (.i2l, 1) := gg51.2.2.1
theorem dX1_minutesWithinRound_21 : decode cX1_minutesWithinRound 21 = .ok (.ladd, 1) := gg51.2.2.2.1
theorem dX1_minutesWithinRound_22 : decode cX1_minutesWithinRound 22 = .ok (.invokevirtual 58, 3) := gg51.2.2.2.2.1
theorem dX1_minutesWithinRound_25 : decode cX1_minutesWithinRound 25 = .ok (.iload 4, 2) := gg51.2.2.2.2.2.1
theorem dX1_minutesWithinRound_27 : decode cX1_minutesWithinRound 27 = .ok (.iload 7, 2) := gg51.2.2.2.2.2.2.1
theorem dX1_minutesWithinRound_29 : decode cX1_minutesWithinRound 29 = .ok (.isub, 1) := gg51.2.2.2.2.2.2.2.1
theorem dX1_minutesWithinRound_30 : decode cX1_minutesWithinRound 30 = .ok (.invokestatic 61, 3) := gg51.2.2.2.2.2.2.2.2.1
theorem dX1_minutesWithinRound_33 : decode cX1_minutesWithinRound 33 = .ok (.istore 6, 2) := gg51.2.2.2.2.2.2.2.2.2
theorem gg52 : decode cX1_minutesWithinRound 35 = .ok (.aload_n 0, 1) ∧ decode cX1_minutesWithinRound 36 = .ok (.lload_n 2, 1) ∧ decode cX1_minutesWithinRound 37 = .ok (.iload 7, 2) ∧ decode cX1_minutesWithinRound 39 = .ok (.i2l, 1) ∧ decode cX1_minutesWithinRound 40 = .ok (.ladd, 1) ∧ decode cX1_minutesWithinRound 41 = .ok (.invokevirtual 65, 3) ∧ decode cX1_minutesWithinRound 44 = .ok (.iload_n 1, 1) ∧ decode cX1_minutesWithinRound 45 = .ok (.if_icmp .ne 10, 3) ∧ decode cX1_minutesWithinRound 48 = .ok (.iload 5, 2) ∧ decode cX1_minutesWithinRound 50 = .ok (.iload 6, 2) := by decide +kernel
theorem dX1_minutesWithinRound_35 : decode cX1_minutesWithinRound 35 = .ok (.aload_n 0, 1) := gg52.1
theorem dX1_minutesWithinRound_36 : decode cX1_minutesWithinRound 36 = .ok (.lload_n 2, 1) := gg52.2.1
theorem dX1_minutesWithinRound_37 : decode cX1_minutesWithinRound 37 = .ok (.iload 7, 2) := gg52.2.2.1
theorem dX1_minutesWithinRound_39 : decode cX1_minutesWithinRound 39 = .ok (.i2l, 1) := gg52.2.2.2.1
theorem dX1_minutesWithinRound_40 : decode cX1_minutesWithinRound 40 = .ok (.ladd, 1) := gg52.2.2.2.2.1
theorem dX1_minutesWithinRound_41 : decode cX1_minutesWithinRound 41 = .ok (.invokevirtual 65, 3) := gg52.2.2.2.2.2.1
theorem dX1_minutesWithinRound_44 : decode cX1_minutesWithinRound 44 = .ok (.iload_n 1, 1) := gg52.2.2.2.2.2.2.1
theorem dX1_minutesWithinRound_45 : decode cX1_minutesWithinRound 45 = .ok (.if_icmp .ne 10, 3) := gg52.2.2.2.2.2.2.2.1
theorem dX1_minutesWithinRound_48 : decode cX1_minutesWithinRound 48 = .ok (.iload 5, 2) := gg52.2.2.2.2.2.2.2.2.1
theorem dX1_minutesWithinRound_50 : decode cX1_minutesWithinRound 50 = .ok (.iload 6, 2) := gg52.2.2.2.2.2.2.2.2.2
theorem gg53 : decode cX1_minutesWithinRound 52 = .ok (.iadd, 1) ∧ decode cX1_minutesWithinRound 53 = .ok (.istore 5, 2) ∧ decode cX1_minutesWithinRound 55 = .ok (.iload 7, 2) ∧ decode cX1_minutesWithinRound 57 = .ok (.iconst 1, 1) ∧ decode cX1_minutesWithinRound 58 = .ok (.iload 6, 2) ∧ decode cX1_minutesWithinRound 60 = .ok (.invokestatic 68, 3) ∧ decode cX1_minutesWithinRound 63 = .ok (.iadd, 1) ∧ decode cX1_minutesWithinRound 64 = .ok (.istore 7, 2) ∧ decode cX1_minutesWithinRound 66 = .ok (.goto (-57), 3) ∧ decode cX1_minutesWithinRound 69 = .ok (.iload 5, 2) := by decide +kernel
theorem dX1_minutesWithinRound_52 : decode cX1_minutesWithinRound 52 = .ok (.iadd, 1) := gg53.1
theorem dX1_minutesWithinRound_53 : decode cX1_minutesWithinRound 53 = .ok (.istore 5, 2) := gg53.2.1
theorem dX1_minutesWithinRound_55 : decode cX1_minutesWithinRound 55 = .ok (.iload 7, 2) := gg53.2.2.1
theorem dX1_minutesWithinRound_57 : decode cX1_minutesWithinRound 57 = .ok (.iconst 1, 1) := gg53.2.2.2.1
theorem dX1_minutesWithinRound_58 : decode cX1_minutesWithinRound 58 = .ok (.iload 6, 2) := gg53.2.2.2.2.1
theorem dX1_minutesWithinRound_60 : decode cX1_minutesWithinRound 60 = .ok (.invokestatic 68, 3) := gg53.2.2.2.2.2.1
theorem dX1_minutesWithinRound_63 : decode cX1_minutesWithinRound 63 = .ok (.iadd, 1) := gg53.2.2.2.2.2.2.1
theorem dX1_minutesWithinRound_64 : decode cX1_minutesWithinRound 64 = .ok (.istore 7, 2) := gg53.2.2.2.2.2.2.2.1
theorem dX1_minutesWithinRound_66 : decode cX1_minutesWithinRound 66 = .ok (.goto (-57), 3) := gg53.2.2.2.2.2.2.2.2.1
theorem dX1_minutesWithinRound_69 : decode cX1_minutesWithinRound 69 = .ok (.iload 5, 2) := gg53.2.2.2.2.2.2.2.2.2
theorem dX1_minutesWithinRound_71 : decode cX1_minutesWithinRound 71 = .ok (.ireturn, 1) := by decide +kernel
theorem gg55 : decode cX1_firstOf 0 = .ok (.sipush 2000, 3) ∧ decode cX1_firstOf 3 = .ok (.aload_n 0, 1) ∧ decode cX1_firstOf 4 = .ok (.getfield 9, 3) ∧ decode cX1_firstOf 7 = .ok (.invokevirtual 51, 3) ∧ decode cX1_firstOf 10 = .ok (.invokestatic 61, 3) ∧ decode cX1_firstOf 13 = .ok (.istore 4, 2) ∧ decode cX1_firstOf 15 = .ok (.iconst 1, 1) ∧ decode cX1_firstOf 16 = .ok (.istore 5, 2) ∧ decode cX1_firstOf 18 = .ok (.iconst 0, 1) ∧ decode cX1_firstOf 19 = .ok (.istore 6, 2) := by decide +kernel
theorem dX1_firstOf_0 : decode cX1_firstOf 0 = .ok (.sipush 2000, 3) := gg55.1
theorem dX1_firstOf_3 : decode cX1_firstOf 3 = .ok (.aload_n 0, 1) := gg55.2.1
theorem dX1_firstOf_4 : decode cX1_firstOf 4 = .ok (.getfield 9, 3) := gg55.2.2.1
theorem dX1_firstOf_7 : decode cX1_firstOf 7 = .ok (.invokevirtual 51, 3) := gg55.2.2.2.1
theorem dX1_firstOf_10 : decode cX1_firstOf 10 = .ok (.invokestatic 61, 3) := gg55.2.2.2.2.1
theorem dX1_firstOf_13 : decode cX1_firstOf 13 = .ok (.istore 4, 2) := gg55.2.2.2.2.2.1
theorem dX1_firstOf_15 : decode cX1_firstOf 15 = .ok (.iconst 1, 1) := gg55.2.2.2.2.2.2.1
theorem dX1_firstOf_16 : decode cX1_firstOf 16 = .ok (.istore 5, 2) := gg55.2.2.2.2.2.2.2.1
theorem dX1_firstOf_18 : decode cX1_firstOf 18 = .ok (.iconst 0, 1) := gg55.2.2.2.2.2.2.2.2.1
theorem dX1_firstOf_19 : decode cX1_firstOf 19 = .ok (.istore 6, 2) := gg55.2.2.2.2.2.2.2.2.2
theorem gg56 : decode cX1_firstOf 21 = .ok (.iload 6, 2) ∧ decode cX1_firstOf 23 = .ok (.iload 4, 2) ∧ decode cX1_firstOf 25 = .ok (.if_icmp .gt 47, 3) ∧ decode cX1_firstOf 28 = .ok (.aload_n 0, 1) ∧ decode cX1_firstOf 29 = .ok (.lload_n 2, 1) ∧ decode cX1_firstOf 30 = .ok (.iload 6, 2) ∧ decode cX1_firstOf 32 = .ok (.i2l, 1) ∧ decode cX1_firstOf 33 = .ok (.ladd, 1) ∧ decode cX1_firstOf 34 = .ok (.invokevirtual 65, 3) ∧ decode cX1_firstOf 37 = .ok (.iload_n 1, 1) := by decide +kernel
theorem dX1_firstOf_21 : decode cX1_firstOf 21 = .ok (.iload 6, 2) := gg56.1
theorem dX1_firstOf_23 : decode cX1_firstOf 23 = .ok (.iload 4, 2) := gg56.2.1
theorem dX1_firstOf_25 : decode cX1_firstOf 25 = .ok (.if_icmp .gt 47, 3) := gg56.2.2.1
theorem dX1_firstOf_28 : decode cX1_firstOf 28 = .ok (.aload_n 0, 1) := gg56.2.2.2.1
theorem dX1_firstOf_29 : decode cX1_firstOf 29 = .ok (.lload_n 2, 1) := gg56.2.2.2.2.1
theorem dX1_firstOf_30 : decode cX1_firstOf 30 = .ok (.iload 6, 2) := gg56.2.2.2.2.2.1
theorem dX1_firstOf_32 : decode cX1_firstOf 32 = .ok (.i2l, 1) := gg56.2.2.2.2.2.2.1
theorem dX1_firstOf_33 : decode cX1_firstOf 33 = .ok (.ladd, 1) := gg56.2.2.2.2.2.2.2.1
theorem dX1_firstOf_34 : decode cX1_firstOf 34 = .ok (.invokevirtual 65, 3) := gg56.2.2.2.2.2.2.2.2.1
theorem dX1_firstOf_37 : decode cX1_firstOf 37 = .ok (.iload_n 1, 1) := gg56.2.2.2.2.2.2.2.2.2
theorem gg57 : decode cX1_firstOf 38 = .ok (.if_icmp .ne 9, 3) ∧ decode cX1_firstOf 41 = .ok (.lload_n 2, 1) ∧ decode cX1_firstOf 42 = .ok (.iload 6, 2) ∧ decode cX1_firstOf 44 = .ok (.i2l, 1) ∧ decode cX1_firstOf 45 = .ok (.ladd, 1) ∧ decode cX1_firstOf 46 = .ok (.lreturn, 1) ∧ decode cX1_firstOf 47 = .ok (.aload_n 0, 1) ∧ decode cX1_firstOf 48 = .ok (.lload_n 2, 1) ∧ decode cX1_firstOf 49 = .ok (.iload 6, 2) ∧ decode cX1_firstOf 51 = .ok (.i2l, 1) := by decide +kernel
theorem dX1_firstOf_38 : decode cX1_firstOf 38 = .ok (.if_icmp .ne 9, 3) := gg57.1
theorem dX1_firstOf_41 : decode cX1_firstOf 41 = .ok (.lload_n 2, 1) := gg57.2.1
theorem dX1_firstOf_42 : decode cX1_firstOf 42 = .ok (.iload 6, 2) := gg57.2.2.1
theorem dX1_firstOf_44 : decode cX1_firstOf 44 = .ok (.i2l, 1) := gg57.2.2.2.1
theorem dX1_firstOf_45 : decode cX1_firstOf 45 = .ok (.ladd, 1) := gg57.2.2.2.2.1
theorem dX1_firstOf_46 : decode cX1_firstOf 46 = .ok (.lreturn, 1) := gg57.2.2.2.2.2.1
theorem dX1_firstOf_47 : decode cX1_firstOf 47 = .ok (.aload_n 0, 1) := gg57.2.2.2.2.2.2.1
theorem dX1_firstOf_48 : decode cX1_firstOf 48 = .ok (.lload_n 2, 1) := gg57.2.2.2.2.2.2.2.1
theorem dX1_firstOf_49 : decode cX1_firstOf 49 = .ok (.iload 6, 2) := gg57.2.2.2.2.2.2.2.2.1
theorem dX1_firstOf_51 : decode cX1_firstOf 51 = .ok (.i2l, 1) := gg57.2.2.2.2.2.2.2.2.2
theorem gg58 : decode cX1_firstOf 52 = .ok (.ladd, 1) ∧ decode cX1_firstOf 53 = .ok (.invokevirtual 58, 3) ∧ decode cX1_firstOf 56 = .ok (.istore 5, 2) ∧ decode cX1_firstOf 58 = .ok (.iload 6, 2) ∧ decode cX1_firstOf 60 = .ok (.iconst 1, 1) ∧ decode cX1_firstOf 61 = .ok (.iload 5, 2) ∧ decode cX1_firstOf 63 = .ok (.invokestatic 68, 3) ∧ decode cX1_firstOf 66 = .ok (.iadd, 1) ∧ decode cX1_firstOf 67 = .ok (.istore 6, 2) ∧ decode cX1_firstOf 69 = .ok (.goto (-48), 3) := by decide +kernel
theorem dX1_firstOf_52 : decode cX1_firstOf 52 = .ok (.ladd, 1) := gg58.1
theorem dX1_firstOf_53 : decode cX1_firstOf 53 = .ok (.invokevirtual 58, 3) := gg58.2.1
theorem dX1_firstOf_56 : decode cX1_firstOf 56 = .ok (.istore 5, 2) := gg58.2.2.1
theorem dX1_firstOf_58 : decode cX1_firstOf 58 = .ok (.iload 6, 2) := gg58.2.2.2.1
theorem dX1_firstOf_60 : decode cX1_firstOf 60 = .ok (.iconst 1, 1) := gg58.2.2.2.2.1
theorem dX1_firstOf_61 : decode cX1_firstOf 61 = .ok (.iload 5, 2) := gg58.2.2.2.2.2.1
theorem dX1_firstOf_63 : decode cX1_firstOf 63 = .ok (.invokestatic 68, 3) := gg58.2.2.2.2.2.2.1
theorem dX1_firstOf_66 : decode cX1_firstOf 66 = .ok (.iadd, 1) := gg58.2.2.2.2.2.2.2.1
theorem dX1_firstOf_67 : decode cX1_firstOf 67 = .ok (.istore 6, 2) := gg58.2.2.2.2.2.2.2.2.1
theorem dX1_firstOf_69 : decode cX1_firstOf 69 = .ok (.goto (-48), 3) := gg58.2.2.2.2.2.2.2.2.2
theorem gg59 : decode cX1_firstOf 72 = .ok (.ldc2_w 70, 3) ∧ decode cX1_firstOf 75 = .ok (.lreturn, 1) := by decide +kernel
theorem dX1_firstOf_72 : decode cX1_firstOf 72 = .ok (.ldc2_w 70, 3) := gg59.1
theorem dX1_firstOf_75 : decode cX1_firstOf 75 = .ok (.lreturn, 1) := gg59.2
theorem gg60 : decode cX1_isLawful 0 = .ok (.aload_n 0, 1) ∧ decode cX1_isLawful 1 = .ok (.getfield 15, 3) ∧ decode cX1_isLawful 4 = .ok (.getfield 72, 3) ∧ decode cX1_isLawful 7 = .ok (.iload_n 1, 1) ∧ decode cX1_isLawful 8 = .ok (.invokestatic 75, 3) ∧ decode cX1_isLawful 11 = .ok (.istore 4, 2) ∧ decode cX1_isLawful 13 = .ok (.aload_n 0, 1) ∧ decode cX1_isLawful 14 = .ok (.lload_n 2, 1) ∧ decode cX1_isLawful 15 = .ok (.invokevirtual 65, 3) ∧ decode cX1_isLawful 18 = .ok (.istore 5, 2) := by decide +kernel
theorem dX1_isLawful_0 : decode cX1_isLawful 0 = .ok (.aload_n 0, 1) := gg60.1
theorem dX1_isLawful_1 : decode cX1_isLawful 1 = .ok (.getfield 15, 3) := gg60.2.1
theorem dX1_isLawful_4 : decode cX1_isLawful 4 = .ok (.getfield 72, 3) := gg60.2.2.1
theorem dX1_isLawful_7 : decode cX1_isLawful 7 = .ok (.iload_n 1, 1) := gg60.2.2.2.1
theorem dX1_isLawful_8 : decode cX1_isLawful 8 = .ok (.invokestatic 75, 3) := gg60.2.2.2.2.1
theorem dX1_isLawful_11 : decode cX1_isLawful 11 = .ok (.istore 4, 2) := gg60.2.2.2.2.2.1
theorem dX1_isLawful_13 : decode cX1_isLawful 13 = .ok (.aload_n 0, 1) := gg60.2.2.2.2.2.2.1
theorem dX1_isLawful_14 : decode cX1_isLawful 14 = .ok (.lload_n 2, 1) := gg60.2.2.2.2.2.2.2.1
theorem dX1_isLawful_15 : decode cX1_isLawful 15 = .ok (.invokevirtual 65, 3) := gg60.2.2.2.2.2.2.2.2.1
theorem dX1_isLawful_18 : decode cX1_isLawful 18 = .ok (.istore 5, 2) := gg60.2.2.2.2.2.2.2.2.2
theorem gg61 : decode cX1_isLawful 20 = .ok (.iload 5, 2) ∧ decode cX1_isLawful 22 = .ok (.iconst 2, 1) ∧ decode cX1_isLawful 23 = .ok (.if_icmp .eq 18, 3) ∧ decode cX1_isLawful 26 = .ok (.iload 4, 2) ∧ decode cX1_isLawful 28 = .ok (.iload 5, 2) ∧ decode cX1_isLawful 30 = .ok (.ishr, 1) ∧ decode cX1_isLawful 31 = .ok (.iconst 1, 1) ∧ decode cX1_isLawful 32 = .ok (.iand, 1) ∧ decode cX1_isLawful 33 = .ok (.iconst 1, 1) ∧ decode cX1_isLawful 34 = .ok (.if_icmp .ne 7, 3) := by decide +kernel
theorem dX1_isLawful_20 : decode cX1_isLawful 20 = .ok (.iload 5, 2) := gg61.1
theorem dX1_isLawful_22 : decode cX1_isLawful 22 = .ok (.iconst 2, 1) := gg61.2.1
theorem dX1_isLawful_23 : decode cX1_isLawful 23 = .ok (.if_icmp .eq 18, 3) := gg61.2.2.1
theorem dX1_isLawful_26 : decode cX1_isLawful 26 = .ok (.iload 4, 2) := gg61.2.2.2.1
theorem dX1_isLawful_28 : decode cX1_isLawful 28 = .ok (.iload 5, 2) := gg61.2.2.2.2.1
theorem dX1_isLawful_30 : decode cX1_isLawful 30 = .ok (.ishr, 1) := gg61.2.2.2.2.2.1
theorem dX1_isLawful_31 : decode cX1_isLawful 31 = .ok (.iconst 1, 1) := gg61.2.2.2.2.2.2.1
theorem dX1_isLawful_32 : decode cX1_isLawful 32 = .ok (.iand, 1) := gg61.2.2.2.2.2.2.2.1
theorem dX1_isLawful_33 : decode cX1_isLawful 33 = .ok (.iconst 1, 1) := gg61.2.2.2.2.2.2.2.2.1
theorem dX1_isLawful_34 : decode cX1_isLawful 34 = .ok (.if_icmp .ne 7, 3) := gg61.2.2.2.2.2.2.2.2.2
theorem gg62 : decode cX1_isLawful 37 = .ok (.iconst 1, 1) ∧ decode cX1_isLawful 38 = .ok (.goto 4, 3) ∧ decode cX1_isLawful 41 = .ok (.iconst 0, 1) ∧ decode cX1_isLawful 42 = .ok (.istore 6, 2) ∧ decode cX1_isLawful 44 = .ok (.aload_n 0, 1) ∧ decode cX1_isLawful 45 = .ok (.getfield 9, 3) ∧ decode cX1_isLawful 48 = .ok (.iload_n 1, 1) ∧ decode cX1_isLawful 49 = .ok (.iconst 0, 1) ∧ decode cX1_isLawful 50 = .ok (.invokevirtual 78, 3) ∧ decode cX1_isLawful 53 = .ok (.tableswitch 80 0 3 #[31, 34, 31, 62], 31) := by decide +kernel
theorem dX1_isLawful_37 : decode cX1_isLawful 37 = .ok (.iconst 1, 1) := gg62.1
theorem dX1_isLawful_38 : decode cX1_isLawful 38 = .ok (.goto 4, 3) := gg62.2.1
theorem dX1_isLawful_41 : decode cX1_isLawful 41 = .ok (.iconst 0, 1) := gg62.2.2.1
theorem dX1_isLawful_42 : decode cX1_isLawful 42 = .ok (.istore 6, 2) := gg62.2.2.2.1
theorem dX1_isLawful_44 : decode cX1_isLawful 44 = .ok (.aload_n 0, 1) := gg62.2.2.2.2.1
theorem dX1_isLawful_45 : decode cX1_isLawful 45 = .ok (.getfield 9, 3) := gg62.2.2.2.2.2.1
theorem dX1_isLawful_48 : decode cX1_isLawful 48 = .ok (.iload_n 1, 1) := gg62.2.2.2.2.2.2.1
theorem dX1_isLawful_49 : decode cX1_isLawful 49 = .ok (.iconst 0, 1) := gg62.2.2.2.2.2.2.2.1
theorem dX1_isLawful_50 : decode cX1_isLawful 50 = .ok (.invokevirtual 78, 3) := gg62.2.2.2.2.2.2.2.2.1
theorem dX1_isLawful_53 : decode cX1_isLawful 53 = .ok (.tableswitch 80 0 3 #[31, 34, 31, 62], 31) := gg62.2.2.2.2.2.2.2.2.2
theorem gg63 : decode cX1_isLawful 84 = .ok (.iload 6, 2) ∧ decode cX1_isLawful 86 = .ok (.ireturn, 1) ∧ decode cX1_isLawful 87 = .ok (.iload 6, 2) ∧ decode cX1_isLawful 89 = .ok (.ifCond .eq 24, 3) ∧ decode cX1_isLawful 92 = .ok (.aload_n 0, 1) ∧ decode cX1_isLawful 93 = .ok (.lload_n 2, 1) ∧ decode cX1_isLawful 94 = .ok (.invokevirtual 58, 3) ∧ decode cX1_isLawful 97 = .ok (.aload_n 0, 1) ∧ decode cX1_isLawful 98 = .ok (.getfield 9, 3) ∧ decode cX1_isLawful 101 = .ok (.iload_n 1, 1) := by decide +kernel
theorem dX1_isLawful_84 : decode cX1_isLawful 84 = .ok (.iload 6, 2) := gg63.1
theorem dX1_isLawful_86 : decode cX1_isLawful 86 = .ok (.ireturn, 1) := gg63.2.1
theorem dX1_isLawful_87 : decode cX1_isLawful 87 = .ok (.iload 6, 2) := gg63.2.2.1
theorem dX1_isLawful_89 : decode cX1_isLawful 89 = .ok (.ifCond .eq 24, 3) := gg63.2.2.2.1
theorem dX1_isLawful_92 : decode cX1_isLawful 92 = .ok (.aload_n 0, 1) := gg63.2.2.2.2.1
theorem dX1_isLawful_93 : decode cX1_isLawful 93 = .ok (.lload_n 2, 1) := gg63.2.2.2.2.2.1
theorem dX1_isLawful_94 : decode cX1_isLawful 94 = .ok (.invokevirtual 58, 3) := gg63.2.2.2.2.2.2.1
theorem dX1_isLawful_97 : decode cX1_isLawful 97 = .ok (.aload_n 0, 1) := gg63.2.2.2.2.2.2.2.1
theorem dX1_isLawful_98 : decode cX1_isLawful 98 = .ok (.getfield 9, 3) := gg63.2.2.2.2.2.2.2.2.1
theorem dX1_isLawful_101 : decode cX1_isLawful 101 = .ok (.iload_n 1, 1) := gg63.2.2.2.2.2.2.2.2.2
theorem gg64 : decode cX1_isLawful 102 = .ok (.iconst 2, 1) ∧ decode cX1_isLawful 103 = .ok (.invokevirtual 78, 3) ∧ decode cX1_isLawful 106 = .ok (.if_icmp .lt 7, 3) ∧ decode cX1_isLawful 109 = .ok (.iconst 1, 1) ∧ decode cX1_isLawful 110 = .ok (.goto 4, 3) ∧ decode cX1_isLawful 113 = .ok (.iconst 0, 1) ∧ decode cX1_isLawful 114 = .ok (.ireturn, 1) ∧ decode cX1_isLawful 115 = .ok (.iload 4, 2) ∧ decode cX1_isLawful 117 = .ok (.iconst 3, 1) ∧ decode cX1_isLawful 118 = .ok (.if_icmp .ne 13, 3) := by decide +kernel
theorem dX1_isLawful_102 : decode cX1_isLawful 102 = .ok (.iconst 2, 1) := gg64.1
theorem dX1_isLawful_103 : decode cX1_isLawful 103 = .ok (.invokevirtual 78, 3) := gg64.2.1
theorem dX1_isLawful_106 : decode cX1_isLawful 106 = .ok (.if_icmp .lt 7, 3) := gg64.2.2.1
theorem dX1_isLawful_109 : decode cX1_isLawful 109 = .ok (.iconst 1, 1) := gg64.2.2.2.1
theorem dX1_isLawful_110 : decode cX1_isLawful 110 = .ok (.goto 4, 3) := gg64.2.2.2.2.1
theorem dX1_isLawful_113 : decode cX1_isLawful 113 = .ok (.iconst 0, 1) := gg64.2.2.2.2.2.1
theorem dX1_isLawful_114 : decode cX1_isLawful 114 = .ok (.ireturn, 1) := gg64.2.2.2.2.2.2.1
theorem dX1_isLawful_115 : decode cX1_isLawful 115 = .ok (.iload 4, 2) := gg64.2.2.2.2.2.2.2.1
theorem dX1_isLawful_117 : decode cX1_isLawful 117 = .ok (.iconst 3, 1) := gg64.2.2.2.2.2.2.2.2.1
theorem dX1_isLawful_118 : decode cX1_isLawful 118 = .ok (.if_icmp .ne 13, 3) := gg64.2.2.2.2.2.2.2.2.2
theorem gg65 : decode cX1_isLawful 121 = .ok (.iload 5, 2) ∧ decode cX1_isLawful 123 = .ok (.iconst 2, 1) ∧ decode cX1_isLawful 124 = .ok (.if_icmp .eq 7, 3) ∧ decode cX1_isLawful 127 = .ok (.iconst 1, 1) ∧ decode cX1_isLawful 128 = .ok (.goto 4, 3) ∧ decode cX1_isLawful 131 = .ok (.iconst 0, 1) ∧ decode cX1_isLawful 132 = .ok (.ireturn, 1) ∧ decode cX1_isLawful 133 = .ok (.iload 4, 2) ∧ decode cX1_isLawful 135 = .ok (.ifCond .eq 13, 3) ∧ decode cX1_isLawful 138 = .ok (.iload 5, 2) := by decide +kernel
theorem dX1_isLawful_121 : decode cX1_isLawful 121 = .ok (.iload 5, 2) := gg65.1
theorem dX1_isLawful_123 : decode cX1_isLawful 123 = .ok (.iconst 2, 1) := gg65.2.1
theorem dX1_isLawful_124 : decode cX1_isLawful 124 = .ok (.if_icmp .eq 7, 3) := gg65.2.2.1
theorem dX1_isLawful_127 : decode cX1_isLawful 127 = .ok (.iconst 1, 1) := gg65.2.2.2.1
theorem dX1_isLawful_128 : decode cX1_isLawful 128 = .ok (.goto 4, 3) := gg65.2.2.2.2.1
theorem dX1_isLawful_131 : decode cX1_isLawful 131 = .ok (.iconst 0, 1) := gg65.2.2.2.2.2.1
theorem dX1_isLawful_132 : decode cX1_isLawful 132 = .ok (.ireturn, 1) := gg65.2.2.2.2.2.2.1
theorem dX1_isLawful_133 : decode cX1_isLawful 133 = .ok (.iload 4, 2) := gg65.2.2.2.2.2.2.2.1
theorem dX1_isLawful_135 : decode cX1_isLawful 135 = .ok (.ifCond .eq 13, 3) := gg65.2.2.2.2.2.2.2.2.1
theorem dX1_isLawful_138 : decode cX1_isLawful 138 = .ok (.iload 5, 2) := gg65.2.2.2.2.2.2.2.2.2
theorem gg66 : decode cX1_isLawful 140 = .ok (.iconst 2, 1) ∧ decode cX1_isLawful 141 = .ok (.if_icmp .ne 7, 3) ∧ decode cX1_isLawful 144 = .ok (.iconst 1, 1) ∧ decode cX1_isLawful 145 = .ok (.goto 4, 3) ∧ decode cX1_isLawful 148 = .ok (.iconst 0, 1) ∧ decode cX1_isLawful 149 = .ok (.ireturn, 1) := by decide +kernel
theorem dX1_isLawful_140 : decode cX1_isLawful 140 = .ok (.iconst 2, 1) := gg66.1
theorem dX1_isLawful_141 : decode cX1_isLawful 141 = .ok (.if_icmp .ne 7, 3) := gg66.2.1
theorem dX1_isLawful_144 : decode cX1_isLawful 144 = .ok (.iconst 1, 1) := gg66.2.2.1
theorem dX1_isLawful_145 : decode cX1_isLawful 145 = .ok (.goto 4, 3) := gg66.2.2.2.1
theorem dX1_isLawful_148 : decode cX1_isLawful 148 = .ok (.iconst 0, 1) := gg66.2.2.2.2.1
theorem dX1_isLawful_149 : decode cX1_isLawful 149 = .ok (.ireturn, 1) := gg66.2.2.2.2.2
theorem gg67 : decode cX1_firstLawful 0 = .ok (.sipush 5000, 3) ∧ decode cX1_firstLawful 3 = .ok (.aload_n 0, 1) ∧ decode cX1_firstLawful 4 = .ok (.getfield 9, 3) ∧ decode cX1_firstLawful 7 = .ok (.invokevirtual 51, 3) ∧ decode cX1_firstLawful 10 = .ok (.invokestatic 61, 3) ∧ decode cX1_firstLawful 13 = .ok (.istore 5, 2) ∧ decode cX1_firstLawful 15 = .ok (.iconst 1, 1) ∧ decode cX1_firstLawful 16 = .ok (.istore 6, 2) ∧ decode cX1_firstLawful 18 = .ok (.iconst 0, 1) ∧ decode cX1_firstLawful 19 = .ok (.istore 7, 2) := by decide +kernel
theorem dX1_firstLawful_0 : decode cX1_firstLawful 0 = .ok (.sipush 5000, 3) := gg67.1
theorem dX1_firstLawful_3 : decode cX1_firstLawful 3 = .ok (.aload_n 0, 1) := gg67.2.1
theorem dX1_firstLawful_4 : decode cX1_firstLawful 4 = .ok (.getfield 9, 3) := gg67.2.2.1
theorem dX1_firstLawful_7 : decode cX1_firstLawful 7 = .ok (.invokevirtual 51, 3) := gg67.2.2.2.1
theorem dX1_firstLawful_10 : decode cX1_firstLawful 10 = .ok (.invokestatic 61, 3) := gg67.2.2.2.2.1
theorem dX1_firstLawful_13 : decode cX1_firstLawful 13 = .ok (.istore 5, 2) := gg67.2.2.2.2.2.1
theorem dX1_firstLawful_15 : decode cX1_firstLawful 15 = .ok (.iconst 1, 1) := gg67.2.2.2.2.2.2.1
theorem dX1_firstLawful_16 : decode cX1_firstLawful 16 = .ok (.istore 6, 2) := gg67.2.2.2.2.2.2.2.1
theorem dX1_firstLawful_18 : decode cX1_firstLawful 18 = .ok (.iconst 0, 1) := gg67.2.2.2.2.2.2.2.2.1
theorem dX1_firstLawful_19 : decode cX1_firstLawful 19 = .ok (.istore 7, 2) := gg67.2.2.2.2.2.2.2.2.2
theorem gg68 : decode cX1_firstLawful 21 = .ok (.iload 7, 2) ∧ decode cX1_firstLawful 23 = .ok (.iload 5, 2) ∧ decode cX1_firstLawful 25 = .ok (.if_icmp .gt 60, 3) ∧ decode cX1_firstLawful 28 = .ok (.aload_n 0, 1) ∧ decode cX1_firstLawful 29 = .ok (.iload_n 1, 1) ∧ decode cX1_firstLawful 30 = .ok (.lload_n 3, 1) ∧ decode cX1_firstLawful 31 = .ok (.iload 7, 2) ∧ decode cX1_firstLawful 33 = .ok (.i2l, 1) ∧ decode cX1_firstLawful 34 = .ok (.ladd, 1) ∧ decode cX1_firstLawful 35 = .ok (.invokevirtual 81, 3) := by decide +kernel
theorem dX1_firstLawful_21 : decode cX1_firstLawful 21 = .ok (.iload 7, 2) := gg68.1
theorem dX1_firstLawful_23 : decode cX1_firstLawful 23 = .ok (.iload 5, 2) := gg68.2.1
theorem dX1_firstLawful_25 : decode cX1_firstLawful 25 = .ok (.if_icmp .gt 60, 3) := gg68.2.2.1
theorem dX1_firstLawful_28 : decode cX1_firstLawful 28 = .ok (.aload_n 0, 1) := gg68.2.2.2.1
theorem dX1_firstLawful_29 : decode cX1_firstLawful 29 = .ok (.iload_n 1, 1) := gg68.2.2.2.2.1
theorem dX1_firstLawful_30 : decode cX1_firstLawful 30 = .ok (.lload_n 3, 1) := gg68.2.2.2.2.2.1
theorem dX1_firstLawful_31 : decode cX1_firstLawful 31 = .ok (.iload 7, 2) := gg68.2.2.2.2.2.2.1
theorem dX1_firstLawful_33 : decode cX1_firstLawful 33 = .ok (.i2l, 1) := gg68.2.2.2.2.2.2.2.1
theorem dX1_firstLawful_34 : decode cX1_firstLawful 34 = .ok (.ladd, 1) := gg68.2.2.2.2.2.2.2.2.1
theorem dX1_firstLawful_35 : decode cX1_firstLawful 35 = .ok (.invokevirtual 81, 3) := gg68.2.2.2.2.2.2.2.2.2
theorem gg69 : decode cX1_firstLawful 38 = .ok (.ifCond .eq 22, 3) ∧ decode cX1_firstLawful 41 = .ok (.aload_n 0, 1) ∧ decode cX1_firstLawful 42 = .ok (.iload_n 2, 1) ∧ decode cX1_firstLawful 43 = .ok (.lload_n 3, 1) ∧ decode cX1_firstLawful 44 = .ok (.iload 7, 2) ∧ decode cX1_firstLawful 46 = .ok (.i2l, 1) ∧ decode cX1_firstLawful 47 = .ok (.ladd, 1) ∧ decode cX1_firstLawful 48 = .ok (.invokevirtual 81, 3) ∧ decode cX1_firstLawful 51 = .ok (.ifCond .eq 9, 3) ∧ decode cX1_firstLawful 54 = .ok (.lload_n 3, 1) := by decide +kernel
theorem dX1_firstLawful_38 : decode cX1_firstLawful 38 = .ok (.ifCond .eq 22, 3) := gg69.1
theorem dX1_firstLawful_41 : decode cX1_firstLawful 41 = .ok (.aload_n 0, 1) := gg69.2.1
theorem dX1_firstLawful_42 : decode cX1_firstLawful 42 = .ok (.iload_n 2, 1) := gg69.2.2.1
theorem dX1_firstLawful_43 : decode cX1_firstLawful 43 = .ok (.lload_n 3, 1) := gg69.2.2.2.1
theorem dX1_firstLawful_44 : decode cX1_firstLawful 44 = .ok (.iload 7, 2) := gg69.2.2.2.2.1
theorem dX1_firstLawful_46 : decode cX1_firstLawful 46 = .ok (.i2l, 1) := gg69.2.2.2.2.2.1
theorem dX1_firstLawful_47 : decode cX1_firstLawful 47 = .ok (.ladd, 1) := gg69.2.2.2.2.2.2.1
theorem dX1_firstLawful_48 : decode cX1_firstLawful 48 = .ok (.invokevirtual 81, 3) := gg69.2.2.2.2.2.2.2.1
theorem dX1_firstLawful_51 : decode cX1_firstLawful 51 = .ok (.ifCond .eq 9, 3) := gg69.2.2.2.2.2.2.2.2.1
theorem dX1_firstLawful_54 : decode cX1_firstLawful 54 = .ok (.lload_n 3, 1) := gg69.2.2.2.2.2.2.2.2.2
theorem gg70 : decode cX1_firstLawful 55 = .ok (.iload 7, 2) ∧ decode cX1_firstLawful 57 = .ok (.i2l, 1) ∧ decode cX1_firstLawful 58 = .ok (.ladd, 1) ∧ decode cX1_firstLawful 59 = .ok (.lreturn, 1) ∧ decode cX1_firstLawful 60 = .ok (.aload_n 0, 1) ∧ decode cX1_firstLawful 61 = .ok (.lload_n 3, 1) ∧ decode cX1_firstLawful 62 = .ok (.iload 7, 2) ∧ decode cX1_firstLawful 64 = .ok (.i2l, 1) ∧ decode cX1_firstLawful 65 = .ok (.ladd, 1) ∧ decode cX1_firstLawful 66 = .ok (.invokevirtual 58, 3) := by decide +kernel
theorem dX1_firstLawful_55 : decode cX1_firstLawful 55 = .ok (.iload 7, 2) := gg70.1
theorem dX1_firstLawful_57 : decode cX1_firstLawful 57 = .ok (.i2l, 1) := gg70.2.1
theorem dX1_firstLawful_58 : decode cX1_firstLawful 58 = .ok (.ladd, 1) := gg70.2.2.1
theorem dX1_firstLawful_59 : decode cX1_firstLawful 59 = .ok (.lreturn, 1) := gg70.2.2.2.1
theorem dX1_firstLawful_60 : decode cX1_firstLawful 60 = .ok (.aload_n 0, 1) := gg70.2.2.2.2.1
theorem dX1_firstLawful_61 : decode cX1_firstLawful 61 = .ok (.lload_n 3, 1) := gg70.2.2.2.2.2.1
theorem dX1_firstLawful_62 : decode cX1_firstLawful 62 = .ok (.iload 7, 2) := gg70.2.2.2.2.2.2.1
theorem dX1_firstLawful_64 : decode cX1_firstLawful 64 = .ok (.i2l, 1) := gg70.2.2.2.2.2.2.2.1
theorem dX1_firstLawful_65 : decode cX1_firstLawful 65 = .ok (.ladd, 1) := gg70.2.2.2.2.2.2.2.2.1
theorem dX1_firstLawful_66 : decode cX1_firstLawful 66 = .ok (.invokevirtual 58, 3) := gg70.2.2.2.2.2.2.2.2.2
theorem gg71 : decode cX1_firstLawful 69 = .ok (.istore 6, 2) ∧ decode cX1_firstLawful 71 = .ok (.iload 7, 2) ∧ decode cX1_firstLawful 73 = .ok (.iconst 1, 1) ∧ decode cX1_firstLawful 74 = .ok (.iload 6, 2) ∧ decode cX1_firstLawful 76 = .ok (.invokestatic 68, 3) ∧ decode cX1_firstLawful 79 = .ok (.iadd, 1) ∧ decode cX1_firstLawful 80 = .ok (.istore 7, 2) ∧ decode cX1_firstLawful 82 = .ok (.goto (-61), 3) ∧ decode cX1_firstLawful 85 = .ok (.ldc2_w 70, 3) ∧ decode cX1_firstLawful 88 = .ok (.lreturn, 1) := by decide +kernel
theorem dX1_firstLawful_69 : decode cX1_firstLawful 69 = .ok (.istore 6, 2) := gg71.1
theorem dX1_firstLawful_71 : decode cX1_firstLawful 71 = .ok (.iload 7, 2) := gg71.2.1
theorem dX1_firstLawful_73 : decode cX1_firstLawful 73 = .ok (.iconst 1, 1) := gg71.2.2.1
theorem dX1_firstLawful_74 : decode cX1_firstLawful 74 = .ok (.iload 6, 2) := gg71.2.2.2.1
theorem dX1_firstLawful_76 : decode cX1_firstLawful 76 = .ok (.invokestatic 68, 3) := gg71.2.2.2.2.1
theorem dX1_firstLawful_79 : decode cX1_firstLawful 79 = .ok (.iadd, 1) := gg71.2.2.2.2.2.1
theorem dX1_firstLawful_80 : decode cX1_firstLawful 80 = .ok (.istore 7, 2) := gg71.2.2.2.2.2.2.1
theorem dX1_firstLawful_82 : decode cX1_firstLawful 82 = .ok (.goto (-61), 3) := gg71.2.2.2.2.2.2.2.1
theorem dX1_firstLawful_85 : decode cX1_firstLawful 85 = .ok (.ldc2_w 70, 3) := gg71.2.2.2.2.2.2.2.2.1
theorem dX1_firstLawful_88 : decode cX1_firstLawful 88 = .ok (.lreturn, 1) := gg71.2.2.2.2.2.2.2.2.2
theorem gg72 : decode cX2_init 0 = .ok (.aload_n 0, 1) ∧ decode cX2_init 1 = .ok (.invokespecial 3, 3) ∧ decode cX2_init 4 = .ok (.aload_n 0, 1) ∧ decode cX2_init 5 = .ok (.bipush 30, 2) ∧ decode cX2_init 7 = .ok (.newarray .int, 2) ∧ decode cX2_init 9 = .ok (.putfield 11, 3) ∧ decode cX2_init 12 = .ok (.aload_n 0, 1) ∧ decode cX2_init 13 = .ok (.invokevirtual 15, 3) ∧ decode cX2_init 16 = .ok (.return_, 1) := by decide +kernel
theorem dX2_init_0 : decode cX2_init 0 = .ok (.aload_n 0, 1) := gg72.1
theorem dX2_init_1 : decode cX2_init 1 = .ok (.invokespecial 3, 3) := gg72.2.1
theorem dX2_init_4 : decode cX2_init 4 = .ok (.aload_n 0, 1) := gg72.2.2.1
theorem dX2_init_5 : decode cX2_init 5 = .ok (.bipush 30, 2) := gg72.2.2.2.1
theorem dX2_init_7 : decode cX2_init 7 = .ok (.newarray .int, 2) := gg72.2.2.2.2.1
theorem dX2_init_9 : decode cX2_init 9 = .ok (.putfield 11, 3) := gg72.2.2.2.2.2.1
theorem dX2_init_12 : decode cX2_init 12 = .ok (.aload_n 0, 1) := gg72.2.2.2.2.2.2.1
theorem dX2_init_13 : decode cX2_init 13 = .ok (.invokevirtual 15, 3) := gg72.2.2.2.2.2.2.2.1
theorem dX2_init_16 : decode cX2_init 16 = .ok (.return_, 1) := gg72.2.2.2.2.2.2.2.2
theorem gg73 : decode cX2_clear 0 = .ok (.aload_n 0, 1) ∧ decode cX2_clear 1 = .ok (.sipush 745, 3) ∧ decode cX2_clear 4 = .ok (.putfield 18, 3) ∧ decode cX2_clear 7 = .ok (.aload_n 0, 1) ∧ decode cX2_clear 8 = .ok (.iconst 1, 1) ∧ decode cX2_clear 9 = .ok (.putfield 22, 3) ∧ decode cX2_clear 12 = .ok (.aload_n 0, 1) ∧ decode cX2_clear 13 = .ok (.iconst 1, 1) ∧ decode cX2_clear 14 = .ok (.putfield 25, 3) ∧ decode cX2_clear 17 = .ok (.aload_n 0, 1) := by decide +kernel
theorem dX2_clear_0 : decode cX2_clear 0 = .ok (.aload_n 0, 1) := gg73.1
theorem dX2_clear_1 : decode cX2_clear 1 = .ok (.sipush 745, 3) := gg73.2.1
theorem dX2_clear_4 : decode cX2_clear 4 = .ok (.putfield 18, 3) := gg73.2.2.1
theorem dX2_clear_7 : decode cX2_clear 7 = .ok (.aload_n 0, 1) := gg73.2.2.2.1
theorem dX2_clear_8 : decode cX2_clear 8 = .ok (.iconst 1, 1) := gg73.2.2.2.2.1
theorem dX2_clear_9 : decode cX2_clear 9 = .ok (.putfield 22, 3) := gg73.2.2.2.2.2.1
theorem dX2_clear_12 : decode cX2_clear 12 = .ok (.aload_n 0, 1) := gg73.2.2.2.2.2.2.1
theorem dX2_clear_13 : decode cX2_clear 13 = .ok (.iconst 1, 1) := gg73.2.2.2.2.2.2.2.1
theorem dX2_clear_14 : decode cX2_clear 14 = .ok (.putfield 25, 3) := gg73.2.2.2.2.2.2.2.2.1
theorem dX2_clear_17 : decode cX2_clear 17 = .ok (.aload_n 0, 1) := gg73.2.2.2.2.2.2.2.2.2
theorem gg74 : decode cX2_clear 18 = .ok (.iconst 2, 1) ∧ decode cX2_clear 19 = .ok (.putfield 28, 3) ∧ decode cX2_clear 22 = .ok (.aload_n 0, 1) ∧ decode cX2_clear 23 = .ok (.iconst 0, 1) ∧ decode cX2_clear 24 = .ok (.putfield 31, 3) ∧ decode cX2_clear 27 = .ok (.aload_n 0, 1) ∧ decode cX2_clear 28 = .ok (.iconst 0, 1) ∧ decode cX2_clear 29 = .ok (.putfield 34, 3) ∧ decode cX2_clear 32 = .ok (.aload_n 0, 1) ∧ decode cX2_clear 33 = .ok (.iconst 0, 1) := by decide +kernel
theorem dX2_clear_18 : decode cX2_clear 18 = .ok (.iconst 2, 1) := gg74.1
theorem dX2_clear_19 : decode cX2_clear 19 = .ok (.putfield 28, 3) := gg74.2.1
theorem dX2_clear_22 : decode cX2_clear 22 = .ok (.aload_n 0, 1) := gg74.2.2.1
theorem dX2_clear_23 : decode cX2_clear 23 = .ok (.iconst 0, 1) := gg74.2.2.2.1
theorem dX2_clear_24 : decode cX2_clear 24 = .ok (.putfield 31, 3) := gg74.2.2.2.2.1
theorem dX2_clear_27 : decode cX2_clear 27 = .ok (.aload_n 0, 1) := gg74.2.2.2.2.2.1
theorem dX2_clear_28 : decode cX2_clear 28 = .ok (.iconst 0, 1) := gg74.2.2.2.2.2.2.1
theorem dX2_clear_29 : decode cX2_clear 29 = .ok (.putfield 34, 3) := gg74.2.2.2.2.2.2.2.1
theorem dX2_clear_32 : decode cX2_clear 32 = .ok (.aload_n 0, 1) := gg74.2.2.2.2.2.2.2.2.1
theorem dX2_clear_33 : decode cX2_clear 33 = .ok (.iconst 0, 1) := gg74.2.2.2.2.2.2.2.2.2
theorem gg75 : decode cX2_clear 34 = .ok (.putfield 37, 3) ∧ decode cX2_clear 37 = .ok (.return_, 1) := by decide +kernel
theorem dX2_clear_34 : decode cX2_clear 34 = .ok (.putfield 37, 3) := gg75.1
theorem dX2_clear_37 : decode cX2_clear 37 = .ok (.return_, 1) := gg75.2
theorem gg76 : decode cX2_copyFrom 0 = .ok (.aload_n 0, 1) ∧ decode cX2_copyFrom 1 = .ok (.aload_n 1, 1) ∧ decode cX2_copyFrom 2 = .ok (.getfield 18, 3) ∧ decode cX2_copyFrom 5 = .ok (.putfield 18, 3) ∧ decode cX2_copyFrom 8 = .ok (.aload_n 0, 1) ∧ decode cX2_copyFrom 9 = .ok (.aload_n 1, 1) ∧ decode cX2_copyFrom 10 = .ok (.getfield 22, 3) ∧ decode cX2_copyFrom 13 = .ok (.putfield 22, 3) ∧ decode cX2_copyFrom 16 = .ok (.aload_n 0, 1) ∧ decode cX2_copyFrom 17 = .ok (.aload_n 1, 1) := by decide +kernel
theorem dX2_copyFrom_0 : decode cX2_copyFrom 0 = .ok (.aload_n 0, 1) := gg76.1
theorem dX2_copyFrom_1 : decode cX2_copyFrom 1 = .ok (.aload_n 1, 1) := gg76.2.1
theorem dX2_copyFrom_2 : decode cX2_copyFrom 2 = .ok (.getfield 18, 3) := gg76.2.2.1
theorem dX2_copyFrom_5 : decode cX2_copyFrom 5 = .ok (.putfield 18, 3) := gg76.2.2.2.1
theorem dX2_copyFrom_8 : decode cX2_copyFrom 8 = .ok (.aload_n 0, 1) := gg76.2.2.2.2.1
theorem dX2_copyFrom_9 : decode cX2_copyFrom 9 = .ok (.aload_n 1, 1) := gg76.2.2.2.2.2.1
theorem dX2_copyFrom_10 : decode cX2_copyFrom 10 = .ok (.getfield 22, 3) := gg76.2.2.2.2.2.2.1
theorem dX2_copyFrom_13 : decode cX2_copyFrom 13 = .ok (.putfield 22, 3) := gg76.2.2.2.2.2.2.2.1
theorem dX2_copyFrom_16 : decode cX2_copyFrom 16 = .ok (.aload_n 0, 1) := gg76.2.2.2.2.2.2.2.2.1
theorem dX2_copyFrom_17 : decode cX2_copyFrom 17 = .ok (.aload_n 1, 1) := gg76.2.2.2.2.2.2.2.2.2
theorem gg77 : decode cX2_copyFrom 18 = .ok (.getfield 25, 3) ∧ decode cX2_copyFrom 21 = .ok (.putfield 25, 3) ∧ decode cX2_copyFrom 24 = .ok (.aload_n 0, 1) ∧ decode cX2_copyFrom 25 = .ok (.aload_n 1, 1) ∧ decode cX2_copyFrom 26 = .ok (.getfield 28, 3) ∧ decode cX2_copyFrom 29 = .ok (.putfield 28, 3) ∧ decode cX2_copyFrom 32 = .ok (.aload_n 0, 1) ∧ decode cX2_copyFrom 33 = .ok (.aload_n 1, 1) ∧ decode cX2_copyFrom 34 = .ok (.getfield 31, 3) ∧ decode cX2_copyFrom 37 = .ok (.putfield 31, 3) := by decide +kernel
theorem dX2_copyFrom_18 : decode cX2_copyFrom 18 = .ok (.getfield 25, 3) := gg77.1
theorem dX2_copyFrom_21 : decode cX2_copyFrom 21 = .ok (.putfield 25, 3) := gg77.2.1
theorem dX2_copyFrom_24 : decode cX2_copyFrom 24 = .ok (.aload_n 0, 1) := gg77.2.2.1
theorem dX2_copyFrom_25 : decode cX2_copyFrom 25 = .ok (.aload_n 1, 1) := gg77.2.2.2.1
theorem dX2_copyFrom_26 : decode cX2_copyFrom 26 = .ok (.getfield 28, 3) := gg77.2.2.2.2.1
theorem dX2_copyFrom_29 : decode cX2_copyFrom 29 = .ok (.putfield 28, 3) := gg77.2.2.2.2.2.1
theorem dX2_copyFrom_32 : decode cX2_copyFrom 32 = .ok (.aload_n 0, 1) := gg77.2.2.2.2.2.2.1
theorem dX2_copyFrom_33 : decode cX2_copyFrom 33 = .ok (.aload_n 1, 1) := gg77.2.2.2.2.2.2.2.1
theorem dX2_copyFrom_34 : decode cX2_copyFrom 34 = .ok (.getfield 31, 3) := gg77.2.2.2.2.2.2.2.2.1
theorem dX2_copyFrom_37 : decode cX2_copyFrom 37 = .ok (.putfield 31, 3) := gg77.2.2.2.2.2.2.2.2.2
theorem gg78 : decode cX2_copyFrom 40 = .ok (.aload_n 0, 1) ∧ decode cX2_copyFrom 41 = .ok (.aload_n 1, 1) ∧ decode cX2_copyFrom 42 = .ok (.getfield 34, 3) ∧ decode cX2_copyFrom 45 = .ok (.putfield 34, 3) ∧ decode cX2_copyFrom 48 = .ok (.aload_n 0, 1) ∧ decode cX2_copyFrom 49 = .ok (.aload_n 1, 1) ∧ decode cX2_copyFrom 50 = .ok (.getfield 37, 3) ∧ decode cX2_copyFrom 53 = .ok (.putfield 37, 3) ∧ decode cX2_copyFrom 56 = .ok (.aload_n 1, 1) ∧ decode cX2_copyFrom 57 = .ok (.getfield 11, 3) := by decide +kernel
theorem dX2_copyFrom_40 : decode cX2_copyFrom 40 = .ok (.aload_n 0, 1) := gg78.1
theorem dX2_copyFrom_41 : decode cX2_copyFrom 41 = .ok (.aload_n 1, 1) := gg78.2.1
theorem dX2_copyFrom_42 : decode cX2_copyFrom 42 = .ok (.getfield 34, 3) := gg78.2.2.1
theorem dX2_copyFrom_45 : decode cX2_copyFrom 45 = .ok (.putfield 34, 3) := gg78.2.2.2.1
theorem dX2_copyFrom_48 : decode cX2_copyFrom 48 = .ok (.aload_n 0, 1) := gg78.2.2.2.2.1
theorem dX2_copyFrom_49 : decode cX2_copyFrom 49 = .ok (.aload_n 1, 1) := gg78.2.2.2.2.2.1
theorem dX2_copyFrom_50 : decode cX2_copyFrom 50 = .ok (.getfield 37, 3) := gg78.2.2.2.2.2.2.1
theorem dX2_copyFrom_53 : decode cX2_copyFrom 53 = .ok (.putfield 37, 3) := gg78.2.2.2.2.2.2.2.1
theorem dX2_copyFrom_56 : decode cX2_copyFrom 56 = .ok (.aload_n 1, 1) := gg78.2.2.2.2.2.2.2.2.1
theorem dX2_copyFrom_57 : decode cX2_copyFrom 57 = .ok (.getfield 11, 3) := gg78.2.2.2.2.2.2.2.2.2
theorem gg79 : decode cX2_copyFrom 60 = .ok (.iconst 0, 1) ∧ decode cX2_copyFrom 61 = .ok (.aload_n 0, 1) ∧ decode cX2_copyFrom 62 = .ok (.getfield 11, 3) ∧ decode cX2_copyFrom 65 = .ok (.iconst 0, 1) ∧ decode cX2_copyFrom 66 = .ok (.aload_n 0, 1) ∧ decode cX2_copyFrom 67 = .ok (.getfield 11, 3) ∧ decode cX2_copyFrom 70 = .ok (.arraylength, 1) ∧ decode cX2_copyFrom 71 = .ok (.invokestatic 40, 3) ∧ decode cX2_copyFrom 74 = .ok (.return_, 1) := by decide +kernel
theorem dX2_copyFrom_60 : decode cX2_copyFrom 60 = .ok (.iconst 0, 1) := gg79.1
theorem dX2_copyFrom_61 : decode cX2_copyFrom 61 = .ok (.aload_n 0, 1) := gg79.2.1
theorem dX2_copyFrom_62 : decode cX2_copyFrom 62 = .ok (.getfield 11, 3) := gg79.2.2.1
theorem dX2_copyFrom_65 : decode cX2_copyFrom 65 = .ok (.iconst 0, 1) := gg79.2.2.2.1
theorem dX2_copyFrom_66 : decode cX2_copyFrom 66 = .ok (.aload_n 0, 1) := gg79.2.2.2.2.1
theorem dX2_copyFrom_67 : decode cX2_copyFrom 67 = .ok (.getfield 11, 3) := gg79.2.2.2.2.2.1
theorem dX2_copyFrom_70 : decode cX2_copyFrom 70 = .ok (.arraylength, 1) := gg79.2.2.2.2.2.2.1
theorem dX2_copyFrom_71 : decode cX2_copyFrom 71 = .ok (.invokestatic 40, 3) := gg79.2.2.2.2.2.2.2.1
theorem dX2_copyFrom_74 : decode cX2_copyFrom 74 = .ok (.return_, 1) := gg79.2.2.2.2.2.2.2.2
theorem gg80 : decode cX2_addFirstAct 0 = .ok (.aload_n 0, 1) ∧ decode cX2_addFirstAct 1 = .ok (.getfield 11, 3) ∧ decode cX2_addFirstAct 4 = .ok (.iconst 0, 1) ∧ decode cX2_addFirstAct 5 = .ok (.iconst 0, 1) ∧ decode cX2_addFirstAct 6 = .ok (.iastore, 1) ∧ decode cX2_addFirstAct 7 = .ok (.aload_n 0, 1) ∧ decode cX2_addFirstAct 8 = .ok (.getfield 11, 3) ∧ decode cX2_addFirstAct 11 = .ok (.iconst 1, 1) ∧ decode cX2_addFirstAct 12 = .ok (.iconst 1, 1) ∧ decode cX2_addFirstAct 13 = .ok (.iastore, 1) := by decide +kernel
theorem dX2_addFirstAct_0 : decode cX2_addFirstAct 0 = .ok (.aload_n 0, 1) := gg80.1
theorem dX2_addFirstAct_1 : decode cX2_addFirstAct 1 = .ok (.getfield 11, 3) := gg80.2.1
theorem dX2_addFirstAct_4 : decode cX2_addFirstAct 4 = .ok (.iconst 0, 1) := gg80.2.2.1
theorem dX2_addFirstAct_5 : decode cX2_addFirstAct 5 = .ok (.iconst 0, 1) := gg80.2.2.2.1
theorem dX2_addFirstAct_6 : decode cX2_addFirstAct 6 = .ok (.iastore, 1) := gg80.2.2.2.2.1
theorem dX2_addFirstAct_7 : decode cX2_addFirstAct 7 = .ok (.aload_n 0, 1) := gg80.2.2.2.2.2.1
theorem dX2_addFirstAct_8 : decode cX2_addFirstAct 8 = .ok (.getfield 11, 3) := gg80.2.2.2.2.2.2.1
theorem dX2_addFirstAct_11 : decode cX2_addFirstAct 11 = .ok (.iconst 1, 1) := gg80.2.2.2.2.2.2.2.1
theorem dX2_addFirstAct_12 : decode cX2_addFirstAct 12 = .ok (.iconst 1, 1) := gg80.2.2.2.2.2.2.2.2.1
theorem dX2_addFirstAct_13 : decode cX2_addFirstAct 13 = .ok (.iastore, 1) := gg80.2.2.2.2.2.2.2.2.2
theorem gg81 : decode cX2_addFirstAct 14 = .ok (.aload_n 0, 1) ∧ decode cX2_addFirstAct 15 = .ok (.getfield 11, 3) ∧ decode cX2_addFirstAct 18 = .ok (.iconst 2, 1) ∧ decode cX2_addFirstAct 19 = .ok (.iconst 1, 1) ∧ decode cX2_addFirstAct 20 = .ok (.iastore, 1) ∧ decode cX2_addFirstAct 21 = .ok (.aload_n 0, 1) ∧ decode cX2_addFirstAct 22 = .ok (.getfield 11, 3) ∧ decode cX2_addFirstAct 25 = .ok (.iconst 3, 1) ∧ decode cX2_addFirstAct 26 = .ok (.bipush 55, 2) ∧ decode cX2_addFirstAct 28 = .ok (.iastore, 1) := by decide +kernel
theorem dX2_addFirstAct_14 : decode cX2_addFirstAct 14 = .ok (.aload_n 0, 1) := gg81.1
theorem dX2_addFirstAct_15 : decode cX2_addFirstAct 15 = .ok (.getfield 11, 3) := gg81.2.1
theorem dX2_addFirstAct_18 : decode cX2_addFirstAct 18 = .ok (.iconst 2, 1) := gg81.2.2.1
theorem dX2_addFirstAct_19 : decode cX2_addFirstAct 19 = .ok (.iconst 1, 1) := gg81.2.2.2.1
theorem dX2_addFirstAct_20 : decode cX2_addFirstAct 20 = .ok (.iastore, 1) := gg81.2.2.2.2.1
theorem dX2_addFirstAct_21 : decode cX2_addFirstAct 21 = .ok (.aload_n 0, 1) := gg81.2.2.2.2.2.1
theorem dX2_addFirstAct_22 : decode cX2_addFirstAct 22 = .ok (.getfield 11, 3) := gg81.2.2.2.2.2.2.1
theorem dX2_addFirstAct_25 : decode cX2_addFirstAct 25 = .ok (.iconst 3, 1) := gg81.2.2.2.2.2.2.2.1
theorem dX2_addFirstAct_26 : decode cX2_addFirstAct 26 = .ok (.bipush 55, 2) := gg81.2.2.2.2.2.2.2.2.1
theorem dX2_addFirstAct_28 : decode cX2_addFirstAct 28 = .ok (.iastore, 1) := gg81.2.2.2.2.2.2.2.2.2
theorem gg82 : decode cX2_addFirstAct 29 = .ok (.aload_n 0, 1) ∧ decode cX2_addFirstAct 30 = .ok (.getfield 11, 3) ∧ decode cX2_addFirstAct 33 = .ok (.iconst 4, 1) ∧ decode cX2_addFirstAct 34 = .ok (.bipush 55, 2) ∧ decode cX2_addFirstAct 36 = .ok (.iastore, 1) ∧ decode cX2_addFirstAct 37 = .ok (.aload_n 0, 1) ∧ decode cX2_addFirstAct 38 = .ok (.iconst 1, 1) ∧ decode cX2_addFirstAct 39 = .ok (.putfield 37, 3) ∧ decode cX2_addFirstAct 42 = .ok (.return_, 1) := by decide +kernel
theorem dX2_addFirstAct_29 : decode cX2_addFirstAct 29 = .ok (.aload_n 0, 1) := gg82.1
theorem dX2_addFirstAct_30 : decode cX2_addFirstAct 30 = .ok (.getfield 11, 3) := gg82.2.1
theorem dX2_addFirstAct_33 : decode cX2_addFirstAct 33 = .ok (.iconst 4, 1) := gg82.2.2.1
theorem dX2_addFirstAct_34 : decode cX2_addFirstAct 34 = .ok (.bipush 55, 2) := gg82.2.2.2.1
theorem dX2_addFirstAct_36 : decode cX2_addFirstAct 36 = .ok (.iastore, 1) := gg82.2.2.2.2.1
theorem dX2_addFirstAct_37 : decode cX2_addFirstAct 37 = .ok (.aload_n 0, 1) := gg82.2.2.2.2.2.1
theorem dX2_addFirstAct_38 : decode cX2_addFirstAct 38 = .ok (.iconst 1, 1) := gg82.2.2.2.2.2.2.1
theorem dX2_addFirstAct_39 : decode cX2_addFirstAct 39 = .ok (.putfield 37, 3) := gg82.2.2.2.2.2.2.2.1
theorem dX2_addFirstAct_42 : decode cX2_addFirstAct 42 = .ok (.return_, 1) := gg82.2.2.2.2.2.2.2.2
theorem gg83 : decode cX2_numbersBehind 0 = .ok (.iload_n 0, 1) ∧ decode cX2_numbersBehind 1 = .ok (.lookupswitch 51 #[(97, 49), (111, 45), (115, 47), (116, 43)], 43) ∧ decode cX2_numbersBehind 44 = .ok (.iconst 4, 1) ∧ decode cX2_numbersBehind 45 = .ok (.ireturn, 1) ∧ decode cX2_numbersBehind 46 = .ok (.iconst 1, 1) ∧ decode cX2_numbersBehind 47 = .ok (.ireturn, 1) ∧ decode cX2_numbersBehind 48 = .ok (.iconst 1, 1) ∧ decode cX2_numbersBehind 49 = .ok (.ireturn, 1) ∧ decode cX2_numbersBehind 50 = .ok (.iconst 5, 1) ∧ decode cX2_numbersBehind 51 = .ok (.ireturn, 1) := by decide +kernel
theorem dX2_numbersBehind_0 : decode cX2_numbersBehind 0 = .ok (.iload_n 0, 1) := gg83.1
theorem dX2_numbersBehind_1 : decode cX2_numbersBehind 1 = .ok (.lookupswitch 51 #[(97, 49), (111, 45), (115, 47), (116, 43)], 43) := gg83.2.1
theorem dX2_numbersBehind_44 : decode cX2_numbersBehind 44 = .ok (.iconst 4, 1) := gg83.2.2.1
theorem dX2_numbersBehind_45 : decode cX2_numbersBehind 45 = .ok (.ireturn, 1) := gg83.2.2.2.1
theorem dX2_numbersBehind_46 : decode cX2_numbersBehind 46 = .ok (.iconst 1, 1) := gg83.2.2.2.2.1
theorem dX2_numbersBehind_47 : decode cX2_numbersBehind 47 = .ok (.ireturn, 1) := gg83.2.2.2.2.2.1
theorem dX2_numbersBehind_48 : decode cX2_numbersBehind 48 = .ok (.iconst 1, 1) := gg83.2.2.2.2.2.2.1
theorem dX2_numbersBehind_49 : decode cX2_numbersBehind 49 = .ok (.ireturn, 1) := gg83.2.2.2.2.2.2.2.1
theorem dX2_numbersBehind_50 : decode cX2_numbersBehind 50 = .ok (.iconst 5, 1) := gg83.2.2.2.2.2.2.2.2.1
theorem dX2_numbersBehind_51 : decode cX2_numbersBehind 51 = .ok (.ireturn, 1) := gg83.2.2.2.2.2.2.2.2.2
theorem gg84 : decode cX2_numbersBehind 52 = .ok (.iconst 0, 1) ∧ decode cX2_numbersBehind 53 = .ok (.ireturn, 1) := by decide +kernel
theorem dX2_numbersBehind_52 : decode cX2_numbersBehind 52 = .ok (.iconst 0, 1) := gg84.1
theorem dX2_numbersBehind_53 : decode cX2_numbersBehind 53 = .ok (.ireturn, 1) := gg84.2
theorem gg85 : decode cX2_takeItem 0 = .ok (.aload_n 2, 1) ∧ decode cX2_takeItem 1 = .ok (.arraylength, 1) ∧ decode cX2_takeItem 2 = .ok (.iconst 5, 1) ∧ decode cX2_takeItem 3 = .ok (.if_icmp .ge 5, 3) ∧ decode cX2_takeItem 6 = .ok (.iconst 0, 1) ∧ decode cX2_takeItem 7 = .ok (.ireturn, 1) ∧ decode cX2_takeItem 8 = .ok (.iload_n 1, 1) ∧ decode cX2_takeItem 9 = .ok (.lookupswitch 82 #[(97, 76), (111, 60), (115, 68), (116, 43)], 43) ∧ decode cX2_takeItem 52 = .ok (.aload_n 0, 1) ∧ decode cX2_takeItem 53 = .ok (.aload_n 2, 1) := by decide +kernel
theorem dX2_takeItem_0 : decode cX2_takeItem 0 = .ok (.aload_n 2, 1) := gg85.1
theorem dX2_takeItem_1 : decode cX2_takeItem 1 = .ok (.arraylength, 1) := gg85.2.1
theorem dX2_takeItem_2 : decode cX2_takeItem 2 = .ok (.iconst 5, 1) := gg85.2.2.1
theorem dX2_takeItem_3 : decode cX2_takeItem 3 = .ok (.if_icmp .ge 5, 3) := gg85.2.2.2.1
theorem dX2_takeItem_6 : decode cX2_takeItem 6 = .ok (.iconst 0, 1) := gg85.2.2.2.2.1
theorem dX2_takeItem_7 : decode cX2_takeItem 7 = .ok (.ireturn, 1) := gg85.2.2.2.2.2.1
theorem dX2_takeItem_8 : decode cX2_takeItem 8 = .ok (.iload_n 1, 1) := gg85.2.2.2.2.2.2.1
theorem dX2_takeItem_9 : decode cX2_takeItem 9 = .ok (.lookupswitch 82 #[(97, 76), (111, 60), (115, 68), (116, 43)], 43) := gg85.2.2.2.2.2.2.2.1
theorem dX2_takeItem_52 : decode cX2_takeItem 52 = .ok (.aload_n 0, 1) := gg85.2.2.2.2.2.2.2.2.1
theorem dX2_takeItem_53 : decode cX2_takeItem 53 = .ok (.aload_n 2, 1) := gg85.2.2.2.2.2.2.2.2.2
theorem gg86 : decode cX2_takeItem 54 = .ok (.iconst 0, 1) ∧ decode cX2_takeItem 55 = .ok (.iaload, 1) ∧ decode cX2_takeItem 56 = .ok (.aload_n 2, 1) ∧ decode cX2_takeItem 57 = .ok (.iconst 1, 1) ∧ decode cX2_takeItem 58 = .ok (.iaload, 1) ∧ decode cX2_takeItem 59 = .ok (.aload_n 2, 1) ∧ decode cX2_takeItem 60 = .ok (.iconst 2, 1) ∧ decode cX2_takeItem 61 = .ok (.iaload, 1) ∧ decode cX2_takeItem 62 = .ok (.aload_n 2, 1) ∧ decode cX2_takeItem 63 = .ok (.iconst 3, 1) := by decide +kernel
theorem dX2_takeItem_54 : decode cX2_takeItem 54 = .ok (.iconst 0, 1) := gg86.1
theorem dX2_takeItem_55 : decode cX2_takeItem 55 = .ok (.iaload, 1) := gg86.2.1
theorem dX2_takeItem_56 : decode cX2_takeItem 56 = .ok (.aload_n 2, 1) := gg86.2.2.1
theorem dX2_takeItem_57 : decode cX2_takeItem 57 = .ok (.iconst 1, 1) := gg86.2.2.2.1
theorem dX2_takeItem_58 : decode cX2_takeItem 58 = .ok (.iaload, 1) := gg86.2.2.2.2.1
theorem dX2_takeItem_59 : decode cX2_takeItem 59 = .ok (.aload_n 2, 1) := gg86.2.2.2.2.2.1
theorem dX2_takeItem_60 : decode cX2_takeItem 60 = .ok (.iconst 2, 1) := gg86.2.2.2.2.2.2.1
theorem dX2_takeItem_61 : decode cX2_takeItem 61 = .ok (.iaload, 1) := gg86.2.2.2.2.2.2.2.1
theorem dX2_takeItem_62 : decode cX2_takeItem 62 = .ok (.aload_n 2, 1) := gg86.2.2.2.2.2.2.2.2.1
theorem dX2_takeItem_63 : decode cX2_takeItem 63 = .ok (.iconst 3, 1) := gg86.2.2.2.2.2.2.2.2.2
theorem gg87 : decode cX2_takeItem 64 = .ok (.iaload, 1) ∧ decode cX2_takeItem 65 = .ok (.invokevirtual 46, 3) ∧ decode cX2_takeItem 68 = .ok (.ireturn, 1) ∧ decode cX2_takeItem 69 = .ok (.aload_n 0, 1) ∧ decode cX2_takeItem 70 = .ok (.aload_n 2, 1) ∧ decode cX2_takeItem 71 = .ok (.iconst 0, 1) ∧ decode cX2_takeItem 72 = .ok (.iaload, 1) ∧ decode cX2_takeItem 73 = .ok (.invokevirtual 50, 3) ∧ decode cX2_takeItem 76 = .ok (.ireturn, 1) ∧ decode cX2_takeItem 77 = .ok (.aload_n 0, 1) := by decide +kernel
theorem dX2_takeItem_64 : decode cX2_takeItem 64 = .ok (.iaload, 1) := gg87.1
theorem dX2_takeItem_65 : decode cX2_takeItem 65 = .ok (.invokevirtual 46, 3) := gg87.2.1
theorem dX2_takeItem_68 : decode cX2_takeItem 68 = .ok (.ireturn, 1) := gg87.2.2.1
theorem dX2_takeItem_69 : decode cX2_takeItem 69 = .ok (.aload_n 0, 1) := gg87.2.2.2.1
theorem dX2_takeItem_70 : decode cX2_takeItem 70 = .ok (.aload_n 2, 1) := gg87.2.2.2.2.1
theorem dX2_takeItem_71 : decode cX2_takeItem 71 = .ok (.iconst 0, 1) := gg87.2.2.2.2.2.1
theorem dX2_takeItem_72 : decode cX2_takeItem 72 = .ok (.iaload, 1) := gg87.2.2.2.2.2.2.1
theorem dX2_takeItem_73 : decode cX2_takeItem 73 = .ok (.invokevirtual 50, 3) := gg87.2.2.2.2.2.2.2.1
theorem dX2_takeItem_76 : decode cX2_takeItem 76 = .ok (.ireturn, 1) := gg87.2.2.2.2.2.2.2.2.1
theorem dX2_takeItem_77 : decode cX2_takeItem 77 = .ok (.aload_n 0, 1) := gg87.2.2.2.2.2.2.2.2.2
theorem gg88 : decode cX2_takeItem 78 = .ok (.aload_n 2, 1) ∧ decode cX2_takeItem 79 = .ok (.iconst 0, 1) ∧ decode cX2_takeItem 80 = .ok (.iaload, 1) ∧ decode cX2_takeItem 81 = .ok (.invokevirtual 54, 3) ∧ decode cX2_takeItem 84 = .ok (.ireturn, 1) ∧ decode cX2_takeItem 85 = .ok (.aload_n 0, 1) ∧ decode cX2_takeItem 86 = .ok (.aload_n 2, 1) ∧ decode cX2_takeItem 87 = .ok (.invokevirtual 57, 3) ∧ decode cX2_takeItem 90 = .ok (.ireturn, 1) ∧ decode cX2_takeItem 91 = .ok (.iconst 0, 1) := by decide +kernel
theorem dX2_takeItem_78 : decode cX2_takeItem 78 = .ok (.aload_n 2, 1) := gg88.1
theorem dX2_takeItem_79 : decode cX2_takeItem 79 = .ok (.iconst 0, 1) := gg88.2.1
theorem dX2_takeItem_80 : decode cX2_takeItem 80 = .ok (.iaload, 1) := gg88.2.2.1
theorem dX2_takeItem_81 : decode cX2_takeItem 81 = .ok (.invokevirtual 54, 3) := gg88.2.2.2.1
theorem dX2_takeItem_84 : decode cX2_takeItem 84 = .ok (.ireturn, 1) := gg88.2.2.2.2.1
theorem dX2_takeItem_85 : decode cX2_takeItem 85 = .ok (.aload_n 0, 1) := gg88.2.2.2.2.2.1
theorem dX2_takeItem_86 : decode cX2_takeItem 86 = .ok (.aload_n 2, 1) := gg88.2.2.2.2.2.2.1
theorem dX2_takeItem_87 : decode cX2_takeItem 87 = .ok (.invokevirtual 57, 3) := gg88.2.2.2.2.2.2.2.1
theorem dX2_takeItem_90 : decode cX2_takeItem 90 = .ok (.ireturn, 1) := gg88.2.2.2.2.2.2.2.2.1
theorem dX2_takeItem_91 : decode cX2_takeItem 91 = .ok (.iconst 0, 1) := gg88.2.2.2.2.2.2.2.2.2
theorem dX2_takeItem_92 : decode cX2_takeItem 92 = .ok (.ireturn, 1) := by decide +kernel
theorem gg90 : decode cX2_takeTide 0 = .ok (.iload_n 1, 1) ∧ decode cX2_takeTide 1 = .ok (.bipush 20, 2) ∧ decode cX2_takeTide 3 = .ok (.if_icmp .lt 29, 3) ∧ decode cX2_takeTide 6 = .ok (.iload_n 1, 1) ∧ decode cX2_takeTide 7 = .ok (.sipush 999, 3) ∧ decode cX2_takeTide 10 = .ok (.if_icmp .gt 22, 3) ∧ decode cX2_takeTide 13 = .ok (.iload_n 2, 1) ∧ decode cX2_takeTide 14 = .ok (.iconst 1, 1) ∧ decode cX2_takeTide 15 = .ok (.if_icmp .lt 17, 3) ∧ decode cX2_takeTide 18 = .ok (.iload_n 2, 1) := by decide +kernel
theorem dX2_takeTide_0 : decode cX2_takeTide 0 = .ok (.iload_n 1, 1) := gg90.1
theorem dX2_takeTide_1 : decode cX2_takeTide 1 = .ok (.bipush 20, 2) := gg90.2.1
theorem dX2_takeTide_3 : decode cX2_takeTide 3 = .ok (.if_icmp .lt 29, 3) := gg90.2.2.1
theorem dX2_takeTide_6 : decode cX2_takeTide 6 = .ok (.iload_n 1, 1) := gg90.2.2.2.1
theorem dX2_takeTide_7 : decode cX2_takeTide 7 = .ok (.sipush 999, 3) := gg90.2.2.2.2.1
theorem dX2_takeTide_10 : decode cX2_takeTide 10 = .ok (.if_icmp .gt 22, 3) := gg90.2.2.2.2.2.1
theorem dX2_takeTide_13 : decode cX2_takeTide 13 = .ok (.iload_n 2, 1) := gg90.2.2.2.2.2.2.1
theorem dX2_takeTide_14 : decode cX2_takeTide 14 = .ok (.iconst 1, 1) := gg90.2.2.2.2.2.2.2.1
theorem dX2_takeTide_15 : decode cX2_takeTide 15 = .ok (.if_icmp .lt 17, 3) := gg90.2.2.2.2.2.2.2.2.1
theorem dX2_takeTide_18 : decode cX2_takeTide 18 = .ok (.iload_n 2, 1) := gg90.2.2.2.2.2.2.2.2.2
theorem gg91 : decode cX2_takeTide 19 = .ok (.bipush 20, 2) ∧ decode cX2_takeTide 21 = .ok (.if_icmp .gt 11, 3) ∧ decode cX2_takeTide 24 = .ok (.iload_n 1, 1) ∧ decode cX2_takeTide 25 = .ok (.bipush 20, 2) ∧ decode cX2_takeTide 27 = .ok (.iload_n 2, 1) ∧ decode cX2_takeTide 28 = .ok (.imul, 1) ∧ decode cX2_takeTide 29 = .ok (.if_icmp .ge 5, 3) ∧ decode cX2_takeTide 32 = .ok (.iconst 0, 1) ∧ decode cX2_takeTide 33 = .ok (.ireturn, 1) ∧ decode cX2_takeTide 34 = .ok (.iload 4, 2) := by decide +kernel
theorem dX2_takeTide_19 : decode cX2_takeTide 19 = .ok (.bipush 20, 2) := gg91.1
theorem dX2_takeTide_21 : decode cX2_takeTide 21 = .ok (.if_icmp .gt 11, 3) := gg91.2.1
theorem dX2_takeTide_24 : decode cX2_takeTide 24 = .ok (.iload_n 1, 1) := gg91.2.2.1
theorem dX2_takeTide_25 : decode cX2_takeTide 25 = .ok (.bipush 20, 2) := gg91.2.2.2.1
theorem dX2_takeTide_27 : decode cX2_takeTide 27 = .ok (.iload_n 2, 1) := gg91.2.2.2.2.1
theorem dX2_takeTide_28 : decode cX2_takeTide 28 = .ok (.imul, 1) := gg91.2.2.2.2.2.1
theorem dX2_takeTide_29 : decode cX2_takeTide 29 = .ok (.if_icmp .ge 5, 3) := gg91.2.2.2.2.2.2.1
theorem dX2_takeTide_32 : decode cX2_takeTide 32 = .ok (.iconst 0, 1) := gg91.2.2.2.2.2.2.2.1
theorem dX2_takeTide_33 : decode cX2_takeTide 33 = .ok (.ireturn, 1) := gg91.2.2.2.2.2.2.2.2.1
theorem dX2_takeTide_34 : decode cX2_takeTide 34 = .ok (.iload 4, 2) := gg91.2.2.2.2.2.2.2.2.2
theorem gg92 : decode cX2_takeTide 36 = .ok (.iconst 2, 1) ∧ decode cX2_takeTide 37 = .ok (.if_icmp .lt 23, 3) ∧ decode cX2_takeTide 40 = .ok (.iload 4, 2) ∧ decode cX2_takeTide 42 = .ok (.bipush 20, 2) ∧ decode cX2_takeTide 44 = .ok (.if_icmp .gt 16, 3) ∧ decode cX2_takeTide 47 = .ok (.iload_n 3, 1) ∧ decode cX2_takeTide 48 = .ok (.iconst 1, 1) ∧ decode cX2_takeTide 49 = .ok (.if_icmp .lt 11, 3) ∧ decode cX2_takeTide 52 = .ok (.iload_n 3, 1) ∧ decode cX2_takeTide 53 = .ok (.iload 4, 2) := by decide +kernel
theorem dX2_takeTide_36 : decode cX2_takeTide 36 = .ok (.iconst 2, 1) := gg92.1
theorem dX2_takeTide_37 : decode cX2_takeTide 37 = .ok (.if_icmp .lt 23, 3) := gg92.2.1
theorem dX2_takeTide_40 : decode cX2_takeTide 40 = .ok (.iload 4, 2) := gg92.2.2.1
theorem dX2_takeTide_42 : decode cX2_takeTide 42 = .ok (.bipush 20, 2) := gg92.2.2.2.1
theorem dX2_takeTide_44 : decode cX2_takeTide 44 = .ok (.if_icmp .gt 16, 3) := gg92.2.2.2.2.1
theorem dX2_takeTide_47 : decode cX2_takeTide 47 = .ok (.iload_n 3, 1) := gg92.2.2.2.2.2.1
theorem dX2_takeTide_48 : decode cX2_takeTide 48 = .ok (.iconst 1, 1) := gg92.2.2.2.2.2.2.1
theorem dX2_takeTide_49 : decode cX2_takeTide 49 = .ok (.if_icmp .lt 11, 3) := gg92.2.2.2.2.2.2.2.1
theorem dX2_takeTide_52 : decode cX2_takeTide 52 = .ok (.iload_n 3, 1) := gg92.2.2.2.2.2.2.2.2.1
theorem dX2_takeTide_53 : decode cX2_takeTide 53 = .ok (.iload 4, 2) := gg92.2.2.2.2.2.2.2.2.2
theorem gg93 : decode cX2_takeTide 55 = .ok (.iconst 1, 1) ∧ decode cX2_takeTide 56 = .ok (.isub, 1) ∧ decode cX2_takeTide 57 = .ok (.if_icmp .le 5, 3) ∧ decode cX2_takeTide 60 = .ok (.iconst 0, 1) ∧ decode cX2_takeTide 61 = .ok (.ireturn, 1) ∧ decode cX2_takeTide 62 = .ok (.aload_n 0, 1) ∧ decode cX2_takeTide 63 = .ok (.iload_n 1, 1) ∧ decode cX2_takeTide 64 = .ok (.putfield 18, 3) ∧ decode cX2_takeTide 67 = .ok (.aload_n 0, 1) ∧ decode cX2_takeTide 68 = .ok (.iload_n 2, 1) := by decide +kernel
theorem dX2_takeTide_55 : decode cX2_takeTide 55 = .ok (.iconst 1, 1) := gg93.1
theorem dX2_takeTide_56 : decode cX2_takeTide 56 = .ok (.isub, 1) := gg93.2.1
theorem dX2_takeTide_57 : decode cX2_takeTide 57 = .ok (.if_icmp .le 5, 3) := gg93.2.2.1
theorem dX2_takeTide_60 : decode cX2_takeTide 60 = .ok (.iconst 0, 1) := gg93.2.2.2.1
theorem dX2_takeTide_61 : decode cX2_takeTide 61 = .ok (.ireturn, 1) := gg93.2.2.2.2.1
theorem dX2_takeTide_62 : decode cX2_takeTide 62 = .ok (.aload_n 0, 1) := gg93.2.2.2.2.2.1
theorem dX2_takeTide_63 : decode cX2_takeTide 63 = .ok (.iload_n 1, 1) := gg93.2.2.2.2.2.2.1
theorem dX2_takeTide_64 : decode cX2_takeTide 64 = .ok (.putfield 18, 3) := gg93.2.2.2.2.2.2.2.1
theorem dX2_takeTide_67 : decode cX2_takeTide 67 = .ok (.aload_n 0, 1) := gg93.2.2.2.2.2.2.2.2.1
theorem dX2_takeTide_68 : decode cX2_takeTide 68 = .ok (.iload_n 2, 1) := gg93.2.2.2.2.2.2.2.2.2
theorem gg94 : decode cX2_takeTide 69 = .ok (.putfield 22, 3) ∧ decode cX2_takeTide 72 = .ok (.aload_n 0, 1) ∧ decode cX2_takeTide 73 = .ok (.iload_n 3, 1) ∧ decode cX2_takeTide 74 = .ok (.putfield 25, 3) ∧ decode cX2_takeTide 77 = .ok (.aload_n 0, 1) ∧ decode cX2_takeTide 78 = .ok (.iload 4, 2) ∧ decode cX2_takeTide 80 = .ok (.putfield 28, 3) ∧ decode cX2_takeTide 83 = .ok (.iconst 1, 1) ∧ decode cX2_takeTide 84 = .ok (.ireturn, 1) := by decide +kernel
theorem dX2_takeTide_69 : decode cX2_takeTide 69 = .ok (.putfield 22, 3) := gg94.1
theorem dX2_takeTide_72 : decode cX2_takeTide 72 = .ok (.aload_n 0, 1) := gg94.2.1
theorem dX2_takeTide_73 : decode cX2_takeTide 73 = .ok (.iload_n 3, 1) := gg94.2.2.1
theorem dX2_takeTide_74 : decode cX2_takeTide 74 = .ok (.putfield 25, 3) := gg94.2.2.2.1
theorem dX2_takeTide_77 : decode cX2_takeTide 77 = .ok (.aload_n 0, 1) := gg94.2.2.2.2.1
theorem dX2_takeTide_78 : decode cX2_takeTide 78 = .ok (.iload 4, 2) := gg94.2.2.2.2.2.1
theorem dX2_takeTide_80 : decode cX2_takeTide 80 = .ok (.putfield 28, 3) := gg94.2.2.2.2.2.2.1
theorem dX2_takeTide_83 : decode cX2_takeTide 83 = .ok (.iconst 1, 1) := gg94.2.2.2.2.2.2.2.1
theorem dX2_takeTide_84 : decode cX2_takeTide 84 = .ok (.ireturn, 1) := gg94.2.2.2.2.2.2.2.2
theorem gg95 : decode cX2_takeOrigin 0 = .ok (.iload_n 1, 1) ∧ decode cX2_takeOrigin 1 = .ok (.ifCond .lt 10, 3) ∧ decode cX2_takeOrigin 4 = .ok (.iload_n 1, 1) ∧ decode cX2_takeOrigin 5 = .ok (.sipush 999, 3) ∧ decode cX2_takeOrigin 8 = .ok (.if_icmp .le 5, 3) ∧ decode cX2_takeOrigin 11 = .ok (.iconst 0, 1) ∧ decode cX2_takeOrigin 12 = .ok (.ireturn, 1) ∧ decode cX2_takeOrigin 13 = .ok (.aload_n 0, 1) ∧ decode cX2_takeOrigin 14 = .ok (.iload_n 1, 1) ∧ decode cX2_takeOrigin 15 = .ok (.putfield 31, 3) := by decide +kernel
theorem dX2_takeOrigin_0 : decode cX2_takeOrigin 0 = .ok (.iload_n 1, 1) := gg95.1
theorem dX2_takeOrigin_1 : decode cX2_takeOrigin 1 = .ok (.ifCond .lt 10, 3) := gg95.2.1
theorem dX2_takeOrigin_4 : decode cX2_takeOrigin 4 = .ok (.iload_n 1, 1) := gg95.2.2.1
theorem dX2_takeOrigin_5 : decode cX2_takeOrigin 5 = .ok (.sipush 999, 3) := gg95.2.2.2.1
theorem dX2_takeOrigin_8 : decode cX2_takeOrigin 8 = .ok (.if_icmp .le 5, 3) := gg95.2.2.2.2.1
theorem dX2_takeOrigin_11 : decode cX2_takeOrigin 11 = .ok (.iconst 0, 1) := gg95.2.2.2.2.2.1
theorem dX2_takeOrigin_12 : decode cX2_takeOrigin 12 = .ok (.ireturn, 1) := gg95.2.2.2.2.2.2.1
theorem dX2_takeOrigin_13 : decode cX2_takeOrigin 13 = .ok (.aload_n 0, 1) := gg95.2.2.2.2.2.2.2.1
theorem dX2_takeOrigin_14 : decode cX2_takeOrigin 14 = .ok (.iload_n 1, 1) := gg95.2.2.2.2.2.2.2.2.1
theorem dX2_takeOrigin_15 : decode cX2_takeOrigin 15 = .ok (.putfield 31, 3) := gg95.2.2.2.2.2.2.2.2.2
theorem gg96 : decode cX2_takeOrigin 18 = .ok (.iconst 1, 1) ∧ decode cX2_takeOrigin 19 = .ok (.ireturn, 1) := by decide +kernel
theorem dX2_takeOrigin_18 : decode cX2_takeOrigin 18 = .ok (.iconst 1, 1) := gg96.1
theorem dX2_takeOrigin_19 : decode cX2_takeOrigin 19 = .ok (.ireturn, 1) := gg96.2
theorem gg97 : decode cX2_takeSilt 0 = .ok (.iload_n 1, 1) ∧ decode cX2_takeSilt 1 = .ok (.ifCond .lt 9, 3) ∧ decode cX2_takeSilt 4 = .ok (.iload_n 1, 1) ∧ decode cX2_takeSilt 5 = .ok (.bipush 99, 2) ∧ decode cX2_takeSilt 7 = .ok (.if_icmp .le 5, 3) ∧ decode cX2_takeSilt 10 = .ok (.iconst 0, 1) ∧ decode cX2_takeSilt 11 = .ok (.ireturn, 1) ∧ decode cX2_takeSilt 12 = .ok (.aload_n 0, 1) ∧ decode cX2_takeSilt 13 = .ok (.iload_n 1, 1) ∧ decode cX2_takeSilt 14 = .ok (.putfield 34, 3) := by decide +kernel
theorem dX2_takeSilt_0 : decode cX2_takeSilt 0 = .ok (.iload_n 1, 1) := gg97.1
theorem dX2_takeSilt_1 : decode cX2_takeSilt 1 = .ok (.ifCond .lt 9, 3) := gg97.2.1
theorem dX2_takeSilt_4 : decode cX2_takeSilt 4 = .ok (.iload_n 1, 1) := gg97.2.2.1
theorem dX2_takeSilt_5 : decode cX2_takeSilt 5 = .ok (.bipush 99, 2) := gg97.2.2.2.1
theorem dX2_takeSilt_7 : decode cX2_takeSilt 7 = .ok (.if_icmp .le 5, 3) := gg97.2.2.2.2.1
theorem dX2_takeSilt_10 : decode cX2_takeSilt 10 = .ok (.iconst 0, 1) := gg97.2.2.2.2.2.1
theorem dX2_takeSilt_11 : decode cX2_takeSilt 11 = .ok (.ireturn, 1) := gg97.2.2.2.2.2.2.1
theorem dX2_takeSilt_12 : decode cX2_takeSilt 12 = .ok (.aload_n 0, 1) := gg97.2.2.2.2.2.2.2.1
theorem dX2_takeSilt_13 : decode cX2_takeSilt 13 = .ok (.iload_n 1, 1) := gg97.2.2.2.2.2.2.2.2.1
theorem dX2_takeSilt_14 : decode cX2_takeSilt 14 = .ok (.putfield 34, 3) := gg97.2.2.2.2.2.2.2.2.2
theorem gg98 : decode cX2_takeSilt 17 = .ok (.iconst 1, 1) ∧ decode cX2_takeSilt 18 = .ok (.ireturn, 1) := by decide +kernel
theorem dX2_takeSilt_17 : decode cX2_takeSilt 17 = .ok (.iconst 1, 1) := gg98.1
theorem dX2_takeSilt_18 : decode cX2_takeSilt 18 = .ok (.ireturn, 1) := gg98.2
theorem gg99 : decode cX2_takeAct 0 = .ok (.aload_n 0, 1) ∧ decode cX2_takeAct 1 = .ok (.getfield 37, 3) ∧ decode cX2_takeAct 4 = .ok (.ifCond .lt 18, 3) ∧ decode cX2_takeAct 7 = .ok (.aload_n 0, 1) ∧ decode cX2_takeAct 8 = .ok (.getfield 37, 3) ∧ decode cX2_takeAct 11 = .ok (.bipush 6, 2) ∧ decode cX2_takeAct 13 = .ok (.if_icmp .ge 9, 3) ∧ decode cX2_takeAct 16 = .ok (.aload_n 1, 1) ∧ decode cX2_takeAct 17 = .ok (.arraylength, 1) ∧ decode cX2_takeAct 18 = .ok (.iconst 5, 1) := by decide +kernel
theorem dX2_takeAct_0 : decode cX2_takeAct 0 = .ok (.aload_n 0, 1) := gg99.1
theorem dX2_takeAct_1 : decode cX2_takeAct 1 = .ok (.getfield 37, 3) := gg99.2.1
theorem dX2_takeAct_4 : decode cX2_takeAct 4 = .ok (.ifCond .lt 18, 3) := gg99.2.2.1
theorem dX2_takeAct_7 : decode cX2_takeAct 7 = .ok (.aload_n 0, 1) := gg99.2.2.2.1
theorem dX2_takeAct_8 : decode cX2_takeAct 8 = .ok (.getfield 37, 3) := gg99.2.2.2.2.1
theorem dX2_takeAct_11 : decode cX2_takeAct 11 = .ok (.bipush 6, 2) := gg99.2.2.2.2.2.1
theorem dX2_takeAct_13 : decode cX2_takeAct 13 = .ok (.if_icmp .ge 9, 3) := gg99.2.2.2.2.2.2.1
theorem dX2_takeAct_16 : decode cX2_takeAct 16 = .ok (.aload_n 1, 1) := gg99.2.2.2.2.2.2.2.1
theorem dX2_takeAct_17 : decode cX2_takeAct 17 = .ok (.arraylength, 1) := gg99.2.2.2.2.2.2.2.2.1
theorem dX2_takeAct_18 : decode cX2_takeAct 18 = .ok (.iconst 5, 1) := gg99.2.2.2.2.2.2.2.2.2
theorem gg100 : decode cX2_takeAct 19 = .ok (.if_icmp .ge 5, 3) ∧ decode cX2_takeAct 22 = .ok (.iconst 0, 1) ∧ decode cX2_takeAct 23 = .ok (.ireturn, 1) ∧ decode cX2_takeAct 24 = .ok (.aload_n 1, 1) ∧ decode cX2_takeAct 25 = .ok (.iconst 0, 1) ∧ decode cX2_takeAct 26 = .ok (.iaload, 1) ∧ decode cX2_takeAct 27 = .ok (.iconst 4, 1) ∧ decode cX2_takeAct 28 = .ok (.if_icmp .gt 25, 3) ∧ decode cX2_takeAct 31 = .ok (.aload_n 1, 1) ∧ decode cX2_takeAct 32 = .ok (.iconst 1, 1) := by decide +kernel
theorem dX2_takeAct_19 : decode cX2_takeAct 19 = .ok (.if_icmp .ge 5, 3) := gg100.1
theorem dX2_takeAct_22 : decode cX2_takeAct 22 = .ok (.iconst 0, 1) := gg100.2.1
theorem dX2_takeAct_23 : decode cX2_takeAct 23 = .ok (.ireturn, 1) := gg100.2.2.1
theorem dX2_takeAct_24 : decode cX2_takeAct 24 = .ok (.aload_n 1, 1) := gg100.2.2.2.1
theorem dX2_takeAct_25 : decode cX2_takeAct 25 = .ok (.iconst 0, 1) := gg100.2.2.2.2.1
theorem dX2_takeAct_26 : decode cX2_takeAct 26 = .ok (.iaload, 1) := gg100.2.2.2.2.2.1
theorem dX2_takeAct_27 : decode cX2_takeAct 27 = .ok (.iconst 4, 1) := gg100.2.2.2.2.2.2.1
theorem dX2_takeAct_28 : decode cX2_takeAct 28 = .ok (.if_icmp .gt 25, 3) := gg100.2.2.2.2.2.2.2.1
theorem dX2_takeAct_31 : decode cX2_takeAct 31 = .ok (.aload_n 1, 1) := gg100.2.2.2.2.2.2.2.2.1
theorem dX2_takeAct_32 : decode cX2_takeAct 32 = .ok (.iconst 1, 1) := gg100.2.2.2.2.2.2.2.2.2
theorem gg101 : decode cX2_takeAct 33 = .ok (.iaload, 1) ∧ decode cX2_takeAct 34 = .ok (.iconst 3, 1) ∧ decode cX2_takeAct 35 = .ok (.if_icmp .gt 18, 3) ∧ decode cX2_takeAct 38 = .ok (.aload_n 1, 1) ∧ decode cX2_takeAct 39 = .ok (.iconst 2, 1) ∧ decode cX2_takeAct 40 = .ok (.iaload, 1) ∧ decode cX2_takeAct 41 = .ok (.iconst 1, 1) ∧ decode cX2_takeAct 42 = .ok (.if_icmp .lt 11, 3) ∧ decode cX2_takeAct 45 = .ok (.aload_n 1, 1) ∧ decode cX2_takeAct 46 = .ok (.iconst 2, 1) := by decide +kernel
theorem dX2_takeAct_33 : decode cX2_takeAct 33 = .ok (.iaload, 1) := gg101.1
theorem dX2_takeAct_34 : decode cX2_takeAct 34 = .ok (.iconst 3, 1) := gg101.2.1
theorem dX2_takeAct_35 : decode cX2_takeAct 35 = .ok (.if_icmp .gt 18, 3) := gg101.2.2.1
theorem dX2_takeAct_38 : decode cX2_takeAct 38 = .ok (.aload_n 1, 1) := gg101.2.2.2.1
theorem dX2_takeAct_39 : decode cX2_takeAct 39 = .ok (.iconst 2, 1) := gg101.2.2.2.2.1
theorem dX2_takeAct_40 : decode cX2_takeAct 40 = .ok (.iaload, 1) := gg101.2.2.2.2.2.1
theorem dX2_takeAct_41 : decode cX2_takeAct 41 = .ok (.iconst 1, 1) := gg101.2.2.2.2.2.2.1
theorem dX2_takeAct_42 : decode cX2_takeAct 42 = .ok (.if_icmp .lt 11, 3) := gg101.2.2.2.2.2.2.2.1
theorem dX2_takeAct_45 : decode cX2_takeAct 45 = .ok (.aload_n 1, 1) := gg101.2.2.2.2.2.2.2.2.1
theorem dX2_takeAct_46 : decode cX2_takeAct 46 = .ok (.iconst 2, 1) := gg101.2.2.2.2.2.2.2.2.2
theorem gg102 : decode cX2_takeAct 47 = .ok (.iaload, 1) ∧ decode cX2_takeAct 48 = .ok (.bipush 99, 2) ∧ decode cX2_takeAct 50 = .ok (.if_icmp .le 5, 3) ∧ decode cX2_takeAct 53 = .ok (.iconst 0, 1) ∧ decode cX2_takeAct 54 = .ok (.ireturn, 1) ∧ decode cX2_takeAct 55 = .ok (.aload_n 1, 1) ∧ decode cX2_takeAct 56 = .ok (.iconst 3, 1) ∧ decode cX2_takeAct 57 = .ok (.iaload, 1) ∧ decode cX2_takeAct 58 = .ok (.bipush 99, 2) ∧ decode cX2_takeAct 60 = .ok (.if_icmp .gt 11, 3) := by decide +kernel
theorem dX2_takeAct_47 : decode cX2_takeAct 47 = .ok (.iaload, 1) := gg102.1
theorem dX2_takeAct_48 : decode cX2_takeAct 48 = .ok (.bipush 99, 2) := gg102.2.1
theorem dX2_takeAct_50 : decode cX2_takeAct 50 = .ok (.if_icmp .le 5, 3) := gg102.2.2.1
theorem dX2_takeAct_53 : decode cX2_takeAct 53 = .ok (.iconst 0, 1) := gg102.2.2.2.1
theorem dX2_takeAct_54 : decode cX2_takeAct 54 = .ok (.ireturn, 1) := gg102.2.2.2.2.1
theorem dX2_takeAct_55 : decode cX2_takeAct 55 = .ok (.aload_n 1, 1) := gg102.2.2.2.2.2.1
theorem dX2_takeAct_56 : decode cX2_takeAct 56 = .ok (.iconst 3, 1) := gg102.2.2.2.2.2.2.1
theorem dX2_takeAct_57 : decode cX2_takeAct 57 = .ok (.iaload, 1) := gg102.2.2.2.2.2.2.2.1
theorem dX2_takeAct_58 : decode cX2_takeAct 58 = .ok (.bipush 99, 2) := gg102.2.2.2.2.2.2.2.2.1
theorem dX2_takeAct_60 : decode cX2_takeAct 60 = .ok (.if_icmp .gt 11, 3) := gg102.2.2.2.2.2.2.2.2.2
theorem gg103 : decode cX2_takeAct 63 = .ok (.aload_n 1, 1) ∧ decode cX2_takeAct 64 = .ok (.iconst 4, 1) ∧ decode cX2_takeAct 65 = .ok (.iaload, 1) ∧ decode cX2_takeAct 66 = .ok (.bipush 99, 2) ∧ decode cX2_takeAct 68 = .ok (.if_icmp .le 5, 3) ∧ decode cX2_takeAct 71 = .ok (.iconst 0, 1) ∧ decode cX2_takeAct 72 = .ok (.ireturn, 1) ∧ decode cX2_takeAct 73 = .ok (.aload_n 1, 1) ∧ decode cX2_takeAct 74 = .ok (.iconst 0, 1) ∧ decode cX2_takeAct 75 = .ok (.aload_n 0, 1) := by decide +kernel
theorem dX2_takeAct_63 : decode cX2_takeAct 63 = .ok (.aload_n 1, 1) := gg103.1
theorem dX2_takeAct_64 : decode cX2_takeAct 64 = .ok (.iconst 4, 1) := gg103.2.1
theorem dX2_takeAct_65 : decode cX2_takeAct 65 = .ok (.iaload, 1) := gg103.2.2.1
theorem dX2_takeAct_66 : decode cX2_takeAct 66 = .ok (.bipush 99, 2) := gg103.2.2.2.1
theorem dX2_takeAct_68 : decode cX2_takeAct 68 = .ok (.if_icmp .le 5, 3) := gg103.2.2.2.2.1
theorem dX2_takeAct_71 : decode cX2_takeAct 71 = .ok (.iconst 0, 1) := gg103.2.2.2.2.2.1
theorem dX2_takeAct_72 : decode cX2_takeAct 72 = .ok (.ireturn, 1) := gg103.2.2.2.2.2.2.1
theorem dX2_takeAct_73 : decode cX2_takeAct 73 = .ok (.aload_n 1, 1) := gg103.2.2.2.2.2.2.2.1
theorem dX2_takeAct_74 : decode cX2_takeAct 74 = .ok (.iconst 0, 1) := gg103.2.2.2.2.2.2.2.2.1
theorem dX2_takeAct_75 : decode cX2_takeAct 75 = .ok (.aload_n 0, 1) := gg103.2.2.2.2.2.2.2.2.2
theorem gg104 : decode cX2_takeAct 76 = .ok (.getfield 11, 3) ∧ decode cX2_takeAct 79 = .ok (.aload_n 0, 1) ∧ decode cX2_takeAct 80 = .ok (.getfield 37, 3) ∧ decode cX2_takeAct 83 = .ok (.iconst 5, 1) ∧ decode cX2_takeAct 84 = .ok (.imul, 1) ∧ decode cX2_takeAct 85 = .ok (.iconst 5, 1) ∧ decode cX2_takeAct 86 = .ok (.invokestatic 40, 3) ∧ decode cX2_takeAct 89 = .ok (.aload_n 0, 1) ∧ decode cX2_takeAct 90 = .ok (.dup, 1) ∧ decode cX2_takeAct 91 = .ok (.getfield 37, 3) := by decide +kernel
theorem dX2_takeAct_76 : decode cX2_takeAct 76 = .ok (.getfield 11, 3) := gg104.1
theorem dX2_takeAct_79 : decode cX2_takeAct 79 = .ok (.aload_n 0, 1) := gg104.2.1
theorem dX2_takeAct_80 : decode cX2_takeAct 80 = .ok (.getfield 37, 3) := gg104.2.2.1
theorem dX2_takeAct_83 : decode cX2_takeAct 83 = .ok (.iconst 5, 1) := gg104.2.2.2.1
theorem dX2_takeAct_84 : decode cX2_takeAct 84 = .ok (.imul, 1) := gg104.2.2.2.2.1
theorem dX2_takeAct_85 : decode cX2_takeAct 85 = .ok (.iconst 5, 1) := gg104.2.2.2.2.2.1
theorem dX2_takeAct_86 : decode cX2_takeAct 86 = .ok (.invokestatic 40, 3) := gg104.2.2.2.2.2.2.1
theorem dX2_takeAct_89 : decode cX2_takeAct 89 = .ok (.aload_n 0, 1) := gg104.2.2.2.2.2.2.2.1
theorem dX2_takeAct_90 : decode cX2_takeAct 90 = .ok (.dup, 1) := gg104.2.2.2.2.2.2.2.2.1
theorem dX2_takeAct_91 : decode cX2_takeAct 91 = .ok (.getfield 37, 3) := gg104.2.2.2.2.2.2.2.2.2
theorem gg105 : decode cX2_takeAct 94 = .ok (.iconst 1, 1) ∧ decode cX2_takeAct 95 = .ok (.iadd, 1) ∧ decode cX2_takeAct 96 = .ok (.putfield 37, 3) ∧ decode cX2_takeAct 99 = .ok (.iconst 1, 1) ∧ decode cX2_takeAct 100 = .ok (.ireturn, 1) := by decide +kernel
theorem dX2_takeAct_94 : decode cX2_takeAct 94 = .ok (.iconst 1, 1) := gg105.1
theorem dX2_takeAct_95 : decode cX2_takeAct 95 = .ok (.iadd, 1) := gg105.2.1
theorem dX2_takeAct_96 : decode cX2_takeAct 96 = .ok (.putfield 37, 3) := gg105.2.2.1
theorem dX2_takeAct_99 : decode cX2_takeAct 99 = .ok (.iconst 1, 1) := gg105.2.2.2.1
theorem dX2_takeAct_100 : decode cX2_takeAct 100 = .ok (.ireturn, 1) := gg105.2.2.2.2
theorem gg106 : decode cX2_numberOf 0 = .ok (.iload_n 1, 1) ∧ decode cX2_numberOf 1 = .ok (.iconst 5, 1) ∧ decode cX2_numberOf 2 = .ok (.imul, 1) ∧ decode cX2_numberOf 3 = .ok (.iload_n 2, 1) ∧ decode cX2_numberOf 4 = .ok (.iadd, 1) ∧ decode cX2_numberOf 5 = .ok (.istore_n 3, 1) ∧ decode cX2_numberOf 6 = .ok (.iload_n 3, 1) ∧ decode cX2_numberOf 7 = .ok (.ifCond .lt 21, 3) ∧ decode cX2_numberOf 10 = .ok (.iload_n 3, 1) ∧ decode cX2_numberOf 11 = .ok (.aload_n 0, 1) := by decide +kernel
theorem dX2_numberOf_0 : decode cX2_numberOf 0 = .ok (.iload_n 1, 1) := gg106.1
theorem dX2_numberOf_1 : decode cX2_numberOf 1 = .ok (.iconst 5, 1) := gg106.2.1
theorem dX2_numberOf_2 : decode cX2_numberOf 2 = .ok (.imul, 1) := gg106.2.2.1
theorem dX2_numberOf_3 : decode cX2_numberOf 3 = .ok (.iload_n 2, 1) := gg106.2.2.2.1
theorem dX2_numberOf_4 : decode cX2_numberOf 4 = .ok (.iadd, 1) := gg106.2.2.2.2.1
theorem dX2_numberOf_5 : decode cX2_numberOf 5 = .ok (.istore_n 3, 1) := gg106.2.2.2.2.2.1
theorem dX2_numberOf_6 : decode cX2_numberOf 6 = .ok (.iload_n 3, 1) := gg106.2.2.2.2.2.2.1
theorem dX2_numberOf_7 : decode cX2_numberOf 7 = .ok (.ifCond .lt 21, 3) := gg106.2.2.2.2.2.2.2.1
theorem dX2_numberOf_10 : decode cX2_numberOf 10 = .ok (.iload_n 3, 1) := gg106.2.2.2.2.2.2.2.2.1
theorem dX2_numberOf_11 : decode cX2_numberOf 11 = .ok (.aload_n 0, 1) := gg106.2.2.2.2.2.2.2.2.2
theorem gg107 : decode cX2_numberOf 12 = .ok (.getfield 11, 3) ∧ decode cX2_numberOf 15 = .ok (.arraylength, 1) ∧ decode cX2_numberOf 16 = .ok (.if_icmp .ge 12, 3) ∧ decode cX2_numberOf 19 = .ok (.aload_n 0, 1) ∧ decode cX2_numberOf 20 = .ok (.getfield 11, 3) ∧ decode cX2_numberOf 23 = .ok (.iload_n 3, 1) ∧ decode cX2_numberOf 24 = .ok (.iaload, 1) ∧ decode cX2_numberOf 25 = .ok (.goto 4, 3) ∧ decode cX2_numberOf 28 = .ok (.iconst 0, 1) ∧ decode cX2_numberOf 29 = .ok (.ireturn, 1) := by decide +kernel
theorem dX2_numberOf_12 : decode cX2_numberOf 12 = .ok (.getfield 11, 3) := gg107.1
theorem dX2_numberOf_15 : decode cX2_numberOf 15 = .ok (.arraylength, 1) := gg107.2.1
theorem dX2_numberOf_16 : decode cX2_numberOf 16 = .ok (.if_icmp .ge 12, 3) := gg107.2.2.1
theorem dX2_numberOf_19 : decode cX2_numberOf 19 = .ok (.aload_n 0, 1) := gg107.2.2.2.1
theorem dX2_numberOf_20 : decode cX2_numberOf 20 = .ok (.getfield 11, 3) := gg107.2.2.2.2.1
theorem dX2_numberOf_23 : decode cX2_numberOf 23 = .ok (.iload_n 3, 1) := gg107.2.2.2.2.2.1
theorem dX2_numberOf_24 : decode cX2_numberOf 24 = .ok (.iaload, 1) := gg107.2.2.2.2.2.2.1
theorem dX2_numberOf_25 : decode cX2_numberOf 25 = .ok (.goto 4, 3) := gg107.2.2.2.2.2.2.2.1
theorem dX2_numberOf_28 : decode cX2_numberOf 28 = .ok (.iconst 0, 1) := gg107.2.2.2.2.2.2.2.2.1
theorem dX2_numberOf_29 : decode cX2_numberOf 29 = .ok (.ireturn, 1) := gg107.2.2.2.2.2.2.2.2.2
theorem gg108 : decode cX2_worth 0 = .ok (.aload_n 0, 1) ∧ decode cX2_worth 1 = .ok (.iload_n 1, 1) ∧ decode cX2_worth 2 = .ok (.iload_n 2, 1) ∧ decode cX2_worth 3 = .ok (.ifCond .ne 7, 3) ∧ decode cX2_worth 6 = .ok (.iconst 3, 1) ∧ decode cX2_worth 7 = .ok (.goto 4, 3) ∧ decode cX2_worth 10 = .ok (.iconst 4, 1) ∧ decode cX2_worth 11 = .ok (.invokevirtual 61, 3) ∧ decode cX2_worth 14 = .ok (.bipush 50, 2) ∧ decode cX2_worth 16 = .ok (.isub, 1) := by decide +kernel
theorem dX2_worth_0 : decode cX2_worth 0 = .ok (.aload_n 0, 1) := gg108.1
theorem dX2_worth_1 : decode cX2_worth 1 = .ok (.iload_n 1, 1) := gg108.2.1
theorem dX2_worth_2 : decode cX2_worth 2 = .ok (.iload_n 2, 1) := gg108.2.2.1
theorem dX2_worth_3 : decode cX2_worth 3 = .ok (.ifCond .ne 7, 3) := gg108.2.2.2.1
theorem dX2_worth_6 : decode cX2_worth 6 = .ok (.iconst 3, 1) := gg108.2.2.2.2.1
theorem dX2_worth_7 : decode cX2_worth 7 = .ok (.goto 4, 3) := gg108.2.2.2.2.2.1
theorem dX2_worth_10 : decode cX2_worth 10 = .ok (.iconst 4, 1) := gg108.2.2.2.2.2.2.1
theorem dX2_worth_11 : decode cX2_worth 11 = .ok (.invokevirtual 61, 3) := gg108.2.2.2.2.2.2.2.1
theorem dX2_worth_14 : decode cX2_worth 14 = .ok (.bipush 50, 2) := gg108.2.2.2.2.2.2.2.2.1
theorem dX2_worth_16 : decode cX2_worth 16 = .ok (.isub, 1) := gg108.2.2.2.2.2.2.2.2.2
theorem dX2_worth_17 : decode cX2_worth 17 = .ok (.ireturn, 1) := by decide +kernel
theorem gg110 : decode cX2_minutesTaken 0 = .ok (.aload_n 0, 1) ∧ decode cX2_minutesTaken 1 = .ok (.iload_n 1, 1) ∧ decode cX2_minutesTaken 2 = .ok (.iconst 0, 1) ∧ decode cX2_minutesTaken 3 = .ok (.invokevirtual 61, 3) ∧ decode cX2_minutesTaken 6 = .ok (.istore_n 2, 1) ∧ decode cX2_minutesTaken 7 = .ok (.iload_n 2, 1) ∧ decode cX2_minutesTaken 8 = .ok (.iconst 1, 1) ∧ decode cX2_minutesTaken 9 = .ok (.if_icmp .eq 8, 3) ∧ decode cX2_minutesTaken 12 = .ok (.iload_n 2, 1) ∧ decode cX2_minutesTaken 13 = .ok (.iconst 2, 1) := by decide +kernel
theorem dX2_minutesTaken_0 : decode cX2_minutesTaken 0 = .ok (.aload_n 0, 1) := gg110.1
theorem dX2_minutesTaken_1 : decode cX2_minutesTaken 1 = .ok (.iload_n 1, 1) := gg110.2.1
theorem dX2_minutesTaken_2 : decode cX2_minutesTaken 2 = .ok (.iconst 0, 1) := gg110.2.2.1
theorem dX2_minutesTaken_3 : decode cX2_minutesTaken 3 = .ok (.invokevirtual 61, 3) := gg110.2.2.2.1
theorem dX2_minutesTaken_6 : decode cX2_minutesTaken 6 = .ok (.istore_n 2, 1) := gg110.2.2.2.2.1
theorem dX2_minutesTaken_7 : decode cX2_minutesTaken 7 = .ok (.iload_n 2, 1) := gg110.2.2.2.2.2.1
theorem dX2_minutesTaken_8 : decode cX2_minutesTaken 8 = .ok (.iconst 1, 1) := gg110.2.2.2.2.2.2.1
theorem dX2_minutesTaken_9 : decode cX2_minutesTaken 9 = .ok (.if_icmp .eq 8, 3) := gg110.2.2.2.2.2.2.2.1
theorem dX2_minutesTaken_12 : decode cX2_minutesTaken 12 = .ok (.iload_n 2, 1) := gg110.2.2.2.2.2.2.2.2.1
theorem dX2_minutesTaken_13 : decode cX2_minutesTaken 13 = .ok (.iconst 2, 1) := gg110.2.2.2.2.2.2.2.2.2
theorem gg111 : decode cX2_minutesTaken 14 = .ok (.if_icmp .ne 12, 3) ∧ decode cX2_minutesTaken 17 = .ok (.aload_n 0, 1) ∧ decode cX2_minutesTaken 18 = .ok (.iload_n 1, 1) ∧ decode cX2_minutesTaken 19 = .ok (.iconst 2, 1) ∧ decode cX2_minutesTaken 20 = .ok (.invokevirtual 61, 3) ∧ decode cX2_minutesTaken 23 = .ok (.goto 4, 3) ∧ decode cX2_minutesTaken 26 = .ok (.iconst 1, 1) ∧ decode cX2_minutesTaken 27 = .ok (.ireturn, 1) := by decide +kernel
theorem dX2_minutesTaken_14 : decode cX2_minutesTaken 14 = .ok (.if_icmp .ne 12, 3) := gg111.1
theorem dX2_minutesTaken_17 : decode cX2_minutesTaken 17 = .ok (.aload_n 0, 1) := gg111.2.1
theorem dX2_minutesTaken_18 : decode cX2_minutesTaken 18 = .ok (.iload_n 1, 1) := gg111.2.2.1
theorem dX2_minutesTaken_19 : decode cX2_minutesTaken 19 = .ok (.iconst 2, 1) := gg111.2.2.2.1
theorem dX2_minutesTaken_20 : decode cX2_minutesTaken 20 = .ok (.invokevirtual 61, 3) := gg111.2.2.2.2.1
theorem dX2_minutesTaken_23 : decode cX2_minutesTaken 23 = .ok (.goto 4, 3) := gg111.2.2.2.2.2.1
theorem dX2_minutesTaken_26 : decode cX2_minutesTaken 26 = .ok (.iconst 1, 1) := gg111.2.2.2.2.2.2.1
theorem dX2_minutesTaken_27 : decode cX2_minutesTaken 27 = .ok (.ireturn, 1) := gg111.2.2.2.2.2.2.2
theorem gg112 : decode cX2_toldLaws 0 = .ok (.iconst 0, 1) ∧ decode cX2_toldLaws 1 = .ok (.istore_n 1, 1) ∧ decode cX2_toldLaws 2 = .ok (.iconst 0, 1) ∧ decode cX2_toldLaws 3 = .ok (.istore_n 2, 1) ∧ decode cX2_toldLaws 4 = .ok (.iload_n 2, 1) ∧ decode cX2_toldLaws 5 = .ok (.aload_n 0, 1) ∧ decode cX2_toldLaws 6 = .ok (.getfield 37, 3) ∧ decode cX2_toldLaws 9 = .ok (.if_icmp .ge 22, 3) ∧ decode cX2_toldLaws 12 = .ok (.iload_n 1, 1) ∧ decode cX2_toldLaws 13 = .ok (.iload_n 2, 1) := by decide +kernel
theorem dX2_toldLaws_0 : decode cX2_toldLaws 0 = .ok (.iconst 0, 1) := gg112.1
theorem dX2_toldLaws_1 : decode cX2_toldLaws 1 = .ok (.istore_n 1, 1) := gg112.2.1
theorem dX2_toldLaws_2 : decode cX2_toldLaws 2 = .ok (.iconst 0, 1) := gg112.2.2.1
theorem dX2_toldLaws_3 : decode cX2_toldLaws 3 = .ok (.istore_n 2, 1) := gg112.2.2.2.1
theorem dX2_toldLaws_4 : decode cX2_toldLaws 4 = .ok (.iload_n 2, 1) := gg112.2.2.2.2.1
theorem dX2_toldLaws_5 : decode cX2_toldLaws 5 = .ok (.aload_n 0, 1) := gg112.2.2.2.2.2.1
theorem dX2_toldLaws_6 : decode cX2_toldLaws 6 = .ok (.getfield 37, 3) := gg112.2.2.2.2.2.2.1
theorem dX2_toldLaws_9 : decode cX2_toldLaws 9 = .ok (.if_icmp .ge 22, 3) := gg112.2.2.2.2.2.2.2.1
theorem dX2_toldLaws_12 : decode cX2_toldLaws 12 = .ok (.iload_n 1, 1) := gg112.2.2.2.2.2.2.2.2.1
theorem dX2_toldLaws_13 : decode cX2_toldLaws 13 = .ok (.iload_n 2, 1) := gg112.2.2.2.2.2.2.2.2.2
theorem gg113 : decode cX2_toldLaws 14 = .ok (.aload_n 0, 1) ∧ decode cX2_toldLaws 15 = .ok (.iload_n 2, 1) ∧ decode cX2_toldLaws 16 = .ok (.iconst 1, 1) ∧ decode cX2_toldLaws 17 = .ok (.invokevirtual 61, 3) ∧ decode cX2_toldLaws 20 = .ok (.invokestatic 65, 3) ∧ decode cX2_toldLaws 23 = .ok (.ior, 1) ∧ decode cX2_toldLaws 24 = .ok (.istore_n 1, 1) ∧ decode cX2_toldLaws 25 = .ok (.iinc 2 1, 3) ∧ decode cX2_toldLaws 28 = .ok (.goto (-24), 3) ∧ decode cX2_toldLaws 31 = .ok (.iload_n 1, 1) := by decide +kernel
theorem dX2_toldLaws_14 : decode cX2_toldLaws 14 = .ok (.aload_n 0, 1) := gg113.1
theorem dX2_toldLaws_15 : decode cX2_toldLaws 15 = .ok (.iload_n 2, 1) := gg113.2.1
theorem dX2_toldLaws_16 : decode cX2_toldLaws 16 = .ok (.iconst 1, 1) := gg113.2.2.1
theorem dX2_toldLaws_17 : decode cX2_toldLaws 17 = .ok (.invokevirtual 61, 3) := gg113.2.2.2.1
theorem dX2_toldLaws_20 : decode cX2_toldLaws 20 = .ok (.invokestatic 65, 3) := gg113.2.2.2.2.1
theorem dX2_toldLaws_23 : decode cX2_toldLaws 23 = .ok (.ior, 1) := gg113.2.2.2.2.2.1
theorem dX2_toldLaws_24 : decode cX2_toldLaws 24 = .ok (.istore_n 1, 1) := gg113.2.2.2.2.2.2.1
theorem dX2_toldLaws_25 : decode cX2_toldLaws 25 = .ok (.iinc 2 1, 3) := gg113.2.2.2.2.2.2.2.1
theorem dX2_toldLaws_28 : decode cX2_toldLaws 28 = .ok (.goto (-24), 3) := gg113.2.2.2.2.2.2.2.2.1
theorem dX2_toldLaws_31 : decode cX2_toldLaws 31 = .ok (.iload_n 1, 1) := gg113.2.2.2.2.2.2.2.2.2
theorem dX2_toldLaws_32 : decode cX2_toldLaws 32 = .ok (.ireturn, 1) := by decide +kernel
theorem gg115 : decode cX2_partsOfMinute 0 = .ok (.iconst 1, 1) ∧ decode cX2_partsOfMinute 1 = .ok (.aload_n 0, 1) ∧ decode cX2_partsOfMinute 2 = .ok (.getfield 22, 3) ∧ decode cX2_partsOfMinute 5 = .ok (.aload_n 0, 1) ∧ decode cX2_partsOfMinute 6 = .ok (.getfield 28, 3) ∧ decode cX2_partsOfMinute 9 = .ok (.imul, 1) ∧ decode cX2_partsOfMinute 10 = .ok (.invokestatic 68, 3) ∧ decode cX2_partsOfMinute 13 = .ok (.ireturn, 1) := by decide +kernel
theorem dX2_partsOfMinute_0 : decode cX2_partsOfMinute 0 = .ok (.iconst 1, 1) := gg115.1
theorem dX2_partsOfMinute_1 : decode cX2_partsOfMinute 1 = .ok (.aload_n 0, 1) := gg115.2.1
theorem dX2_partsOfMinute_2 : decode cX2_partsOfMinute 2 = .ok (.getfield 22, 3) := gg115.2.2.1
theorem dX2_partsOfMinute_5 : decode cX2_partsOfMinute 5 = .ok (.aload_n 0, 1) := gg115.2.2.2.1
theorem dX2_partsOfMinute_6 : decode cX2_partsOfMinute 6 = .ok (.getfield 28, 3) := gg115.2.2.2.2.1
theorem dX2_partsOfMinute_9 : decode cX2_partsOfMinute 9 = .ok (.imul, 1) := gg115.2.2.2.2.2.1
theorem dX2_partsOfMinute_10 : decode cX2_partsOfMinute 10 = .ok (.invokestatic 68, 3) := gg115.2.2.2.2.2.2.1
theorem dX2_partsOfMinute_13 : decode cX2_partsOfMinute 13 = .ok (.ireturn, 1) := gg115.2.2.2.2.2.2.2
theorem gg116 : decode cX2_partsOfTide 0 = .ok (.iconst 1, 1) ∧ decode cX2_partsOfTide 1 = .ok (.aload_n 0, 1) ∧ decode cX2_partsOfTide 2 = .ok (.getfield 18, 3) ∧ decode cX2_partsOfTide 5 = .ok (.aload_n 0, 1) ∧ decode cX2_partsOfTide 6 = .ok (.getfield 28, 3) ∧ decode cX2_partsOfTide 9 = .ok (.imul, 1) ∧ decode cX2_partsOfTide 10 = .ok (.invokestatic 68, 3) ∧ decode cX2_partsOfTide 13 = .ok (.ireturn, 1) := by decide +kernel
theorem dX2_partsOfTide_0 : decode cX2_partsOfTide 0 = .ok (.iconst 1, 1) := gg116.1
theorem dX2_partsOfTide_1 : decode cX2_partsOfTide 1 = .ok (.aload_n 0, 1) := gg116.2.1
theorem dX2_partsOfTide_2 : decode cX2_partsOfTide 2 = .ok (.getfield 18, 3) := gg116.2.2.1
theorem dX2_partsOfTide_5 : decode cX2_partsOfTide 5 = .ok (.aload_n 0, 1) := gg116.2.2.2.1
theorem dX2_partsOfTide_6 : decode cX2_partsOfTide 6 = .ok (.getfield 28, 3) := gg116.2.2.2.2.1
theorem dX2_partsOfTide_9 : decode cX2_partsOfTide 9 = .ok (.imul, 1) := gg116.2.2.2.2.2.1
theorem dX2_partsOfTide_10 : decode cX2_partsOfTide 10 = .ok (.invokestatic 68, 3) := gg116.2.2.2.2.2.2.1
theorem dX2_partsOfTide_13 : decode cX2_partsOfTide 13 = .ok (.ireturn, 1) := gg116.2.2.2.2.2.2.2
theorem gg117 : decode cX2_partsOfHigh 0 = .ok (.aload_n 0, 1) ∧ decode cX2_partsOfHigh 1 = .ok (.getfield 18, 3) ∧ decode cX2_partsOfHigh 4 = .ok (.aload_n 0, 1) ∧ decode cX2_partsOfHigh 5 = .ok (.getfield 25, 3) ∧ decode cX2_partsOfHigh 8 = .ok (.imul, 1) ∧ decode cX2_partsOfHigh 9 = .ok (.ireturn, 1) := by decide +kernel
theorem dX2_partsOfHigh_0 : decode cX2_partsOfHigh 0 = .ok (.aload_n 0, 1) := gg117.1
theorem dX2_partsOfHigh_1 : decode cX2_partsOfHigh 1 = .ok (.getfield 18, 3) := gg117.2.1
theorem dX2_partsOfHigh_4 : decode cX2_partsOfHigh 4 = .ok (.aload_n 0, 1) := gg117.2.2.1
theorem dX2_partsOfHigh_5 : decode cX2_partsOfHigh 5 = .ok (.getfield 25, 3) := gg117.2.2.2.1
theorem dX2_partsOfHigh_8 : decode cX2_partsOfHigh 8 = .ok (.imul, 1) := gg117.2.2.2.2.1
theorem dX2_partsOfHigh_9 : decode cX2_partsOfHigh 9 = .ok (.ireturn, 1) := gg117.2.2.2.2.2
theorem gg118 : decode cX2_minutesOfRound 0 = .ok (.iconst 1, 1) ∧ decode cX2_minutesOfRound 1 = .ok (.aload_n 0, 1) ∧ decode cX2_minutesOfRound 2 = .ok (.getfield 18, 3) ∧ decode cX2_minutesOfRound 5 = .ok (.invokestatic 68, 3) ∧ decode cX2_minutesOfRound 8 = .ok (.ireturn, 1) := by decide +kernel
theorem dX2_minutesOfRound_0 : decode cX2_minutesOfRound 0 = .ok (.iconst 1, 1) := gg118.1
theorem dX2_minutesOfRound_1 : decode cX2_minutesOfRound 1 = .ok (.aload_n 0, 1) := gg118.2.1
theorem dX2_minutesOfRound_2 : decode cX2_minutesOfRound 2 = .ok (.getfield 18, 3) := gg118.2.2.1
theorem dX2_minutesOfRound_5 : decode cX2_minutesOfRound 5 = .ok (.invokestatic 68, 3) := gg118.2.2.2.1
theorem dX2_minutesOfRound_8 : decode cX2_minutesOfRound 8 = .ok (.ireturn, 1) := gg118.2.2.2.2
theorem gg119 : decode cX2_partsBehindBegin 0 = .ok (.lload_n 1, 1) ∧ decode cX2_partsBehindBegin 1 = .ok (.aload_n 0, 1) ∧ decode cX2_partsBehindBegin 2 = .ok (.getfield 31, 3) ∧ decode cX2_partsBehindBegin 5 = .ok (.i2l, 1) ∧ decode cX2_partsBehindBegin 6 = .ok (.lsub, 1) ∧ decode cX2_partsBehindBegin 7 = .ok (.aload_n 0, 1) ∧ decode cX2_partsBehindBegin 8 = .ok (.getfield 34, 3) ∧ decode cX2_partsBehindBegin 11 = .ok (.i2l, 1) ∧ decode cX2_partsBehindBegin 12 = .ok (.iload_n 3, 1) ∧ decode cX2_partsBehindBegin 13 = .ok (.i2l, 1) := by decide +kernel
theorem dX2_partsBehindBegin_0 : decode cX2_partsBehindBegin 0 = .ok (.lload_n 1, 1) := gg119.1
theorem dX2_partsBehindBegin_1 : decode cX2_partsBehindBegin 1 = .ok (.aload_n 0, 1) := gg119.2.1
theorem dX2_partsBehindBegin_2 : decode cX2_partsBehindBegin 2 = .ok (.getfield 31, 3) := gg119.2.2.1
theorem dX2_partsBehindBegin_5 : decode cX2_partsBehindBegin 5 = .ok (.i2l, 1) := gg119.2.2.2.1
theorem dX2_partsBehindBegin_6 : decode cX2_partsBehindBegin 6 = .ok (.lsub, 1) := gg119.2.2.2.2.1
theorem dX2_partsBehindBegin_7 : decode cX2_partsBehindBegin 7 = .ok (.aload_n 0, 1) := gg119.2.2.2.2.2.1
theorem dX2_partsBehindBegin_8 : decode cX2_partsBehindBegin 8 = .ok (.getfield 34, 3) := gg119.2.2.2.2.2.2.1
theorem dX2_partsBehindBegin_11 : decode cX2_partsBehindBegin 11 = .ok (.i2l, 1) := gg119.2.2.2.2.2.2.2.1
theorem dX2_partsBehindBegin_12 : decode cX2_partsBehindBegin 12 = .ok (.iload_n 3, 1) := gg119.2.2.2.2.2.2.2.2.1
theorem dX2_partsBehindBegin_13 : decode cX2_partsBehindBegin 13 = .ok (.i2l, 1) := gg119.2.2.2.2.2.2.2.2.2
theorem gg120 : decode cX2_partsBehindBegin 14 = .ok (.lmul, 1) ∧ decode cX2_partsBehindBegin 15 = .ok (.lsub, 1) ∧ decode cX2_partsBehindBegin 16 = .ok (.lstore 4, 2) ∧ decode cX2_partsBehindBegin 18 = .ok (.lload 4, 2) ∧ decode cX2_partsBehindBegin 20 = .ok (.aload_n 0, 1) ∧ decode cX2_partsBehindBegin 21 = .ok (.invokevirtual 73, 3) ∧ decode cX2_partsBehindBegin 24 = .ok (.i2l, 1) ∧ decode cX2_partsBehindBegin 25 = .ok (.lmul, 1) ∧ decode cX2_partsBehindBegin 26 = .ok (.aload_n 0, 1) ∧ decode cX2_partsBehindBegin 27 = .ok (.invokevirtual 77, 3) := by decide +kernel
theorem dX2_partsBehindBegin_14 : decode cX2_partsBehindBegin 14 = .ok (.lmul, 1) := gg120.1
theorem dX2_partsBehindBegin_15 : decode cX2_partsBehindBegin 15 = .ok (.lsub, 1) := gg120.2.1
theorem dX2_partsBehindBegin_16 : decode cX2_partsBehindBegin 16 = .ok (.lstore 4, 2) := gg120.2.2.1
theorem dX2_partsBehindBegin_18 : decode cX2_partsBehindBegin 18 = .ok (.lload 4, 2) := gg120.2.2.2.1
theorem dX2_partsBehindBegin_20 : decode cX2_partsBehindBegin 20 = .ok (.aload_n 0, 1) := gg120.2.2.2.2.1
theorem dX2_partsBehindBegin_21 : decode cX2_partsBehindBegin 21 = .ok (.invokevirtual 73, 3) := gg120.2.2.2.2.2.1
theorem dX2_partsBehindBegin_24 : decode cX2_partsBehindBegin 24 = .ok (.i2l, 1) := gg120.2.2.2.2.2.2.1
theorem dX2_partsBehindBegin_25 : decode cX2_partsBehindBegin 25 = .ok (.lmul, 1) := gg120.2.2.2.2.2.2.2.1
theorem dX2_partsBehindBegin_26 : decode cX2_partsBehindBegin 26 = .ok (.aload_n 0, 1) := gg120.2.2.2.2.2.2.2.2.1
theorem dX2_partsBehindBegin_27 : decode cX2_partsBehindBegin 27 = .ok (.invokevirtual 77, 3) := gg120.2.2.2.2.2.2.2.2.2
theorem gg121 : decode cX2_partsBehindBegin 30 = .ok (.i2l, 1) ∧ decode cX2_partsBehindBegin 31 = .ok (.invokestatic 80, 3) ∧ decode cX2_partsBehindBegin 34 = .ok (.lreturn, 1) := by decide +kernel
theorem dX2_partsBehindBegin_30 : decode cX2_partsBehindBegin 30 = .ok (.i2l, 1) := gg121.1
theorem dX2_partsBehindBegin_31 : decode cX2_partsBehindBegin 31 = .ok (.invokestatic 80, 3) := gg121.2.1
theorem dX2_partsBehindBegin_34 : decode cX2_partsBehindBegin 34 = .ok (.lreturn, 1) := gg121.2.2
theorem gg122 : decode cX3_init 0 = .ok (.aload_n 0, 1) ∧ decode cX3_init 1 = .ok (.invokespecial 1, 3) ∧ decode cX3_init 4 = .ok (.return_, 1) := by decide +kernel
theorem dX3_init_0 : decode cX3_init 0 = .ok (.aload_n 0, 1) := gg122.1
theorem dX3_init_1 : decode cX3_init 1 = .ok (.invokespecial 1, 3) := gg122.2.1
theorem dX3_init_4 : decode cX3_init 4 = .ok (.return_, 1) := gg122.2.2
theorem gg123 : decode cX3_startOver 0 = .ok (.aload_n 0, 1) ∧ decode cX3_startOver 1 = .ok (.lconst 0, 1) ∧ decode cX3_startOver 2 = .ok (.putfield 7, 3) ∧ decode cX3_startOver 5 = .ok (.aload_n 0, 1) ∧ decode cX3_startOver 6 = .ok (.iconst 0, 1) ∧ decode cX3_startOver 7 = .ok (.putfield 13, 3) ∧ decode cX3_startOver 10 = .ok (.aload_n 0, 1) ∧ decode cX3_startOver 11 = .ok (.iconst 0, 1) ∧ decode cX3_startOver 12 = .ok (.putfield 17, 3) ∧ decode cX3_startOver 15 = .ok (.aload_n 0, 1) := by decide +kernel
theorem dX3_startOver_0 : decode cX3_startOver 0 = .ok (.aload_n 0, 1) := gg123.1
theorem dX3_startOver_1 : decode cX3_startOver 1 = .ok (.lconst 0, 1) := gg123.2.1
theorem dX3_startOver_2 : decode cX3_startOver 2 = .ok (.putfield 7, 3) := gg123.2.2.1
theorem dX3_startOver_5 : decode cX3_startOver 5 = .ok (.aload_n 0, 1) := gg123.2.2.2.1
theorem dX3_startOver_6 : decode cX3_startOver 6 = .ok (.iconst 0, 1) := gg123.2.2.2.2.1
theorem dX3_startOver_7 : decode cX3_startOver 7 = .ok (.putfield 13, 3) := gg123.2.2.2.2.2.1
theorem dX3_startOver_10 : decode cX3_startOver 10 = .ok (.aload_n 0, 1) := gg123.2.2.2.2.2.2.1
theorem dX3_startOver_11 : decode cX3_startOver 11 = .ok (.iconst 0, 1) := gg123.2.2.2.2.2.2.2.1
theorem dX3_startOver_12 : decode cX3_startOver 12 = .ok (.putfield 17, 3) := gg123.2.2.2.2.2.2.2.2.1
theorem dX3_startOver_15 : decode cX3_startOver 15 = .ok (.aload_n 0, 1) := gg123.2.2.2.2.2.2.2.2.2
theorem gg124 : decode cX3_startOver 16 = .ok (.iconst 0, 1) ∧ decode cX3_startOver 17 = .ok (.putfield 20, 3) ∧ decode cX3_startOver 20 = .ok (.aload_n 0, 1) ∧ decode cX3_startOver 21 = .ok (.iload_n 1, 1) ∧ decode cX3_startOver 22 = .ok (.putfield 23, 3) ∧ decode cX3_startOver 25 = .ok (.return_, 1) := by decide +kernel
theorem dX3_startOver_16 : decode cX3_startOver 16 = .ok (.iconst 0, 1) := gg124.1
theorem dX3_startOver_17 : decode cX3_startOver 17 = .ok (.putfield 20, 3) := gg124.2.1
theorem dX3_startOver_20 : decode cX3_startOver 20 = .ok (.aload_n 0, 1) := gg124.2.2.1
theorem dX3_startOver_21 : decode cX3_startOver 21 = .ok (.iload_n 1, 1) := gg124.2.2.2.1
theorem dX3_startOver_22 : decode cX3_startOver 22 = .ok (.putfield 23, 3) := gg124.2.2.2.2.1
theorem dX3_startOver_25 : decode cX3_startOver 25 = .ok (.return_, 1) := gg124.2.2.2.2.2
theorem gg125 : decode cX4_init 0 = .ok (.aload_n 0, 1) ∧ decode cX4_init 1 = .ok (.invokespecial 3, 3) ∧ decode cX4_init 4 = .ok (.aload_n 0, 1) ∧ decode cX4_init 5 = .ok (.sipush 400, 3) ∧ decode cX4_init 8 = .ok (.newarray .byte, 2) ∧ decode cX4_init 10 = .ok (.putfield 11, 3) ∧ decode cX4_init 13 = .ok (.aload_n 0, 1) ∧ decode cX4_init 14 = .ok (.iconst 5, 1) ∧ decode cX4_init 15 = .ok (.newarray .int, 2) ∧ decode cX4_init 17 = .ok (.putfield 17, 3) := by decide +kernel
theorem dX4_init_0 : decode cX4_init 0 = .ok (.aload_n 0, 1) := gg125.1
theorem dX4_init_1 : decode cX4_init 1 = .ok (.invokespecial 3, 3) := gg125.2.1
theorem dX4_init_4 : decode cX4_init 4 = .ok (.aload_n 0, 1) := gg125.2.2.1
theorem dX4_init_5 : decode cX4_init 5 = .ok (.sipush 400, 3) := gg125.2.2.2.1
theorem dX4_init_8 : decode cX4_init 8 = .ok (.newarray .byte, 2) := gg125.2.2.2.2.1
theorem dX4_init_10 : decode cX4_init 10 = .ok (.putfield 11, 3) := gg125.2.2.2.2.2.1
theorem dX4_init_13 : decode cX4_init 13 = .ok (.aload_n 0, 1) := gg125.2.2.2.2.2.2.1
theorem dX4_init_14 : decode cX4_init 14 = .ok (.iconst 5, 1) := gg125.2.2.2.2.2.2.2.1
theorem dX4_init_15 : decode cX4_init 15 = .ok (.newarray .int, 2) := gg125.2.2.2.2.2.2.2.2.1
theorem dX4_init_17 : decode cX4_init 17 = .ok (.putfield 17, 3) := gg125.2.2.2.2.2.2.2.2.2
theorem dX4_init_20 : decode cX4_init 20 = .ok (.return_, 1) := by decide +kernel
theorem gg127 : decode cX4_append 0 = .ok (.aload_n 0, 1) ∧ decode cX4_append 1 = .ok (.getfield 21, 3) ∧ decode cX4_append 4 = .ok (.iload_n 1, 1) ∧ decode cX4_append 5 = .ok (.iadd, 1) ∧ decode cX4_append 6 = .ok (.aload_n 0, 1) ∧ decode cX4_append 7 = .ok (.getfield 11, 3) ∧ decode cX4_append 10 = .ok (.arraylength, 1) ∧ decode cX4_append 11 = .ok (.if_icmp .le 5, 3) ∧ decode cX4_append 14 = .ok (.iconst 0, 1) ∧ decode cX4_append 15 = .ok (.ireturn, 1) := by decide +kernel
theorem dX4_append_0 : decode cX4_append 0 = .ok (.aload_n 0, 1) := gg127.1
theorem dX4_append_1 : decode cX4_append 1 = .ok (.getfield 21, 3) := gg127.2.1
theorem dX4_append_4 : decode cX4_append 4 = .ok (.iload_n 1, 1) := gg127.2.2.1
theorem dX4_append_5 : decode cX4_append 5 = .ok (.iadd, 1) := gg127.2.2.2.1
theorem dX4_append_6 : decode cX4_append 6 = .ok (.aload_n 0, 1) := gg127.2.2.2.2.1
theorem dX4_append_7 : decode cX4_append 7 = .ok (.getfield 11, 3) := gg127.2.2.2.2.2.1
theorem dX4_append_10 : decode cX4_append 10 = .ok (.arraylength, 1) := gg127.2.2.2.2.2.2.1
theorem dX4_append_11 : decode cX4_append 11 = .ok (.if_icmp .le 5, 3) := gg127.2.2.2.2.2.2.2.1
theorem dX4_append_14 : decode cX4_append 14 = .ok (.iconst 0, 1) := gg127.2.2.2.2.2.2.2.2.1
theorem dX4_append_15 : decode cX4_append 15 = .ok (.ireturn, 1) := gg127.2.2.2.2.2.2.2.2.2
theorem gg128 : decode cX4_append 16 = .ok (.iload_n 1, 1) ∧ decode cX4_append 17 = .ok (.iconst 1, 1) ∧ decode cX4_append 18 = .ok (.isub, 1) ∧ decode cX4_append 19 = .ok (.istore 4, 2) ∧ decode cX4_append 21 = .ok (.iload 4, 2) ∧ decode cX4_append 23 = .ok (.ifCond .lt 37, 3) ∧ decode cX4_append 26 = .ok (.aload_n 0, 1) ∧ decode cX4_append 27 = .ok (.getfield 11, 3) ∧ decode cX4_append 30 = .ok (.aload_n 0, 1) ∧ decode cX4_append 31 = .ok (.getfield 21, 3) := by decide +kernel
theorem dX4_append_16 : decode cX4_append 16 = .ok (.iload_n 1, 1) := gg128.1
theorem dX4_append_17 : decode cX4_append 17 = .ok (.iconst 1, 1) := gg128.2.1
theorem dX4_append_18 : decode cX4_append 18 = .ok (.isub, 1) := gg128.2.2.1
theorem dX4_append_19 : decode cX4_append 19 = .ok (.istore 4, 2) := gg128.2.2.2.1
theorem dX4_append_21 : decode cX4_append 21 = .ok (.iload 4, 2) := gg128.2.2.2.2.1
theorem dX4_append_23 : decode cX4_append 23 = .ok (.ifCond .lt 37, 3) := gg128.2.2.2.2.2.1
theorem dX4_append_26 : decode cX4_append 26 = .ok (.aload_n 0, 1) := gg128.2.2.2.2.2.2.1
theorem dX4_append_27 : decode cX4_append 27 = .ok (.getfield 11, 3) := gg128.2.2.2.2.2.2.2.1
theorem dX4_append_30 : decode cX4_append 30 = .ok (.aload_n 0, 1) := gg128.2.2.2.2.2.2.2.2.1
theorem dX4_append_31 : decode cX4_append 31 = .ok (.getfield 21, 3) := gg128.2.2.2.2.2.2.2.2.2
theorem gg129 : decode cX4_append 34 = .ok (.lload_n 2, 1) ∧ decode cX4_append 35 = .ok (.bipush 8, 2) ∧ decode cX4_append 37 = .ok (.iload 4, 2) ∧ decode cX4_append 39 = .ok (.imul, 1) ∧ decode cX4_append 40 = .ok (.lushr, 1) ∧ decode cX4_append 41 = .ok (.l2i, 1) ∧ decode cX4_append 42 = .ok (.i2b, 1) ∧ decode cX4_append 43 = .ok (.bastore, 1) ∧ decode cX4_append 44 = .ok (.aload_n 0, 1) ∧ decode cX4_append 45 = .ok (.dup, 1) := by decide +kernel
theorem dX4_append_34 : decode cX4_append 34 = .ok (.lload_n 2, 1) := gg129.1
theorem dX4_append_35 : decode cX4_append 35 = .ok (.bipush 8, 2) := gg129.2.1
theorem dX4_append_37 : decode cX4_append 37 = .ok (.iload 4, 2) := gg129.2.2.1
theorem dX4_append_39 : decode cX4_append 39 = .ok (.imul, 1) := gg129.2.2.2.1
theorem dX4_append_40 : decode cX4_append 40 = .ok (.lushr, 1) := gg129.2.2.2.2.1
theorem dX4_append_41 : decode cX4_append 41 = .ok (.l2i, 1) := gg129.2.2.2.2.2.1
theorem dX4_append_42 : decode cX4_append 42 = .ok (.i2b, 1) := gg129.2.2.2.2.2.2.1
theorem dX4_append_43 : decode cX4_append 43 = .ok (.bastore, 1) := gg129.2.2.2.2.2.2.2.1
theorem dX4_append_44 : decode cX4_append 44 = .ok (.aload_n 0, 1) := gg129.2.2.2.2.2.2.2.2.1
theorem dX4_append_45 : decode cX4_append 45 = .ok (.dup, 1) := gg129.2.2.2.2.2.2.2.2.2
theorem gg130 : decode cX4_append 46 = .ok (.getfield 21, 3) ∧ decode cX4_append 49 = .ok (.iconst 1, 1) ∧ decode cX4_append 50 = .ok (.iadd, 1) ∧ decode cX4_append 51 = .ok (.putfield 21, 3) ∧ decode cX4_append 54 = .ok (.iinc 4 (-1), 3) ∧ decode cX4_append 57 = .ok (.goto (-36), 3) ∧ decode cX4_append 60 = .ok (.iconst 1, 1) ∧ decode cX4_append 61 = .ok (.ireturn, 1) := by decide +kernel
theorem dX4_append_46 : decode cX4_append 46 = .ok (.getfield 21, 3) := gg130.1
theorem dX4_append_49 : decode cX4_append 49 = .ok (.iconst 1, 1) := gg130.2.1
theorem dX4_append_50 : decode cX4_append 50 = .ok (.iadd, 1) := gg130.2.2.1
theorem dX4_append_51 : decode cX4_append 51 = .ok (.putfield 21, 3) := gg130.2.2.2.1
theorem dX4_append_54 : decode cX4_append 54 = .ok (.iinc 4 (-1), 3) := gg130.2.2.2.2.1
theorem dX4_append_57 : decode cX4_append 57 = .ok (.goto (-36), 3) := gg130.2.2.2.2.2.1
theorem dX4_append_60 : decode cX4_append 60 = .ok (.iconst 1, 1) := gg130.2.2.2.2.2.2.1
theorem dX4_append_61 : decode cX4_append 61 = .ok (.ireturn, 1) := gg130.2.2.2.2.2.2.2
theorem gg131 : decode cX4_readInto 0 = .ok (.aload_n 1, 1) ∧ decode cX4_readInto 1 = .ok (.invokevirtual 25, 3) ∧ decode cX4_readInto 4 = .ok (.iconst 0, 1) ∧ decode cX4_readInto 5 = .ok (.istore_n 2, 1) ∧ decode cX4_readInto 6 = .ok (.iconst 0, 1) ∧ decode cX4_readInto 7 = .ok (.istore_n 3, 1) ∧ decode cX4_readInto 8 = .ok (.iload_n 3, 1) ∧ decode cX4_readInto 9 = .ok (.sipush 400, 3) ∧ decode cX4_readInto 12 = .ok (.if_icmp .ge 52, 3) ∧ decode cX4_readInto 15 = .ok (.iload_n 2, 1) := by decide +kernel
theorem dX4_readInto_0 : decode cX4_readInto 0 = .ok (.aload_n 1, 1) := gg131.1
theorem dX4_readInto_1 : decode cX4_readInto 1 = .ok (.invokevirtual 25, 3) := gg131.2.1
theorem dX4_readInto_4 : decode cX4_readInto 4 = .ok (.iconst 0, 1) := gg131.2.2.1
theorem dX4_readInto_5 : decode cX4_readInto 5 = .ok (.istore_n 2, 1) := gg131.2.2.2.1
theorem dX4_readInto_6 : decode cX4_readInto 6 = .ok (.iconst 0, 1) := gg131.2.2.2.2.1
theorem dX4_readInto_7 : decode cX4_readInto 7 = .ok (.istore_n 3, 1) := gg131.2.2.2.2.2.1
theorem dX4_readInto_8 : decode cX4_readInto 8 = .ok (.iload_n 3, 1) := gg131.2.2.2.2.2.2.1
theorem dX4_readInto_9 : decode cX4_readInto 9 = .ok (.sipush 400, 3) := gg131.2.2.2.2.2.2.2.1
theorem dX4_readInto_12 : decode cX4_readInto 12 = .ok (.if_icmp .ge 52, 3) := gg131.2.2.2.2.2.2.2.2.1
theorem dX4_readInto_15 : decode cX4_readInto 15 = .ok (.iload_n 2, 1) := gg131.2.2.2.2.2.2.2.2.2
theorem gg132 : decode cX4_readInto 16 = .ok (.aload_n 0, 1) ∧ decode cX4_readInto 17 = .ok (.getfield 21, 3) ∧ decode cX4_readInto 20 = .ok (.if_icmp .ge 44, 3) ∧ decode cX4_readInto 23 = .ok (.aload_n 0, 1) ∧ decode cX4_readInto 24 = .ok (.iload_n 2, 1) ∧ decode cX4_readInto 25 = .ok (.invokevirtual 28, 3) ∧ decode cX4_readInto 28 = .ok (.istore 4, 2) ∧ decode cX4_readInto 30 = .ok (.iload 4, 2) ∧ decode cX4_readInto 32 = .ok (.bipush (-4), 2) ∧ decode cX4_readInto 34 = .ok (.if_icmp .eq 19, 3) := by decide +kernel
theorem dX4_readInto_16 : decode cX4_readInto 16 = .ok (.aload_n 0, 1) := gg132.1
theorem dX4_readInto_17 : decode cX4_readInto 17 = .ok (.getfield 21, 3) := gg132.2.1
theorem dX4_readInto_20 : decode cX4_readInto 20 = .ok (.if_icmp .ge 44, 3) := gg132.2.2.1
theorem dX4_readInto_23 : decode cX4_readInto 23 = .ok (.aload_n 0, 1) := gg132.2.2.2.1
theorem dX4_readInto_24 : decode cX4_readInto 24 = .ok (.iload_n 2, 1) := gg132.2.2.2.2.1
theorem dX4_readInto_25 : decode cX4_readInto 25 = .ok (.invokevirtual 28, 3) := gg132.2.2.2.2.2.1
theorem dX4_readInto_28 : decode cX4_readInto 28 = .ok (.istore 4, 2) := gg132.2.2.2.2.2.2.1
theorem dX4_readInto_30 : decode cX4_readInto 30 = .ok (.iload 4, 2) := gg132.2.2.2.2.2.2.2.1
theorem dX4_readInto_32 : decode cX4_readInto 32 = .ok (.bipush (-4), 2) := gg132.2.2.2.2.2.2.2.2.1
theorem dX4_readInto_34 : decode cX4_readInto 34 = .ok (.if_icmp .eq 19, 3) := gg132.2.2.2.2.2.2.2.2.2
theorem gg133 : decode cX4_readInto 37 = .ok (.aload_n 1, 1) ∧ decode cX4_readInto 38 = .ok (.aload_n 0, 1) ∧ decode cX4_readInto 39 = .ok (.iload_n 2, 1) ∧ decode cX4_readInto 40 = .ok (.invokevirtual 32, 3) ∧ decode cX4_readInto 43 = .ok (.aload_n 0, 1) ∧ decode cX4_readInto 44 = .ok (.getfield 17, 3) ∧ decode cX4_readInto 47 = .ok (.invokevirtual 35, 3) ∧ decode cX4_readInto 50 = .ok (.ifCond .ne 5, 3) ∧ decode cX4_readInto 53 = .ok (.iload_n 2, 1) ∧ decode cX4_readInto 54 = .ok (.ireturn, 1) := by decide +kernel
theorem dX4_readInto_37 : decode cX4_readInto 37 = .ok (.aload_n 1, 1) := gg133.1
theorem dX4_readInto_38 : decode cX4_readInto 38 = .ok (.aload_n 0, 1) := gg133.2.1
theorem dX4_readInto_39 : decode cX4_readInto 39 = .ok (.iload_n 2, 1) := gg133.2.2.1
theorem dX4_readInto_40 : decode cX4_readInto 40 = .ok (.invokevirtual 32, 3) := gg133.2.2.2.1
theorem dX4_readInto_43 : decode cX4_readInto 43 = .ok (.aload_n 0, 1) := gg133.2.2.2.2.1
theorem dX4_readInto_44 : decode cX4_readInto 44 = .ok (.getfield 17, 3) := gg133.2.2.2.2.2.1
theorem dX4_readInto_47 : decode cX4_readInto 47 = .ok (.invokevirtual 35, 3) := gg133.2.2.2.2.2.2.1
theorem dX4_readInto_50 : decode cX4_readInto 50 = .ok (.ifCond .ne 5, 3) := gg133.2.2.2.2.2.2.2.1
theorem dX4_readInto_53 : decode cX4_readInto 53 = .ok (.iload_n 2, 1) := gg133.2.2.2.2.2.2.2.2.1
theorem dX4_readInto_54 : decode cX4_readInto 54 = .ok (.ireturn, 1) := gg133.2.2.2.2.2.2.2.2.2
theorem gg134 : decode cX4_readInto 55 = .ok (.iload 4, 2) ∧ decode cX4_readInto 57 = .ok (.istore_n 2, 1) ∧ decode cX4_readInto 58 = .ok (.iinc 3 1, 3) ∧ decode cX4_readInto 61 = .ok (.goto (-53), 3) ∧ decode cX4_readInto 64 = .ok (.bipush (-4), 2) ∧ decode cX4_readInto 66 = .ok (.ireturn, 1) := by decide +kernel
theorem dX4_readInto_55 : decode cX4_readInto 55 = .ok (.iload 4, 2) := gg134.1
theorem dX4_readInto_57 : decode cX4_readInto 57 = .ok (.istore_n 2, 1) := gg134.2.1
theorem dX4_readInto_58 : decode cX4_readInto 58 = .ok (.iinc 3 1, 3) := gg134.2.2.1
theorem dX4_readInto_61 : decode cX4_readInto 61 = .ok (.goto (-53), 3) := gg134.2.2.2.1
theorem dX4_readInto_64 : decode cX4_readInto 64 = .ok (.bipush (-4), 2) := gg134.2.2.2.2.1
theorem dX4_readInto_66 : decode cX4_readInto 66 = .ok (.ireturn, 1) := gg134.2.2.2.2.2
theorem gg135 : decode cX4_readItem 0 = .ok (.aload_n 0, 1) ∧ decode cX4_readItem 1 = .ok (.iload_n 1, 1) ∧ decode cX4_readItem 2 = .ok (.invokevirtual 32, 3) ∧ decode cX4_readItem 5 = .ok (.invokestatic 39, 3) ∧ decode cX4_readItem 8 = .ok (.istore_n 2, 1) ∧ decode cX4_readItem 9 = .ok (.iload_n 2, 1) ∧ decode cX4_readItem 10 = .ok (.ifCond .ne 6, 3) ∧ decode cX4_readItem 13 = .ok (.bipush (-4), 2) ∧ decode cX4_readItem 15 = .ok (.ireturn, 1) ∧ decode cX4_readItem 16 = .ok (.iload_n 1, 1) := by decide +kernel
theorem dX4_readItem_0 : decode cX4_readItem 0 = .ok (.aload_n 0, 1) := gg135.1
theorem dX4_readItem_1 : decode cX4_readItem 1 = .ok (.iload_n 1, 1) := gg135.2.1
theorem dX4_readItem_2 : decode cX4_readItem 2 = .ok (.invokevirtual 32, 3) := gg135.2.2.1
theorem dX4_readItem_5 : decode cX4_readItem 5 = .ok (.invokestatic 39, 3) := gg135.2.2.2.1
theorem dX4_readItem_8 : decode cX4_readItem 8 = .ok (.istore_n 2, 1) := gg135.2.2.2.2.1
theorem dX4_readItem_9 : decode cX4_readItem 9 = .ok (.iload_n 2, 1) := gg135.2.2.2.2.2.1
theorem dX4_readItem_10 : decode cX4_readItem 10 = .ok (.ifCond .ne 6, 3) := gg135.2.2.2.2.2.2.1
theorem dX4_readItem_13 : decode cX4_readItem 13 = .ok (.bipush (-4), 2) := gg135.2.2.2.2.2.2.2.1
theorem dX4_readItem_15 : decode cX4_readItem 15 = .ok (.ireturn, 1) := gg135.2.2.2.2.2.2.2.2.1
theorem dX4_readItem_16 : decode cX4_readItem 16 = .ok (.iload_n 1, 1) := gg135.2.2.2.2.2.2.2.2.2
theorem gg136 : decode cX4_readItem 17 = .ok (.iconst 1, 1) ∧ decode cX4_readItem 18 = .ok (.iadd, 1) ∧ decode cX4_readItem 19 = .ok (.istore_n 3, 1) ∧ decode cX4_readItem 20 = .ok (.iconst 0, 1) ∧ decode cX4_readItem 21 = .ok (.istore 4, 2) ∧ decode cX4_readItem 23 = .ok (.iload 4, 2) ∧ decode cX4_readItem 25 = .ok (.iload_n 2, 1) ∧ decode cX4_readItem 26 = .ok (.if_icmp .ge 56, 3) ∧ decode cX4_readItem 29 = .ok (.aload_n 0, 1) ∧ decode cX4_readItem 30 = .ok (.iload_n 3, 1) := by decide +kernel
theorem dX4_readItem_17 : decode cX4_readItem 17 = .ok (.iconst 1, 1) := gg136.1
theorem dX4_readItem_18 : decode cX4_readItem 18 = .ok (.iadd, 1) := gg136.2.1
theorem dX4_readItem_19 : decode cX4_readItem 19 = .ok (.istore_n 3, 1) := gg136.2.2.1
theorem dX4_readItem_20 : decode cX4_readItem 20 = .ok (.iconst 0, 1) := gg136.2.2.2.1
theorem dX4_readItem_21 : decode cX4_readItem 21 = .ok (.istore 4, 2) := gg136.2.2.2.2.1
theorem dX4_readItem_23 : decode cX4_readItem 23 = .ok (.iload 4, 2) := gg136.2.2.2.2.2.1
theorem dX4_readItem_25 : decode cX4_readItem 25 = .ok (.iload_n 2, 1) := gg136.2.2.2.2.2.2.1
theorem dX4_readItem_26 : decode cX4_readItem 26 = .ok (.if_icmp .ge 56, 3) := gg136.2.2.2.2.2.2.2.1
theorem dX4_readItem_29 : decode cX4_readItem 29 = .ok (.aload_n 0, 1) := gg136.2.2.2.2.2.2.2.2.1
theorem dX4_readItem_30 : decode cX4_readItem 30 = .ok (.iload_n 3, 1) := gg136.2.2.2.2.2.2.2.2.2
theorem gg137 : decode cX4_readItem 31 = .ok (.iload 4, 2) ∧ decode cX4_readItem 33 = .ok (.invokevirtual 42, 3) ∧ decode cX4_readItem 36 = .ok (.istore_n 3, 1) ∧ decode cX4_readItem 37 = .ok (.iload 4, 2) ∧ decode cX4_readItem 39 = .ok (.iconst 1, 1) ∧ decode cX4_readItem 40 = .ok (.iadd, 1) ∧ decode cX4_readItem 41 = .ok (.iload_n 2, 1) ∧ decode cX4_readItem 42 = .ok (.if_icmp .ge 8, 3) ∧ decode cX4_readItem 45 = .ok (.bipush 44, 2) ∧ decode cX4_readItem 47 = .ok (.goto 5, 3) := by decide +kernel
theorem dX4_readItem_31 : decode cX4_readItem 31 = .ok (.iload 4, 2) := gg137.1
theorem dX4_readItem_33 : decode cX4_readItem 33 = .ok (.invokevirtual 42, 3) := gg137.2.1
theorem dX4_readItem_36 : decode cX4_readItem 36 = .ok (.istore_n 3, 1) := gg137.2.2.1
theorem dX4_readItem_37 : decode cX4_readItem 37 = .ok (.iload 4, 2) := gg137.2.2.2.1
theorem dX4_readItem_39 : decode cX4_readItem 39 = .ok (.iconst 1, 1) := gg137.2.2.2.2.1
theorem dX4_readItem_40 : decode cX4_readItem 40 = .ok (.iadd, 1) := gg137.2.2.2.2.2.1
theorem dX4_readItem_41 : decode cX4_readItem 41 = .ok (.iload_n 2, 1) := gg137.2.2.2.2.2.2.1
theorem dX4_readItem_42 : decode cX4_readItem 42 = .ok (.if_icmp .ge 8, 3) := gg137.2.2.2.2.2.2.2.1
theorem dX4_readItem_45 : decode cX4_readItem 45 = .ok (.bipush 44, 2) := gg137.2.2.2.2.2.2.2.2.1
theorem dX4_readItem_47 : decode cX4_readItem 47 = .ok (.goto 5, 3) := gg137.2.2.2.2.2.2.2.2.2
theorem gg138 : decode cX4_readItem 50 = .ok (.bipush 59, 2) ∧ decode cX4_readItem 52 = .ok (.istore 5, 2) ∧ decode cX4_readItem 54 = .ok (.iload_n 3, 1) ∧ decode cX4_readItem 55 = .ok (.bipush (-4), 2) ∧ decode cX4_readItem 57 = .ok (.if_icmp .eq 13, 3) ∧ decode cX4_readItem 60 = .ok (.aload_n 0, 1) ∧ decode cX4_readItem 61 = .ok (.iload_n 3, 1) ∧ decode cX4_readItem 62 = .ok (.invokevirtual 32, 3) ∧ decode cX4_readItem 65 = .ok (.iload 5, 2) ∧ decode cX4_readItem 67 = .ok (.if_icmp .eq 6, 3) := by decide +kernel
theorem dX4_readItem_50 : decode cX4_readItem 50 = .ok (.bipush 59, 2) := gg138.1
theorem dX4_readItem_52 : decode cX4_readItem 52 = .ok (.istore 5, 2) := gg138.2.1
theorem dX4_readItem_54 : decode cX4_readItem 54 = .ok (.iload_n 3, 1) := gg138.2.2.1
theorem dX4_readItem_55 : decode cX4_readItem 55 = .ok (.bipush (-4), 2) := gg138.2.2.2.1
theorem dX4_readItem_57 : decode cX4_readItem 57 = .ok (.if_icmp .eq 13, 3) := gg138.2.2.2.2.1
theorem dX4_readItem_60 : decode cX4_readItem 60 = .ok (.aload_n 0, 1) := gg138.2.2.2.2.2.1
theorem dX4_readItem_61 : decode cX4_readItem 61 = .ok (.iload_n 3, 1) := gg138.2.2.2.2.2.2.1
theorem dX4_readItem_62 : decode cX4_readItem 62 = .ok (.invokevirtual 32, 3) := gg138.2.2.2.2.2.2.2.1
theorem dX4_readItem_65 : decode cX4_readItem 65 = .ok (.iload 5, 2) := gg138.2.2.2.2.2.2.2.2.1
theorem dX4_readItem_67 : decode cX4_readItem 67 = .ok (.if_icmp .eq 6, 3) := gg138.2.2.2.2.2.2.2.2.2
theorem gg139 : decode cX4_readItem 70 = .ok (.bipush (-4), 2) ∧ decode cX4_readItem 72 = .ok (.ireturn, 1) ∧ decode cX4_readItem 73 = .ok (.iinc 3 1, 3) ∧ decode cX4_readItem 76 = .ok (.iinc 4 1, 3) ∧ decode cX4_readItem 79 = .ok (.goto (-56), 3) ∧ decode cX4_readItem 82 = .ok (.iload_n 3, 1) ∧ decode cX4_readItem 83 = .ok (.ireturn, 1) := by decide +kernel
theorem dX4_readItem_70 : decode cX4_readItem 70 = .ok (.bipush (-4), 2) := gg139.1
theorem dX4_readItem_72 : decode cX4_readItem 72 = .ok (.ireturn, 1) := gg139.2.1
theorem dX4_readItem_73 : decode cX4_readItem 73 = .ok (.iinc 3 1, 3) := gg139.2.2.1
theorem dX4_readItem_76 : decode cX4_readItem 76 = .ok (.iinc 4 1, 3) := gg139.2.2.2.1
theorem dX4_readItem_79 : decode cX4_readItem 79 = .ok (.goto (-56), 3) := gg139.2.2.2.2.1
theorem dX4_readItem_82 : decode cX4_readItem 82 = .ok (.iload_n 3, 1) := gg139.2.2.2.2.2.1
theorem dX4_readItem_83 : decode cX4_readItem 83 = .ok (.ireturn, 1) := gg139.2.2.2.2.2.2
theorem gg140 : decode cX4_readNumber 0 = .ok (.iconst 0, 1) ∧ decode cX4_readNumber 1 = .ok (.istore_n 3, 1) ∧ decode cX4_readNumber 2 = .ok (.iconst 0, 1) ∧ decode cX4_readNumber 3 = .ok (.istore 4, 2) ∧ decode cX4_readNumber 5 = .ok (.iload 4, 2) ∧ decode cX4_readNumber 7 = .ok (.iconst 3, 1) ∧ decode cX4_readNumber 8 = .ok (.if_icmp .ge 40, 3) ∧ decode cX4_readNumber 11 = .ok (.aload_n 0, 1) ∧ decode cX4_readNumber 12 = .ok (.iload_n 1, 1) ∧ decode cX4_readNumber 13 = .ok (.iload 4, 2) := by decide +kernel
theorem dX4_readNumber_0 : decode cX4_readNumber 0 = .ok (.iconst 0, 1) := gg140.1
theorem dX4_readNumber_1 : decode cX4_readNumber 1 = .ok (.istore_n 3, 1) := gg140.2.1
theorem dX4_readNumber_2 : decode cX4_readNumber 2 = .ok (.iconst 0, 1) := gg140.2.2.1
theorem dX4_readNumber_3 : decode cX4_readNumber 3 = .ok (.istore 4, 2) := gg140.2.2.2.1
theorem dX4_readNumber_5 : decode cX4_readNumber 5 = .ok (.iload 4, 2) := gg140.2.2.2.2.1
theorem dX4_readNumber_7 : decode cX4_readNumber 7 = .ok (.iconst 3, 1) := gg140.2.2.2.2.2.1
theorem dX4_readNumber_8 : decode cX4_readNumber 8 = .ok (.if_icmp .ge 40, 3) := gg140.2.2.2.2.2.2.1
theorem dX4_readNumber_11 : decode cX4_readNumber 11 = .ok (.aload_n 0, 1) := gg140.2.2.2.2.2.2.2.1
theorem dX4_readNumber_12 : decode cX4_readNumber 12 = .ok (.iload_n 1, 1) := gg140.2.2.2.2.2.2.2.2.1
theorem dX4_readNumber_13 : decode cX4_readNumber 13 = .ok (.iload 4, 2) := gg140.2.2.2.2.2.2.2.2.2
theorem gg141 : decode cX4_readNumber 15 = .ok (.iadd, 1) ∧ decode cX4_readNumber 16 = .ok (.invokevirtual 32, 3) ∧ decode cX4_readNumber 19 = .ok (.invokestatic 46, 3) ∧ decode cX4_readNumber 22 = .ok (.ifCond .eq 26, 3) ∧ decode cX4_readNumber 25 = .ok (.iload_n 3, 1) ∧ decode cX4_readNumber 26 = .ok (.bipush 10, 2) ∧ decode cX4_readNumber 28 = .ok (.imul, 1) ∧ decode cX4_readNumber 29 = .ok (.aload_n 0, 1) ∧ decode cX4_readNumber 30 = .ok (.iload_n 1, 1) ∧ decode cX4_readNumber 31 = .ok (.iload 4, 2) := by decide +kernel
theorem dX4_readNumber_15 : decode cX4_readNumber 15 = .ok (.iadd, 1) := gg141.1
theorem dX4_readNumber_16 : decode cX4_readNumber 16 = .ok (.invokevirtual 32, 3) := gg141.2.1
theorem dX4_readNumber_19 : decode cX4_readNumber 19 = .ok (.invokestatic 46, 3) := gg141.2.2.1
theorem dX4_readNumber_22 : decode cX4_readNumber 22 = .ok (.ifCond .eq 26, 3) := gg141.2.2.2.1
theorem dX4_readNumber_25 : decode cX4_readNumber 25 = .ok (.iload_n 3, 1) := gg141.2.2.2.2.1
theorem dX4_readNumber_26 : decode cX4_readNumber 26 = .ok (.bipush 10, 2) := gg141.2.2.2.2.2.1
theorem dX4_readNumber_28 : decode cX4_readNumber 28 = .ok (.imul, 1) := gg141.2.2.2.2.2.2.1
theorem dX4_readNumber_29 : decode cX4_readNumber 29 = .ok (.aload_n 0, 1) := gg141.2.2.2.2.2.2.2.1
theorem dX4_readNumber_30 : decode cX4_readNumber 30 = .ok (.iload_n 1, 1) := gg141.2.2.2.2.2.2.2.2.1
theorem dX4_readNumber_31 : decode cX4_readNumber 31 = .ok (.iload 4, 2) := gg141.2.2.2.2.2.2.2.2.2
theorem gg142 : decode cX4_readNumber 33 = .ok (.iadd, 1) ∧ decode cX4_readNumber 34 = .ok (.invokevirtual 32, 3) ∧ decode cX4_readNumber 37 = .ok (.iadd, 1) ∧ decode cX4_readNumber 38 = .ok (.bipush 48, 2) ∧ decode cX4_readNumber 40 = .ok (.isub, 1) ∧ decode cX4_readNumber 41 = .ok (.istore_n 3, 1) ∧ decode cX4_readNumber 42 = .ok (.iinc 4 1, 3) ∧ decode cX4_readNumber 45 = .ok (.goto (-40), 3) ∧ decode cX4_readNumber 48 = .ok (.iload 4, 2) ∧ decode cX4_readNumber 50 = .ok (.ifCond .eq 16, 3) := by decide +kernel
theorem dX4_readNumber_33 : decode cX4_readNumber 33 = .ok (.iadd, 1) := gg142.1
theorem dX4_readNumber_34 : decode cX4_readNumber 34 = .ok (.invokevirtual 32, 3) := gg142.2.1
theorem dX4_readNumber_37 : decode cX4_readNumber 37 = .ok (.iadd, 1) := gg142.2.2.1
theorem dX4_readNumber_38 : decode cX4_readNumber 38 = .ok (.bipush 48, 2) := gg142.2.2.2.1
theorem dX4_readNumber_40 : decode cX4_readNumber 40 = .ok (.isub, 1) := gg142.2.2.2.2.1
theorem dX4_readNumber_41 : decode cX4_readNumber 41 = .ok (.istore_n 3, 1) := gg142.2.2.2.2.2.1
theorem dX4_readNumber_42 : decode cX4_readNumber 42 = .ok (.iinc 4 1, 3) := gg142.2.2.2.2.2.2.1
theorem dX4_readNumber_45 : decode cX4_readNumber 45 = .ok (.goto (-40), 3) := gg142.2.2.2.2.2.2.2.1
theorem dX4_readNumber_48 : decode cX4_readNumber 48 = .ok (.iload 4, 2) := gg142.2.2.2.2.2.2.2.2.1
theorem dX4_readNumber_50 : decode cX4_readNumber 50 = .ok (.ifCond .eq 16, 3) := gg142.2.2.2.2.2.2.2.2.2
theorem gg143 : decode cX4_readNumber 53 = .ok (.iload_n 2, 1) ∧ decode cX4_readNumber 54 = .ok (.ifCond .lt 12, 3) ∧ decode cX4_readNumber 57 = .ok (.iload_n 2, 1) ∧ decode cX4_readNumber 58 = .ok (.aload_n 0, 1) ∧ decode cX4_readNumber 59 = .ok (.getfield 17, 3) ∧ decode cX4_readNumber 62 = .ok (.arraylength, 1) ∧ decode cX4_readNumber 63 = .ok (.if_icmp .lt 6, 3) ∧ decode cX4_readNumber 66 = .ok (.bipush (-4), 2) ∧ decode cX4_readNumber 68 = .ok (.ireturn, 1) ∧ decode cX4_readNumber 69 = .ok (.aload_n 0, 1) := by decide +kernel
theorem dX4_readNumber_53 : decode cX4_readNumber 53 = .ok (.iload_n 2, 1) := gg143.1
theorem dX4_readNumber_54 : decode cX4_readNumber 54 = .ok (.ifCond .lt 12, 3) := gg143.2.1
theorem dX4_readNumber_57 : decode cX4_readNumber 57 = .ok (.iload_n 2, 1) := gg143.2.2.1
theorem dX4_readNumber_58 : decode cX4_readNumber 58 = .ok (.aload_n 0, 1) := gg143.2.2.2.1
theorem dX4_readNumber_59 : decode cX4_readNumber 59 = .ok (.getfield 17, 3) := gg143.2.2.2.2.1
theorem dX4_readNumber_62 : decode cX4_readNumber 62 = .ok (.arraylength, 1) := gg143.2.2.2.2.2.1
theorem dX4_readNumber_63 : decode cX4_readNumber 63 = .ok (.if_icmp .lt 6, 3) := gg143.2.2.2.2.2.2.1
theorem dX4_readNumber_66 : decode cX4_readNumber 66 = .ok (.bipush (-4), 2) := gg143.2.2.2.2.2.2.2.1
theorem dX4_readNumber_68 : decode cX4_readNumber 68 = .ok (.ireturn, 1) := gg143.2.2.2.2.2.2.2.2.1
theorem dX4_readNumber_69 : decode cX4_readNumber 69 = .ok (.aload_n 0, 1) := gg143.2.2.2.2.2.2.2.2.2
theorem gg144 : decode cX4_readNumber 70 = .ok (.getfield 17, 3) ∧ decode cX4_readNumber 73 = .ok (.iload_n 2, 1) ∧ decode cX4_readNumber 74 = .ok (.iload_n 3, 1) ∧ decode cX4_readNumber 75 = .ok (.iastore, 1) ∧ decode cX4_readNumber 76 = .ok (.iload_n 1, 1) ∧ decode cX4_readNumber 77 = .ok (.iload 4, 2) ∧ decode cX4_readNumber 79 = .ok (.iadd, 1) ∧ decode cX4_readNumber 80 = .ok (.ireturn, 1) := by decide +kernel
theorem dX4_readNumber_70 : decode cX4_readNumber 70 = .ok (.getfield 17, 3) := gg144.1
theorem dX4_readNumber_73 : decode cX4_readNumber 73 = .ok (.iload_n 2, 1) := gg144.2.1
theorem dX4_readNumber_74 : decode cX4_readNumber 74 = .ok (.iload_n 3, 1) := gg144.2.2.1
theorem dX4_readNumber_75 : decode cX4_readNumber 75 = .ok (.iastore, 1) := gg144.2.2.2.1
theorem dX4_readNumber_76 : decode cX4_readNumber 76 = .ok (.iload_n 1, 1) := gg144.2.2.2.2.1
theorem dX4_readNumber_77 : decode cX4_readNumber 77 = .ok (.iload 4, 2) := gg144.2.2.2.2.2.1
theorem dX4_readNumber_79 : decode cX4_readNumber 79 = .ok (.iadd, 1) := gg144.2.2.2.2.2.2.1
theorem dX4_readNumber_80 : decode cX4_readNumber 80 = .ok (.ireturn, 1) := gg144.2.2.2.2.2.2.2
theorem gg145 : decode cX4_isFigure 0 = .ok (.iload_n 0, 1) ∧ decode cX4_isFigure 1 = .ok (.bipush 48, 2) ∧ decode cX4_isFigure 3 = .ok (.if_icmp .lt 13, 3) ∧ decode cX4_isFigure 6 = .ok (.iload_n 0, 1) ∧ decode cX4_isFigure 7 = .ok (.bipush 57, 2) ∧ decode cX4_isFigure 9 = .ok (.if_icmp .gt 7, 3) ∧ decode cX4_isFigure 12 = .ok (.iconst 1, 1) ∧ decode cX4_isFigure 13 = .ok (.goto 4, 3) ∧ decode cX4_isFigure 16 = .ok (.iconst 0, 1) ∧ decode cX4_isFigure 17 = .ok (.ireturn, 1) := by decide +kernel
theorem dX4_isFigure_0 : decode cX4_isFigure 0 = .ok (.iload_n 0, 1) := gg145.1
theorem dX4_isFigure_1 : decode cX4_isFigure 1 = .ok (.bipush 48, 2) := gg145.2.1
theorem dX4_isFigure_3 : decode cX4_isFigure 3 = .ok (.if_icmp .lt 13, 3) := gg145.2.2.1
theorem dX4_isFigure_6 : decode cX4_isFigure 6 = .ok (.iload_n 0, 1) := gg145.2.2.2.1
theorem dX4_isFigure_7 : decode cX4_isFigure 7 = .ok (.bipush 57, 2) := gg145.2.2.2.2.1
theorem dX4_isFigure_9 : decode cX4_isFigure 9 = .ok (.if_icmp .gt 7, 3) := gg145.2.2.2.2.2.1
theorem dX4_isFigure_12 : decode cX4_isFigure 12 = .ok (.iconst 1, 1) := gg145.2.2.2.2.2.2.1
theorem dX4_isFigure_13 : decode cX4_isFigure 13 = .ok (.goto 4, 3) := gg145.2.2.2.2.2.2.2.1
theorem dX4_isFigure_16 : decode cX4_isFigure 16 = .ok (.iconst 0, 1) := gg145.2.2.2.2.2.2.2.2.1
theorem dX4_isFigure_17 : decode cX4_isFigure 17 = .ok (.ireturn, 1) := gg145.2.2.2.2.2.2.2.2.2
theorem gg146 : decode cX4_byteAt 0 = .ok (.iload_n 1, 1) ∧ decode cX4_byteAt 1 = .ok (.ifCond .lt 33, 3) ∧ decode cX4_byteAt 4 = .ok (.iload_n 1, 1) ∧ decode cX4_byteAt 5 = .ok (.aload_n 0, 1) ∧ decode cX4_byteAt 6 = .ok (.getfield 21, 3) ∧ decode cX4_byteAt 9 = .ok (.if_icmp .ge 25, 3) ∧ decode cX4_byteAt 12 = .ok (.iload_n 1, 1) ∧ decode cX4_byteAt 13 = .ok (.aload_n 0, 1) ∧ decode cX4_byteAt 14 = .ok (.getfield 11, 3) ∧ decode cX4_byteAt 17 = .ok (.arraylength, 1) := by decide +kernel
theorem dX4_byteAt_0 : decode cX4_byteAt 0 = .ok (.iload_n 1, 1) := gg146.1
theorem dX4_byteAt_1 : decode cX4_byteAt 1 = .ok (.ifCond .lt 33, 3) := gg146.2.1
theorem dX4_byteAt_4 : decode cX4_byteAt 4 = .ok (.iload_n 1, 1) := gg146.2.2.1
theorem dX4_byteAt_5 : decode cX4_byteAt 5 = .ok (.aload_n 0, 1) := gg146.2.2.2.1
theorem dX4_byteAt_6 : decode cX4_byteAt 6 = .ok (.getfield 21, 3) := gg146.2.2.2.2.1
theorem dX4_byteAt_9 : decode cX4_byteAt 9 = .ok (.if_icmp .ge 25, 3) := gg146.2.2.2.2.2.1
theorem dX4_byteAt_12 : decode cX4_byteAt 12 = .ok (.iload_n 1, 1) := gg146.2.2.2.2.2.2.1
theorem dX4_byteAt_13 : decode cX4_byteAt 13 = .ok (.aload_n 0, 1) := gg146.2.2.2.2.2.2.2.1
theorem dX4_byteAt_14 : decode cX4_byteAt 14 = .ok (.getfield 11, 3) := gg146.2.2.2.2.2.2.2.2.1
theorem dX4_byteAt_17 : decode cX4_byteAt 17 = .ok (.arraylength, 1) := gg146.2.2.2.2.2.2.2.2.2
theorem gg147 : decode cX4_byteAt 18 = .ok (.if_icmp .ge 16, 3) ∧ decode cX4_byteAt 21 = .ok (.aload_n 0, 1) ∧ decode cX4_byteAt 22 = .ok (.getfield 11, 3) ∧ decode cX4_byteAt 25 = .ok (.iload_n 1, 1) ∧ decode cX4_byteAt 26 = .ok (.baload, 1) ∧ decode cX4_byteAt 27 = .ok (.sipush 255, 3) ∧ decode cX4_byteAt 30 = .ok (.iand, 1) ∧ decode cX4_byteAt 31 = .ok (.goto 4, 3) ∧ decode cX4_byteAt 34 = .ok (.iconst (-1), 1) ∧ decode cX4_byteAt 35 = .ok (.ireturn, 1) := by decide +kernel
theorem dX4_byteAt_18 : decode cX4_byteAt 18 = .ok (.if_icmp .ge 16, 3) := gg147.1
theorem dX4_byteAt_21 : decode cX4_byteAt 21 = .ok (.aload_n 0, 1) := gg147.2.1
theorem dX4_byteAt_22 : decode cX4_byteAt 22 = .ok (.getfield 11, 3) := gg147.2.2.1
theorem dX4_byteAt_25 : decode cX4_byteAt 25 = .ok (.iload_n 1, 1) := gg147.2.2.2.1
theorem dX4_byteAt_26 : decode cX4_byteAt 26 = .ok (.baload, 1) := gg147.2.2.2.2.1
theorem dX4_byteAt_27 : decode cX4_byteAt 27 = .ok (.sipush 255, 3) := gg147.2.2.2.2.2.1
theorem dX4_byteAt_30 : decode cX4_byteAt 30 = .ok (.iand, 1) := gg147.2.2.2.2.2.2.1
theorem dX4_byteAt_31 : decode cX4_byteAt 31 = .ok (.goto 4, 3) := gg147.2.2.2.2.2.2.2.1
theorem dX4_byteAt_34 : decode cX4_byteAt 34 = .ok (.iconst (-1), 1) := gg147.2.2.2.2.2.2.2.2.1
theorem dX4_byteAt_35 : decode cX4_byteAt 35 = .ok (.ireturn, 1) := gg147.2.2.2.2.2.2.2.2.2
theorem gg148 : decode cX5_init 0 = .ok (.aload_n 0, 1) ∧ decode cX5_init 1 = .ok (.invokespecial 1, 3) ∧ decode cX5_init 4 = .ok (.aload_n 0, 1) ∧ decode cX5_init 5 = .ok (.iconst 1, 1) ∧ decode cX5_init 6 = .ok (.iload_n 1, 1) ∧ decode cX5_init 7 = .ok (.invokestatic 7, 3) ∧ decode cX5_init 10 = .ok (.putfield 13, 3) ∧ decode cX5_init 13 = .ok (.aload_n 0, 1) ∧ decode cX5_init 14 = .ok (.aload_n 0, 1) ∧ decode cX5_init 15 = .ok (.getfield 13, 3) := by decide +kernel
theorem dX5_init_0 : decode cX5_init 0 = .ok (.aload_n 0, 1) := gg148.1
theorem dX5_init_1 : decode cX5_init 1 = .ok (.invokespecial 1, 3) := gg148.2.1
theorem dX5_init_4 : decode cX5_init 4 = .ok (.aload_n 0, 1) := gg148.2.2.1
theorem dX5_init_5 : decode cX5_init 5 = .ok (.iconst 1, 1) := gg148.2.2.2.1
theorem dX5_init_6 : decode cX5_init 6 = .ok (.iload_n 1, 1) := gg148.2.2.2.2.1
theorem dX5_init_7 : decode cX5_init 7 = .ok (.invokestatic 7, 3) := gg148.2.2.2.2.2.1
theorem dX5_init_10 : decode cX5_init 10 = .ok (.putfield 13, 3) := gg148.2.2.2.2.2.2.1
theorem dX5_init_13 : decode cX5_init 13 = .ok (.aload_n 0, 1) := gg148.2.2.2.2.2.2.2.1
theorem dX5_init_14 : decode cX5_init 14 = .ok (.aload_n 0, 1) := gg148.2.2.2.2.2.2.2.2.1
theorem dX5_init_15 : decode cX5_init 15 = .ok (.getfield 13, 3) := gg148.2.2.2.2.2.2.2.2.2
theorem gg149 : decode cX5_init 18 = .ok (.newarray .long, 2) ∧ decode cX5_init 20 = .ok (.putfield 19, 3) ∧ decode cX5_init 23 = .ok (.aload_n 0, 1) ∧ decode cX5_init 24 = .ok (.aload_n 0, 1) ∧ decode cX5_init 25 = .ok (.getfield 13, 3) ∧ decode cX5_init 28 = .ok (.newarray .int, 2) ∧ decode cX5_init 30 = .ok (.putfield 23, 3) ∧ decode cX5_init 33 = .ok (.aload_n 0, 1) ∧ decode cX5_init 34 = .ok (.aload_n 0, 1) ∧ decode cX5_init 35 = .ok (.getfield 13, 3) := by decide +kernel
theorem dX5_init_18 : decode cX5_init 18 = .ok (.newarray .long, 2) := gg149.1
theorem dX5_init_20 : decode cX5_init 20 = .ok (.putfield 19, 3) := gg149.2.1
theorem dX5_init_23 : decode cX5_init 23 = .ok (.aload_n 0, 1) := gg149.2.2.1
theorem dX5_init_24 : decode cX5_init 24 = .ok (.aload_n 0, 1) := gg149.2.2.2.1
theorem dX5_init_25 : decode cX5_init 25 = .ok (.getfield 13, 3) := gg149.2.2.2.2.1
theorem dX5_init_28 : decode cX5_init 28 = .ok (.newarray .int, 2) := gg149.2.2.2.2.2.1
theorem dX5_init_30 : decode cX5_init 30 = .ok (.putfield 23, 3) := gg149.2.2.2.2.2.2.1
theorem dX5_init_33 : decode cX5_init 33 = .ok (.aload_n 0, 1) := gg149.2.2.2.2.2.2.2.1
theorem dX5_init_34 : decode cX5_init 34 = .ok (.aload_n 0, 1) := gg149.2.2.2.2.2.2.2.2.1
theorem dX5_init_35 : decode cX5_init 35 = .ok (.getfield 13, 3) := gg149.2.2.2.2.2.2.2.2.2
theorem gg150 : decode cX5_init 38 = .ok (.newarray .int, 2) ∧ decode cX5_init 40 = .ok (.putfield 27, 3) ∧ decode cX5_init 43 = .ok (.aload_n 0, 1) ∧ decode cX5_init 44 = .ok (.aload_n 0, 1) ∧ decode cX5_init 45 = .ok (.getfield 13, 3) ∧ decode cX5_init 48 = .ok (.newarray .int, 2) ∧ decode cX5_init 50 = .ok (.putfield 30, 3) ∧ decode cX5_init 53 = .ok (.aload_n 0, 1) ∧ decode cX5_init 54 = .ok (.aload_n 0, 1) ∧ decode cX5_init 55 = .ok (.getfield 13, 3) := by decide +kernel
theorem dX5_init_38 : decode cX5_init 38 = .ok (.newarray .int, 2) := gg150.1
theorem dX5_init_40 : decode cX5_init 40 = .ok (.putfield 27, 3) := gg150.2.1
theorem dX5_init_43 : decode cX5_init 43 = .ok (.aload_n 0, 1) := gg150.2.2.1
theorem dX5_init_44 : decode cX5_init 44 = .ok (.aload_n 0, 1) := gg150.2.2.2.1
theorem dX5_init_45 : decode cX5_init 45 = .ok (.getfield 13, 3) := gg150.2.2.2.2.1
theorem dX5_init_48 : decode cX5_init 48 = .ok (.newarray .int, 2) := gg150.2.2.2.2.2.1
theorem dX5_init_50 : decode cX5_init 50 = .ok (.putfield 30, 3) := gg150.2.2.2.2.2.2.1
theorem dX5_init_53 : decode cX5_init 53 = .ok (.aload_n 0, 1) := gg150.2.2.2.2.2.2.2.1
theorem dX5_init_54 : decode cX5_init 54 = .ok (.aload_n 0, 1) := gg150.2.2.2.2.2.2.2.2.1
theorem dX5_init_55 : decode cX5_init 55 = .ok (.getfield 13, 3) := gg150.2.2.2.2.2.2.2.2.2
theorem gg151 : decode cX5_init 58 = .ok (.newarray .int, 2) ∧ decode cX5_init 60 = .ok (.putfield 33, 3) ∧ decode cX5_init 63 = .ok (.return_, 1) := by decide +kernel
theorem dX5_init_58 : decode cX5_init 58 = .ok (.newarray .int, 2) := gg151.1
theorem dX5_init_60 : decode cX5_init 60 = .ok (.putfield 33, 3) := gg151.2.1
theorem dX5_init_63 : decode cX5_init 63 = .ok (.return_, 1) := gg151.2.2
theorem gg152 : decode cX5_put 0 = .ok (.aload_n 0, 1) ∧ decode cX5_put 1 = .ok (.getfield 36, 3) ∧ decode cX5_put 4 = .ok (.aload_n 0, 1) ∧ decode cX5_put 5 = .ok (.getfield 13, 3) ∧ decode cX5_put 8 = .ok (.if_icmp .lt 8, 3) ∧ decode cX5_put 11 = .ok (.aload_n 0, 1) ∧ decode cX5_put 12 = .ok (.iconst 0, 1) ∧ decode cX5_put 13 = .ok (.putfield 36, 3) ∧ decode cX5_put 16 = .ok (.aload_n 0, 1) ∧ decode cX5_put 17 = .ok (.getfield 19, 3) := by decide +kernel
theorem dX5_put_0 : decode cX5_put 0 = .ok (.aload_n 0, 1) := gg152.1
theorem dX5_put_1 : decode cX5_put 1 = .ok (.getfield 36, 3) := gg152.2.1
theorem dX5_put_4 : decode cX5_put 4 = .ok (.aload_n 0, 1) := gg152.2.2.1
theorem dX5_put_5 : decode cX5_put 5 = .ok (.getfield 13, 3) := gg152.2.2.2.1
theorem dX5_put_8 : decode cX5_put 8 = .ok (.if_icmp .lt 8, 3) := gg152.2.2.2.2.1
theorem dX5_put_11 : decode cX5_put 11 = .ok (.aload_n 0, 1) := gg152.2.2.2.2.2.1
theorem dX5_put_12 : decode cX5_put 12 = .ok (.iconst 0, 1) := gg152.2.2.2.2.2.2.1
theorem dX5_put_13 : decode cX5_put 13 = .ok (.putfield 36, 3) := gg152.2.2.2.2.2.2.2.1
theorem dX5_put_16 : decode cX5_put 16 = .ok (.aload_n 0, 1) := gg152.2.2.2.2.2.2.2.2.1
theorem dX5_put_17 : decode cX5_put 17 = .ok (.getfield 19, 3) := gg152.2.2.2.2.2.2.2.2.2
theorem gg153 : decode cX5_put 20 = .ok (.aload_n 0, 1) ∧ decode cX5_put 21 = .ok (.getfield 36, 3) ∧ decode cX5_put 24 = .ok (.aload_n 1, 1) ∧ decode cX5_put 25 = .ok (.getfield 39, 3) ∧ decode cX5_put 28 = .ok (.lastore, 1) ∧ decode cX5_put 29 = .ok (.aload_n 0, 1) ∧ decode cX5_put 30 = .ok (.getfield 23, 3) ∧ decode cX5_put 33 = .ok (.aload_n 0, 1) ∧ decode cX5_put 34 = .ok (.getfield 36, 3) ∧ decode cX5_put 37 = .ok (.aload_n 1, 1) := by decide +kernel
theorem dX5_put_20 : decode cX5_put 20 = .ok (.aload_n 0, 1) := gg153.1
theorem dX5_put_21 : decode cX5_put 21 = .ok (.getfield 36, 3) := gg153.2.1
theorem dX5_put_24 : decode cX5_put 24 = .ok (.aload_n 1, 1) := gg153.2.2.1
theorem dX5_put_25 : decode cX5_put 25 = .ok (.getfield 39, 3) := gg153.2.2.2.1
theorem dX5_put_28 : decode cX5_put 28 = .ok (.lastore, 1) := gg153.2.2.2.2.1
theorem dX5_put_29 : decode cX5_put 29 = .ok (.aload_n 0, 1) := gg153.2.2.2.2.2.1
theorem dX5_put_30 : decode cX5_put 30 = .ok (.getfield 23, 3) := gg153.2.2.2.2.2.2.1
theorem dX5_put_33 : decode cX5_put 33 = .ok (.aload_n 0, 1) := gg153.2.2.2.2.2.2.2.1
theorem dX5_put_34 : decode cX5_put 34 = .ok (.getfield 36, 3) := gg153.2.2.2.2.2.2.2.2.1
theorem dX5_put_37 : decode cX5_put 37 = .ok (.aload_n 1, 1) := gg153.2.2.2.2.2.2.2.2.2
theorem gg154 : decode cX5_put 38 = .ok (.getfield 45, 3) ∧ decode cX5_put 41 = .ok (.iastore, 1) ∧ decode cX5_put 42 = .ok (.aload_n 0, 1) ∧ decode cX5_put 43 = .ok (.getfield 27, 3) ∧ decode cX5_put 46 = .ok (.aload_n 0, 1) ∧ decode cX5_put 47 = .ok (.getfield 36, 3) ∧ decode cX5_put 50 = .ok (.aload_n 1, 1) ∧ decode cX5_put 51 = .ok (.getfield 48, 3) ∧ decode cX5_put 54 = .ok (.iastore, 1) ∧ decode cX5_put 55 = .ok (.aload_n 0, 1) := by decide +kernel
theorem dX5_put_38 : decode cX5_put 38 = .ok (.getfield 45, 3) := gg154.1
theorem dX5_put_41 : decode cX5_put 41 = .ok (.iastore, 1) := gg154.2.1
theorem dX5_put_42 : decode cX5_put 42 = .ok (.aload_n 0, 1) := gg154.2.2.1
theorem dX5_put_43 : decode cX5_put 43 = .ok (.getfield 27, 3) := gg154.2.2.2.1
theorem dX5_put_46 : decode cX5_put 46 = .ok (.aload_n 0, 1) := gg154.2.2.2.2.1
theorem dX5_put_47 : decode cX5_put 47 = .ok (.getfield 36, 3) := gg154.2.2.2.2.2.1
theorem dX5_put_50 : decode cX5_put 50 = .ok (.aload_n 1, 1) := gg154.2.2.2.2.2.2.1
theorem dX5_put_51 : decode cX5_put 51 = .ok (.getfield 48, 3) := gg154.2.2.2.2.2.2.2.1
theorem dX5_put_54 : decode cX5_put 54 = .ok (.iastore, 1) := gg154.2.2.2.2.2.2.2.2.1
theorem dX5_put_55 : decode cX5_put 55 = .ok (.aload_n 0, 1) := gg154.2.2.2.2.2.2.2.2.2
theorem gg155 : decode cX5_put 56 = .ok (.getfield 30, 3) ∧ decode cX5_put 59 = .ok (.aload_n 0, 1) ∧ decode cX5_put 60 = .ok (.getfield 36, 3) ∧ decode cX5_put 63 = .ok (.aload_n 1, 1) ∧ decode cX5_put 64 = .ok (.getfield 51, 3) ∧ decode cX5_put 67 = .ok (.iastore, 1) ∧ decode cX5_put 68 = .ok (.aload_n 0, 1) ∧ decode cX5_put 69 = .ok (.getfield 33, 3) ∧ decode cX5_put 72 = .ok (.aload_n 0, 1) ∧ decode cX5_put 73 = .ok (.getfield 36, 3) := by decide +kernel
theorem dX5_put_56 : decode cX5_put 56 = .ok (.getfield 30, 3) := gg155.1
theorem dX5_put_59 : decode cX5_put 59 = .ok (.aload_n 0, 1) := gg155.2.1
theorem dX5_put_60 : decode cX5_put 60 = .ok (.getfield 36, 3) := gg155.2.2.1
theorem dX5_put_63 : decode cX5_put 63 = .ok (.aload_n 1, 1) := gg155.2.2.2.1
theorem dX5_put_64 : decode cX5_put 64 = .ok (.getfield 51, 3) := gg155.2.2.2.2.1
theorem dX5_put_67 : decode cX5_put 67 = .ok (.iastore, 1) := gg155.2.2.2.2.2.1
theorem dX5_put_68 : decode cX5_put 68 = .ok (.aload_n 0, 1) := gg155.2.2.2.2.2.2.1
theorem dX5_put_69 : decode cX5_put 69 = .ok (.getfield 33, 3) := gg155.2.2.2.2.2.2.2.1
theorem dX5_put_72 : decode cX5_put 72 = .ok (.aload_n 0, 1) := gg155.2.2.2.2.2.2.2.2.1
theorem dX5_put_73 : decode cX5_put 73 = .ok (.getfield 36, 3) := gg155.2.2.2.2.2.2.2.2.2
theorem gg156 : decode cX5_put 76 = .ok (.aload_n 1, 1) ∧ decode cX5_put 77 = .ok (.getfield 54, 3) ∧ decode cX5_put 80 = .ok (.iastore, 1) ∧ decode cX5_put 81 = .ok (.aload_n 0, 1) ∧ decode cX5_put 82 = .ok (.dup, 1) ∧ decode cX5_put 83 = .ok (.getfield 36, 3) ∧ decode cX5_put 86 = .ok (.iconst 1, 1) ∧ decode cX5_put 87 = .ok (.iadd, 1) ∧ decode cX5_put 88 = .ok (.putfield 36, 3) ∧ decode cX5_put 91 = .ok (.aload_n 0, 1) := by decide +kernel
theorem dX5_put_76 : decode cX5_put 76 = .ok (.aload_n 1, 1) := gg156.1
theorem dX5_put_77 : decode cX5_put 77 = .ok (.getfield 54, 3) := gg156.2.1
theorem dX5_put_80 : decode cX5_put 80 = .ok (.iastore, 1) := gg156.2.2.1
theorem dX5_put_81 : decode cX5_put 81 = .ok (.aload_n 0, 1) := gg156.2.2.2.1
theorem dX5_put_82 : decode cX5_put 82 = .ok (.dup, 1) := gg156.2.2.2.2.1
theorem dX5_put_83 : decode cX5_put 83 = .ok (.getfield 36, 3) := gg156.2.2.2.2.2.1
theorem dX5_put_86 : decode cX5_put 86 = .ok (.iconst 1, 1) := gg156.2.2.2.2.2.2.1
theorem dX5_put_87 : decode cX5_put 87 = .ok (.iadd, 1) := gg156.2.2.2.2.2.2.2.1
theorem dX5_put_88 : decode cX5_put 88 = .ok (.putfield 36, 3) := gg156.2.2.2.2.2.2.2.2.1
theorem dX5_put_91 : decode cX5_put 91 = .ok (.aload_n 0, 1) := gg156.2.2.2.2.2.2.2.2.2
theorem gg157 : decode cX5_put 92 = .ok (.aload_n 0, 1) ∧ decode cX5_put 93 = .ok (.getfield 56, 3) ∧ decode cX5_put 96 = .ok (.iconst 1, 1) ∧ decode cX5_put 97 = .ok (.iadd, 1) ∧ decode cX5_put 98 = .ok (.aload_n 0, 1) ∧ decode cX5_put 99 = .ok (.getfield 13, 3) ∧ decode cX5_put 102 = .ok (.invokestatic 59, 3) ∧ decode cX5_put 105 = .ok (.putfield 56, 3) ∧ decode cX5_put 108 = .ok (.return_, 1) := by decide +kernel
theorem dX5_put_92 : decode cX5_put 92 = .ok (.aload_n 0, 1) := gg157.1
theorem dX5_put_93 : decode cX5_put 93 = .ok (.getfield 56, 3) := gg157.2.1
theorem dX5_put_96 : decode cX5_put 96 = .ok (.iconst 1, 1) := gg157.2.2.1
theorem dX5_put_97 : decode cX5_put 97 = .ok (.iadd, 1) := gg157.2.2.2.1
theorem dX5_put_98 : decode cX5_put 98 = .ok (.aload_n 0, 1) := gg157.2.2.2.2.1
theorem dX5_put_99 : decode cX5_put 99 = .ok (.getfield 13, 3) := gg157.2.2.2.2.2.1
theorem dX5_put_102 : decode cX5_put 102 = .ok (.invokestatic 59, 3) := gg157.2.2.2.2.2.2.1
theorem dX5_put_105 : decode cX5_put 105 = .ok (.putfield 56, 3) := gg157.2.2.2.2.2.2.2.1
theorem dX5_put_108 : decode cX5_put 108 = .ok (.return_, 1) := gg157.2.2.2.2.2.2.2.2
theorem gg158 : decode cX5_takeInto 0 = .ok (.aload_n 0, 1) ∧ decode cX5_takeInto 1 = .ok (.getfield 56, 3) ∧ decode cX5_takeInto 4 = .ok (.ifCond .gt 4, 3) ∧ decode cX5_takeInto 7 = .ok (.return_, 1) ∧ decode cX5_takeInto 8 = .ok (.aload_n 0, 1) ∧ decode cX5_takeInto 9 = .ok (.dup, 1) ∧ decode cX5_takeInto 10 = .ok (.getfield 56, 3) ∧ decode cX5_takeInto 13 = .ok (.iconst 1, 1) ∧ decode cX5_takeInto 14 = .ok (.isub, 1) ∧ decode cX5_takeInto 15 = .ok (.putfield 56, 3) := by decide +kernel
theorem dX5_takeInto_0 : decode cX5_takeInto 0 = .ok (.aload_n 0, 1) := gg158.1
theorem dX5_takeInto_1 : decode cX5_takeInto 1 = .ok (.getfield 56, 3) := gg158.2.1
theorem dX5_takeInto_4 : decode cX5_takeInto 4 = .ok (.ifCond .gt 4, 3) := gg158.2.2.1
theorem dX5_takeInto_7 : decode cX5_takeInto 7 = .ok (.return_, 1) := gg158.2.2.2.1
theorem dX5_takeInto_8 : decode cX5_takeInto 8 = .ok (.aload_n 0, 1) := gg158.2.2.2.2.1
theorem dX5_takeInto_9 : decode cX5_takeInto 9 = .ok (.dup, 1) := gg158.2.2.2.2.2.1
theorem dX5_takeInto_10 : decode cX5_takeInto 10 = .ok (.getfield 56, 3) := gg158.2.2.2.2.2.2.1
theorem dX5_takeInto_13 : decode cX5_takeInto 13 = .ok (.iconst 1, 1) := gg158.2.2.2.2.2.2.2.1
theorem dX5_takeInto_14 : decode cX5_takeInto 14 = .ok (.isub, 1) := gg158.2.2.2.2.2.2.2.2.1
theorem dX5_takeInto_15 : decode cX5_takeInto 15 = .ok (.putfield 56, 3) := gg158.2.2.2.2.2.2.2.2.2
theorem gg159 : decode cX5_takeInto 18 = .ok (.aload_n 0, 1) ∧ decode cX5_takeInto 19 = .ok (.aload_n 0, 1) ∧ decode cX5_takeInto 20 = .ok (.getfield 36, 3) ∧ decode cX5_takeInto 23 = .ok (.ifCond .le 12, 3) ∧ decode cX5_takeInto 26 = .ok (.aload_n 0, 1) ∧ decode cX5_takeInto 27 = .ok (.getfield 36, 3) ∧ decode cX5_takeInto 30 = .ok (.iconst 1, 1) ∧ decode cX5_takeInto 31 = .ok (.isub, 1) ∧ decode cX5_takeInto 32 = .ok (.goto 9, 3) ∧ decode cX5_takeInto 35 = .ok (.aload_n 0, 1) := by decide +kernel
theorem dX5_takeInto_18 : decode cX5_takeInto 18 = .ok (.aload_n 0, 1) := gg159.1
theorem dX5_takeInto_19 : decode cX5_takeInto 19 = .ok (.aload_n 0, 1) := gg159.2.1
theorem dX5_takeInto_20 : decode cX5_takeInto 20 = .ok (.getfield 36, 3) := gg159.2.2.1
theorem dX5_takeInto_23 : decode cX5_takeInto 23 = .ok (.ifCond .le 12, 3) := gg159.2.2.2.1
theorem dX5_takeInto_26 : decode cX5_takeInto 26 = .ok (.aload_n 0, 1) := gg159.2.2.2.2.1
theorem dX5_takeInto_27 : decode cX5_takeInto 27 = .ok (.getfield 36, 3) := gg159.2.2.2.2.2.1
theorem dX5_takeInto_30 : decode cX5_takeInto 30 = .ok (.iconst 1, 1) := gg159.2.2.2.2.2.2.1
theorem dX5_takeInto_31 : decode cX5_takeInto 31 = .ok (.isub, 1) := gg159.2.2.2.2.2.2.2.1
theorem dX5_takeInto_32 : decode cX5_takeInto 32 = .ok (.goto 9, 3) := gg159.2.2.2.2.2.2.2.2.1
theorem dX5_takeInto_35 : decode cX5_takeInto 35 = .ok (.aload_n 0, 1) := gg159.2.2.2.2.2.2.2.2.2
theorem gg160 : decode cX5_takeInto 36 = .ok (.getfield 13, 3) ∧ decode cX5_takeInto 39 = .ok (.iconst 1, 1) ∧ decode cX5_takeInto 40 = .ok (.isub, 1) ∧ decode cX5_takeInto 41 = .ok (.putfield 36, 3) ∧ decode cX5_takeInto 44 = .ok (.aload_n 1, 1) ∧ decode cX5_takeInto 45 = .ok (.aload_n 0, 1) ∧ decode cX5_takeInto 46 = .ok (.getfield 19, 3) ∧ decode cX5_takeInto 49 = .ok (.aload_n 0, 1) ∧ decode cX5_takeInto 50 = .ok (.getfield 36, 3) ∧ decode cX5_takeInto 53 = .ok (.laload, 1) := by decide +kernel
theorem dX5_takeInto_36 : decode cX5_takeInto 36 = .ok (.getfield 13, 3) := gg160.1
theorem dX5_takeInto_39 : decode cX5_takeInto 39 = .ok (.iconst 1, 1) := gg160.2.1
theorem dX5_takeInto_40 : decode cX5_takeInto 40 = .ok (.isub, 1) := gg160.2.2.1
theorem dX5_takeInto_41 : decode cX5_takeInto 41 = .ok (.putfield 36, 3) := gg160.2.2.2.1
theorem dX5_takeInto_44 : decode cX5_takeInto 44 = .ok (.aload_n 1, 1) := gg160.2.2.2.2.1
theorem dX5_takeInto_45 : decode cX5_takeInto 45 = .ok (.aload_n 0, 1) := gg160.2.2.2.2.2.1
theorem dX5_takeInto_46 : decode cX5_takeInto 46 = .ok (.getfield 19, 3) := gg160.2.2.2.2.2.2.1
theorem dX5_takeInto_49 : decode cX5_takeInto 49 = .ok (.aload_n 0, 1) := gg160.2.2.2.2.2.2.2.1
theorem dX5_takeInto_50 : decode cX5_takeInto 50 = .ok (.getfield 36, 3) := gg160.2.2.2.2.2.2.2.2.1
theorem dX5_takeInto_53 : decode cX5_takeInto 53 = .ok (.laload, 1) := gg160.2.2.2.2.2.2.2.2.2
theorem gg161 : decode cX5_takeInto 54 = .ok (.putfield 39, 3) ∧ decode cX5_takeInto 57 = .ok (.aload_n 1, 1) ∧ decode cX5_takeInto 58 = .ok (.aload_n 0, 1) ∧ decode cX5_takeInto 59 = .ok (.getfield 23, 3) ∧ decode cX5_takeInto 62 = .ok (.aload_n 0, 1) ∧ decode cX5_takeInto 63 = .ok (.getfield 36, 3) ∧ decode cX5_takeInto 66 = .ok (.iaload, 1) ∧ decode cX5_takeInto 67 = .ok (.putfield 45, 3) ∧ decode cX5_takeInto 70 = .ok (.aload_n 1, 1) ∧ decode cX5_takeInto 71 = .ok (.aload_n 0, 1) := by decide +kernel
theorem dX5_takeInto_54 : decode cX5_takeInto 54 = .ok (.putfield 39, 3) := gg161.1
theorem dX5_takeInto_57 : decode cX5_takeInto 57 = .ok (.aload_n 1, 1) := gg161.2.1
theorem dX5_takeInto_58 : decode cX5_takeInto 58 = .ok (.aload_n 0, 1) := gg161.2.2.1
theorem dX5_takeInto_59 : decode cX5_takeInto 59 = .ok (.getfield 23, 3) := gg161.2.2.2.1
theorem dX5_takeInto_62 : decode cX5_takeInto 62 = .ok (.aload_n 0, 1) := gg161.2.2.2.2.1
theorem dX5_takeInto_63 : decode cX5_takeInto 63 = .ok (.getfield 36, 3) := gg161.2.2.2.2.2.1
theorem dX5_takeInto_66 : decode cX5_takeInto 66 = .ok (.iaload, 1) := gg161.2.2.2.2.2.2.1
theorem dX5_takeInto_67 : decode cX5_takeInto 67 = .ok (.putfield 45, 3) := gg161.2.2.2.2.2.2.2.1
theorem dX5_takeInto_70 : decode cX5_takeInto 70 = .ok (.aload_n 1, 1) := gg161.2.2.2.2.2.2.2.2.1
theorem dX5_takeInto_71 : decode cX5_takeInto 71 = .ok (.aload_n 0, 1) := gg161.2.2.2.2.2.2.2.2.2
theorem gg162 : decode cX5_takeInto 72 = .ok (.getfield 27, 3) ∧ decode cX5_takeInto 75 = .ok (.aload_n 0, 1) ∧ decode cX5_takeInto 76 = .ok (.getfield 36, 3) ∧ decode cX5_takeInto 79 = .ok (.iaload, 1) ∧ decode cX5_takeInto 80 = .ok (.putfield 48, 3) ∧ decode cX5_takeInto 83 = .ok (.aload_n 1, 1) ∧ decode cX5_takeInto 84 = .ok (.aload_n 0, 1) ∧ decode cX5_takeInto 85 = .ok (.getfield 30, 3) ∧ decode cX5_takeInto 88 = .ok (.aload_n 0, 1) ∧ decode cX5_takeInto 89 = .ok (.getfield 36, 3) := by decide +kernel
theorem dX5_takeInto_72 : decode cX5_takeInto 72 = .ok (.getfield 27, 3) := gg162.1
theorem dX5_takeInto_75 : decode cX5_takeInto 75 = .ok (.aload_n 0, 1) := gg162.2.1
theorem dX5_takeInto_76 : decode cX5_takeInto 76 = .ok (.getfield 36, 3) := gg162.2.2.1
theorem dX5_takeInto_79 : decode cX5_takeInto 79 = .ok (.iaload, 1) := gg162.2.2.2.1
theorem dX5_takeInto_80 : decode cX5_takeInto 80 = .ok (.putfield 48, 3) := gg162.2.2.2.2.1
theorem dX5_takeInto_83 : decode cX5_takeInto 83 = .ok (.aload_n 1, 1) := gg162.2.2.2.2.2.1
theorem dX5_takeInto_84 : decode cX5_takeInto 84 = .ok (.aload_n 0, 1) := gg162.2.2.2.2.2.2.1
theorem dX5_takeInto_85 : decode cX5_takeInto 85 = .ok (.getfield 30, 3) := gg162.2.2.2.2.2.2.2.1
theorem dX5_takeInto_88 : decode cX5_takeInto 88 = .ok (.aload_n 0, 1) := gg162.2.2.2.2.2.2.2.2.1
theorem dX5_takeInto_89 : decode cX5_takeInto 89 = .ok (.getfield 36, 3) := gg162.2.2.2.2.2.2.2.2.2
theorem gg163 : decode cX5_takeInto 92 = .ok (.iaload, 1) ∧ decode cX5_takeInto 93 = .ok (.putfield 51, 3) ∧ decode cX5_takeInto 96 = .ok (.aload_n 1, 1) ∧ decode cX5_takeInto 97 = .ok (.aload_n 0, 1) ∧ decode cX5_takeInto 98 = .ok (.getfield 33, 3) ∧ decode cX5_takeInto 101 = .ok (.aload_n 0, 1) ∧ decode cX5_takeInto 102 = .ok (.getfield 36, 3) ∧ decode cX5_takeInto 105 = .ok (.iaload, 1) ∧ decode cX5_takeInto 106 = .ok (.putfield 54, 3) ∧ decode cX5_takeInto 109 = .ok (.return_, 1) := by decide +kernel
theorem dX5_takeInto_92 : decode cX5_takeInto 92 = .ok (.iaload, 1) := gg163.1
theorem dX5_takeInto_93 : decode cX5_takeInto 93 = .ok (.putfield 51, 3) := gg163.2.1
theorem dX5_takeInto_96 : decode cX5_takeInto 96 = .ok (.aload_n 1, 1) := gg163.2.2.1
theorem dX5_takeInto_97 : decode cX5_takeInto 97 = .ok (.aload_n 0, 1) := gg163.2.2.2.1
theorem dX5_takeInto_98 : decode cX5_takeInto 98 = .ok (.getfield 33, 3) := gg163.2.2.2.2.1
theorem dX5_takeInto_101 : decode cX5_takeInto 101 = .ok (.aload_n 0, 1) := gg163.2.2.2.2.2.1
theorem dX5_takeInto_102 : decode cX5_takeInto 102 = .ok (.getfield 36, 3) := gg163.2.2.2.2.2.2.1
theorem dX5_takeInto_105 : decode cX5_takeInto 105 = .ok (.iaload, 1) := gg163.2.2.2.2.2.2.2.1
theorem dX5_takeInto_106 : decode cX5_takeInto 106 = .ok (.putfield 54, 3) := gg163.2.2.2.2.2.2.2.2.1
theorem dX5_takeInto_109 : decode cX5_takeInto 109 = .ok (.return_, 1) := gg163.2.2.2.2.2.2.2.2.2
theorem gg164 : decode cX5_clear 0 = .ok (.aload_n 0, 1) ∧ decode cX5_clear 1 = .ok (.iconst 0, 1) ∧ decode cX5_clear 2 = .ok (.putfield 56, 3) ∧ decode cX5_clear 5 = .ok (.return_, 1) := by decide +kernel
theorem dX5_clear_0 : decode cX5_clear 0 = .ok (.aload_n 0, 1) := gg164.1
theorem dX5_clear_1 : decode cX5_clear 1 = .ok (.iconst 0, 1) := gg164.2.1
theorem dX5_clear_2 : decode cX5_clear 2 = .ok (.putfield 56, 3) := gg164.2.2.1
theorem dX5_clear_5 : decode cX5_clear 5 = .ok (.return_, 1) := gg164.2.2.2
theorem gg165 : decode cX6_init 0 = .ok (.aload_n 0, 1) ∧ decode cX6_init 1 = .ok (.invokespecial 1, 3) ∧ decode cX6_init 4 = .ok (.aload_n 0, 1) ∧ decode cX6_init 5 = .ok (.bipush 10, 2) ∧ decode cX6_init 7 = .ok (.newarray .int, 2) ∧ decode cX6_init 9 = .ok (.putfield 9, 3) ∧ decode cX6_init 12 = .ok (.aload_n 0, 1) ∧ decode cX6_init 13 = .ok (.bipush 10, 2) ∧ decode cX6_init 15 = .ok (.newarray .int, 2) ∧ decode cX6_init 17 = .ok (.putfield 13, 3) := by decide +kernel
theorem dX6_init_0 : decode cX6_init 0 = .ok (.aload_n 0, 1) := gg165.1
theorem dX6_init_1 : decode cX6_init 1 = .ok (.invokespecial 1, 3) := gg165.2.1
theorem dX6_init_4 : decode cX6_init 4 = .ok (.aload_n 0, 1) := gg165.2.2.1
theorem dX6_init_5 : decode cX6_init 5 = .ok (.bipush 10, 2) := gg165.2.2.2.1
theorem dX6_init_7 : decode cX6_init 7 = .ok (.newarray .int, 2) := gg165.2.2.2.2.1
theorem dX6_init_9 : decode cX6_init 9 = .ok (.putfield 9, 3) := gg165.2.2.2.2.2.1
theorem dX6_init_12 : decode cX6_init 12 = .ok (.aload_n 0, 1) := gg165.2.2.2.2.2.2.1
theorem dX6_init_13 : decode cX6_init 13 = .ok (.bipush 10, 2) := gg165.2.2.2.2.2.2.2.1
theorem dX6_init_15 : decode cX6_init 15 = .ok (.newarray .int, 2) := gg165.2.2.2.2.2.2.2.2.1
theorem dX6_init_17 : decode cX6_init 17 = .ok (.putfield 13, 3) := gg165.2.2.2.2.2.2.2.2.2
theorem gg166 : decode cX6_init 20 = .ok (.aload_n 0, 1) ∧ decode cX6_init 21 = .ok (.aload_n 1, 1) ∧ decode cX6_init 22 = .ok (.putfield 16, 3) ∧ decode cX6_init 25 = .ok (.return_, 1) := by decide +kernel
theorem dX6_init_20 : decode cX6_init 20 = .ok (.aload_n 0, 1) := gg166.1
theorem dX6_init_21 : decode cX6_init 21 = .ok (.aload_n 1, 1) := gg166.2.1
theorem dX6_init_22 : decode cX6_init 22 = .ok (.putfield 16, 3) := gg166.2.2.1
theorem dX6_init_25 : decode cX6_init 25 = .ok (.return_, 1) := gg166.2.2.2
theorem gg167 : decode cX6_addLine 0 = .ok (.aload_n 0, 1) ∧ decode cX6_addLine 1 = .ok (.getfield 20, 3) ∧ decode cX6_addLine 4 = .ok (.ifCond .lt 12, 3) ∧ decode cX6_addLine 7 = .ok (.aload_n 0, 1) ∧ decode cX6_addLine 8 = .ok (.getfield 20, 3) ∧ decode cX6_addLine 11 = .ok (.bipush 10, 2) ∧ decode cX6_addLine 13 = .ok (.if_icmp .lt 5, 3) ∧ decode cX6_addLine 16 = .ok (.iconst 0, 1) ∧ decode cX6_addLine 17 = .ok (.ireturn, 1) ∧ decode cX6_addLine 18 = .ok (.aload_n 0, 1) := by decide +kernel
theorem dX6_addLine_0 : decode cX6_addLine 0 = .ok (.aload_n 0, 1) := gg167.1
theorem dX6_addLine_1 : decode cX6_addLine 1 = .ok (.getfield 20, 3) := gg167.2.1
theorem dX6_addLine_4 : decode cX6_addLine 4 = .ok (.ifCond .lt 12, 3) := gg167.2.2.1
theorem dX6_addLine_7 : decode cX6_addLine 7 = .ok (.aload_n 0, 1) := gg167.2.2.2.1
theorem dX6_addLine_8 : decode cX6_addLine 8 = .ok (.getfield 20, 3) := gg167.2.2.2.2.1
theorem dX6_addLine_11 : decode cX6_addLine 11 = .ok (.bipush 10, 2) := gg167.2.2.2.2.2.1
theorem dX6_addLine_13 : decode cX6_addLine 13 = .ok (.if_icmp .lt 5, 3) := gg167.2.2.2.2.2.2.1
theorem dX6_addLine_16 : decode cX6_addLine 16 = .ok (.iconst 0, 1) := gg167.2.2.2.2.2.2.2.1
theorem dX6_addLine_17 : decode cX6_addLine 17 = .ok (.ireturn, 1) := gg167.2.2.2.2.2.2.2.2.1
theorem dX6_addLine_18 : decode cX6_addLine 18 = .ok (.aload_n 0, 1) := gg167.2.2.2.2.2.2.2.2.2
theorem gg168 : decode cX6_addLine 19 = .ok (.getfield 9, 3) ∧ decode cX6_addLine 22 = .ok (.aload_n 0, 1) ∧ decode cX6_addLine 23 = .ok (.getfield 20, 3) ∧ decode cX6_addLine 26 = .ok (.iload_n 1, 1) ∧ decode cX6_addLine 27 = .ok (.iastore, 1) ∧ decode cX6_addLine 28 = .ok (.aload_n 0, 1) ∧ decode cX6_addLine 29 = .ok (.getfield 13, 3) ∧ decode cX6_addLine 32 = .ok (.aload_n 0, 1) ∧ decode cX6_addLine 33 = .ok (.getfield 20, 3) ∧ decode cX6_addLine 36 = .ok (.iload_n 2, 1) := by decide +kernel
theorem dX6_addLine_19 : decode cX6_addLine 19 = .ok (.getfield 9, 3) := gg168.1
theorem dX6_addLine_22 : decode cX6_addLine 22 = .ok (.aload_n 0, 1) := gg168.2.1
theorem dX6_addLine_23 : decode cX6_addLine 23 = .ok (.getfield 20, 3) := gg168.2.2.1
theorem dX6_addLine_26 : decode cX6_addLine 26 = .ok (.iload_n 1, 1) := gg168.2.2.2.1
theorem dX6_addLine_27 : decode cX6_addLine 27 = .ok (.iastore, 1) := gg168.2.2.2.2.1
theorem dX6_addLine_28 : decode cX6_addLine 28 = .ok (.aload_n 0, 1) := gg168.2.2.2.2.2.1
theorem dX6_addLine_29 : decode cX6_addLine 29 = .ok (.getfield 13, 3) := gg168.2.2.2.2.2.2.1
theorem dX6_addLine_32 : decode cX6_addLine 32 = .ok (.aload_n 0, 1) := gg168.2.2.2.2.2.2.2.1
theorem dX6_addLine_33 : decode cX6_addLine 33 = .ok (.getfield 20, 3) := gg168.2.2.2.2.2.2.2.2.1
theorem dX6_addLine_36 : decode cX6_addLine 36 = .ok (.iload_n 2, 1) := gg168.2.2.2.2.2.2.2.2.2
theorem gg169 : decode cX6_addLine 37 = .ok (.iastore, 1) ∧ decode cX6_addLine 38 = .ok (.aload_n 0, 1) ∧ decode cX6_addLine 39 = .ok (.dup, 1) ∧ decode cX6_addLine 40 = .ok (.getfield 20, 3) ∧ decode cX6_addLine 43 = .ok (.iconst 1, 1) ∧ decode cX6_addLine 44 = .ok (.iadd, 1) ∧ decode cX6_addLine 45 = .ok (.putfield 20, 3) ∧ decode cX6_addLine 48 = .ok (.iconst 1, 1) ∧ decode cX6_addLine 49 = .ok (.ireturn, 1) := by decide +kernel
theorem dX6_addLine_37 : decode cX6_addLine 37 = .ok (.iastore, 1) := gg169.1
theorem dX6_addLine_38 : decode cX6_addLine 38 = .ok (.aload_n 0, 1) := gg169.2.1
theorem dX6_addLine_39 : decode cX6_addLine 39 = .ok (.dup, 1) := gg169.2.2.1
theorem dX6_addLine_40 : decode cX6_addLine 40 = .ok (.getfield 20, 3) := gg169.2.2.2.1
theorem dX6_addLine_43 : decode cX6_addLine 43 = .ok (.iconst 1, 1) := gg169.2.2.2.2.1
theorem dX6_addLine_44 : decode cX6_addLine 44 = .ok (.iadd, 1) := gg169.2.2.2.2.2.1
theorem dX6_addLine_45 : decode cX6_addLine 45 = .ok (.putfield 20, 3) := gg169.2.2.2.2.2.2.1
theorem dX6_addLine_48 : decode cX6_addLine 48 = .ok (.iconst 1, 1) := gg169.2.2.2.2.2.2.2.1
theorem dX6_addLine_49 : decode cX6_addLine 49 = .ok (.ireturn, 1) := gg169.2.2.2.2.2.2.2.2
theorem gg170 : decode cX6_isSo 0 = .ok (.aload_n 0, 1) ∧ decode cX6_isSo 1 = .ok (.getfield 16, 3) ∧ decode cX6_isSo 4 = .ok (.iconst 0, 1) ∧ decode cX6_isSo 5 = .ok (.aload_n 0, 1) ∧ decode cX6_isSo 6 = .ok (.getfield 9, 3) ∧ decode cX6_isSo 9 = .ok (.iload_n 1, 1) ∧ decode cX6_isSo 10 = .ok (.iaload, 1) ∧ decode cX6_isSo 11 = .ok (.iload_n 2, 1) ∧ decode cX6_isSo 12 = .ok (.iadd, 1) ∧ decode cX6_isSo 13 = .ok (.invokestatic 24, 3) := by decide +kernel
theorem dX6_isSo_0 : decode cX6_isSo 0 = .ok (.aload_n 0, 1) := gg170.1
theorem dX6_isSo_1 : decode cX6_isSo 1 = .ok (.getfield 16, 3) := gg170.2.1
theorem dX6_isSo_4 : decode cX6_isSo 4 = .ok (.iconst 0, 1) := gg170.2.2.1
theorem dX6_isSo_5 : decode cX6_isSo 5 = .ok (.aload_n 0, 1) := gg170.2.2.2.1
theorem dX6_isSo_6 : decode cX6_isSo 6 = .ok (.getfield 9, 3) := gg170.2.2.2.2.1
theorem dX6_isSo_9 : decode cX6_isSo 9 = .ok (.iload_n 1, 1) := gg170.2.2.2.2.2.1
theorem dX6_isSo_10 : decode cX6_isSo 10 = .ok (.iaload, 1) := gg170.2.2.2.2.2.2.1
theorem dX6_isSo_11 : decode cX6_isSo 11 = .ok (.iload_n 2, 1) := gg170.2.2.2.2.2.2.2.1
theorem dX6_isSo_12 : decode cX6_isSo 12 = .ok (.iadd, 1) := gg170.2.2.2.2.2.2.2.2.1
theorem dX6_isSo_13 : decode cX6_isSo 13 = .ok (.invokestatic 24, 3) := gg170.2.2.2.2.2.2.2.2.2
theorem gg171 : decode cX6_isSo 16 = .ok (.i2l, 1) ∧ decode cX6_isSo 17 = .ok (.invokevirtual 30, 3) ∧ decode cX6_isSo 20 = .ok (.aload_n 0, 1) ∧ decode cX6_isSo 21 = .ok (.getfield 13, 3) ∧ decode cX6_isSo 24 = .ok (.iload_n 1, 1) ∧ decode cX6_isSo 25 = .ok (.iaload, 1) ∧ decode cX6_isSo 26 = .ok (.if_icmp .ne 7, 3) ∧ decode cX6_isSo 29 = .ok (.iconst 1, 1) ∧ decode cX6_isSo 30 = .ok (.goto 4, 3) ∧ decode cX6_isSo 33 = .ok (.iconst 0, 1) := by decide +kernel
theorem dX6_isSo_16 : decode cX6_isSo 16 = .ok (.i2l, 1) := gg171.1
theorem dX6_isSo_17 : decode cX6_isSo 17 = .ok (.invokevirtual 30, 3) := gg171.2.1
theorem dX6_isSo_20 : decode cX6_isSo 20 = .ok (.aload_n 0, 1) := gg171.2.2.1
theorem dX6_isSo_21 : decode cX6_isSo 21 = .ok (.getfield 13, 3) := gg171.2.2.2.1
theorem dX6_isSo_24 : decode cX6_isSo 24 = .ok (.iload_n 1, 1) := gg171.2.2.2.2.1
theorem dX6_isSo_25 : decode cX6_isSo 25 = .ok (.iaload, 1) := gg171.2.2.2.2.2.1
theorem dX6_isSo_26 : decode cX6_isSo 26 = .ok (.if_icmp .ne 7, 3) := gg171.2.2.2.2.2.2.1
theorem dX6_isSo_29 : decode cX6_isSo 29 = .ok (.iconst 1, 1) := gg171.2.2.2.2.2.2.2.1
theorem dX6_isSo_30 : decode cX6_isSo 30 = .ok (.goto 4, 3) := gg171.2.2.2.2.2.2.2.2.1
theorem dX6_isSo_33 : decode cX6_isSo 33 = .ok (.iconst 0, 1) := gg171.2.2.2.2.2.2.2.2.2
theorem dX6_isSo_34 : decode cX6_isSo 34 = .ok (.ireturn, 1) := by decide +kernel
theorem gg173 : decode cX6_forgedBits 0 = .ok (.iconst 0, 1) ∧ decode cX6_forgedBits 1 = .ok (.istore_n 1, 1) ∧ decode cX6_forgedBits 2 = .ok (.iconst 0, 1) ∧ decode cX6_forgedBits 3 = .ok (.istore_n 2, 1) ∧ decode cX6_forgedBits 4 = .ok (.iload_n 2, 1) ∧ decode cX6_forgedBits 5 = .ok (.aload_n 0, 1) ∧ decode cX6_forgedBits 6 = .ok (.getfield 20, 3) ∧ decode cX6_forgedBits 9 = .ok (.if_icmp .ge 30, 3) ∧ decode cX6_forgedBits 12 = .ok (.iload_n 2, 1) ∧ decode cX6_forgedBits 13 = .ok (.bipush 10, 2) := by decide +kernel
theorem dX6_forgedBits_0 : decode cX6_forgedBits 0 = .ok (.iconst 0, 1) := gg173.1
theorem dX6_forgedBits_1 : decode cX6_forgedBits 1 = .ok (.istore_n 1, 1) := gg173.2.1
theorem dX6_forgedBits_2 : decode cX6_forgedBits 2 = .ok (.iconst 0, 1) := gg173.2.2.1
theorem dX6_forgedBits_3 : decode cX6_forgedBits 3 = .ok (.istore_n 2, 1) := gg173.2.2.2.1
theorem dX6_forgedBits_4 : decode cX6_forgedBits 4 = .ok (.iload_n 2, 1) := gg173.2.2.2.2.1
theorem dX6_forgedBits_5 : decode cX6_forgedBits 5 = .ok (.aload_n 0, 1) := gg173.2.2.2.2.2.1
theorem dX6_forgedBits_6 : decode cX6_forgedBits 6 = .ok (.getfield 20, 3) := gg173.2.2.2.2.2.2.1
theorem dX6_forgedBits_9 : decode cX6_forgedBits 9 = .ok (.if_icmp .ge 30, 3) := gg173.2.2.2.2.2.2.2.1
theorem dX6_forgedBits_12 : decode cX6_forgedBits 12 = .ok (.iload_n 2, 1) := gg173.2.2.2.2.2.2.2.2.1
theorem dX6_forgedBits_13 : decode cX6_forgedBits 13 = .ok (.bipush 10, 2) := gg173.2.2.2.2.2.2.2.2.2
theorem gg174 : decode cX6_forgedBits 15 = .ok (.if_icmp .ge 24, 3) ∧ decode cX6_forgedBits 18 = .ok (.aload_n 0, 1) ∧ decode cX6_forgedBits 19 = .ok (.iload_n 2, 1) ∧ decode cX6_forgedBits 20 = .ok (.iconst 0, 1) ∧ decode cX6_forgedBits 21 = .ok (.invokevirtual 36, 3) ∧ decode cX6_forgedBits 24 = .ok (.ifCond .ne 9, 3) ∧ decode cX6_forgedBits 27 = .ok (.iload_n 1, 1) ∧ decode cX6_forgedBits 28 = .ok (.iconst 1, 1) ∧ decode cX6_forgedBits 29 = .ok (.iload_n 2, 1) ∧ decode cX6_forgedBits 30 = .ok (.ishl, 1) := by decide +kernel
theorem dX6_forgedBits_15 : decode cX6_forgedBits 15 = .ok (.if_icmp .ge 24, 3) := gg174.1
theorem dX6_forgedBits_18 : decode cX6_forgedBits 18 = .ok (.aload_n 0, 1) := gg174.2.1
theorem dX6_forgedBits_19 : decode cX6_forgedBits 19 = .ok (.iload_n 2, 1) := gg174.2.2.1
theorem dX6_forgedBits_20 : decode cX6_forgedBits 20 = .ok (.iconst 0, 1) := gg174.2.2.2.1
theorem dX6_forgedBits_21 : decode cX6_forgedBits 21 = .ok (.invokevirtual 36, 3) := gg174.2.2.2.2.1
theorem dX6_forgedBits_24 : decode cX6_forgedBits 24 = .ok (.ifCond .ne 9, 3) := gg174.2.2.2.2.2.1
theorem dX6_forgedBits_27 : decode cX6_forgedBits 27 = .ok (.iload_n 1, 1) := gg174.2.2.2.2.2.2.1
theorem dX6_forgedBits_28 : decode cX6_forgedBits 28 = .ok (.iconst 1, 1) := gg174.2.2.2.2.2.2.2.1
theorem dX6_forgedBits_29 : decode cX6_forgedBits 29 = .ok (.iload_n 2, 1) := gg174.2.2.2.2.2.2.2.2.1
theorem dX6_forgedBits_30 : decode cX6_forgedBits 30 = .ok (.ishl, 1) := gg174.2.2.2.2.2.2.2.2.2
theorem gg175 : decode cX6_forgedBits 31 = .ok (.ior, 1) ∧ decode cX6_forgedBits 32 = .ok (.istore_n 1, 1) ∧ decode cX6_forgedBits 33 = .ok (.iinc 2 1, 3) ∧ decode cX6_forgedBits 36 = .ok (.goto (-32), 3) ∧ decode cX6_forgedBits 39 = .ok (.iload_n 1, 1) ∧ decode cX6_forgedBits 40 = .ok (.ireturn, 1) := by decide +kernel
theorem dX6_forgedBits_31 : decode cX6_forgedBits 31 = .ok (.ior, 1) := gg175.1
theorem dX6_forgedBits_32 : decode cX6_forgedBits 32 = .ok (.istore_n 1, 1) := gg175.2.1
theorem dX6_forgedBits_33 : decode cX6_forgedBits 33 = .ok (.iinc 2 1, 3) := gg175.2.2.1
theorem dX6_forgedBits_36 : decode cX6_forgedBits 36 = .ok (.goto (-32), 3) := gg175.2.2.2.1
theorem dX6_forgedBits_39 : decode cX6_forgedBits 39 = .ok (.iload_n 1, 1) := gg175.2.2.2.2.1
theorem dX6_forgedBits_40 : decode cX6_forgedBits 40 = .ok (.ireturn, 1) := gg175.2.2.2.2.2
theorem gg176 : decode cX6_linesSo 0 = .ok (.iconst 0, 1) ∧ decode cX6_linesSo 1 = .ok (.istore_n 2, 1) ∧ decode cX6_linesSo 2 = .ok (.iconst 0, 1) ∧ decode cX6_linesSo 3 = .ok (.istore_n 3, 1) ∧ decode cX6_linesSo 4 = .ok (.iload_n 3, 1) ∧ decode cX6_linesSo 5 = .ok (.aload_n 0, 1) ∧ decode cX6_linesSo 6 = .ok (.getfield 20, 3) ∧ decode cX6_linesSo 9 = .ok (.if_icmp .ge 27, 3) ∧ decode cX6_linesSo 12 = .ok (.iload_n 3, 1) ∧ decode cX6_linesSo 13 = .ok (.bipush 10, 2) := by decide +kernel
theorem dX6_linesSo_0 : decode cX6_linesSo 0 = .ok (.iconst 0, 1) := gg176.1
theorem dX6_linesSo_1 : decode cX6_linesSo 1 = .ok (.istore_n 2, 1) := gg176.2.1
theorem dX6_linesSo_2 : decode cX6_linesSo 2 = .ok (.iconst 0, 1) := gg176.2.2.1
theorem dX6_linesSo_3 : decode cX6_linesSo 3 = .ok (.istore_n 3, 1) := gg176.2.2.2.1
theorem dX6_linesSo_4 : decode cX6_linesSo 4 = .ok (.iload_n 3, 1) := gg176.2.2.2.2.1
theorem dX6_linesSo_5 : decode cX6_linesSo 5 = .ok (.aload_n 0, 1) := gg176.2.2.2.2.2.1
theorem dX6_linesSo_6 : decode cX6_linesSo 6 = .ok (.getfield 20, 3) := gg176.2.2.2.2.2.2.1
theorem dX6_linesSo_9 : decode cX6_linesSo 9 = .ok (.if_icmp .ge 27, 3) := gg176.2.2.2.2.2.2.2.1
theorem dX6_linesSo_12 : decode cX6_linesSo 12 = .ok (.iload_n 3, 1) := gg176.2.2.2.2.2.2.2.2.1
theorem dX6_linesSo_13 : decode cX6_linesSo 13 = .ok (.bipush 10, 2) := gg176.2.2.2.2.2.2.2.2.2
theorem gg177 : decode cX6_linesSo 15 = .ok (.if_icmp .ge 21, 3) ∧ decode cX6_linesSo 18 = .ok (.aload_n 0, 1) ∧ decode cX6_linesSo 19 = .ok (.iload_n 3, 1) ∧ decode cX6_linesSo 20 = .ok (.iload_n 1, 1) ∧ decode cX6_linesSo 21 = .ok (.invokevirtual 36, 3) ∧ decode cX6_linesSo 24 = .ok (.ifCond .eq 6, 3) ∧ decode cX6_linesSo 27 = .ok (.iinc 2 1, 3) ∧ decode cX6_linesSo 30 = .ok (.iinc 3 1, 3) ∧ decode cX6_linesSo 33 = .ok (.goto (-29), 3) ∧ decode cX6_linesSo 36 = .ok (.iload_n 2, 1) := by decide +kernel
theorem dX6_linesSo_15 : decode cX6_linesSo 15 = .ok (.if_icmp .ge 21, 3) := gg177.1
theorem dX6_linesSo_18 : decode cX6_linesSo 18 = .ok (.aload_n 0, 1) := gg177.2.1
theorem dX6_linesSo_19 : decode cX6_linesSo 19 = .ok (.iload_n 3, 1) := gg177.2.2.1
theorem dX6_linesSo_20 : decode cX6_linesSo 20 = .ok (.iload_n 1, 1) := gg177.2.2.2.1
theorem dX6_linesSo_21 : decode cX6_linesSo 21 = .ok (.invokevirtual 36, 3) := gg177.2.2.2.2.1
theorem dX6_linesSo_24 : decode cX6_linesSo 24 = .ok (.ifCond .eq 6, 3) := gg177.2.2.2.2.2.1
theorem dX6_linesSo_27 : decode cX6_linesSo 27 = .ok (.iinc 2 1, 3) := gg177.2.2.2.2.2.2.1
theorem dX6_linesSo_30 : decode cX6_linesSo 30 = .ok (.iinc 3 1, 3) := gg177.2.2.2.2.2.2.2.1
theorem dX6_linesSo_33 : decode cX6_linesSo 33 = .ok (.goto (-29), 3) := gg177.2.2.2.2.2.2.2.2.1
theorem dX6_linesSo_36 : decode cX6_linesSo 36 = .ok (.iload_n 2, 1) := gg177.2.2.2.2.2.2.2.2.2
theorem dX6_linesSo_37 : decode cX6_linesSo 37 = .ok (.ireturn, 1) := by decide +kernel
theorem gg179 : decode cX6_bestShift 0 = .ok (.iconst 0, 1) ∧ decode cX6_bestShift 1 = .ok (.istore_n 1, 1) ∧ decode cX6_bestShift 2 = .ok (.aload_n 0, 1) ∧ decode cX6_bestShift 3 = .ok (.iconst 0, 1) ∧ decode cX6_bestShift 4 = .ok (.invokevirtual 40, 3) ∧ decode cX6_bestShift 7 = .ok (.istore_n 2, 1) ∧ decode cX6_bestShift 8 = .ok (.iconst 1, 1) ∧ decode cX6_bestShift 9 = .ok (.istore_n 3, 1) ∧ decode cX6_bestShift 10 = .ok (.iload_n 3, 1) ∧ decode cX6_bestShift 11 = .ok (.bipush 30, 2) := by decide +kernel
theorem dX6_bestShift_0 : decode cX6_bestShift 0 = .ok (.iconst 0, 1) := gg179.1
theorem dX6_bestShift_1 : decode cX6_bestShift 1 = .ok (.istore_n 1, 1) := gg179.2.1
theorem dX6_bestShift_2 : decode cX6_bestShift 2 = .ok (.aload_n 0, 1) := gg179.2.2.1
theorem dX6_bestShift_3 : decode cX6_bestShift 3 = .ok (.iconst 0, 1) := gg179.2.2.2.1
theorem dX6_bestShift_4 : decode cX6_bestShift 4 = .ok (.invokevirtual 40, 3) := gg179.2.2.2.2.1
theorem dX6_bestShift_7 : decode cX6_bestShift 7 = .ok (.istore_n 2, 1) := gg179.2.2.2.2.2.1
theorem dX6_bestShift_8 : decode cX6_bestShift 8 = .ok (.iconst 1, 1) := gg179.2.2.2.2.2.2.1
theorem dX6_bestShift_9 : decode cX6_bestShift 9 = .ok (.istore_n 3, 1) := gg179.2.2.2.2.2.2.2.1
theorem dX6_bestShift_10 : decode cX6_bestShift 10 = .ok (.iload_n 3, 1) := gg179.2.2.2.2.2.2.2.2.1
theorem dX6_bestShift_11 : decode cX6_bestShift 11 = .ok (.bipush 30, 2) := gg179.2.2.2.2.2.2.2.2.2
theorem gg180 : decode cX6_bestShift 13 = .ok (.if_icmp .gt 50, 3) ∧ decode cX6_bestShift 16 = .ok (.iload_n 3, 1) ∧ decode cX6_bestShift 17 = .ok (.ineg, 1) ∧ decode cX6_bestShift 18 = .ok (.istore 4, 2) ∧ decode cX6_bestShift 20 = .ok (.iload 4, 2) ∧ decode cX6_bestShift 22 = .ok (.iload_n 3, 1) ∧ decode cX6_bestShift 23 = .ok (.if_icmp .gt 34, 3) ∧ decode cX6_bestShift 26 = .ok (.aload_n 0, 1) ∧ decode cX6_bestShift 27 = .ok (.iload 4, 2) ∧ decode cX6_bestShift 29 = .ok (.invokevirtual 40, 3) := by decide +kernel
theorem dX6_bestShift_13 : decode cX6_bestShift 13 = .ok (.if_icmp .gt 50, 3) := gg180.1
theorem dX6_bestShift_16 : decode cX6_bestShift 16 = .ok (.iload_n 3, 1) := gg180.2.1
theorem dX6_bestShift_17 : decode cX6_bestShift 17 = .ok (.ineg, 1) := gg180.2.2.1
theorem dX6_bestShift_18 : decode cX6_bestShift 18 = .ok (.istore 4, 2) := gg180.2.2.2.1
theorem dX6_bestShift_20 : decode cX6_bestShift 20 = .ok (.iload 4, 2) := gg180.2.2.2.2.1
theorem dX6_bestShift_22 : decode cX6_bestShift 22 = .ok (.iload_n 3, 1) := gg180.2.2.2.2.2.1
theorem dX6_bestShift_23 : decode cX6_bestShift 23 = .ok (.if_icmp .gt 34, 3) := gg180.2.2.2.2.2.2.1
theorem dX6_bestShift_26 : decode cX6_bestShift 26 = .ok (.aload_n 0, 1) := gg180.2.2.2.2.2.2.2.1
theorem dX6_bestShift_27 : decode cX6_bestShift 27 = .ok (.iload 4, 2) := gg180.2.2.2.2.2.2.2.2.1
theorem dX6_bestShift_29 : decode cX6_bestShift 29 = .ok (.invokevirtual 40, 3) := gg180.2.2.2.2.2.2.2.2.2
theorem gg181 : decode cX6_bestShift 32 = .ok (.istore 5, 2) ∧ decode cX6_bestShift 34 = .ok (.iload 5, 2) ∧ decode cX6_bestShift 36 = .ok (.iload_n 2, 1) ∧ decode cX6_bestShift 37 = .ok (.if_icmp .le 9, 3) ∧ decode cX6_bestShift 40 = .ok (.iload 5, 2) ∧ decode cX6_bestShift 42 = .ok (.istore_n 2, 1) ∧ decode cX6_bestShift 43 = .ok (.iload 4, 2) ∧ decode cX6_bestShift 45 = .ok (.istore_n 1, 1) ∧ decode cX6_bestShift 46 = .ok (.iload 4, 2) ∧ decode cX6_bestShift 48 = .ok (.iconst 2, 1) := by decide +kernel
theorem dX6_bestShift_32 : decode cX6_bestShift 32 = .ok (.istore 5, 2) := gg181.1
theorem dX6_bestShift_34 : decode cX6_bestShift 34 = .ok (.iload 5, 2) := gg181.2.1
theorem dX6_bestShift_36 : decode cX6_bestShift 36 = .ok (.iload_n 2, 1) := gg181.2.2.1
theorem dX6_bestShift_37 : decode cX6_bestShift 37 = .ok (.if_icmp .le 9, 3) := gg181.2.2.2.1
theorem dX6_bestShift_40 : decode cX6_bestShift 40 = .ok (.iload 5, 2) := gg181.2.2.2.2.1
theorem dX6_bestShift_42 : decode cX6_bestShift 42 = .ok (.istore_n 2, 1) := gg181.2.2.2.2.2.1
theorem dX6_bestShift_43 : decode cX6_bestShift 43 = .ok (.iload 4, 2) := gg181.2.2.2.2.2.2.1
theorem dX6_bestShift_45 : decode cX6_bestShift 45 = .ok (.istore_n 1, 1) := gg181.2.2.2.2.2.2.2.1
theorem dX6_bestShift_46 : decode cX6_bestShift 46 = .ok (.iload 4, 2) := gg181.2.2.2.2.2.2.2.2.1
theorem dX6_bestShift_48 : decode cX6_bestShift 48 = .ok (.iconst 2, 1) := gg181.2.2.2.2.2.2.2.2.2
theorem gg182 : decode cX6_bestShift 49 = .ok (.iload_n 3, 1) ∧ decode cX6_bestShift 50 = .ok (.imul, 1) ∧ decode cX6_bestShift 51 = .ok (.iadd, 1) ∧ decode cX6_bestShift 52 = .ok (.istore 4, 2) ∧ decode cX6_bestShift 54 = .ok (.goto (-34), 3) ∧ decode cX6_bestShift 57 = .ok (.iinc 3 1, 3) ∧ decode cX6_bestShift 60 = .ok (.goto (-50), 3) ∧ decode cX6_bestShift 63 = .ok (.iload_n 1, 1) ∧ decode cX6_bestShift 64 = .ok (.ireturn, 1) := by decide +kernel
theorem dX6_bestShift_49 : decode cX6_bestShift 49 = .ok (.iload_n 3, 1) := gg182.1
theorem dX6_bestShift_50 : decode cX6_bestShift 50 = .ok (.imul, 1) := gg182.2.1
theorem dX6_bestShift_51 : decode cX6_bestShift 51 = .ok (.iadd, 1) := gg182.2.2.1
theorem dX6_bestShift_52 : decode cX6_bestShift 52 = .ok (.istore 4, 2) := gg182.2.2.2.1
theorem dX6_bestShift_54 : decode cX6_bestShift 54 = .ok (.goto (-34), 3) := gg182.2.2.2.2.1
theorem dX6_bestShift_57 : decode cX6_bestShift 57 = .ok (.iinc 3 1, 3) := gg182.2.2.2.2.2.1
theorem dX6_bestShift_60 : decode cX6_bestShift 60 = .ok (.goto (-50), 3) := gg182.2.2.2.2.2.2.1
theorem dX6_bestShift_63 : decode cX6_bestShift 63 = .ok (.iload_n 1, 1) := gg182.2.2.2.2.2.2.2.1
theorem dX6_bestShift_64 : decode cX6_bestShift 64 = .ok (.ireturn, 1) := gg182.2.2.2.2.2.2.2.2
theorem gg183 : decode cX7_init 0 = .ok (.aload_n 0, 1) ∧ decode cX7_init 1 = .ok (.invokespecial 1, 3) ∧ decode cX7_init 4 = .ok (.aload_n 0, 1) ∧ decode cX7_init 5 = .ok (.new 7, 3) ∧ decode cX7_init 8 = .ok (.dup, 1) ∧ decode cX7_init 9 = .ok (.invokespecial 9, 3) ∧ decode cX7_init 12 = .ok (.putfield 10, 3) ∧ decode cX7_init 15 = .ok (.aload_n 0, 1) ∧ decode cX7_init 16 = .ok (.new 16, 3) ∧ decode cX7_init 19 = .ok (.dup, 1) := by decide +kernel
theorem dX7_init_0 : decode cX7_init 0 = .ok (.aload_n 0, 1) := gg183.1
theorem dX7_init_1 : decode cX7_init 1 = .ok (.invokespecial 1, 3) := gg183.2.1
theorem dX7_init_4 : decode cX7_init 4 = .ok (.aload_n 0, 1) := gg183.2.2.1
theorem dX7_init_5 : decode cX7_init 5 = .ok (.new 7, 3) := gg183.2.2.2.1
theorem dX7_init_8 : decode cX7_init 8 = .ok (.dup, 1) := gg183.2.2.2.2.1
theorem dX7_init_9 : decode cX7_init 9 = .ok (.invokespecial 9, 3) := gg183.2.2.2.2.2.1
theorem dX7_init_12 : decode cX7_init 12 = .ok (.putfield 10, 3) := gg183.2.2.2.2.2.2.1
theorem dX7_init_15 : decode cX7_init 15 = .ok (.aload_n 0, 1) := gg183.2.2.2.2.2.2.2.1
theorem dX7_init_16 : decode cX7_init 16 = .ok (.new 16, 3) := gg183.2.2.2.2.2.2.2.2.1
theorem dX7_init_19 : decode cX7_init 19 = .ok (.dup, 1) := gg183.2.2.2.2.2.2.2.2.2
theorem gg184 : decode cX7_init 20 = .ok (.invokespecial 18, 3) ∧ decode cX7_init 23 = .ok (.putfield 19, 3) ∧ decode cX7_init 26 = .ok (.aload_n 0, 1) ∧ decode cX7_init 27 = .ok (.new 16, 3) ∧ decode cX7_init 30 = .ok (.dup, 1) ∧ decode cX7_init 31 = .ok (.invokespecial 18, 3) ∧ decode cX7_init 34 = .ok (.putfield 23, 3) ∧ decode cX7_init 37 = .ok (.aload_n 0, 1) ∧ decode cX7_init 38 = .ok (.new 26, 3) ∧ decode cX7_init 41 = .ok (.dup, 1) := by decide +kernel
theorem dX7_init_20 : decode cX7_init 20 = .ok (.invokespecial 18, 3) := gg184.1
theorem dX7_init_23 : decode cX7_init 23 = .ok (.putfield 19, 3) := gg184.2.1
theorem dX7_init_26 : decode cX7_init 26 = .ok (.aload_n 0, 1) := gg184.2.2.1
theorem dX7_init_27 : decode cX7_init 27 = .ok (.new 16, 3) := gg184.2.2.2.1
theorem dX7_init_30 : decode cX7_init 30 = .ok (.dup, 1) := gg184.2.2.2.2.1
theorem dX7_init_31 : decode cX7_init 31 = .ok (.invokespecial 18, 3) := gg184.2.2.2.2.2.1
theorem dX7_init_34 : decode cX7_init 34 = .ok (.putfield 23, 3) := gg184.2.2.2.2.2.2.1
theorem dX7_init_37 : decode cX7_init 37 = .ok (.aload_n 0, 1) := gg184.2.2.2.2.2.2.2.1
theorem dX7_init_38 : decode cX7_init 38 = .ok (.new 26, 3) := gg184.2.2.2.2.2.2.2.2.1
theorem dX7_init_41 : decode cX7_init 41 = .ok (.dup, 1) := gg184.2.2.2.2.2.2.2.2.2
theorem gg185 : decode cX7_init 42 = .ok (.invokespecial 28, 3) ∧ decode cX7_init 45 = .ok (.putfield 29, 3) ∧ decode cX7_init 48 = .ok (.aload_n 0, 1) ∧ decode cX7_init 49 = .ok (.new 33, 3) ∧ decode cX7_init 52 = .ok (.dup, 1) ∧ decode cX7_init 53 = .ok (.aload_n 0, 1) ∧ decode cX7_init 54 = .ok (.getfield 23, 3) ∧ decode cX7_init 57 = .ok (.aload_n 0, 1) ∧ decode cX7_init 58 = .ok (.getfield 29, 3) ∧ decode cX7_init 61 = .ok (.invokespecial 35, 3) := by decide +kernel
theorem dX7_init_42 : decode cX7_init 42 = .ok (.invokespecial 28, 3) := gg185.1
theorem dX7_init_45 : decode cX7_init 45 = .ok (.putfield 29, 3) := gg185.2.1
theorem dX7_init_48 : decode cX7_init 48 = .ok (.aload_n 0, 1) := gg185.2.2.1
theorem dX7_init_49 : decode cX7_init 49 = .ok (.new 33, 3) := gg185.2.2.2.1
theorem dX7_init_52 : decode cX7_init 52 = .ok (.dup, 1) := gg185.2.2.2.2.1
theorem dX7_init_53 : decode cX7_init 53 = .ok (.aload_n 0, 1) := gg185.2.2.2.2.2.1
theorem dX7_init_54 : decode cX7_init 54 = .ok (.getfield 23, 3) := gg185.2.2.2.2.2.2.1
theorem dX7_init_57 : decode cX7_init 57 = .ok (.aload_n 0, 1) := gg185.2.2.2.2.2.2.2.1
theorem dX7_init_58 : decode cX7_init 58 = .ok (.getfield 29, 3) := gg185.2.2.2.2.2.2.2.2.1
theorem dX7_init_61 : decode cX7_init 61 = .ok (.invokespecial 35, 3) := gg185.2.2.2.2.2.2.2.2.2
theorem gg186 : decode cX7_init 64 = .ok (.putfield 38, 3) ∧ decode cX7_init 67 = .ok (.aload_n 0, 1) ∧ decode cX7_init 68 = .ok (.new 42, 3) ∧ decode cX7_init 71 = .ok (.dup, 1) ∧ decode cX7_init 72 = .ok (.aload_n 0, 1) ∧ decode cX7_init 73 = .ok (.getfield 23, 3) ∧ decode cX7_init 76 = .ok (.aload_n 0, 1) ∧ decode cX7_init 77 = .ok (.getfield 29, 3) ∧ decode cX7_init 80 = .ok (.invokespecial 44, 3) ∧ decode cX7_init 83 = .ok (.putfield 45, 3) := by decide +kernel
theorem dX7_init_64 : decode cX7_init 64 = .ok (.putfield 38, 3) := gg186.1
theorem dX7_init_67 : decode cX7_init 67 = .ok (.aload_n 0, 1) := gg186.2.1
theorem dX7_init_68 : decode cX7_init 68 = .ok (.new 42, 3) := gg186.2.2.1
theorem dX7_init_71 : decode cX7_init 71 = .ok (.dup, 1) := gg186.2.2.2.1
theorem dX7_init_72 : decode cX7_init 72 = .ok (.aload_n 0, 1) := gg186.2.2.2.2.1
theorem dX7_init_73 : decode cX7_init 73 = .ok (.getfield 23, 3) := gg186.2.2.2.2.2.1
theorem dX7_init_76 : decode cX7_init 76 = .ok (.aload_n 0, 1) := gg186.2.2.2.2.2.2.1
theorem dX7_init_77 : decode cX7_init 77 = .ok (.getfield 29, 3) := gg186.2.2.2.2.2.2.2.1
theorem dX7_init_80 : decode cX7_init 80 = .ok (.invokespecial 44, 3) := gg186.2.2.2.2.2.2.2.2.1
theorem dX7_init_83 : decode cX7_init 83 = .ok (.putfield 45, 3) := gg186.2.2.2.2.2.2.2.2.2
theorem gg187 : decode cX7_init 86 = .ok (.aload_n 0, 1) ∧ decode cX7_init 87 = .ok (.new 49, 3) ∧ decode cX7_init 90 = .ok (.dup, 1) ∧ decode cX7_init 91 = .ok (.aload_n 0, 1) ∧ decode cX7_init 92 = .ok (.getfield 38, 3) ∧ decode cX7_init 95 = .ok (.invokespecial 51, 3) ∧ decode cX7_init 98 = .ok (.putfield 54, 3) ∧ decode cX7_init 101 = .ok (.aload_n 0, 1) ∧ decode cX7_init 102 = .ok (.new 58, 3) ∧ decode cX7_init 105 = .ok (.dup, 1) := by decide +kernel
theorem dX7_init_86 : decode cX7_init 86 = .ok (.aload_n 0, 1) := gg187.1
theorem dX7_init_87 : decode cX7_init 87 = .ok (.new 49, 3) := gg187.2.1
theorem dX7_init_90 : decode cX7_init 90 = .ok (.dup, 1) := gg187.2.2.1
theorem dX7_init_91 : decode cX7_init 91 = .ok (.aload_n 0, 1) := gg187.2.2.2.1
theorem dX7_init_92 : decode cX7_init 92 = .ok (.getfield 38, 3) := gg187.2.2.2.2.1
theorem dX7_init_95 : decode cX7_init 95 = .ok (.invokespecial 51, 3) := gg187.2.2.2.2.2.1
theorem dX7_init_98 : decode cX7_init 98 = .ok (.putfield 54, 3) := gg187.2.2.2.2.2.2.1
theorem dX7_init_101 : decode cX7_init 101 = .ok (.aload_n 0, 1) := gg187.2.2.2.2.2.2.2.1
theorem dX7_init_102 : decode cX7_init 102 = .ok (.new 58, 3) := gg187.2.2.2.2.2.2.2.2.1
theorem dX7_init_105 : decode cX7_init 105 = .ok (.dup, 1) := gg187.2.2.2.2.2.2.2.2.2
theorem gg188 : decode cX7_init 106 = .ok (.bipush 8, 2) ∧ decode cX7_init 108 = .ok (.invokespecial 60, 3) ∧ decode cX7_init 111 = .ok (.putfield 63, 3) ∧ decode cX7_init 114 = .ok (.aload_n 0, 1) ∧ decode cX7_init 115 = .ok (.new 58, 3) ∧ decode cX7_init 118 = .ok (.dup, 1) ∧ decode cX7_init 119 = .ok (.iconst 2, 1) ∧ decode cX7_init 120 = .ok (.invokespecial 60, 3) ∧ decode cX7_init 123 = .ok (.putfield 67, 3) ∧ decode cX7_init 126 = .ok (.aload_n 0, 1) := by decide +kernel
theorem dX7_init_106 : decode cX7_init 106 = .ok (.bipush 8, 2) := gg188.1
theorem dX7_init_108 : decode cX7_init 108 = .ok (.invokespecial 60, 3) := gg188.2.1
theorem dX7_init_111 : decode cX7_init 111 = .ok (.putfield 63, 3) := gg188.2.2.1
theorem dX7_init_114 : decode cX7_init 114 = .ok (.aload_n 0, 1) := gg188.2.2.2.1
theorem dX7_init_115 : decode cX7_init 115 = .ok (.new 58, 3) := gg188.2.2.2.2.1
theorem dX7_init_118 : decode cX7_init 118 = .ok (.dup, 1) := gg188.2.2.2.2.2.1
theorem dX7_init_119 : decode cX7_init 119 = .ok (.iconst 2, 1) := gg188.2.2.2.2.2.2.1
theorem dX7_init_120 : decode cX7_init 120 = .ok (.invokespecial 60, 3) := gg188.2.2.2.2.2.2.2.1
theorem dX7_init_123 : decode cX7_init 123 = .ok (.putfield 67, 3) := gg188.2.2.2.2.2.2.2.2.1
theorem dX7_init_126 : decode cX7_init 126 = .ok (.aload_n 0, 1) := gg188.2.2.2.2.2.2.2.2.2
theorem gg189 : decode cX7_init 127 = .ok (.bipush 8, 2) ∧ decode cX7_init 129 = .ok (.newarray .int, 2) ∧ decode cX7_init 131 = .ok (.putfield 70, 3) ∧ decode cX7_init 134 = .ok (.aload_n 0, 1) ∧ decode cX7_init 135 = .ok (.getfield 23, 3) ∧ decode cX7_init 138 = .ok (.invokevirtual 74, 3) ∧ decode cX7_init 141 = .ok (.aload_n 0, 1) ∧ decode cX7_init 142 = .ok (.getfield 29, 3) ∧ decode cX7_init 145 = .ok (.aload_n 0, 1) ∧ decode cX7_init 146 = .ok (.getfield 23, 3) := by decide +kernel
theorem dX7_init_127 : decode cX7_init 127 = .ok (.bipush 8, 2) := gg189.1
theorem dX7_init_129 : decode cX7_init 129 = .ok (.newarray .int, 2) := gg189.2.1
theorem dX7_init_131 : decode cX7_init 131 = .ok (.putfield 70, 3) := gg189.2.2.1
theorem dX7_init_134 : decode cX7_init 134 = .ok (.aload_n 0, 1) := gg189.2.2.2.1
theorem dX7_init_135 : decode cX7_init 135 = .ok (.getfield 23, 3) := gg189.2.2.2.2.1
theorem dX7_init_138 : decode cX7_init 138 = .ok (.invokevirtual 74, 3) := gg189.2.2.2.2.2.1
theorem dX7_init_141 : decode cX7_init 141 = .ok (.aload_n 0, 1) := gg189.2.2.2.2.2.2.1
theorem dX7_init_142 : decode cX7_init 142 = .ok (.getfield 29, 3) := gg189.2.2.2.2.2.2.2.1
theorem dX7_init_145 : decode cX7_init 145 = .ok (.aload_n 0, 1) := gg189.2.2.2.2.2.2.2.2.1
theorem dX7_init_146 : decode cX7_init 146 = .ok (.getfield 23, 3) := gg189.2.2.2.2.2.2.2.2.2
theorem gg190 : decode cX7_init 149 = .ok (.invokevirtual 77, 3) ∧ decode cX7_init 152 = .ok (.invokevirtual 81, 3) ∧ decode cX7_init 155 = .ok (.return_, 1) := by decide +kernel
theorem dX7_init_149 : decode cX7_init 149 = .ok (.invokevirtual 77, 3) := gg190.1
theorem dX7_init_152 : decode cX7_init 152 = .ok (.invokevirtual 81, 3) := gg190.2.1
theorem dX7_init_155 : decode cX7_init 155 = .ok (.return_, 1) := gg190.2.2
theorem gg191 : decode cX7_write 0 = .ok (.iload_n 1, 1) ∧ decode cX7_write 1 = .ok (.iconst 1, 1) ∧ decode cX7_write 2 = .ok (.if_icmp .lt 9, 3) ∧ decode cX7_write 5 = .ok (.iload_n 1, 1) ∧ decode cX7_write 6 = .ok (.bipush 8, 2) ∧ decode cX7_write 8 = .ok (.if_icmp .le 5, 3) ∧ decode cX7_write 11 = .ok (.iconst (-1), 1) ∧ decode cX7_write 12 = .ok (.ireturn, 1) ∧ decode cX7_write 13 = .ok (.aload_n 0, 1) ∧ decode cX7_write 14 = .ok (.getfield 10, 3) := by decide +kernel
theorem dX7_write_0 : decode cX7_write 0 = .ok (.iload_n 1, 1) := gg191.1
theorem dX7_write_1 : decode cX7_write 1 = .ok (.iconst 1, 1) := gg191.2.1
theorem dX7_write_2 : decode cX7_write 2 = .ok (.if_icmp .lt 9, 3) := gg191.2.2.1
theorem dX7_write_5 : decode cX7_write 5 = .ok (.iload_n 1, 1) := gg191.2.2.2.1
theorem dX7_write_6 : decode cX7_write 6 = .ok (.bipush 8, 2) := gg191.2.2.2.2.1
theorem dX7_write_8 : decode cX7_write 8 = .ok (.if_icmp .le 5, 3) := gg191.2.2.2.2.2.1
theorem dX7_write_11 : decode cX7_write 11 = .ok (.iconst (-1), 1) := gg191.2.2.2.2.2.2.1
theorem dX7_write_12 : decode cX7_write 12 = .ok (.ireturn, 1) := gg191.2.2.2.2.2.2.2.1
theorem dX7_write_13 : decode cX7_write 13 = .ok (.aload_n 0, 1) := gg191.2.2.2.2.2.2.2.2.1
theorem dX7_write_14 : decode cX7_write 14 = .ok (.getfield 10, 3) := gg191.2.2.2.2.2.2.2.2.2
theorem gg192 : decode cX7_write 17 = .ok (.iload_n 1, 1) ∧ decode cX7_write 18 = .ok (.lload_n 2, 1) ∧ decode cX7_write 19 = .ok (.invokevirtual 84, 3) ∧ decode cX7_write 22 = .ok (.ifCond .eq 13, 3) ∧ decode cX7_write 25 = .ok (.aload_n 0, 1) ∧ decode cX7_write 26 = .ok (.getfield 10, 3) ∧ decode cX7_write 29 = .ok (.getfield 88, 3) ∧ decode cX7_write 32 = .ok (.goto 5, 3) ∧ decode cX7_write 35 = .ok (.bipush (-3), 2) ∧ decode cX7_write 37 = .ok (.ireturn, 1) := by decide +kernel
theorem dX7_write_17 : decode cX7_write 17 = .ok (.iload_n 1, 1) := gg192.1
theorem dX7_write_18 : decode cX7_write 18 = .ok (.lload_n 2, 1) := gg192.2.1
theorem dX7_write_19 : decode cX7_write 19 = .ok (.invokevirtual 84, 3) := gg192.2.2.1
theorem dX7_write_22 : decode cX7_write 22 = .ok (.ifCond .eq 13, 3) := gg192.2.2.2.1
theorem dX7_write_25 : decode cX7_write 25 = .ok (.aload_n 0, 1) := gg192.2.2.2.2.1
theorem dX7_write_26 : decode cX7_write 26 = .ok (.getfield 10, 3) := gg192.2.2.2.2.2.1
theorem dX7_write_29 : decode cX7_write 29 = .ok (.getfield 88, 3) := gg192.2.2.2.2.2.2.1
theorem dX7_write_32 : decode cX7_write 32 = .ok (.goto 5, 3) := gg192.2.2.2.2.2.2.2.1
theorem dX7_write_35 : decode cX7_write 35 = .ok (.bipush (-3), 2) := gg192.2.2.2.2.2.2.2.2.1
theorem dX7_write_37 : decode cX7_write 37 = .ok (.ireturn, 1) := gg192.2.2.2.2.2.2.2.2.2
theorem gg193 : decode cX7_wipe 0 = .ok (.aload_n 0, 1) ∧ decode cX7_wipe 1 = .ok (.getfield 10, 3) ∧ decode cX7_wipe 4 = .ok (.getfield 88, 3) ∧ decode cX7_wipe 7 = .ok (.istore_n 1, 1) ∧ decode cX7_wipe 8 = .ok (.aload_n 0, 1) ∧ decode cX7_wipe 9 = .ok (.getfield 10, 3) ∧ decode cX7_wipe 12 = .ok (.iconst 0, 1) ∧ decode cX7_wipe 13 = .ok (.putfield 88, 3) ∧ decode cX7_wipe 16 = .ok (.iload_n 1, 1) ∧ decode cX7_wipe 17 = .ok (.ireturn, 1) := by decide +kernel
theorem dX7_wipe_0 : decode cX7_wipe 0 = .ok (.aload_n 0, 1) := gg193.1
theorem dX7_wipe_1 : decode cX7_wipe 1 = .ok (.getfield 10, 3) := gg193.2.1
theorem dX7_wipe_4 : decode cX7_wipe 4 = .ok (.getfield 88, 3) := gg193.2.2.1
theorem dX7_wipe_7 : decode cX7_wipe 7 = .ok (.istore_n 1, 1) := gg193.2.2.2.1
theorem dX7_wipe_8 : decode cX7_wipe 8 = .ok (.aload_n 0, 1) := gg193.2.2.2.2.1
theorem dX7_wipe_9 : decode cX7_wipe 9 = .ok (.getfield 10, 3) := gg193.2.2.2.2.2.1
theorem dX7_wipe_12 : decode cX7_wipe 12 = .ok (.iconst 0, 1) := gg193.2.2.2.2.2.2.1
theorem dX7_wipe_13 : decode cX7_wipe 13 = .ok (.putfield 88, 3) := gg193.2.2.2.2.2.2.2.1
theorem dX7_wipe_16 : decode cX7_wipe 16 = .ok (.iload_n 1, 1) := gg193.2.2.2.2.2.2.2.2.1
theorem dX7_wipe_17 : decode cX7_wipe 17 = .ok (.ireturn, 1) := gg193.2.2.2.2.2.2.2.2.2
theorem gg194 : decode cX7_fault 0 = .ok (.aload_n 0, 1) ∧ decode cX7_fault 1 = .ok (.getfield 10, 3) ∧ decode cX7_fault 4 = .ok (.aload_n 0, 1) ∧ decode cX7_fault 5 = .ok (.getfield 19, 3) ∧ decode cX7_fault 8 = .ok (.invokevirtual 92, 3) ∧ decode cX7_fault 11 = .ok (.ireturn, 1) := by decide +kernel
theorem dX7_fault_0 : decode cX7_fault 0 = .ok (.aload_n 0, 1) := gg194.1
theorem dX7_fault_1 : decode cX7_fault 1 = .ok (.getfield 10, 3) := gg194.2.1
theorem dX7_fault_4 : decode cX7_fault 4 = .ok (.aload_n 0, 1) := gg194.2.2.1
theorem dX7_fault_5 : decode cX7_fault 5 = .ok (.getfield 19, 3) := gg194.2.2.2.1
theorem dX7_fault_8 : decode cX7_fault 8 = .ok (.invokevirtual 92, 3) := gg194.2.2.2.2.1
theorem dX7_fault_11 : decode cX7_fault 11 = .ok (.ireturn, 1) := gg194.2.2.2.2.2
theorem gg195 : decode cX7_lay 0 = .ok (.aload_n 0, 1) ∧ decode cX7_lay 1 = .ok (.getfield 10, 3) ∧ decode cX7_lay 4 = .ok (.aload_n 0, 1) ∧ decode cX7_lay 5 = .ok (.getfield 19, 3) ∧ decode cX7_lay 8 = .ok (.invokevirtual 92, 3) ∧ decode cX7_lay 11 = .ok (.bipush (-4), 2) ∧ decode cX7_lay 13 = .ok (.if_icmp .ne 13, 3) ∧ decode cX7_lay 16 = .ok (.aload_n 0, 1) ∧ decode cX7_lay 17 = .ok (.getfield 19, 3) ∧ decode cX7_lay 20 = .ok (.getfield 96, 3) := by decide +kernel
theorem dX7_lay_0 : decode cX7_lay 0 = .ok (.aload_n 0, 1) := gg195.1
theorem dX7_lay_1 : decode cX7_lay 1 = .ok (.getfield 10, 3) := gg195.2.1
theorem dX7_lay_4 : decode cX7_lay 4 = .ok (.aload_n 0, 1) := gg195.2.2.1
theorem dX7_lay_5 : decode cX7_lay 5 = .ok (.getfield 19, 3) := gg195.2.2.2.1
theorem dX7_lay_8 : decode cX7_lay 8 = .ok (.invokevirtual 92, 3) := gg195.2.2.2.2.1
theorem dX7_lay_11 : decode cX7_lay 11 = .ok (.bipush (-4), 2) := gg195.2.2.2.2.2.1
theorem dX7_lay_13 : decode cX7_lay 13 = .ok (.if_icmp .ne 13, 3) := gg195.2.2.2.2.2.2.1
theorem dX7_lay_16 : decode cX7_lay 16 = .ok (.aload_n 0, 1) := gg195.2.2.2.2.2.2.2.1
theorem dX7_lay_17 : decode cX7_lay 17 = .ok (.getfield 19, 3) := gg195.2.2.2.2.2.2.2.2.1
theorem dX7_lay_20 : decode cX7_lay 20 = .ok (.getfield 96, 3) := gg195.2.2.2.2.2.2.2.2.2
theorem gg196 : decode cX7_lay 23 = .ok (.ifCond .ne 6, 3) ∧ decode cX7_lay 26 = .ok (.bipush (-2), 2) ∧ decode cX7_lay 28 = .ok (.ireturn, 1) ∧ decode cX7_lay 29 = .ok (.aload_n 0, 1) ∧ decode cX7_lay 30 = .ok (.getfield 23, 3) ∧ decode cX7_lay 33 = .ok (.aload_n 0, 1) ∧ decode cX7_lay 34 = .ok (.getfield 19, 3) ∧ decode cX7_lay 37 = .ok (.invokevirtual 99, 3) ∧ decode cX7_lay 40 = .ok (.aload_n 0, 1) ∧ decode cX7_lay 41 = .ok (.getfield 29, 3) := by decide +kernel
theorem dX7_lay_23 : decode cX7_lay 23 = .ok (.ifCond .ne 6, 3) := gg196.1
theorem dX7_lay_26 : decode cX7_lay 26 = .ok (.bipush (-2), 2) := gg196.2.1
theorem dX7_lay_28 : decode cX7_lay 28 = .ok (.ireturn, 1) := gg196.2.2.1
theorem dX7_lay_29 : decode cX7_lay 29 = .ok (.aload_n 0, 1) := gg196.2.2.2.1
theorem dX7_lay_30 : decode cX7_lay 30 = .ok (.getfield 23, 3) := gg196.2.2.2.2.1
theorem dX7_lay_33 : decode cX7_lay 33 = .ok (.aload_n 0, 1) := gg196.2.2.2.2.2.1
theorem dX7_lay_34 : decode cX7_lay 34 = .ok (.getfield 19, 3) := gg196.2.2.2.2.2.2.1
theorem dX7_lay_37 : decode cX7_lay 37 = .ok (.invokevirtual 99, 3) := gg196.2.2.2.2.2.2.2.1
theorem dX7_lay_40 : decode cX7_lay 40 = .ok (.aload_n 0, 1) := gg196.2.2.2.2.2.2.2.2.1
theorem dX7_lay_41 : decode cX7_lay 41 = .ok (.getfield 29, 3) := gg196.2.2.2.2.2.2.2.2.2
theorem gg197 : decode cX7_lay 44 = .ok (.aload_n 0, 1) ∧ decode cX7_lay 45 = .ok (.getfield 23, 3) ∧ decode cX7_lay 48 = .ok (.invokevirtual 77, 3) ∧ decode cX7_lay 51 = .ok (.invokevirtual 81, 3) ∧ decode cX7_lay 54 = .ok (.aload_n 0, 1) ∧ decode cX7_lay 55 = .ok (.iconst 0, 1) ∧ decode cX7_lay 56 = .ok (.putfield 103, 3) ∧ decode cX7_lay 59 = .ok (.aload_n 0, 1) ∧ decode cX7_lay 60 = .ok (.getfield 54, 3) ∧ decode cX7_lay 63 = .ok (.iconst 0, 1) := by decide +kernel
theorem dX7_lay_44 : decode cX7_lay 44 = .ok (.aload_n 0, 1) := gg197.1
theorem dX7_lay_45 : decode cX7_lay 45 = .ok (.getfield 23, 3) := gg197.2.1
theorem dX7_lay_48 : decode cX7_lay 48 = .ok (.invokevirtual 77, 3) := gg197.2.2.1
theorem dX7_lay_51 : decode cX7_lay 51 = .ok (.invokevirtual 81, 3) := gg197.2.2.2.1
theorem dX7_lay_54 : decode cX7_lay 54 = .ok (.aload_n 0, 1) := gg197.2.2.2.2.1
theorem dX7_lay_55 : decode cX7_lay 55 = .ok (.iconst 0, 1) := gg197.2.2.2.2.2.1
theorem dX7_lay_56 : decode cX7_lay 56 = .ok (.putfield 103, 3) := gg197.2.2.2.2.2.2.1
theorem dX7_lay_59 : decode cX7_lay 59 = .ok (.aload_n 0, 1) := gg197.2.2.2.2.2.2.2.1
theorem dX7_lay_60 : decode cX7_lay 60 = .ok (.getfield 54, 3) := gg197.2.2.2.2.2.2.2.2.1
theorem dX7_lay_63 : decode cX7_lay 63 = .ok (.iconst 0, 1) := gg197.2.2.2.2.2.2.2.2.2
theorem gg198 : decode cX7_lay 64 = .ok (.putfield 106, 3) ∧ decode cX7_lay 67 = .ok (.aload_n 0, 1) ∧ decode cX7_lay 68 = .ok (.getfield 63, 3) ∧ decode cX7_lay 71 = .ok (.invokevirtual 109, 3) ∧ decode cX7_lay 74 = .ok (.aload_n 0, 1) ∧ decode cX7_lay 75 = .ok (.getfield 67, 3) ∧ decode cX7_lay 78 = .ok (.invokevirtual 109, 3) ∧ decode cX7_lay 81 = .ok (.aload_n 0, 1) ∧ decode cX7_lay 82 = .ok (.getfield 23, 3) ∧ decode cX7_lay 85 = .ok (.getfield 96, 3) := by decide +kernel
theorem dX7_lay_64 : decode cX7_lay 64 = .ok (.putfield 106, 3) := gg198.1
theorem dX7_lay_67 : decode cX7_lay 67 = .ok (.aload_n 0, 1) := gg198.2.1
theorem dX7_lay_68 : decode cX7_lay 68 = .ok (.getfield 63, 3) := gg198.2.2.1
theorem dX7_lay_71 : decode cX7_lay 71 = .ok (.invokevirtual 109, 3) := gg198.2.2.2.1
theorem dX7_lay_74 : decode cX7_lay 74 = .ok (.aload_n 0, 1) := gg198.2.2.2.2.1
theorem dX7_lay_75 : decode cX7_lay 75 = .ok (.getfield 67, 3) := gg198.2.2.2.2.2.1
theorem dX7_lay_78 : decode cX7_lay 78 = .ok (.invokevirtual 109, 3) := gg198.2.2.2.2.2.2.1
theorem dX7_lay_81 : decode cX7_lay 81 = .ok (.aload_n 0, 1) := gg198.2.2.2.2.2.2.2.1
theorem dX7_lay_82 : decode cX7_lay 82 = .ok (.getfield 23, 3) := gg198.2.2.2.2.2.2.2.2.1
theorem dX7_lay_85 : decode cX7_lay 85 = .ok (.getfield 96, 3) := gg198.2.2.2.2.2.2.2.2.2
theorem dX7_lay_88 : decode cX7_lay 88 = .ok (.ireturn, 1) := by decide +kernel
theorem gg200 : decode cX7_act 0 = .ok (.aload_n 0, 1) ∧ decode cX7_act 1 = .ok (.iload_n 1, 1) ∧ decode cX7_act 2 = .ok (.invokevirtual 112, 3) ∧ decode cX7_act 5 = .ok (.ifCond .eq 12, 3) ∧ decode cX7_act 8 = .ok (.iload_n 2, 1) ∧ decode cX7_act 9 = .ok (.ifCond .lt 8, 3) ∧ decode cX7_act 12 = .ok (.iload_n 2, 1) ∧ decode cX7_act 13 = .ok (.iconst 5, 1) ∧ decode cX7_act 14 = .ok (.if_icmp .lt 5, 3) ∧ decode cX7_act 17 = .ok (.iconst (-1), 1) := by decide +kernel
theorem dX7_act_0 : decode cX7_act 0 = .ok (.aload_n 0, 1) := gg200.1
theorem dX7_act_1 : decode cX7_act 1 = .ok (.iload_n 1, 1) := gg200.2.1
theorem dX7_act_2 : decode cX7_act 2 = .ok (.invokevirtual 112, 3) := gg200.2.2.1
theorem dX7_act_5 : decode cX7_act 5 = .ok (.ifCond .eq 12, 3) := gg200.2.2.2.1
theorem dX7_act_8 : decode cX7_act 8 = .ok (.iload_n 2, 1) := gg200.2.2.2.2.1
theorem dX7_act_9 : decode cX7_act 9 = .ok (.ifCond .lt 8, 3) := gg200.2.2.2.2.2.1
theorem dX7_act_12 : decode cX7_act 12 = .ok (.iload_n 2, 1) := gg200.2.2.2.2.2.2.1
theorem dX7_act_13 : decode cX7_act 13 = .ok (.iconst 5, 1) := gg200.2.2.2.2.2.2.2.1
theorem dX7_act_14 : decode cX7_act 14 = .ok (.if_icmp .lt 5, 3) := gg200.2.2.2.2.2.2.2.2.1
theorem dX7_act_17 : decode cX7_act 17 = .ok (.iconst (-1), 1) := gg200.2.2.2.2.2.2.2.2.2
theorem gg201 : decode cX7_act 18 = .ok (.ireturn, 1) ∧ decode cX7_act 19 = .ok (.iload_n 2, 1) ∧ decode cX7_act 20 = .ok (.iconst 1, 1) ∧ decode cX7_act 21 = .ok (.if_icmp .ne 17, 3) ∧ decode cX7_act 24 = .ok (.aload_n 0, 1) ∧ decode cX7_act 25 = .ok (.getfield 29, 3) ∧ decode cX7_act 28 = .ok (.getfield 116, 3) ∧ decode cX7_act 31 = .ok (.iload_n 1, 1) ∧ decode cX7_act 32 = .ok (.invokestatic 119, 3) ∧ decode cX7_act 35 = .ok (.goto 12, 3) := by decide +kernel
theorem dX7_act_18 : decode cX7_act 18 = .ok (.ireturn, 1) := gg201.1
theorem dX7_act_19 : decode cX7_act 19 = .ok (.iload_n 2, 1) := gg201.2.1
theorem dX7_act_20 : decode cX7_act 20 = .ok (.iconst 1, 1) := gg201.2.2.1
theorem dX7_act_21 : decode cX7_act 21 = .ok (.if_icmp .ne 17, 3) := gg201.2.2.2.1
theorem dX7_act_24 : decode cX7_act 24 = .ok (.aload_n 0, 1) := gg201.2.2.2.2.1
theorem dX7_act_25 : decode cX7_act 25 = .ok (.getfield 29, 3) := gg201.2.2.2.2.2.1
theorem dX7_act_28 : decode cX7_act 28 = .ok (.getfield 116, 3) := gg201.2.2.2.2.2.2.1
theorem dX7_act_31 : decode cX7_act 31 = .ok (.iload_n 1, 1) := gg201.2.2.2.2.2.2.2.1
theorem dX7_act_32 : decode cX7_act 32 = .ok (.invokestatic 119, 3) := gg201.2.2.2.2.2.2.2.2.1
theorem dX7_act_35 : decode cX7_act 35 = .ok (.goto 12, 3) := gg201.2.2.2.2.2.2.2.2.2
theorem gg202 : decode cX7_act 38 = .ok (.aload_n 0, 1) ∧ decode cX7_act 39 = .ok (.getfield 23, 3) ∧ decode cX7_act 42 = .ok (.iload_n 1, 1) ∧ decode cX7_act 43 = .ok (.iload_n 2, 1) ∧ decode cX7_act 44 = .ok (.invokevirtual 123, 3) ∧ decode cX7_act 47 = .ok (.ireturn, 1) := by decide +kernel
theorem dX7_act_38 : decode cX7_act 38 = .ok (.aload_n 0, 1) := gg202.1
theorem dX7_act_39 : decode cX7_act 39 = .ok (.getfield 23, 3) := gg202.2.1
theorem dX7_act_42 : decode cX7_act 42 = .ok (.iload_n 1, 1) := gg202.2.2.1
theorem dX7_act_43 : decode cX7_act 43 = .ok (.iload_n 2, 1) := gg202.2.2.2.1
theorem dX7_act_44 : decode cX7_act 44 = .ok (.invokevirtual 123, 3) := gg202.2.2.2.2.1
theorem dX7_act_47 : decode cX7_act 47 = .ok (.ireturn, 1) := gg202.2.2.2.2.2
theorem gg203 : decode cX7_year 0 = .ok (.iload_n 1, 1) ∧ decode cX7_year 1 = .ok (.ifCond .lt 9, 3) ∧ decode cX7_year 4 = .ok (.iload_n 1, 1) ∧ decode cX7_year 5 = .ok (.bipush 99, 2) ∧ decode cX7_year 7 = .ok (.if_icmp .le 5, 3) ∧ decode cX7_year 10 = .ok (.iconst (-1), 1) ∧ decode cX7_year 11 = .ok (.ireturn, 1) ∧ decode cX7_year 12 = .ok (.aload_n 0, 1) ∧ decode cX7_year 13 = .ok (.getfield 29, 3) ∧ decode cX7_year 16 = .ok (.getfield 126, 3) := by decide +kernel
theorem dX7_year_0 : decode cX7_year 0 = .ok (.iload_n 1, 1) := gg203.1
theorem dX7_year_1 : decode cX7_year 1 = .ok (.ifCond .lt 9, 3) := gg203.2.1
theorem dX7_year_4 : decode cX7_year 4 = .ok (.iload_n 1, 1) := gg203.2.2.1
theorem dX7_year_5 : decode cX7_year 5 = .ok (.bipush 99, 2) := gg203.2.2.2.1
theorem dX7_year_7 : decode cX7_year 7 = .ok (.if_icmp .le 5, 3) := gg203.2.2.2.2.1
theorem dX7_year_10 : decode cX7_year 10 = .ok (.iconst (-1), 1) := gg203.2.2.2.2.2.1
theorem dX7_year_11 : decode cX7_year 11 = .ok (.ireturn, 1) := gg203.2.2.2.2.2.2.1
theorem dX7_year_12 : decode cX7_year 12 = .ok (.aload_n 0, 1) := gg203.2.2.2.2.2.2.2.1
theorem dX7_year_13 : decode cX7_year 13 = .ok (.getfield 29, 3) := gg203.2.2.2.2.2.2.2.2.1
theorem dX7_year_16 : decode cX7_year 16 = .ok (.getfield 126, 3) := gg203.2.2.2.2.2.2.2.2.2
theorem gg204 : decode cX7_year 19 = .ok (.istore_n 2, 1) ∧ decode cX7_year 20 = .ok (.aload_n 0, 1) ∧ decode cX7_year 21 = .ok (.getfield 29, 3) ∧ decode cX7_year 24 = .ok (.iload_n 1, 1) ∧ decode cX7_year 25 = .ok (.putfield 126, 3) ∧ decode cX7_year 28 = .ok (.iload_n 2, 1) ∧ decode cX7_year 29 = .ok (.ireturn, 1) := by decide +kernel
theorem dX7_year_19 : decode cX7_year 19 = .ok (.istore_n 2, 1) := gg204.1
theorem dX7_year_20 : decode cX7_year 20 = .ok (.aload_n 0, 1) := gg204.2.1
theorem dX7_year_21 : decode cX7_year 21 = .ok (.getfield 29, 3) := gg204.2.2.1
theorem dX7_year_24 : decode cX7_year 24 = .ok (.iload_n 1, 1) := gg204.2.2.2.1
theorem dX7_year_25 : decode cX7_year 25 = .ok (.putfield 126, 3) := gg204.2.2.2.2.1
theorem dX7_year_28 : decode cX7_year 28 = .ok (.iload_n 2, 1) := gg204.2.2.2.2.2.1
theorem dX7_year_29 : decode cX7_year 29 = .ok (.ireturn, 1) := gg204.2.2.2.2.2.2
theorem gg205 : decode cX7_rules 0 = .ok (.lload_n 1, 1) ∧ decode cX7_rules 1 = .ok (.invokestatic 129, 3) ∧ decode cX7_rules 4 = .ok (.ifCond .eq 14, 3) ∧ decode cX7_rules 7 = .ok (.aload_n 0, 1) ∧ decode cX7_rules 8 = .ok (.getfield 38, 3) ∧ decode cX7_rules 11 = .ok (.lload_n 1, 1) ∧ decode cX7_rules 12 = .ok (.invokevirtual 133, 3) ∧ decode cX7_rules 15 = .ok (.goto 4, 3) ∧ decode cX7_rules 18 = .ok (.iconst (-1), 1) ∧ decode cX7_rules 19 = .ok (.ireturn, 1) := by decide +kernel
theorem dX7_rules_0 : decode cX7_rules 0 = .ok (.lload_n 1, 1) := gg205.1
theorem dX7_rules_1 : decode cX7_rules 1 = .ok (.invokestatic 129, 3) := gg205.2.1
theorem dX7_rules_4 : decode cX7_rules 4 = .ok (.ifCond .eq 14, 3) := gg205.2.2.1
theorem dX7_rules_7 : decode cX7_rules 7 = .ok (.aload_n 0, 1) := gg205.2.2.2.1
theorem dX7_rules_8 : decode cX7_rules 8 = .ok (.getfield 38, 3) := gg205.2.2.2.2.1
theorem dX7_rules_11 : decode cX7_rules 11 = .ok (.lload_n 1, 1) := gg205.2.2.2.2.2.1
theorem dX7_rules_12 : decode cX7_rules 12 = .ok (.invokevirtual 133, 3) := gg205.2.2.2.2.2.2.1
theorem dX7_rules_15 : decode cX7_rules 15 = .ok (.goto 4, 3) := gg205.2.2.2.2.2.2.2.1
theorem dX7_rules_18 : decode cX7_rules 18 = .ok (.iconst (-1), 1) := gg205.2.2.2.2.2.2.2.2.1
theorem dX7_rules_19 : decode cX7_rules 19 = .ok (.ireturn, 1) := gg205.2.2.2.2.2.2.2.2.2
theorem gg206 : decode cX7_minutes 0 = .ok (.lload_n 1, 1) ∧ decode cX7_minutes 1 = .ok (.invokestatic 129, 3) ∧ decode cX7_minutes 4 = .ok (.ifCond .eq 21, 3) ∧ decode cX7_minutes 7 = .ok (.iload_n 3, 1) ∧ decode cX7_minutes 8 = .ok (.ifCond .lt 17, 3) ∧ decode cX7_minutes 11 = .ok (.iload_n 3, 1) ∧ decode cX7_minutes 12 = .ok (.ldc 137, 2) ∧ decode cX7_minutes 14 = .ok (.if_icmp .gt 11, 3) ∧ decode cX7_minutes 17 = .ok (.iload 4, 2) ∧ decode cX7_minutes 19 = .ok (.invokestatic 138, 3) := by decide +kernel
theorem dX7_minutes_0 : decode cX7_minutes 0 = .ok (.lload_n 1, 1) := gg206.1
theorem dX7_minutes_1 : decode cX7_minutes 1 = .ok (.invokestatic 129, 3) := gg206.2.1
theorem dX7_minutes_4 : decode cX7_minutes 4 = .ok (.ifCond .eq 21, 3) := gg206.2.2.1
theorem dX7_minutes_7 : decode cX7_minutes 7 = .ok (.iload_n 3, 1) := gg206.2.2.2.1
theorem dX7_minutes_8 : decode cX7_minutes 8 = .ok (.ifCond .lt 17, 3) := gg206.2.2.2.2.1
theorem dX7_minutes_11 : decode cX7_minutes 11 = .ok (.iload_n 3, 1) := gg206.2.2.2.2.2.1
theorem dX7_minutes_12 : decode cX7_minutes 12 = .ok (.ldc 137, 2) := gg206.2.2.2.2.2.2.1
theorem dX7_minutes_14 : decode cX7_minutes 14 = .ok (.if_icmp .gt 11, 3) := gg206.2.2.2.2.2.2.2.1
theorem dX7_minutes_17 : decode cX7_minutes 17 = .ok (.iload 4, 2) := gg206.2.2.2.2.2.2.2.2.1
theorem dX7_minutes_19 : decode cX7_minutes 19 = .ok (.invokestatic 138, 3) := gg206.2.2.2.2.2.2.2.2.2
theorem gg207 : decode cX7_minutes 22 = .ok (.ifCond .ne 5, 3) ∧ decode cX7_minutes 25 = .ok (.iconst (-1), 1) ∧ decode cX7_minutes 26 = .ok (.ireturn, 1) ∧ decode cX7_minutes 27 = .ok (.aload_n 0, 1) ∧ decode cX7_minutes 28 = .ok (.getfield 38, 3) ∧ decode cX7_minutes 31 = .ok (.iload 4, 2) ∧ decode cX7_minutes 33 = .ok (.lload_n 1, 1) ∧ decode cX7_minutes 34 = .ok (.iload_n 3, 1) ∧ decode cX7_minutes 35 = .ok (.invokevirtual 141, 3) ∧ decode cX7_minutes 38 = .ok (.ireturn, 1) := by decide +kernel
theorem dX7_minutes_22 : decode cX7_minutes 22 = .ok (.ifCond .ne 5, 3) := gg207.1
theorem dX7_minutes_25 : decode cX7_minutes 25 = .ok (.iconst (-1), 1) := gg207.2.1
theorem dX7_minutes_26 : decode cX7_minutes 26 = .ok (.ireturn, 1) := gg207.2.2.1
theorem dX7_minutes_27 : decode cX7_minutes 27 = .ok (.aload_n 0, 1) := gg207.2.2.2.1
theorem dX7_minutes_28 : decode cX7_minutes 28 = .ok (.getfield 38, 3) := gg207.2.2.2.2.1
theorem dX7_minutes_31 : decode cX7_minutes 31 = .ok (.iload 4, 2) := gg207.2.2.2.2.2.1
theorem dX7_minutes_33 : decode cX7_minutes 33 = .ok (.lload_n 1, 1) := gg207.2.2.2.2.2.2.1
theorem dX7_minutes_34 : decode cX7_minutes 34 = .ok (.iload_n 3, 1) := gg207.2.2.2.2.2.2.2.1
theorem dX7_minutes_35 : decode cX7_minutes 35 = .ok (.invokevirtual 141, 3) := gg207.2.2.2.2.2.2.2.2.1
theorem dX7_minutes_38 : decode cX7_minutes 38 = .ok (.ireturn, 1) := gg207.2.2.2.2.2.2.2.2.2
theorem gg208 : decode cX7_next 0 = .ok (.lload_n 1, 1) ∧ decode cX7_next 1 = .ok (.invokestatic 129, 3) ∧ decode cX7_next 4 = .ok (.ifCond .eq 10, 3) ∧ decode cX7_next 7 = .ok (.iload_n 3, 1) ∧ decode cX7_next 8 = .ok (.invokestatic 138, 3) ∧ decode cX7_next 11 = .ok (.ifCond .ne 7, 3) ∧ decode cX7_next 14 = .ok (.ldc2_w 145, 3) ∧ decode cX7_next 17 = .ok (.lreturn, 1) ∧ decode cX7_next 18 = .ok (.aload_n 0, 1) ∧ decode cX7_next 19 = .ok (.getfield 38, 3) := by decide +kernel
theorem dX7_next_0 : decode cX7_next 0 = .ok (.lload_n 1, 1) := gg208.1
theorem dX7_next_1 : decode cX7_next 1 = .ok (.invokestatic 129, 3) := gg208.2.1
theorem dX7_next_4 : decode cX7_next 4 = .ok (.ifCond .eq 10, 3) := gg208.2.2.1
theorem dX7_next_7 : decode cX7_next 7 = .ok (.iload_n 3, 1) := gg208.2.2.2.1
theorem dX7_next_8 : decode cX7_next 8 = .ok (.invokestatic 138, 3) := gg208.2.2.2.2.1
theorem dX7_next_11 : decode cX7_next 11 = .ok (.ifCond .ne 7, 3) := gg208.2.2.2.2.2.1
theorem dX7_next_14 : decode cX7_next 14 = .ok (.ldc2_w 145, 3) := gg208.2.2.2.2.2.2.1
theorem dX7_next_17 : decode cX7_next 17 = .ok (.lreturn, 1) := gg208.2.2.2.2.2.2.2.1
theorem dX7_next_18 : decode cX7_next 18 = .ok (.aload_n 0, 1) := gg208.2.2.2.2.2.2.2.2.1
theorem dX7_next_19 : decode cX7_next 19 = .ok (.getfield 38, 3) := gg208.2.2.2.2.2.2.2.2.2
theorem gg209 : decode cX7_next 22 = .ok (.iload_n 3, 1) ∧ decode cX7_next 23 = .ok (.lload_n 1, 1) ∧ decode cX7_next 24 = .ok (.invokevirtual 147, 3) ∧ decode cX7_next 27 = .ok (.lreturn, 1) := by decide +kernel
theorem dX7_next_22 : decode cX7_next 22 = .ok (.iload_n 3, 1) := gg209.1
theorem dX7_next_23 : decode cX7_next 23 = .ok (.lload_n 1, 1) := gg209.2.1
theorem dX7_next_24 : decode cX7_next 24 = .ok (.invokevirtual 147, 3) := gg209.2.2.1
theorem dX7_next_27 : decode cX7_next 27 = .ok (.lreturn, 1) := gg209.2.2.2
theorem gg210 : decode cX7_lawful 0 = .ok (.aload_n 0, 1) ∧ decode cX7_lawful 1 = .ok (.iload_n 1, 1) ∧ decode cX7_lawful 2 = .ok (.invokevirtual 112, 3) ∧ decode cX7_lawful 5 = .ok (.ifCond .eq 10, 3) ∧ decode cX7_lawful 8 = .ok (.lload_n 2, 1) ∧ decode cX7_lawful 9 = .ok (.invokestatic 129, 3) ∧ decode cX7_lawful 12 = .ok (.ifCond .ne 5, 3) ∧ decode cX7_lawful 15 = .ok (.iconst (-1), 1) ∧ decode cX7_lawful 16 = .ok (.ireturn, 1) ∧ decode cX7_lawful 17 = .ok (.aload_n 0, 1) := by decide +kernel
theorem dX7_lawful_0 : decode cX7_lawful 0 = .ok (.aload_n 0, 1) := gg210.1
theorem dX7_lawful_1 : decode cX7_lawful 1 = .ok (.iload_n 1, 1) := gg210.2.1
theorem dX7_lawful_2 : decode cX7_lawful 2 = .ok (.invokevirtual 112, 3) := gg210.2.2.1
theorem dX7_lawful_5 : decode cX7_lawful 5 = .ok (.ifCond .eq 10, 3) := gg210.2.2.2.1
theorem dX7_lawful_8 : decode cX7_lawful 8 = .ok (.lload_n 2, 1) := gg210.2.2.2.2.1
theorem dX7_lawful_9 : decode cX7_lawful 9 = .ok (.invokestatic 129, 3) := gg210.2.2.2.2.2.1
theorem dX7_lawful_12 : decode cX7_lawful 12 = .ok (.ifCond .ne 5, 3) := gg210.2.2.2.2.2.2.1
theorem dX7_lawful_15 : decode cX7_lawful 15 = .ok (.iconst (-1), 1) := gg210.2.2.2.2.2.2.2.1
theorem dX7_lawful_16 : decode cX7_lawful 16 = .ok (.ireturn, 1) := gg210.2.2.2.2.2.2.2.2.1
theorem dX7_lawful_17 : decode cX7_lawful 17 = .ok (.aload_n 0, 1) := gg210.2.2.2.2.2.2.2.2.2
theorem gg211 : decode cX7_lawful 18 = .ok (.getfield 38, 3) ∧ decode cX7_lawful 21 = .ok (.iload_n 1, 1) ∧ decode cX7_lawful 22 = .ok (.lload_n 2, 1) ∧ decode cX7_lawful 23 = .ok (.invokevirtual 151, 3) ∧ decode cX7_lawful 26 = .ok (.ifCond .eq 7, 3) ∧ decode cX7_lawful 29 = .ok (.iconst 1, 1) ∧ decode cX7_lawful 30 = .ok (.goto 4, 3) ∧ decode cX7_lawful 33 = .ok (.iconst 0, 1) ∧ decode cX7_lawful 34 = .ok (.ireturn, 1) := by decide +kernel
theorem dX7_lawful_18 : decode cX7_lawful 18 = .ok (.getfield 38, 3) := gg211.1
theorem dX7_lawful_21 : decode cX7_lawful 21 = .ok (.iload_n 1, 1) := gg211.2.1
theorem dX7_lawful_22 : decode cX7_lawful 22 = .ok (.lload_n 2, 1) := gg211.2.2.1
theorem dX7_lawful_23 : decode cX7_lawful 23 = .ok (.invokevirtual 151, 3) := gg211.2.2.2.1
theorem dX7_lawful_26 : decode cX7_lawful 26 = .ok (.ifCond .eq 7, 3) := gg211.2.2.2.2.1
theorem dX7_lawful_29 : decode cX7_lawful 29 = .ok (.iconst 1, 1) := gg211.2.2.2.2.2.1
theorem dX7_lawful_30 : decode cX7_lawful 30 = .ok (.goto 4, 3) := gg211.2.2.2.2.2.2.1
theorem dX7_lawful_33 : decode cX7_lawful 33 = .ok (.iconst 0, 1) := gg211.2.2.2.2.2.2.2.1
theorem dX7_lawful_34 : decode cX7_lawful 34 = .ok (.ireturn, 1) := gg211.2.2.2.2.2.2.2.2
theorem gg212 : decode cX7_tell 0 = .ok (.aload_n 0, 1) ∧ decode cX7_tell 1 = .ok (.iload_n 1, 1) ∧ decode cX7_tell 2 = .ok (.invokevirtual 112, 3) ∧ decode cX7_tell 5 = .ok (.ifCond .ne 5, 3) ∧ decode cX7_tell 8 = .ok (.iconst (-1), 1) ∧ decode cX7_tell 9 = .ok (.ireturn, 1) ∧ decode cX7_tell 10 = .ok (.aload_n 0, 1) ∧ decode cX7_tell 11 = .ok (.getfield 103, 3) ∧ decode cX7_tell 14 = .ok (.ifCond .lt 15, 3) ∧ decode cX7_tell 17 = .ok (.aload_n 0, 1) := by decide +kernel
theorem dX7_tell_0 : decode cX7_tell 0 = .ok (.aload_n 0, 1) := gg212.1
theorem dX7_tell_1 : decode cX7_tell 1 = .ok (.iload_n 1, 1) := gg212.2.1
theorem dX7_tell_2 : decode cX7_tell 2 = .ok (.invokevirtual 112, 3) := gg212.2.2.1
theorem dX7_tell_5 : decode cX7_tell 5 = .ok (.ifCond .ne 5, 3) := gg212.2.2.2.1
theorem dX7_tell_8 : decode cX7_tell 8 = .ok (.iconst (-1), 1) := gg212.2.2.2.2.1
theorem dX7_tell_9 : decode cX7_tell 9 = .ok (.ireturn, 1) := gg212.2.2.2.2.2.1
theorem dX7_tell_10 : decode cX7_tell 10 = .ok (.aload_n 0, 1) := gg212.2.2.2.2.2.2.1
theorem dX7_tell_11 : decode cX7_tell 11 = .ok (.getfield 103, 3) := gg212.2.2.2.2.2.2.2.1
theorem dX7_tell_14 : decode cX7_tell 14 = .ok (.ifCond .lt 15, 3) := gg212.2.2.2.2.2.2.2.2.1
theorem dX7_tell_17 : decode cX7_tell 17 = .ok (.aload_n 0, 1) := gg212.2.2.2.2.2.2.2.2.2
theorem gg213 : decode cX7_tell 18 = .ok (.getfield 103, 3) ∧ decode cX7_tell 21 = .ok (.aload_n 0, 1) ∧ decode cX7_tell 22 = .ok (.getfield 70, 3) ∧ decode cX7_tell 25 = .ok (.arraylength, 1) ∧ decode cX7_tell 26 = .ok (.if_icmp .lt 6, 3) ∧ decode cX7_tell 29 = .ok (.bipush (-3), 2) ∧ decode cX7_tell 31 = .ok (.ireturn, 1) ∧ decode cX7_tell 32 = .ok (.aload_n 0, 1) ∧ decode cX7_tell 33 = .ok (.getfield 70, 3) ∧ decode cX7_tell 36 = .ok (.aload_n 0, 1) := by decide +kernel
theorem dX7_tell_18 : decode cX7_tell 18 = .ok (.getfield 103, 3) := gg213.1
theorem dX7_tell_21 : decode cX7_tell 21 = .ok (.aload_n 0, 1) := gg213.2.1
theorem dX7_tell_22 : decode cX7_tell 22 = .ok (.getfield 70, 3) := gg213.2.2.1
theorem dX7_tell_25 : decode cX7_tell 25 = .ok (.arraylength, 1) := gg213.2.2.2.1
theorem dX7_tell_26 : decode cX7_tell 26 = .ok (.if_icmp .lt 6, 3) := gg213.2.2.2.2.1
theorem dX7_tell_29 : decode cX7_tell 29 = .ok (.bipush (-3), 2) := gg213.2.2.2.2.2.1
theorem dX7_tell_31 : decode cX7_tell 31 = .ok (.ireturn, 1) := gg213.2.2.2.2.2.2.1
theorem dX7_tell_32 : decode cX7_tell 32 = .ok (.aload_n 0, 1) := gg213.2.2.2.2.2.2.2.1
theorem dX7_tell_33 : decode cX7_tell 33 = .ok (.getfield 70, 3) := gg213.2.2.2.2.2.2.2.2.1
theorem dX7_tell_36 : decode cX7_tell 36 = .ok (.aload_n 0, 1) := gg213.2.2.2.2.2.2.2.2.2
theorem gg214 : decode cX7_tell 37 = .ok (.getfield 103, 3) ∧ decode cX7_tell 40 = .ok (.iload_n 1, 1) ∧ decode cX7_tell 41 = .ok (.iastore, 1) ∧ decode cX7_tell 42 = .ok (.aload_n 0, 1) ∧ decode cX7_tell 43 = .ok (.dup, 1) ∧ decode cX7_tell 44 = .ok (.getfield 103, 3) ∧ decode cX7_tell 47 = .ok (.iconst 1, 1) ∧ decode cX7_tell 48 = .ok (.iadd, 1) ∧ decode cX7_tell 49 = .ok (.putfield 103, 3) ∧ decode cX7_tell 52 = .ok (.aload_n 0, 1) := by decide +kernel
theorem dX7_tell_37 : decode cX7_tell 37 = .ok (.getfield 103, 3) := gg214.1
theorem dX7_tell_40 : decode cX7_tell 40 = .ok (.iload_n 1, 1) := gg214.2.1
theorem dX7_tell_41 : decode cX7_tell 41 = .ok (.iastore, 1) := gg214.2.2.1
theorem dX7_tell_42 : decode cX7_tell 42 = .ok (.aload_n 0, 1) := gg214.2.2.2.1
theorem dX7_tell_43 : decode cX7_tell 43 = .ok (.dup, 1) := gg214.2.2.2.2.1
theorem dX7_tell_44 : decode cX7_tell 44 = .ok (.getfield 103, 3) := gg214.2.2.2.2.2.1
theorem dX7_tell_47 : decode cX7_tell 47 = .ok (.iconst 1, 1) := gg214.2.2.2.2.2.2.1
theorem dX7_tell_48 : decode cX7_tell 48 = .ok (.iadd, 1) := gg214.2.2.2.2.2.2.2.1
theorem dX7_tell_49 : decode cX7_tell 49 = .ok (.putfield 103, 3) := gg214.2.2.2.2.2.2.2.2.1
theorem dX7_tell_52 : decode cX7_tell 52 = .ok (.aload_n 0, 1) := gg214.2.2.2.2.2.2.2.2.2

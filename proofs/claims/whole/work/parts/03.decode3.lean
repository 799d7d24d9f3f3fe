theorem dX5_findLonger_2 : decode cX5_findLonger 2 = .ok (.iload_n 2, 1) := by decide +kernel
theorem dX5_findLonger_3 : decode cX5_findLonger 3 = .ok (.invokevirtual 152, 3) := by decide +kernel
theorem dX5_findLonger_6 : decode cX5_findLonger 6 = .ok (.iconst 0, 1) := by decide +kernel
theorem dX5_findLonger_7 : decode cX5_findLonger 7 = .ok (.istore 4, 2) := by decide +kernel
theorem dX5_findLonger_9 : decode cX5_findLonger 9 = .ok (.iload 4, 2) := by decide +kernel
theorem dX5_findLonger_11 : decode cX5_findLonger 11 = .ok (.bipush 16, 2) := by decide +kernel
theorem dX5_findLonger_13 : decode cX5_findLonger 13 = .ok (.if_icmp .ge 44, 3) := by decide +kernel
theorem dX5_findLonger_16 : decode cX5_findLonger 16 = .ok (.aload_n 0, 1) := by decide +kernel
theorem dX5_findLonger_17 : decode cX5_findLonger 17 = .ok (.getfield 39, 3) := by decide +kernel
theorem dX5_findLonger_20 : decode cX5_findLonger 20 = .ok (.iload 4, 2) := by decide +kernel
theorem dX5_findLonger_22 : decode cX5_findLonger 22 = .ok (.iaload, 1) := by decide +kernel
theorem dX5_findLonger_23 : decode cX5_findLonger 23 = .ok (.invokestatic 132, 3) := by decide +kernel
theorem dX5_findLonger_26 : decode cX5_findLonger 26 = .ok (.iload_n 3, 1) := by decide +kernel
theorem dX5_findLonger_27 : decode cX5_findLonger 27 = .ok (.if_icmp .lt 24, 3) := by decide +kernel
theorem dX5_findLonger_30 : decode cX5_findLonger 30 = .ok (.aload_n 0, 1) := by decide +kernel
theorem dX5_findLonger_31 : decode cX5_findLonger 31 = .ok (.getfield 28, 3) := by decide +kernel
theorem dX5_findLonger_34 : decode cX5_findLonger 34 = .ok (.iload_n 1, 1) := by decide +kernel
theorem dX5_findLonger_35 : decode cX5_findLonger 35 = .ok (.iconst 0, 1) := by decide +kernel
theorem dX5_findLonger_36 : decode cX5_findLonger 36 = .ok (.iload 4, 2) := by decide +kernel
theorem dX5_findLonger_38 : decode cX5_findLonger 38 = .ok (.invokestatic 215, 3) := by decide +kernel
theorem dX5_findLonger_41 : decode cX5_findLonger 41 = .ok (.aload_n 0, 1) := by decide +kernel
theorem dX5_findLonger_42 : decode cX5_findLonger 42 = .ok (.getfield 39, 3) := by decide +kernel
theorem dX5_findLonger_45 : decode cX5_findLonger 45 = .ok (.iload 4, 2) := by decide +kernel
theorem dX5_findLonger_47 : decode cX5_findLonger 47 = .ok (.iaload, 1) := by decide +kernel
theorem dX5_findLonger_48 : decode cX5_findLonger 48 = .ok (.invokevirtual 218, 3) := by decide +kernel
theorem dX5_findLonger_51 : decode cX5_findLonger 51 = .ok (.iinc 4 1, 3) := by decide +kernel
theorem dX5_findLonger_54 : decode cX5_findLonger 54 = .ok (.goto (-45), 3) := by decide +kernel
theorem dX5_findLonger_57 : decode cX5_findLonger 57 = .ok (.return_, 1) := by decide +kernel
theorem dX5_longerSays_0 : decode cX5_longerSays 0 = .ok (.iload_n 1, 1) := by decide +kernel
theorem dX5_longerSays_1 : decode cX5_longerSays 1 = .ok (.invokestatic 123, 3) := by decide +kernel
theorem dX5_longerSays_4 : decode cX5_longerSays 4 = .ok (.istore_n 3, 1) := by decide +kernel
theorem dX5_longerSays_5 : decode cX5_longerSays 5 = .ok (.iconst 0, 1) := by decide +kernel
theorem dX5_longerSays_6 : decode cX5_longerSays 6 = .ok (.istore 4, 2) := by decide +kernel
theorem dX5_longerSays_8 : decode cX5_longerSays 8 = .ok (.iload_n 3, 1) := by decide +kernel
theorem dX5_longerSays_9 : decode cX5_longerSays 9 = .ok (.iconst 4, 1) := by decide +kernel
theorem dX5_longerSays_10 : decode cX5_longerSays 10 = .ok (.if_icmp .ge 49, 3) := by decide +kernel
theorem dX5_longerSays_13 : decode cX5_longerSays 13 = .ok (.iload 4, 2) := by decide +kernel
theorem dX5_longerSays_15 : decode cX5_longerSays 15 = .ok (.iload_n 3, 1) := by decide +kernel
theorem dX5_longerSays_16 : decode cX5_longerSays 16 = .ok (.if_icmp .gt 43, 3) := by decide +kernel
theorem dX5_longerSays_19 : decode cX5_longerSays 19 = .ok (.iconst 0, 1) := by decide +kernel
theorem dX5_longerSays_20 : decode cX5_longerSays 20 = .ok (.istore 5, 2) := by decide +kernel
theorem dX5_longerSays_22 : decode cX5_longerSays 22 = .ok (.iload 5, 2) := by decide +kernel
theorem dX5_longerSays_24 : decode cX5_longerSays 24 = .ok (.bipush 16, 2) := by decide +kernel
theorem dX5_longerSays_26 : decode cX5_longerSays 26 = .ok (.if_icmp .ge 27, 3) := by decide +kernel
theorem dX5_longerSays_29 : decode cX5_longerSays 29 = .ok (.aload_n 0, 1) := by decide +kernel
theorem dX5_longerSays_30 : decode cX5_longerSays 30 = .ok (.iload_n 1, 1) := by decide +kernel
theorem dX5_longerSays_31 : decode cX5_longerSays 31 = .ok (.iload 4, 2) := by decide +kernel
theorem dX5_longerSays_33 : decode cX5_longerSays 33 = .ok (.iload 5, 2) := by decide +kernel
theorem dX5_longerSays_35 : decode cX5_longerSays 35 = .ok (.invokestatic 215, 3) := by decide +kernel
theorem dX5_longerSays_38 : decode cX5_longerSays 38 = .ok (.invokevirtual 85, 3) := by decide +kernel
theorem dX5_longerSays_41 : decode cX5_longerSays 41 = .ok (.iload_n 2, 1) := by decide +kernel
theorem dX5_longerSays_42 : decode cX5_longerSays 42 = .ok (.if_icmp .ne 5, 3) := by decide +kernel
theorem dX5_longerSays_45 : decode cX5_longerSays 45 = .ok (.iconst 1, 1) := by decide +kernel
theorem dX5_longerSays_46 : decode cX5_longerSays 46 = .ok (.ireturn, 1) := by decide +kernel
theorem dX5_longerSays_47 : decode cX5_longerSays 47 = .ok (.iinc 5 1, 3) := by decide +kernel
theorem dX5_longerSays_50 : decode cX5_longerSays 50 = .ok (.goto (-28), 3) := by decide +kernel
theorem dX5_longerSays_53 : decode cX5_longerSays 53 = .ok (.iinc 4 1, 3) := by decide +kernel
theorem dX5_longerSays_56 : decode cX5_longerSays 56 = .ok (.goto (-48), 3) := by decide +kernel
theorem dX5_longerSays_59 : decode cX5_longerSays 59 = .ok (.iconst 0, 1) := by decide +kernel
theorem dX5_longerSays_60 : decode cX5_longerSays 60 = .ok (.ireturn, 1) := by decide +kernel
theorem dX5_narrowerSays_0 : decode cX5_narrowerSays 0 = .ok (.iload_n 1, 1) := by decide +kernel
theorem dX5_narrowerSays_1 : decode cX5_narrowerSays 1 = .ok (.invokestatic 123, 3) := by decide +kernel
theorem dX5_narrowerSays_4 : decode cX5_narrowerSays 4 = .ok (.istore_n 3, 1) := by decide +kernel
theorem dX5_narrowerSays_5 : decode cX5_narrowerSays 5 = .ok (.iconst 0, 1) := by decide +kernel
theorem dX5_narrowerSays_6 : decode cX5_narrowerSays 6 = .ok (.istore 4, 2) := by decide +kernel
theorem dX5_narrowerSays_8 : decode cX5_narrowerSays 8 = .ok (.iload 4, 2) := by decide +kernel
theorem dX5_narrowerSays_10 : decode cX5_narrowerSays 10 = .ok (.iload_n 3, 1) := by decide +kernel
theorem dX5_narrowerSays_11 : decode cX5_narrowerSays 11 = .ok (.if_icmp .ge 65, 3) := by decide +kernel
theorem dX5_narrowerSays_14 : decode cX5_narrowerSays 14 = .ok (.iload_n 1, 1) := by decide +kernel
theorem dX5_narrowerSays_15 : decode cX5_narrowerSays 15 = .ok (.iload 4, 2) := by decide +kernel
theorem dX5_narrowerSays_17 : decode cX5_narrowerSays 17 = .ok (.invokestatic 137, 3) := by decide +kernel
theorem dX5_narrowerSays_20 : decode cX5_narrowerSays 20 = .ok (.istore 5, 2) := by decide +kernel
theorem dX5_narrowerSays_22 : decode cX5_narrowerSays 22 = .ok (.iconst 0, 1) := by decide +kernel
theorem dX5_narrowerSays_23 : decode cX5_narrowerSays 23 = .ok (.istore 6, 2) := by decide +kernel
theorem dX5_narrowerSays_25 : decode cX5_narrowerSays 25 = .ok (.iload 6, 2) := by decide +kernel
theorem dX5_narrowerSays_27 : decode cX5_narrowerSays 27 = .ok (.bipush 16, 2) := by decide +kernel
theorem dX5_narrowerSays_29 : decode cX5_narrowerSays 29 = .ok (.if_icmp .ge 41, 3) := by decide +kernel
theorem dX5_narrowerSays_32 : decode cX5_narrowerSays 32 = .ok (.aload_n 0, 1) := by decide +kernel
theorem dX5_narrowerSays_33 : decode cX5_narrowerSays 33 = .ok (.getfield 10, 3) := by decide +kernel
theorem dX5_narrowerSays_36 : decode cX5_narrowerSays 36 = .ok (.iload 6, 2) := by decide +kernel
theorem dX5_narrowerSays_38 : decode cX5_narrowerSays 38 = .ok (.iload 5, 2) := by decide +kernel
theorem dX5_narrowerSays_40 : decode cX5_narrowerSays 40 = .ok (.invokevirtual 221, 3) := by decide +kernel
theorem dX5_narrowerSays_43 : decode cX5_narrowerSays 43 = .ok (.ifCond .eq 21, 3) := by decide +kernel
theorem dX5_narrowerSays_46 : decode cX5_narrowerSays 46 = .ok (.aload_n 0, 1) := by decide +kernel
theorem dX5_narrowerSays_47 : decode cX5_narrowerSays 47 = .ok (.iload_n 1, 1) := by decide +kernel
theorem dX5_narrowerSays_48 : decode cX5_narrowerSays 48 = .ok (.iload 4, 2) := by decide +kernel
theorem dX5_narrowerSays_50 : decode cX5_narrowerSays 50 = .ok (.iload 6, 2) := by decide +kernel
theorem dX5_narrowerSays_52 : decode cX5_narrowerSays 52 = .ok (.invokestatic 224, 3) := by decide +kernel
theorem dX5_narrowerSays_55 : decode cX5_narrowerSays 55 = .ok (.invokevirtual 85, 3) := by decide +kernel
theorem dX5_narrowerSays_58 : decode cX5_narrowerSays 58 = .ok (.iload_n 2, 1) := by decide +kernel
theorem dX5_narrowerSays_59 : decode cX5_narrowerSays 59 = .ok (.if_icmp .ne 5, 3) := by decide +kernel
theorem dX5_narrowerSays_62 : decode cX5_narrowerSays 62 = .ok (.iconst 1, 1) := by decide +kernel
theorem dX5_narrowerSays_63 : decode cX5_narrowerSays 63 = .ok (.ireturn, 1) := by decide +kernel
theorem dX5_narrowerSays_64 : decode cX5_narrowerSays 64 = .ok (.iinc 6 1, 3) := by decide +kernel
theorem dX5_narrowerSays_67 : decode cX5_narrowerSays 67 = .ok (.goto (-42), 3) := by decide +kernel
theorem dX5_narrowerSays_70 : decode cX5_narrowerSays 70 = .ok (.iinc 4 1, 3) := by decide +kernel
theorem dX5_narrowerSays_73 : decode cX5_narrowerSays 73 = .ok (.goto (-65), 3) := by decide +kernel
theorem dX5_narrowerSays_76 : decode cX5_narrowerSays 76 = .ok (.iconst 0, 1) := by decide +kernel
theorem dX5_narrowerSays_77 : decode cX5_narrowerSays 77 = .ok (.ireturn, 1) := by decide +kernel
theorem dX5_howFarApart_0 : decode cX5_howFarApart 0 = .ok (.iload_n 0, 1) := by decide +kernel
theorem dX5_howFarApart_1 : decode cX5_howFarApart 1 = .ok (.iload_n 1, 1) := by decide +kernel
theorem dX5_howFarApart_2 : decode cX5_howFarApart 2 = .ok (.iand, 1) := by decide +kernel
theorem dX5_howFarApart_3 : decode cX5_howFarApart 3 = .ok (.invokestatic 132, 3) := by decide +kernel
theorem dX5_howFarApart_6 : decode cX5_howFarApart 6 = .ok (.istore_n 3, 1) := by decide +kernel
theorem dX5_howFarApart_7 : decode cX5_howFarApart 7 = .ok (.iload_n 0, 1) := by decide +kernel
theorem dX5_howFarApart_8 : decode cX5_howFarApart 8 = .ok (.iload_n 2, 1) := by decide +kernel
theorem dX5_howFarApart_9 : decode cX5_howFarApart 9 = .ok (.iand, 1) := by decide +kernel
theorem dX5_howFarApart_10 : decode cX5_howFarApart 10 = .ok (.invokestatic 132, 3) := by decide +kernel
theorem dX5_howFarApart_13 : decode cX5_howFarApart 13 = .ok (.istore 4, 2) := by decide +kernel
theorem dX5_howFarApart_15 : decode cX5_howFarApart 15 = .ok (.iload_n 3, 1) := by decide +kernel
theorem dX5_howFarApart_16 : decode cX5_howFarApart 16 = .ok (.iload_n 2, 1) := by decide +kernel
theorem dX5_howFarApart_17 : decode cX5_howFarApart 17 = .ok (.invokestatic 132, 3) := by decide +kernel
theorem dX5_howFarApart_20 : decode cX5_howFarApart 20 = .ok (.imul, 1) := by decide +kernel
theorem dX5_howFarApart_21 : decode cX5_howFarApart 21 = .ok (.iload 4, 2) := by decide +kernel
theorem dX5_howFarApart_23 : decode cX5_howFarApart 23 = .ok (.iload_n 1, 1) := by decide +kernel
theorem dX5_howFarApart_24 : decode cX5_howFarApart 24 = .ok (.invokestatic 132, 3) := by decide +kernel
theorem dX5_howFarApart_27 : decode cX5_howFarApart 27 = .ok (.imul, 1) := by decide +kernel
theorem dX5_howFarApart_28 : decode cX5_howFarApart 28 = .ok (.isub, 1) := by decide +kernel
theorem dX5_howFarApart_29 : decode cX5_howFarApart 29 = .ok (.invokestatic 227, 3) := by decide +kernel
theorem dX5_howFarApart_32 : decode cX5_howFarApart 32 = .ok (.ireturn, 1) := by decide +kernel
theorem dX5_chanceAhead_0 : decode cX5_chanceAhead 0 = .ok (.iload_n 0, 1) := by decide +kernel
theorem dX5_chanceAhead_1 : decode cX5_chanceAhead 1 = .ok (.iload_n 0, 1) := by decide +kernel
theorem dX5_chanceAhead_2 : decode cX5_chanceAhead 2 = .ok (.iload_n 1, 1) := by decide +kernel
theorem dX5_chanceAhead_3 : decode cX5_chanceAhead 3 = .ok (.iadd, 1) := by decide +kernel
theorem dX5_chanceAhead_4 : decode cX5_chanceAhead 4 = .ok (.invokestatic 230, 3) := by decide +kernel
theorem dX5_chanceAhead_7 : decode cX5_chanceAhead 7 = .ok (.lstore_n 2, 1) := by decide +kernel
theorem dX5_chanceAhead_8 : decode cX5_chanceAhead 8 = .ok (.lload_n 2, 1) := by decide +kernel
theorem dX5_chanceAhead_9 : decode cX5_chanceAhead 9 = .ok (.lconst 1, 1) := by decide +kernel
theorem dX5_chanceAhead_10 : decode cX5_chanceAhead 10 = .ok (.lcmp, 1) := by decide +kernel
theorem dX5_chanceAhead_11 : decode cX5_chanceAhead 11 = .ok (.ifCond .gt 7, 3) := by decide +kernel
theorem dX5_chanceAhead_14 : decode cX5_chanceAhead 14 = .ok (.lconst 0, 1) := by decide +kernel
theorem dX5_chanceAhead_15 : decode cX5_chanceAhead 15 = .ok (.goto 12, 3) := by decide +kernel
theorem dX5_chanceAhead_18 : decode cX5_chanceAhead 18 = .ok (.ldc2_w 233, 3) := by decide +kernel
theorem dX5_chanceAhead_21 : decode cX5_chanceAhead 21 = .ok (.ldc2_w 233, 3) := by decide +kernel
theorem dX5_chanceAhead_24 : decode cX5_chanceAhead 24 = .ok (.lload_n 2, 1) := by decide +kernel
theorem dX5_chanceAhead_25 : decode cX5_chanceAhead 25 = .ok (.ldiv, 1) := by decide +kernel
theorem dX5_chanceAhead_26 : decode cX5_chanceAhead 26 = .ok (.lsub, 1) := by decide +kernel
theorem dX5_chanceAhead_27 : decode cX5_chanceAhead 27 = .ok (.lreturn, 1) := by decide +kernel
theorem dX5_waysToChoose_0 : decode cX5_waysToChoose 0 = .ok (.lconst 1, 1) := by decide +kernel
theorem dX5_waysToChoose_1 : decode cX5_waysToChoose 1 = .ok (.lstore_n 2, 1) := by decide +kernel
theorem dX5_waysToChoose_2 : decode cX5_waysToChoose 2 = .ok (.iconst 1, 1) := by decide +kernel
theorem dX5_waysToChoose_3 : decode cX5_waysToChoose 3 = .ok (.istore 4, 2) := by decide +kernel
theorem dX5_waysToChoose_5 : decode cX5_waysToChoose 5 = .ok (.iload 4, 2) := by decide +kernel
theorem dX5_waysToChoose_7 : decode cX5_waysToChoose 7 = .ok (.iload_n 0, 1) := by decide +kernel
theorem dX5_waysToChoose_8 : decode cX5_waysToChoose 8 = .ok (.if_icmp .gt 23, 3) := by decide +kernel
theorem dX5_waysToChoose_11 : decode cX5_waysToChoose 11 = .ok (.lload_n 2, 1) := by decide +kernel
theorem dX5_waysToChoose_12 : decode cX5_waysToChoose 12 = .ok (.iload_n 1, 1) := by decide +kernel
theorem dX5_waysToChoose_13 : decode cX5_waysToChoose 13 = .ok (.iload_n 0, 1) := by decide +kernel
theorem dX5_waysToChoose_14 : decode cX5_waysToChoose 14 = .ok (.isub, 1) := by decide +kernel
theorem dX5_waysToChoose_15 : decode cX5_waysToChoose 15 = .ok (.iload 4, 2) := by decide +kernel
theorem dX5_waysToChoose_17 : decode cX5_waysToChoose 17 = .ok (.iadd, 1) := by decide +kernel
theorem dX5_waysToChoose_18 : decode cX5_waysToChoose 18 = .ok (.i2l, 1) := by decide +kernel
theorem dX5_waysToChoose_19 : decode cX5_waysToChoose 19 = .ok (.lmul, 1) := by decide +kernel
theorem dX5_waysToChoose_20 : decode cX5_waysToChoose 20 = .ok (.iload 4, 2) := by decide +kernel
theorem dX5_waysToChoose_22 : decode cX5_waysToChoose 22 = .ok (.i2l, 1) := by decide +kernel
theorem dX5_waysToChoose_23 : decode cX5_waysToChoose 23 = .ok (.ldiv, 1) := by decide +kernel
theorem dX5_waysToChoose_24 : decode cX5_waysToChoose 24 = .ok (.lstore_n 2, 1) := by decide +kernel
theorem dX5_waysToChoose_25 : decode cX5_waysToChoose 25 = .ok (.iinc 4 1, 3) := by decide +kernel
theorem dX5_waysToChoose_28 : decode cX5_waysToChoose 28 = .ok (.goto (-23), 3) := by decide +kernel
theorem dX5_waysToChoose_31 : decode cX5_waysToChoose 31 = .ok (.lload_n 2, 1) := by decide +kernel
theorem dX5_waysToChoose_32 : decode cX5_waysToChoose 32 = .ok (.lreturn, 1) := by decide +kernel
theorem dX6_init_0 : decode cX6_init 0 = .ok (.aload_n 0, 1) := by decide +kernel
theorem dX6_init_1 : decode cX6_init 1 = .ok (.invokespecial 1, 3) := by decide +kernel
theorem dX6_init_4 : decode cX6_init 4 = .ok (.aload_n 0, 1) := by decide +kernel
theorem dX6_init_5 : decode cX6_init 5 = .ok (.bipush 100, 2) := by decide +kernel
theorem dX6_init_7 : decode cX6_init 7 = .ok (.putfield 7, 3) := by decide +kernel
theorem dX6_init_10 : decode cX6_init 10 = .ok (.aload_n 0, 1) := by decide +kernel
theorem dX6_init_11 : decode cX6_init 11 = .ok (.sipush 1000, 3) := by decide +kernel
theorem dX6_init_14 : decode cX6_init 14 = .ok (.putfield 13, 3) := by decide +kernel
theorem dX6_init_17 : decode cX6_init 17 = .ok (.aload_n 0, 1) := by decide +kernel
theorem dX6_init_18 : decode cX6_init 18 = .ok (.bipush 16, 2) := by decide +kernel
theorem dX6_init_20 : decode cX6_init 20 = .ok (.newarray .int, 2) := by decide +kernel
theorem dX6_init_22 : decode cX6_init 22 = .ok (.putfield 16, 3) := by decide +kernel
theorem dX6_init_25 : decode cX6_init 25 = .ok (.aload_n 0, 1) := by decide +kernel
theorem dX6_init_26 : decode cX6_init 26 = .ok (.bipush 24, 2) := by decide +kernel
theorem dX6_init_28 : decode cX6_init 28 = .ok (.newarray .int, 2) := by decide +kernel
theorem dX6_init_30 : decode cX6_init 30 = .ok (.putfield 20, 3) := by decide +kernel
theorem dX6_init_33 : decode cX6_init 33 = .ok (.aload_n 0, 1) := by decide +kernel
theorem dX6_init_34 : decode cX6_init 34 = .ok (.bipush 24, 2) := by decide +kernel
theorem dX6_init_36 : decode cX6_init 36 = .ok (.newarray .boolean, 2) := by decide +kernel
theorem dX6_init_38 : decode cX6_init 38 = .ok (.putfield 23, 3) := by decide +kernel
theorem dX6_init_41 : decode cX6_init 41 = .ok (.aload_n 0, 1) := by decide +kernel
theorem dX6_init_42 : decode cX6_init 42 = .ok (.bipush 24, 2) := by decide +kernel
theorem dX6_init_44 : decode cX6_init 44 = .ok (.newarray .int, 2) := by decide +kernel
theorem dX6_init_46 : decode cX6_init 46 = .ok (.putfield 27, 3) := by decide +kernel
theorem dX6_init_49 : decode cX6_init 49 = .ok (.aload_n 0, 1) := by decide +kernel
theorem dX6_init_50 : decode cX6_init 50 = .ok (.sipush 720, 3) := by decide +kernel
theorem dX6_init_53 : decode cX6_init 53 = .ok (.newarray .int, 2) := by decide +kernel
theorem dX6_init_55 : decode cX6_init 55 = .ok (.putfield 30, 3) := by decide +kernel
theorem dX6_init_58 : decode cX6_init 58 = .ok (.aload_n 0, 1) := by decide +kernel
theorem dX6_init_59 : decode cX6_init 59 = .ok (.sipush 720, 3) := by decide +kernel
theorem dX6_init_62 : decode cX6_init 62 = .ok (.newarray .int, 2) := by decide +kernel
theorem dX6_init_64 : decode cX6_init 64 = .ok (.putfield 33, 3) := by decide +kernel
theorem dX6_init_67 : decode cX6_init 67 = .ok (.aload_n 0, 1) := by decide +kernel
theorem dX6_init_68 : decode cX6_init 68 = .ok (.sipush 8000, 3) := by decide +kernel
theorem dX6_init_71 : decode cX6_init 71 = .ok (.newarray .int, 2) := by decide +kernel
theorem dX6_init_73 : decode cX6_init 73 = .ok (.putfield 36, 3) := by decide +kernel
theorem dX6_init_76 : decode cX6_init 76 = .ok (.aload_n 0, 1) := by decide +kernel
theorem dX6_init_77 : decode cX6_init 77 = .ok (.sipush 2000, 3) := by decide +kernel
theorem dX6_init_80 : decode cX6_init 80 = .ok (.newarray .int, 2) := by decide +kernel
theorem dX6_init_82 : decode cX6_init 82 = .ok (.putfield 39, 3) := by decide +kernel
theorem dX6_init_85 : decode cX6_init 85 = .ok (.aload_n 0, 1) := by decide +kernel
theorem dX6_init_86 : decode cX6_init 86 = .ok (.sipush 2000, 3) := by decide +kernel
theorem dX6_init_89 : decode cX6_init 89 = .ok (.newarray .int, 2) := by decide +kernel
theorem dX6_init_91 : decode cX6_init 91 = .ok (.putfield 42, 3) := by decide +kernel
theorem dX6_init_94 : decode cX6_init 94 = .ok (.aload_n 0, 1) := by decide +kernel
theorem dX6_init_95 : decode cX6_init 95 = .ok (.iconst 4, 1) := by decide +kernel
theorem dX6_init_96 : decode cX6_init 96 = .ok (.newarray .int, 2) := by decide +kernel
theorem dX6_init_98 : decode cX6_init 98 = .ok (.putfield 45, 3) := by decide +kernel
theorem dX6_init_101 : decode cX6_init 101 = .ok (.aload_n 0, 1) := by decide +kernel
theorem dX6_init_102 : decode cX6_init 102 = .ok (.sipush 384, 3) := by decide +kernel
theorem dX6_init_105 : decode cX6_init 105 = .ok (.newarray .int, 2) := by decide +kernel
theorem dX6_init_107 : decode cX6_init 107 = .ok (.putfield 48, 3) := by decide +kernel
theorem dX6_init_110 : decode cX6_init 110 = .ok (.aload_n 0, 1) := by decide +kernel
theorem dX6_init_111 : decode cX6_init 111 = .ok (.sipush 720, 3) := by decide +kernel
theorem dX6_init_114 : decode cX6_init 114 = .ok (.newarray .int, 2) := by decide +kernel
theorem dX6_init_116 : decode cX6_init 116 = .ok (.putfield 51, 3) := by decide +kernel
theorem dX6_init_119 : decode cX6_init 119 = .ok (.aload_n 0, 1) := by decide +kernel
theorem dX6_init_120 : decode cX6_init 120 = .ok (.sipush 720, 3) := by decide +kernel
theorem dX6_init_123 : decode cX6_init 123 = .ok (.newarray .int, 2) := by decide +kernel
theorem dX6_init_125 : decode cX6_init 125 = .ok (.putfield 54, 3) := by decide +kernel
theorem dX6_init_128 : decode cX6_init 128 = .ok (.aload_n 0, 1) := by decide +kernel
theorem dX6_init_129 : decode cX6_init 129 = .ok (.iconst 4, 1) := by decide +kernel
theorem dX6_init_130 : decode cX6_init 130 = .ok (.newarray .int, 2) := by decide +kernel
theorem dX6_init_132 : decode cX6_init 132 = .ok (.putfield 57, 3) := by decide +kernel
theorem dX6_init_135 : decode cX6_init 135 = .ok (.iconst 0, 1) := by decide +kernel
theorem dX6_init_136 : decode cX6_init 136 = .ok (.istore_n 1, 1) := by decide +kernel
theorem dX6_init_137 : decode cX6_init 137 = .ok (.iload_n 1, 1) := by decide +kernel
theorem dX6_init_138 : decode cX6_init 138 = .ok (.bipush 16, 2) := by decide +kernel
theorem dX6_init_140 : decode cX6_init 140 = .ok (.if_icmp .ge 16, 3) := by decide +kernel
theorem dX6_init_143 : decode cX6_init 143 = .ok (.aload_n 0, 1) := by decide +kernel
theorem dX6_init_144 : decode cX6_init 144 = .ok (.getfield 16, 3) := by decide +kernel
theorem dX6_init_147 : decode cX6_init 147 = .ok (.iload_n 1, 1) := by decide +kernel
theorem dX6_init_148 : decode cX6_init 148 = .ok (.iconst (-1), 1) := by decide +kernel
theorem dX6_init_149 : decode cX6_init 149 = .ok (.iastore, 1) := by decide +kernel
theorem dX6_init_150 : decode cX6_init 150 = .ok (.iinc 1 1, 3) := by decide +kernel
theorem dX6_init_153 : decode cX6_init 153 = .ok (.goto (-16), 3) := by decide +kernel
theorem dX6_init_156 : decode cX6_init 156 = .ok (.return_, 1) := by decide +kernel
theorem dX6_lies_0 : decode cX6_lies 0 = .ok (.iload_n 0, 1) := by decide +kernel
theorem dX6_lies_1 : decode cX6_lies 1 = .ok (.iload_n 1, 1) := by decide +kernel
theorem dX6_lies_2 : decode cX6_lies 2 = .ok (.if_icmp .lt 12, 3) := by decide +kernel
theorem dX6_lies_5 : decode cX6_lies 5 = .ok (.iload_n 0, 1) := by decide +kernel
theorem dX6_lies_6 : decode cX6_lies 6 = .ok (.iload_n 2, 1) := by decide +kernel
theorem dX6_lies_7 : decode cX6_lies 7 = .ok (.if_icmp .gt 7, 3) := by decide +kernel
theorem dX6_lies_10 : decode cX6_lies 10 = .ok (.iconst 1, 1) := by decide +kernel
theorem dX6_lies_11 : decode cX6_lies 11 = .ok (.goto 4, 3) := by decide +kernel
theorem dX6_lies_14 : decode cX6_lies 14 = .ok (.iconst 0, 1) := by decide +kernel
theorem dX6_lies_15 : decode cX6_lies 15 = .ok (.ireturn, 1) := by decide +kernel
theorem dX6_isKind_0 : decode cX6_isKind 0 = .ok (.iload_n 0, 1) := by decide +kernel
theorem dX6_isKind_1 : decode cX6_isKind 1 = .ok (.iconst 0, 1) := by decide +kernel
theorem dX6_isKind_2 : decode cX6_isKind 2 = .ok (.bipush 15, 2) := by decide +kernel
theorem dX6_isKind_4 : decode cX6_isKind 4 = .ok (.invokestatic 60, 3) := by decide +kernel
theorem dX6_isKind_7 : decode cX6_isKind 7 = .ok (.ireturn, 1) := by decide +kernel
theorem dX6_isRow_0 : decode cX6_isRow 0 = .ok (.iload_n 1, 1) := by decide +kernel
theorem dX6_isRow_1 : decode cX6_isRow 1 = .ok (.iconst 0, 1) := by decide +kernel
theorem dX6_isRow_2 : decode cX6_isRow 2 = .ok (.aload_n 0, 1) := by decide +kernel
theorem dX6_isRow_3 : decode cX6_isRow 3 = .ok (.getfield 64, 3) := by decide +kernel
theorem dX6_isRow_6 : decode cX6_isRow 6 = .ok (.iconst 1, 1) := by decide +kernel
theorem dX6_isRow_7 : decode cX6_isRow 7 = .ok (.isub, 1) := by decide +kernel
theorem dX6_isRow_8 : decode cX6_isRow 8 = .ok (.invokestatic 60, 3) := by decide +kernel
theorem dX6_isRow_11 : decode cX6_isRow 11 = .ok (.ireturn, 1) := by decide +kernel
theorem dX6_isOf_0 : decode cX6_isOf 0 = .ok (.iload_n 1, 1) := by decide +kernel
theorem dX6_isOf_1 : decode cX6_isOf 1 = .ok (.istore_n 3, 1) := by decide +kernel
theorem dX6_isOf_2 : decode cX6_isOf 2 = .ok (.iload_n 3, 1) := by decide +kernel
theorem dX6_isOf_3 : decode cX6_isOf 3 = .ok (.iconst (-1), 1) := by decide +kernel
theorem dX6_isOf_4 : decode cX6_isOf 4 = .ok (.if_icmp .eq 18, 3) := by decide +kernel
theorem dX6_isOf_7 : decode cX6_isOf 7 = .ok (.iload_n 3, 1) := by decide +kernel
theorem dX6_isOf_8 : decode cX6_isOf 8 = .ok (.iload_n 2, 1) := by decide +kernel
theorem dX6_isOf_9 : decode cX6_isOf 9 = .ok (.if_icmp .eq 13, 3) := by decide +kernel
theorem dX6_isOf_12 : decode cX6_isOf 12 = .ok (.aload_n 0, 1) := by decide +kernel
theorem dX6_isOf_13 : decode cX6_isOf 13 = .ok (.getfield 16, 3) := by decide +kernel
theorem dX6_isOf_16 : decode cX6_isOf 16 = .ok (.iload_n 3, 1) := by decide +kernel
theorem dX6_isOf_17 : decode cX6_isOf 17 = .ok (.iaload, 1) := by decide +kernel
theorem dX6_isOf_18 : decode cX6_isOf 18 = .ok (.istore_n 3, 1) := by decide +kernel
theorem dX6_isOf_19 : decode cX6_isOf 19 = .ok (.goto (-17), 3) := by decide +kernel
theorem dX6_isOf_22 : decode cX6_isOf 22 = .ok (.iload_n 3, 1) := by decide +kernel
theorem dX6_isOf_23 : decode cX6_isOf 23 = .ok (.iload_n 2, 1) := by decide +kernel
theorem dX6_isOf_24 : decode cX6_isOf 24 = .ok (.if_icmp .ne 7, 3) := by decide +kernel
theorem dX6_isOf_27 : decode cX6_isOf 27 = .ok (.iconst 1, 1) := by decide +kernel
theorem dX6_isOf_28 : decode cX6_isOf 28 = .ok (.goto 4, 3) := by decide +kernel
theorem dX6_isOf_31 : decode cX6_isOf 31 = .ok (.iconst 0, 1) := by decide +kernel
theorem dX6_isOf_32 : decode cX6_isOf 32 = .ok (.ireturn, 1) := by decide +kernel
theorem dX6_under_0 : decode cX6_under 0 = .ok (.iload_n 1, 1) := by decide +kernel
theorem dX6_under_1 : decode cX6_under 1 = .ok (.invokestatic 67, 3) := by decide +kernel
theorem dX6_under_4 : decode cX6_under 4 = .ok (.ifCond .eq 24, 3) := by decide +kernel
theorem dX6_under_7 : decode cX6_under 7 = .ok (.iload_n 2, 1) := by decide +kernel
theorem dX6_under_8 : decode cX6_under 8 = .ok (.iconst (-1), 1) := by decide +kernel
theorem dX6_under_9 : decode cX6_under 9 = .ok (.if_icmp .eq 21, 3) := by decide +kernel
theorem dX6_under_12 : decode cX6_under 12 = .ok (.iload_n 2, 1) := by decide +kernel
theorem dX6_under_13 : decode cX6_under 13 = .ok (.invokestatic 67, 3) := by decide +kernel
theorem dX6_under_16 : decode cX6_under 16 = .ok (.ifCond .eq 12, 3) := by decide +kernel
theorem dX6_under_19 : decode cX6_under 19 = .ok (.aload_n 0, 1) := by decide +kernel
theorem dX6_under_20 : decode cX6_under 20 = .ok (.iload_n 2, 1) := by decide +kernel
theorem dX6_under_21 : decode cX6_under 21 = .ok (.iload_n 1, 1) := by decide +kernel
theorem dX6_under_22 : decode cX6_under 22 = .ok (.invokevirtual 71, 3) := by decide +kernel
theorem dX6_under_25 : decode cX6_under 25 = .ok (.ifCond .eq 5, 3) := by decide +kernel
theorem dX6_under_28 : decode cX6_under 28 = .ok (.iconst 0, 1) := by decide +kernel
theorem dX6_under_29 : decode cX6_under 29 = .ok (.ireturn, 1) := by decide +kernel
theorem dX6_under_30 : decode cX6_under 30 = .ok (.aload_n 0, 1) := by decide +kernel
theorem dX6_under_31 : decode cX6_under 31 = .ok (.getfield 16, 3) := by decide +kernel
theorem dX6_under_34 : decode cX6_under 34 = .ok (.iload_n 1, 1) := by decide +kernel
theorem dX6_under_35 : decode cX6_under 35 = .ok (.iload_n 2, 1) := by decide +kernel
theorem dX6_under_36 : decode cX6_under 36 = .ok (.iastore, 1) := by decide +kernel
theorem dX6_under_37 : decode cX6_under 37 = .ok (.iconst 1, 1) := by decide +kernel
theorem dX6_under_38 : decode cX6_under 38 = .ok (.ireturn, 1) := by decide +kernel
theorem dX6_isUnder_0 : decode cX6_isUnder 0 = .ok (.iload_n 1, 1) := by decide +kernel
theorem dX6_isUnder_1 : decode cX6_isUnder 1 = .ok (.invokestatic 67, 3) := by decide +kernel
theorem dX6_isUnder_4 : decode cX6_isUnder 4 = .ok (.ifCond .eq 10, 3) := by decide +kernel
theorem dX6_isUnder_7 : decode cX6_isUnder 7 = .ok (.iload_n 2, 1) := by decide +kernel
theorem dX6_isUnder_8 : decode cX6_isUnder 8 = .ok (.invokestatic 67, 3) := by decide +kernel
theorem dX6_isUnder_11 : decode cX6_isUnder 11 = .ok (.ifCond .ne 7, 3) := by decide +kernel
theorem dX6_isUnder_14 : decode cX6_isUnder 14 = .ok (.iconst (-1), 1) := by decide +kernel
theorem dX6_isUnder_15 : decode cX6_isUnder 15 = .ok (.goto 22, 3) := by decide +kernel
theorem dX6_isUnder_18 : decode cX6_isUnder 18 = .ok (.iload_n 1, 1) := by decide +kernel
theorem dX6_isUnder_19 : decode cX6_isUnder 19 = .ok (.iload_n 2, 1) := by decide +kernel
theorem dX6_isUnder_20 : decode cX6_isUnder 20 = .ok (.if_icmp .eq 16, 3) := by decide +kernel
theorem dX6_isUnder_23 : decode cX6_isUnder 23 = .ok (.aload_n 0, 1) := by decide +kernel
theorem dX6_isUnder_24 : decode cX6_isUnder 24 = .ok (.iload_n 1, 1) := by decide +kernel
theorem dX6_isUnder_25 : decode cX6_isUnder 25 = .ok (.iload_n 2, 1) := by decide +kernel
theorem dX6_isUnder_26 : decode cX6_isUnder 26 = .ok (.invokevirtual 71, 3) := by decide +kernel
theorem dX6_isUnder_29 : decode cX6_isUnder 29 = .ok (.ifCond .eq 7, 3) := by decide +kernel
theorem dX6_isUnder_32 : decode cX6_isUnder 32 = .ok (.iconst 1, 1) := by decide +kernel
theorem dX6_isUnder_33 : decode cX6_isUnder 33 = .ok (.goto 4, 3) := by decide +kernel
theorem dX6_isUnder_36 : decode cX6_isUnder 36 = .ok (.iconst 0, 1) := by decide +kernel
theorem dX6_isUnder_37 : decode cX6_isUnder 37 = .ok (.ireturn, 1) := by decide +kernel
theorem dX6_row_0 : decode cX6_row 0 = .ok (.iload_n 1, 1) := by decide +kernel
theorem dX6_row_1 : decode cX6_row 1 = .ok (.iconst 0, 1) := by decide +kernel
theorem dX6_row_2 : decode cX6_row 2 = .ok (.iconst 1, 1) := by decide +kernel
theorem dX6_row_3 : decode cX6_row 3 = .ok (.invokestatic 60, 3) := by decide +kernel
theorem dX6_row_6 : decode cX6_row 6 = .ok (.ifCond .eq 12, 3) := by decide +kernel
theorem dX6_row_9 : decode cX6_row 9 = .ok (.aload_n 0, 1) := by decide +kernel
theorem dX6_row_10 : decode cX6_row 10 = .ok (.getfield 64, 3) := by decide +kernel
theorem dX6_row_13 : decode cX6_row 13 = .ok (.bipush 24, 2) := by decide +kernel
theorem dX6_row_15 : decode cX6_row 15 = .ok (.if_icmp .ne 5, 3) := by decide +kernel
theorem dX6_row_18 : decode cX6_row 18 = .ok (.iconst (-1), 1) := by decide +kernel
theorem dX6_row_19 : decode cX6_row 19 = .ok (.ireturn, 1) := by decide +kernel
theorem dX6_row_20 : decode cX6_row 20 = .ok (.aload_n 0, 1) := by decide +kernel
theorem dX6_row_21 : decode cX6_row 21 = .ok (.getfield 20, 3) := by decide +kernel
theorem dX6_row_24 : decode cX6_row 24 = .ok (.aload_n 0, 1) := by decide +kernel
theorem dX6_row_25 : decode cX6_row 25 = .ok (.getfield 64, 3) := by decide +kernel
theorem dX6_row_28 : decode cX6_row 28 = .ok (.iload_n 1, 1) := by decide +kernel
theorem dX6_row_29 : decode cX6_row 29 = .ok (.iastore, 1) := by decide +kernel
theorem dX6_row_30 : decode cX6_row 30 = .ok (.aload_n 0, 1) := by decide +kernel
theorem dX6_row_31 : decode cX6_row 31 = .ok (.dup, 1) := by decide +kernel
theorem dX6_row_32 : decode cX6_row 32 = .ok (.getfield 64, 3) := by decide +kernel
theorem dX6_row_35 : decode cX6_row 35 = .ok (.iconst 1, 1) := by decide +kernel
theorem dX6_row_36 : decode cX6_row 36 = .ok (.iadd, 1) := by decide +kernel
theorem dX6_row_37 : decode cX6_row 37 = .ok (.putfield 64, 3) := by decide +kernel
theorem dX6_row_40 : decode cX6_row 40 = .ok (.aload_n 0, 1) := by decide +kernel
theorem dX6_row_41 : decode cX6_row 41 = .ok (.getfield 64, 3) := by decide +kernel
theorem dX6_row_44 : decode cX6_row 44 = .ok (.iconst 1, 1) := by decide +kernel
theorem dX6_row_45 : decode cX6_row 45 = .ok (.isub, 1) := by decide +kernel
theorem dX6_row_46 : decode cX6_row 46 = .ok (.ireturn, 1) := by decide +kernel
theorem dX6_put_0 : decode cX6_put 0 = .ok (.aload_n 0, 1) := by decide +kernel
theorem dX6_put_1 : decode cX6_put 1 = .ok (.iload_n 1, 1) := by decide +kernel
theorem dX6_put_2 : decode cX6_put 2 = .ok (.invokevirtual 75, 3) := by decide +kernel
theorem dX6_put_5 : decode cX6_put 5 = .ok (.ifCond .eq 32, 3) := by decide +kernel
theorem dX6_put_8 : decode cX6_put 8 = .ok (.iload_n 2, 1) := by decide +kernel
theorem dX6_put_9 : decode cX6_put 9 = .ok (.iconst 0, 1) := by decide +kernel
theorem dX6_put_10 : decode cX6_put 10 = .ok (.sipush 9999, 3) := by decide +kernel
theorem dX6_put_13 : decode cX6_put 13 = .ok (.invokestatic 60, 3) := by decide +kernel
theorem dX6_put_16 : decode cX6_put 16 = .ok (.ifCond .eq 21, 3) := by decide +kernel
theorem dX6_put_19 : decode cX6_put 19 = .ok (.iload_n 3, 1) := by decide +kernel
theorem dX6_put_20 : decode cX6_put 20 = .ok (.invokestatic 67, 3) := by decide +kernel
theorem dX6_put_23 : decode cX6_put 23 = .ok (.ifCond .eq 14, 3) := by decide +kernel
theorem dX6_put_26 : decode cX6_put 26 = .ok (.aload_n 0, 1) := by decide +kernel
theorem dX6_put_27 : decode cX6_put 27 = .ok (.getfield 27, 3) := by decide +kernel
theorem dX6_put_30 : decode cX6_put 30 = .ok (.iload_n 1, 1) := by decide +kernel
theorem dX6_put_31 : decode cX6_put 31 = .ok (.iaload, 1) := by decide +kernel
theorem dX6_put_32 : decode cX6_put 32 = .ok (.bipush 30, 2) := by decide +kernel
theorem dX6_put_34 : decode cX6_put 34 = .ok (.if_icmp .ne 5, 3) := by decide +kernel
theorem dX6_put_37 : decode cX6_put 37 = .ok (.iconst (-1), 1) := by decide +kernel
theorem dX6_put_38 : decode cX6_put 38 = .ok (.ireturn, 1) := by decide +kernel
theorem dX6_put_39 : decode cX6_put 39 = .ok (.bipush 30, 2) := by decide +kernel
theorem dX6_put_41 : decode cX6_put 41 = .ok (.iload_n 1, 1) := by decide +kernel
theorem dX6_put_42 : decode cX6_put 42 = .ok (.imul, 1) := by decide +kernel
theorem dX6_put_43 : decode cX6_put 43 = .ok (.aload_n 0, 1) := by decide +kernel
theorem dX6_put_44 : decode cX6_put 44 = .ok (.getfield 27, 3) := by decide +kernel
theorem dX6_put_47 : decode cX6_put 47 = .ok (.iload_n 1, 1) := by decide +kernel
theorem dX6_put_48 : decode cX6_put 48 = .ok (.iaload, 1) := by decide +kernel
theorem dX6_put_49 : decode cX6_put 49 = .ok (.iadd, 1) := by decide +kernel
theorem dX6_put_50 : decode cX6_put 50 = .ok (.istore 4, 2) := by decide +kernel
theorem dX6_put_52 : decode cX6_put 52 = .ok (.aload_n 0, 1) := by decide +kernel
theorem dX6_put_53 : decode cX6_put 53 = .ok (.getfield 27, 3) := by decide +kernel
theorem dX6_put_56 : decode cX6_put 56 = .ok (.iload_n 1, 1) := by decide +kernel
theorem dX6_put_57 : decode cX6_put 57 = .ok (.iaload, 1) := by decide +kernel
theorem dX6_put_58 : decode cX6_put 58 = .ok (.ifCond .le 18, 3) := by decide +kernel
theorem dX6_put_61 : decode cX6_put 61 = .ok (.iload_n 2, 1) := by decide +kernel
theorem dX6_put_62 : decode cX6_put 62 = .ok (.aload_n 0, 1) := by decide +kernel
theorem dX6_put_63 : decode cX6_put 63 = .ok (.getfield 30, 3) := by decide +kernel
theorem dX6_put_66 : decode cX6_put 66 = .ok (.iload 4, 2) := by decide +kernel
theorem dX6_put_68 : decode cX6_put 68 = .ok (.iconst 1, 1) := by decide +kernel
theorem dX6_put_69 : decode cX6_put 69 = .ok (.isub, 1) := by decide +kernel
theorem dX6_put_70 : decode cX6_put 70 = .ok (.iaload, 1) := by decide +kernel
theorem dX6_put_71 : decode cX6_put 71 = .ok (.if_icmp .ge 5, 3) := by decide +kernel
theorem dX6_put_74 : decode cX6_put 74 = .ok (.iconst (-1), 1) := by decide +kernel
theorem dX6_put_75 : decode cX6_put 75 = .ok (.ireturn, 1) := by decide +kernel
theorem dX6_put_76 : decode cX6_put 76 = .ok (.aload_n 0, 1) := by decide +kernel
theorem dX6_put_77 : decode cX6_put 77 = .ok (.getfield 30, 3) := by decide +kernel
theorem dX6_put_80 : decode cX6_put 80 = .ok (.iload 4, 2) := by decide +kernel
theorem dX6_put_82 : decode cX6_put 82 = .ok (.iload_n 2, 1) := by decide +kernel
theorem dX6_put_83 : decode cX6_put 83 = .ok (.iastore, 1) := by decide +kernel
theorem dX6_put_84 : decode cX6_put 84 = .ok (.aload_n 0, 1) := by decide +kernel
theorem dX6_put_85 : decode cX6_put 85 = .ok (.getfield 33, 3) := by decide +kernel
theorem dX6_put_88 : decode cX6_put 88 = .ok (.iload 4, 2) := by decide +kernel
theorem dX6_put_90 : decode cX6_put 90 = .ok (.iload_n 3, 1) := by decide +kernel
theorem dX6_put_91 : decode cX6_put 91 = .ok (.iastore, 1) := by decide +kernel
theorem dX6_put_92 : decode cX6_put 92 = .ok (.aload_n 0, 1) := by decide +kernel
theorem dX6_put_93 : decode cX6_put 93 = .ok (.getfield 27, 3) := by decide +kernel
theorem dX6_put_96 : decode cX6_put 96 = .ok (.iload_n 1, 1) := by decide +kernel
theorem dX6_put_97 : decode cX6_put 97 = .ok (.dup2, 1) := by decide +kernel
theorem dX6_put_98 : decode cX6_put 98 = .ok (.iaload, 1) := by decide +kernel
theorem dX6_put_99 : decode cX6_put 99 = .ok (.iconst 1, 1) := by decide +kernel
theorem dX6_put_100 : decode cX6_put 100 = .ok (.iadd, 1) := by decide +kernel
theorem dX6_put_101 : decode cX6_put 101 = .ok (.iastore, 1) := by decide +kernel
theorem dX6_put_102 : decode cX6_put 102 = .ok (.aload_n 0, 1) := by decide +kernel
theorem dX6_put_103 : decode cX6_put 103 = .ok (.dup, 1) := by decide +kernel
theorem dX6_put_104 : decode cX6_put 104 = .ok (.getfield 78, 3) := by decide +kernel
theorem dX6_put_107 : decode cX6_put 107 = .ok (.iconst 1, 1) := by decide +kernel
theorem dX6_put_108 : decode cX6_put 108 = .ok (.iadd, 1) := by decide +kernel
theorem dX6_put_109 : decode cX6_put 109 = .ok (.putfield 78, 3) := by decide +kernel
theorem dX6_put_112 : decode cX6_put 112 = .ok (.aload_n 0, 1) := by decide +kernel
theorem dX6_put_113 : decode cX6_put 113 = .ok (.getfield 27, 3) := by decide +kernel
theorem dX6_put_116 : decode cX6_put 116 = .ok (.iload_n 1, 1) := by decide +kernel
theorem dX6_put_117 : decode cX6_put 117 = .ok (.iaload, 1) := by decide +kernel
theorem dX6_put_118 : decode cX6_put 118 = .ok (.iconst 1, 1) := by decide +kernel
theorem dX6_put_119 : decode cX6_put 119 = .ok (.isub, 1) := by decide +kernel
theorem dX6_put_120 : decode cX6_put 120 = .ok (.ireturn, 1) := by decide +kernel
theorem dX6_take_0 : decode cX6_take 0 = .ok (.aload_n 0, 1) := by decide +kernel
theorem dX6_take_1 : decode cX6_take 1 = .ok (.iload_n 1, 1) := by decide +kernel
theorem dX6_take_2 : decode cX6_take 2 = .ok (.invokevirtual 75, 3) := by decide +kernel
theorem dX6_take_5 : decode cX6_take 5 = .ok (.ifCond .eq 13, 3) := by decide +kernel
theorem dX6_take_8 : decode cX6_take 8 = .ok (.aload_n 0, 1) := by decide +kernel
theorem dX6_take_9 : decode cX6_take 9 = .ok (.getfield 23, 3) := by decide +kernel
theorem dX6_take_12 : decode cX6_take 12 = .ok (.iload_n 1, 1) := by decide +kernel
theorem dX6_take_13 : decode cX6_take 13 = .ok (.baload, 1) := by decide +kernel
theorem dX6_take_14 : decode cX6_take 14 = .ok (.iload_n 2, 1) := by decide +kernel
theorem dX6_take_15 : decode cX6_take 15 = .ok (.if_icmp .eq 5, 3) := by decide +kernel
theorem dX6_take_18 : decode cX6_take 18 = .ok (.iconst 0, 1) := by decide +kernel
theorem dX6_take_19 : decode cX6_take 19 = .ok (.ireturn, 1) := by decide +kernel
theorem dX6_take_20 : decode cX6_take 20 = .ok (.aload_n 0, 1) := by decide +kernel
theorem dX6_take_21 : decode cX6_take 21 = .ok (.getfield 23, 3) := by decide +kernel
theorem dX6_take_24 : decode cX6_take 24 = .ok (.iload_n 1, 1) := by decide +kernel
theorem dX6_take_25 : decode cX6_take 25 = .ok (.iload_n 2, 1) := by decide +kernel
theorem dX6_take_26 : decode cX6_take 26 = .ok (.ifCond .ne 7, 3) := by decide +kernel
theorem dX6_take_29 : decode cX6_take 29 = .ok (.iconst 1, 1) := by decide +kernel
theorem dX6_take_30 : decode cX6_take 30 = .ok (.goto 4, 3) := by decide +kernel
theorem dX6_take_33 : decode cX6_take 33 = .ok (.iconst 0, 1) := by decide +kernel
theorem dX6_take_34 : decode cX6_take 34 = .ok (.bastore, 1) := by decide +kernel
theorem dX6_take_35 : decode cX6_take 35 = .ok (.iconst 1, 1) := by decide +kernel
theorem dX6_take_36 : decode cX6_take 36 = .ok (.ireturn, 1) := by decide +kernel
theorem dX6_gap_0 : decode cX6_gap 0 = .ok (.iload_n 1, 1) := by decide +kernel
theorem dX6_gap_1 : decode cX6_gap 1 = .ok (.iconst 0, 1) := by decide +kernel
theorem dX6_gap_2 : decode cX6_gap 2 = .ok (.sipush 9999, 3) := by decide +kernel
theorem dX6_gap_5 : decode cX6_gap 5 = .ok (.invokestatic 60, 3) := by decide +kernel
theorem dX6_gap_8 : decode cX6_gap 8 = .ok (.ifCond .ne 5, 3) := by decide +kernel
theorem dX6_gap_11 : decode cX6_gap 11 = .ok (.iconst 0, 1) := by decide +kernel
theorem dX6_gap_12 : decode cX6_gap 12 = .ok (.ireturn, 1) := by decide +kernel
theorem dX6_gap_13 : decode cX6_gap 13 = .ok (.aload_n 0, 1) := by decide +kernel
theorem dX6_gap_14 : decode cX6_gap 14 = .ok (.iload_n 1, 1) := by decide +kernel
theorem dX6_gap_15 : decode cX6_gap 15 = .ok (.putfield 7, 3) := by decide +kernel
theorem dX6_gap_18 : decode cX6_gap 18 = .ok (.iconst 1, 1) := by decide +kernel
theorem dX6_gap_19 : decode cX6_gap 19 = .ok (.ireturn, 1) := by decide +kernel
theorem dX6_span_0 : decode cX6_span 0 = .ok (.iload_n 1, 1) := by decide +kernel
theorem dX6_span_1 : decode cX6_span 1 = .ok (.iconst 0, 1) := by decide +kernel
theorem dX6_span_2 : decode cX6_span 2 = .ok (.sipush 9999, 3) := by decide +kernel
theorem dX6_span_5 : decode cX6_span 5 = .ok (.invokestatic 60, 3) := by decide +kernel
theorem dX6_span_8 : decode cX6_span 8 = .ok (.ifCond .ne 5, 3) := by decide +kernel
theorem dX6_span_11 : decode cX6_span 11 = .ok (.iconst 0, 1) := by decide +kernel
theorem dX6_span_12 : decode cX6_span 12 = .ok (.ireturn, 1) := by decide +kernel
theorem dX6_span_13 : decode cX6_span 13 = .ok (.aload_n 0, 1) := by decide +kernel
theorem dX6_span_14 : decode cX6_span 14 = .ok (.iload_n 1, 1) := by decide +kernel
theorem dX6_span_15 : decode cX6_span 15 = .ok (.putfield 13, 3) := by decide +kernel
theorem dX6_span_18 : decode cX6_span 18 = .ok (.iconst 1, 1) := by decide +kernel
theorem dX6_span_19 : decode cX6_span 19 = .ok (.ireturn, 1) := by decide +kernel
theorem dX6_takes_0 : decode cX6_takes 0 = .ok (.aload_n 0, 1) := by decide +kernel
theorem dX6_takes_1 : decode cX6_takes 1 = .ok (.getfield 45, 3) := by decide +kernel
theorem dX6_takes_4 : decode cX6_takes 4 = .ok (.iconst 0, 1) := by decide +kernel
theorem dX6_takes_5 : decode cX6_takes 5 = .ok (.iload_n 1, 1) := by decide +kernel
theorem dX6_takes_6 : decode cX6_takes 6 = .ok (.iastore, 1) := by decide +kernel
theorem dX6_takes_7 : decode cX6_takes 7 = .ok (.aload_n 0, 1) := by decide +kernel
theorem dX6_takes_8 : decode cX6_takes 8 = .ok (.getfield 45, 3) := by decide +kernel
theorem dX6_takes_11 : decode cX6_takes 11 = .ok (.iconst 1, 1) := by decide +kernel
theorem dX6_takes_12 : decode cX6_takes 12 = .ok (.iload_n 2, 1) := by decide +kernel
theorem dX6_takes_13 : decode cX6_takes 13 = .ok (.iastore, 1) := by decide +kernel
theorem dX6_takes_14 : decode cX6_takes 14 = .ok (.aload_n 0, 1) := by decide +kernel
theorem dX6_takes_15 : decode cX6_takes 15 = .ok (.getfield 45, 3) := by decide +kernel
theorem dX6_takes_18 : decode cX6_takes 18 = .ok (.iconst 2, 1) := by decide +kernel
theorem dX6_takes_19 : decode cX6_takes 19 = .ok (.iload_n 3, 1) := by decide +kernel
theorem dX6_takes_20 : decode cX6_takes 20 = .ok (.iastore, 1) := by decide +kernel
theorem dX6_takes_21 : decode cX6_takes 21 = .ok (.aload_n 0, 1) := by decide +kernel
theorem dX6_takes_22 : decode cX6_takes 22 = .ok (.getfield 45, 3) := by decide +kernel
theorem dX6_takes_25 : decode cX6_takes 25 = .ok (.iconst 3, 1) := by decide +kernel
theorem dX6_takes_26 : decode cX6_takes 26 = .ok (.iload 4, 2) := by decide +kernel
theorem dX6_takes_28 : decode cX6_takes 28 = .ok (.iastore, 1) := by decide +kernel
theorem dX6_takes_29 : decode cX6_takes 29 = .ok (.aload_n 0, 1) := by decide +kernel
theorem dX6_takes_30 : decode cX6_takes 30 = .ok (.iconst 0, 1) := by decide +kernel
theorem dX6_takes_31 : decode cX6_takes 31 = .ok (.putfield 81, 3) := by decide +kernel
theorem dX6_takes_34 : decode cX6_takes 34 = .ok (.aload_n 0, 1) := by decide +kernel
theorem dX6_takes_35 : decode cX6_takes 35 = .ok (.getfield 81, 3) := by decide +kernel
theorem dX6_takes_38 : decode cX6_takes 38 = .ok (.iconst 4, 1) := by decide +kernel
theorem dX6_takes_39 : decode cX6_takes 39 = .ok (.if_icmp .ge 46, 3) := by decide +kernel
theorem dX6_takes_42 : decode cX6_takes 42 = .ok (.aload_n 0, 1) := by decide +kernel
theorem dX6_takes_43 : decode cX6_takes 43 = .ok (.getfield 45, 3) := by decide +kernel
theorem dX6_takes_46 : decode cX6_takes 46 = .ok (.aload_n 0, 1) := by decide +kernel
theorem dX6_takes_47 : decode cX6_takes 47 = .ok (.getfield 81, 3) := by decide +kernel
theorem dX6_takes_50 : decode cX6_takes 50 = .ok (.iaload, 1) := by decide +kernel
theorem dX6_takes_51 : decode cX6_takes 51 = .ok (.iconst (-1), 1) := by decide +kernel
theorem dX6_takes_52 : decode cX6_takes 52 = .ok (.if_icmp .eq 33, 3) := by decide +kernel
theorem dX6_takes_55 : decode cX6_takes 55 = .ok (.aload_n 0, 1) := by decide +kernel
theorem dX6_takes_56 : decode cX6_takes 56 = .ok (.getfield 45, 3) := by decide +kernel
theorem dX6_takes_59 : decode cX6_takes 59 = .ok (.aload_n 0, 1) := by decide +kernel
theorem dX6_takes_60 : decode cX6_takes 60 = .ok (.getfield 81, 3) := by decide +kernel
theorem dX6_takes_63 : decode cX6_takes 63 = .ok (.iaload, 1) := by decide +kernel
theorem dX6_takes_64 : decode cX6_takes 64 = .ok (.invokestatic 67, 3) := by decide +kernel
theorem dX6_takes_67 : decode cX6_takes 67 = .ok (.ifCond .ne 5, 3) := by decide +kernel
theorem dX6_takes_70 : decode cX6_takes 70 = .ok (.iconst 0, 1) := by decide +kernel
theorem dX6_takes_71 : decode cX6_takes 71 = .ok (.ireturn, 1) := by decide +kernel
theorem dX6_takes_72 : decode cX6_takes 72 = .ok (.aload_n 0, 1) := by decide +kernel
theorem dX6_takes_73 : decode cX6_takes 73 = .ok (.dup, 1) := by decide +kernel
theorem dX6_takes_74 : decode cX6_takes 74 = .ok (.getfield 81, 3) := by decide +kernel
theorem dX6_takes_77 : decode cX6_takes 77 = .ok (.iconst 1, 1) := by decide +kernel
theorem dX6_takes_78 : decode cX6_takes 78 = .ok (.iadd, 1) := by decide +kernel
theorem dX6_takes_79 : decode cX6_takes 79 = .ok (.putfield 81, 3) := by decide +kernel
theorem dX6_takes_82 : decode cX6_takes 82 = .ok (.goto (-48), 3) := by decide +kernel
theorem dX6_takes_85 : decode cX6_takes 85 = .ok (.aload_n 0, 1) := by decide +kernel
theorem dX6_takes_86 : decode cX6_takes 86 = .ok (.getfield 81, 3) := by decide +kernel
theorem dX6_takes_89 : decode cX6_takes 89 = .ok (.istore 5, 2) := by decide +kernel
theorem dX6_takes_91 : decode cX6_takes 91 = .ok (.iload 5, 2) := by decide +kernel
theorem dX6_takes_93 : decode cX6_takes 93 = .ok (.iconst 4, 1) := by decide +kernel
theorem dX6_takes_94 : decode cX6_takes 94 = .ok (.if_icmp .ge 22, 3) := by decide +kernel
theorem dX6_takes_97 : decode cX6_takes 97 = .ok (.aload_n 0, 1) := by decide +kernel
theorem dX6_takes_98 : decode cX6_takes 98 = .ok (.getfield 45, 3) := by decide +kernel
theorem dX6_takes_101 : decode cX6_takes 101 = .ok (.iload 5, 2) := by decide +kernel
theorem dX6_takes_103 : decode cX6_takes 103 = .ok (.iaload, 1) := by decide +kernel
theorem dX6_takes_104 : decode cX6_takes 104 = .ok (.iconst (-1), 1) := by decide +kernel
theorem dX6_takes_105 : decode cX6_takes 105 = .ok (.if_icmp .eq 5, 3) := by decide +kernel
theorem dX6_takes_108 : decode cX6_takes 108 = .ok (.iconst 0, 1) := by decide +kernel
theorem dX6_takes_109 : decode cX6_takes 109 = .ok (.ireturn, 1) := by decide +kernel
theorem dX6_takes_110 : decode cX6_takes 110 = .ok (.iinc 5 1, 3) := by decide +kernel
theorem dX6_takes_113 : decode cX6_takes 113 = .ok (.goto (-22), 3) := by decide +kernel
theorem dX6_takes_116 : decode cX6_takes 116 = .ok (.aload_n 0, 1) := by decide +kernel
theorem dX6_takes_117 : decode cX6_takes 117 = .ok (.getfield 81, 3) := by decide +kernel
theorem dX6_takes_120 : decode cX6_takes 120 = .ok (.ifCond .le 7, 3) := by decide +kernel
theorem dX6_takes_123 : decode cX6_takes 123 = .ok (.iconst 1, 1) := by decide +kernel
theorem dX6_takes_124 : decode cX6_takes 124 = .ok (.goto 4, 3) := by decide +kernel
theorem dX6_takes_127 : decode cX6_takes 127 = .ok (.iconst 0, 1) := by decide +kernel
theorem dX6_takes_128 : decode cX6_takes 128 = .ok (.ireturn, 1) := by decide +kernel
theorem dX6_isAt_0 : decode cX6_isAt 0 = .ok (.aload_n 0, 1) := by decide +kernel
theorem dX6_isAt_1 : decode cX6_isAt 1 = .ok (.aload_n 0, 1) := by decide +kernel
theorem dX6_isAt_2 : decode cX6_isAt 2 = .ok (.getfield 33, 3) := by decide +kernel
theorem dX6_isAt_5 : decode cX6_isAt 5 = .ok (.bipush 30, 2) := by decide +kernel
theorem dX6_isAt_7 : decode cX6_isAt 7 = .ok (.iload_n 1, 1) := by decide +kernel
theorem dX6_isAt_8 : decode cX6_isAt 8 = .ok (.imul, 1) := by decide +kernel
theorem dX6_isAt_9 : decode cX6_isAt 9 = .ok (.iload_n 2, 1) := by decide +kernel
theorem dX6_isAt_10 : decode cX6_isAt 10 = .ok (.iadd, 1) := by decide +kernel
theorem dX6_isAt_11 : decode cX6_isAt 11 = .ok (.iaload, 1) := by decide +kernel
theorem dX6_isAt_12 : decode cX6_isAt 12 = .ok (.aload_n 0, 1) := by decide +kernel
theorem dX6_isAt_13 : decode cX6_isAt 13 = .ok (.getfield 45, 3) := by decide +kernel
theorem dX6_isAt_16 : decode cX6_isAt 16 = .ok (.iload_n 3, 1) := by decide +kernel
theorem dX6_isAt_17 : decode cX6_isAt 17 = .ok (.iaload, 1) := by decide +kernel
theorem dX6_isAt_18 : decode cX6_isAt 18 = .ok (.invokevirtual 71, 3) := by decide +kernel
theorem dX6_isAt_21 : decode cX6_isAt 21 = .ok (.ireturn, 1) := by decide +kernel
theorem dX6_leads_0 : decode cX6_leads 0 = .ok (.aload_n 0, 1) := by decide +kernel
theorem dX6_leads_1 : decode cX6_leads 1 = .ok (.getfield 30, 3) := by decide +kernel
theorem dX6_leads_4 : decode cX6_leads 4 = .ok (.bipush 30, 2) := by decide +kernel
theorem dX6_leads_6 : decode cX6_leads 6 = .ok (.iload_n 1, 1) := by decide +kernel
theorem dX6_leads_7 : decode cX6_leads 7 = .ok (.imul, 1) := by decide +kernel
theorem dX6_leads_8 : decode cX6_leads 8 = .ok (.iload_n 3, 1) := by decide +kernel
theorem dX6_leads_9 : decode cX6_leads 9 = .ok (.iadd, 1) := by decide +kernel
theorem dX6_leads_10 : decode cX6_leads 10 = .ok (.iaload, 1) := by decide +kernel
theorem dX6_leads_11 : decode cX6_leads 11 = .ok (.aload_n 0, 1) := by decide +kernel
theorem dX6_leads_12 : decode cX6_leads 12 = .ok (.getfield 30, 3) := by decide +kernel
theorem dX6_leads_15 : decode cX6_leads 15 = .ok (.bipush 30, 2) := by decide +kernel
theorem dX6_leads_17 : decode cX6_leads 17 = .ok (.iload_n 1, 1) := by decide +kernel
theorem dX6_leads_18 : decode cX6_leads 18 = .ok (.imul, 1) := by decide +kernel
theorem dX6_leads_19 : decode cX6_leads 19 = .ok (.iload_n 2, 1) := by decide +kernel
theorem dX6_leads_20 : decode cX6_leads 20 = .ok (.iadd, 1) := by decide +kernel
theorem dX6_leads_21 : decode cX6_leads 21 = .ok (.iaload, 1) := by decide +kernel
theorem dX6_leads_22 : decode cX6_leads 22 = .ok (.isub, 1) := by decide +kernel
theorem dX6_leads_23 : decode cX6_leads 23 = .ok (.aload_n 0, 1) := by decide +kernel
theorem dX6_leads_24 : decode cX6_leads 24 = .ok (.getfield 7, 3) := by decide +kernel
theorem dX6_leads_27 : decode cX6_leads 27 = .ok (.if_icmp .gt 7, 3) := by decide +kernel
theorem dX6_leads_30 : decode cX6_leads 30 = .ok (.iconst 1, 1) := by decide +kernel
theorem dX6_leads_31 : decode cX6_leads 31 = .ok (.goto 4, 3) := by decide +kernel
theorem dX6_leads_34 : decode cX6_leads 34 = .ok (.iconst 0, 1) := by decide +kernel
theorem dX6_leads_35 : decode cX6_leads 35 = .ok (.ireturn, 1) := by decide +kernel
theorem dX6_spans_0 : decode cX6_spans 0 = .ok (.aload_n 0, 1) := by decide +kernel
theorem dX6_spans_1 : decode cX6_spans 1 = .ok (.getfield 30, 3) := by decide +kernel
theorem dX6_spans_4 : decode cX6_spans 4 = .ok (.bipush 30, 2) := by decide +kernel
theorem dX6_spans_6 : decode cX6_spans 6 = .ok (.iload_n 1, 1) := by decide +kernel
theorem dX6_spans_7 : decode cX6_spans 7 = .ok (.imul, 1) := by decide +kernel
theorem dX6_spans_8 : decode cX6_spans 8 = .ok (.iload_n 3, 1) := by decide +kernel
theorem dX6_spans_9 : decode cX6_spans 9 = .ok (.iadd, 1) := by decide +kernel
theorem dX6_spans_10 : decode cX6_spans 10 = .ok (.iaload, 1) := by decide +kernel
theorem dX6_spans_11 : decode cX6_spans 11 = .ok (.aload_n 0, 1) := by decide +kernel
theorem dX6_spans_12 : decode cX6_spans 12 = .ok (.getfield 30, 3) := by decide +kernel
theorem dX6_spans_15 : decode cX6_spans 15 = .ok (.bipush 30, 2) := by decide +kernel
theorem dX6_spans_17 : decode cX6_spans 17 = .ok (.iload_n 1, 1) := by decide +kernel
theorem dX6_spans_18 : decode cX6_spans 18 = .ok (.imul, 1) := by decide +kernel
theorem dX6_spans_19 : decode cX6_spans 19 = .ok (.iload_n 2, 1) := by decide +kernel
theorem dX6_spans_20 : decode cX6_spans 20 = .ok (.iadd, 1) := by decide +kernel
theorem dX6_spans_21 : decode cX6_spans 21 = .ok (.iaload, 1) := by decide +kernel
theorem dX6_spans_22 : decode cX6_spans 22 = .ok (.isub, 1) := by decide +kernel
theorem dX6_spans_23 : decode cX6_spans 23 = .ok (.aload_n 0, 1) := by decide +kernel
theorem dX6_spans_24 : decode cX6_spans 24 = .ok (.getfield 13, 3) := by decide +kernel
theorem dX6_spans_27 : decode cX6_spans 27 = .ok (.if_icmp .gt 7, 3) := by decide +kernel
theorem dX6_spans_30 : decode cX6_spans 30 = .ok (.iconst 1, 1) := by decide +kernel
theorem dX6_spans_31 : decode cX6_spans 31 = .ok (.goto 4, 3) := by decide +kernel
theorem dX6_spans_34 : decode cX6_spans 34 = .ok (.iconst 0, 1) := by decide +kernel
theorem dX6_spans_35 : decode cX6_spans 35 = .ok (.ireturn, 1) := by decide +kernel
theorem dX6_maps_0 : decode cX6_maps 0 = .ok (.iconst 0, 1) := by decide +kernel
theorem dX6_maps_1 : decode cX6_maps 1 = .ok (.istore_n 2, 1) := by decide +kernel
theorem dX6_maps_2 : decode cX6_maps 2 = .ok (.iload_n 2, 1) := by decide +kernel
theorem dX6_maps_3 : decode cX6_maps 3 = .ok (.bipush 16, 2) := by decide +kernel
theorem dX6_maps_5 : decode cX6_maps 5 = .ok (.if_icmp .ge 21, 3) := by decide +kernel
theorem dX6_maps_8 : decode cX6_maps 8 = .ok (.aload_n 0, 1) := by decide +kernel
theorem dX6_maps_9 : decode cX6_maps 9 = .ok (.getfield 48, 3) := by decide +kernel
theorem dX6_maps_12 : decode cX6_maps 12 = .ok (.bipush 16, 2) := by decide +kernel
theorem dX6_maps_14 : decode cX6_maps 14 = .ok (.iload_n 1, 1) := by decide +kernel
theorem dX6_maps_15 : decode cX6_maps 15 = .ok (.imul, 1) := by decide +kernel
theorem dX6_maps_16 : decode cX6_maps 16 = .ok (.iload_n 2, 1) := by decide +kernel
theorem dX6_maps_17 : decode cX6_maps 17 = .ok (.iadd, 1) := by decide +kernel
theorem dX6_maps_18 : decode cX6_maps 18 = .ok (.iconst 0, 1) := by decide +kernel
theorem dX6_maps_19 : decode cX6_maps 19 = .ok (.iastore, 1) := by decide +kernel
theorem dX6_maps_20 : decode cX6_maps 20 = .ok (.iinc 2 1, 3) := by decide +kernel
theorem dX6_maps_23 : decode cX6_maps 23 = .ok (.goto (-21), 3) := by decide +kernel
theorem dX6_maps_26 : decode cX6_maps 26 = .ok (.iconst 0, 1) := by decide +kernel
theorem dX6_maps_27 : decode cX6_maps 27 = .ok (.istore_n 2, 1) := by decide +kernel
theorem dX6_maps_28 : decode cX6_maps 28 = .ok (.iload_n 2, 1) := by decide +kernel
theorem dX6_maps_29 : decode cX6_maps 29 = .ok (.aload_n 0, 1) := by decide +kernel
theorem dX6_maps_30 : decode cX6_maps 30 = .ok (.getfield 27, 3) := by decide +kernel
theorem dX6_maps_33 : decode cX6_maps 33 = .ok (.iload_n 1, 1) := by decide +kernel
theorem dX6_maps_34 : decode cX6_maps 34 = .ok (.iaload, 1) := by decide +kernel
theorem dX6_maps_35 : decode cX6_maps 35 = .ok (.if_icmp .ge 157, 3) := by decide +kernel
theorem dX6_maps_38 : decode cX6_maps 38 = .ok (.iconst 0, 1) := by decide +kernel
theorem dX6_maps_39 : decode cX6_maps 39 = .ok (.istore_n 3, 1) := by decide +kernel
theorem dX6_maps_40 : decode cX6_maps 40 = .ok (.iload_n 3, 1) := by decide +kernel
theorem dX6_maps_41 : decode cX6_maps 41 = .ok (.bipush 16, 2) := by decide +kernel
theorem dX6_maps_43 : decode cX6_maps 43 = .ok (.if_icmp .ge 45, 3) := by decide +kernel
theorem dX6_maps_46 : decode cX6_maps 46 = .ok (.aload_n 0, 1) := by decide +kernel
theorem dX6_maps_47 : decode cX6_maps 47 = .ok (.aload_n 0, 1) := by decide +kernel
theorem dX6_maps_48 : decode cX6_maps 48 = .ok (.getfield 33, 3) := by decide +kernel
theorem dX6_maps_51 : decode cX6_maps 51 = .ok (.bipush 30, 2) := by decide +kernel
theorem dX6_maps_53 : decode cX6_maps 53 = .ok (.iload_n 1, 1) := by decide +kernel
theorem dX6_maps_54 : decode cX6_maps 54 = .ok (.imul, 1) := by decide +kernel
theorem dX6_maps_55 : decode cX6_maps 55 = .ok (.iload_n 2, 1) := by decide +kernel
theorem dX6_maps_56 : decode cX6_maps 56 = .ok (.iadd, 1) := by decide +kernel
theorem dX6_maps_57 : decode cX6_maps 57 = .ok (.iaload, 1) := by decide +kernel
theorem dX6_maps_58 : decode cX6_maps 58 = .ok (.iload_n 3, 1) := by decide +kernel
theorem dX6_maps_59 : decode cX6_maps 59 = .ok (.invokevirtual 71, 3) := by decide +kernel
theorem dX6_maps_62 : decode cX6_maps 62 = .ok (.ifCond .eq 20, 3) := by decide +kernel
theorem dX6_maps_65 : decode cX6_maps 65 = .ok (.aload_n 0, 1) := by decide +kernel
theorem dX6_maps_66 : decode cX6_maps 66 = .ok (.getfield 48, 3) := by decide +kernel
theorem dX6_maps_69 : decode cX6_maps 69 = .ok (.bipush 16, 2) := by decide +kernel
theorem dX6_maps_71 : decode cX6_maps 71 = .ok (.iload_n 1, 1) := by decide +kernel
theorem dX6_maps_72 : decode cX6_maps 72 = .ok (.imul, 1) := by decide +kernel
theorem dX6_maps_73 : decode cX6_maps 73 = .ok (.iload_n 3, 1) := by decide +kernel
theorem dX6_maps_74 : decode cX6_maps 74 = .ok (.iadd, 1) := by decide +kernel
theorem dX6_maps_75 : decode cX6_maps 75 = .ok (.dup2, 1) := by decide +kernel
theorem dX6_maps_76 : decode cX6_maps 76 = .ok (.iaload, 1) := by decide +kernel
theorem dX6_maps_77 : decode cX6_maps 77 = .ok (.iconst 1, 1) := by decide +kernel
theorem dX6_maps_78 : decode cX6_maps 78 = .ok (.iload_n 2, 1) := by decide +kernel
theorem dX6_maps_79 : decode cX6_maps 79 = .ok (.ishl, 1) := by decide +kernel
theorem dX6_maps_80 : decode cX6_maps 80 = .ok (.ior, 1) := by decide +kernel
theorem dX6_maps_81 : decode cX6_maps 81 = .ok (.iastore, 1) := by decide +kernel
theorem dX6_maps_82 : decode cX6_maps 82 = .ok (.iinc 3 1, 3) := by decide +kernel
theorem dX6_maps_85 : decode cX6_maps 85 = .ok (.goto (-45), 3) := by decide +kernel
theorem dX6_maps_88 : decode cX6_maps 88 = .ok (.iconst 0, 1) := by decide +kernel
theorem dX6_maps_89 : decode cX6_maps 89 = .ok (.istore_n 3, 1) := by decide +kernel
theorem dX6_maps_90 : decode cX6_maps 90 = .ok (.iconst 0, 1) := by decide +kernel
theorem dX6_maps_91 : decode cX6_maps 91 = .ok (.istore 4, 2) := by decide +kernel
theorem dX6_maps_93 : decode cX6_maps 93 = .ok (.iload_n 2, 1) := by decide +kernel
theorem dX6_maps_94 : decode cX6_maps 94 = .ok (.iconst 1, 1) := by decide +kernel
theorem dX6_maps_95 : decode cX6_maps 95 = .ok (.iadd, 1) := by decide +kernel
theorem dX6_maps_96 : decode cX6_maps 96 = .ok (.istore 5, 2) := by decide +kernel
theorem dX6_maps_98 : decode cX6_maps 98 = .ok (.iload 5, 2) := by decide +kernel
theorem dX6_maps_100 : decode cX6_maps 100 = .ok (.aload_n 0, 1) := by decide +kernel
theorem dX6_maps_101 : decode cX6_maps 101 = .ok (.getfield 27, 3) := by decide +kernel
theorem dX6_maps_104 : decode cX6_maps 104 = .ok (.iload_n 1, 1) := by decide +kernel
theorem dX6_maps_105 : decode cX6_maps 105 = .ok (.iaload, 1) := by decide +kernel
theorem dX6_maps_106 : decode cX6_maps 106 = .ok (.if_icmp .ge 55, 3) := by decide +kernel
theorem dX6_maps_109 : decode cX6_maps 109 = .ok (.iload_n 3, 1) := by decide +kernel
theorem dX6_maps_110 : decode cX6_maps 110 = .ok (.aload_n 0, 1) := by decide +kernel
theorem dX6_maps_111 : decode cX6_maps 111 = .ok (.iload_n 1, 1) := by decide +kernel
theorem dX6_maps_112 : decode cX6_maps 112 = .ok (.iload_n 2, 1) := by decide +kernel
theorem dX6_maps_113 : decode cX6_maps 113 = .ok (.iload 5, 2) := by decide +kernel
theorem dX6_maps_115 : decode cX6_maps 115 = .ok (.invokevirtual 84, 3) := by decide +kernel
theorem dX6_maps_118 : decode cX6_maps 118 = .ok (.ifCond .eq 10, 3) := by decide +kernel
theorem dX6_maps_121 : decode cX6_maps 121 = .ok (.iconst 1, 1) := by decide +kernel
theorem dX6_maps_122 : decode cX6_maps 122 = .ok (.iload 5, 2) := by decide +kernel
theorem dX6_maps_124 : decode cX6_maps 124 = .ok (.ishl, 1) := by decide +kernel
theorem dX6_maps_125 : decode cX6_maps 125 = .ok (.goto 4, 3) := by decide +kernel
theorem dX6_maps_128 : decode cX6_maps 128 = .ok (.iconst 0, 1) := by decide +kernel
theorem dX6_maps_129 : decode cX6_maps 129 = .ok (.ior, 1) := by decide +kernel
theorem dX6_maps_130 : decode cX6_maps 130 = .ok (.istore_n 3, 1) := by decide +kernel
theorem dX6_maps_131 : decode cX6_maps 131 = .ok (.iload 4, 2) := by decide +kernel
theorem dX6_maps_133 : decode cX6_maps 133 = .ok (.aload_n 0, 1) := by decide +kernel
theorem dX6_maps_134 : decode cX6_maps 134 = .ok (.iload_n 1, 1) := by decide +kernel
theorem dX6_maps_135 : decode cX6_maps 135 = .ok (.iload_n 2, 1) := by decide +kernel
theorem dX6_maps_136 : decode cX6_maps 136 = .ok (.iload 5, 2) := by decide +kernel
theorem dX6_maps_138 : decode cX6_maps 138 = .ok (.invokevirtual 87, 3) := by decide +kernel
theorem dX6_maps_141 : decode cX6_maps 141 = .ok (.ifCond .eq 10, 3) := by decide +kernel
theorem dX6_maps_144 : decode cX6_maps 144 = .ok (.iconst 1, 1) := by decide +kernel
theorem dX6_maps_145 : decode cX6_maps 145 = .ok (.iload 5, 2) := by decide +kernel
theorem dX6_maps_147 : decode cX6_maps 147 = .ok (.ishl, 1) := by decide +kernel
theorem dX6_maps_148 : decode cX6_maps 148 = .ok (.goto 4, 3) := by decide +kernel
theorem dX6_maps_151 : decode cX6_maps 151 = .ok (.iconst 0, 1) := by decide +kernel
theorem dX6_maps_152 : decode cX6_maps 152 = .ok (.ior, 1) := by decide +kernel
theorem dX6_maps_153 : decode cX6_maps 153 = .ok (.istore 4, 2) := by decide +kernel
theorem dX6_maps_155 : decode cX6_maps 155 = .ok (.iinc 5 1, 3) := by decide +kernel
theorem dX6_maps_158 : decode cX6_maps 158 = .ok (.goto (-60), 3) := by decide +kernel
theorem dX6_maps_161 : decode cX6_maps 161 = .ok (.aload_n 0, 1) := by decide +kernel
theorem dX6_maps_162 : decode cX6_maps 162 = .ok (.getfield 51, 3) := by decide +kernel
theorem dX6_maps_165 : decode cX6_maps 165 = .ok (.bipush 30, 2) := by decide +kernel
theorem dX6_maps_167 : decode cX6_maps 167 = .ok (.iload_n 1, 1) := by decide +kernel
theorem dX6_maps_168 : decode cX6_maps 168 = .ok (.imul, 1) := by decide +kernel
theorem dX6_maps_169 : decode cX6_maps 169 = .ok (.iload_n 2, 1) := by decide +kernel
theorem dX6_maps_170 : decode cX6_maps 170 = .ok (.iadd, 1) := by decide +kernel
theorem dX6_maps_171 : decode cX6_maps 171 = .ok (.iload_n 3, 1) := by decide +kernel
theorem dX6_maps_172 : decode cX6_maps 172 = .ok (.iastore, 1) := by decide +kernel
theorem dX6_maps_173 : decode cX6_maps 173 = .ok (.aload_n 0, 1) := by decide +kernel
theorem dX6_maps_174 : decode cX6_maps 174 = .ok (.getfield 54, 3) := by decide +kernel
theorem dX6_maps_177 : decode cX6_maps 177 = .ok (.bipush 30, 2) := by decide +kernel
theorem dX6_maps_179 : decode cX6_maps 179 = .ok (.iload_n 1, 1) := by decide +kernel
theorem dX6_maps_180 : decode cX6_maps 180 = .ok (.imul, 1) := by decide +kernel
theorem dX6_maps_181 : decode cX6_maps 181 = .ok (.iload_n 2, 1) := by decide +kernel
theorem dX6_maps_182 : decode cX6_maps 182 = .ok (.iadd, 1) := by decide +kernel
theorem dX6_maps_183 : decode cX6_maps 183 = .ok (.iload 4, 2) := by decide +kernel
theorem dX6_maps_185 : decode cX6_maps 185 = .ok (.iastore, 1) := by decide +kernel
theorem dX6_maps_186 : decode cX6_maps 186 = .ok (.iinc 2 1, 3) := by decide +kernel
theorem dX6_maps_189 : decode cX6_maps 189 = .ok (.goto (-161), 3) := by decide +kernel
theorem dX6_maps_192 : decode cX6_maps 192 = .ok (.return_, 1) := by decide +kernel
theorem dX6_mapsAll_0 : decode cX6_mapsAll 0 = .ok (.iconst 0, 1) := by decide +kernel
theorem dX6_mapsAll_1 : decode cX6_mapsAll 1 = .ok (.istore_n 1, 1) := by decide +kernel
theorem dX6_mapsAll_2 : decode cX6_mapsAll 2 = .ok (.iload_n 1, 1) := by decide +kernel
theorem dX6_mapsAll_3 : decode cX6_mapsAll 3 = .ok (.aload_n 0, 1) := by decide +kernel
theorem dX6_mapsAll_4 : decode cX6_mapsAll 4 = .ok (.getfield 64, 3) := by decide +kernel
theorem dX6_mapsAll_7 : decode cX6_mapsAll 7 = .ok (.if_icmp .ge 23, 3) := by decide +kernel
theorem dX6_mapsAll_10 : decode cX6_mapsAll 10 = .ok (.aload_n 0, 1) := by decide +kernel
theorem dX6_mapsAll_11 : decode cX6_mapsAll 11 = .ok (.getfield 23, 3) := by decide +kernel
theorem dX6_mapsAll_14 : decode cX6_mapsAll 14 = .ok (.iload_n 1, 1) := by decide +kernel
theorem dX6_mapsAll_15 : decode cX6_mapsAll 15 = .ok (.baload, 1) := by decide +kernel
theorem dX6_mapsAll_16 : decode cX6_mapsAll 16 = .ok (.ifCond .ne 8, 3) := by decide +kernel
theorem dX6_mapsAll_19 : decode cX6_mapsAll 19 = .ok (.aload_n 0, 1) := by decide +kernel
theorem dX6_mapsAll_20 : decode cX6_mapsAll 20 = .ok (.iload_n 1, 1) := by decide +kernel
theorem dX6_mapsAll_21 : decode cX6_mapsAll 21 = .ok (.invokevirtual 90, 3) := by decide +kernel
theorem dX6_mapsAll_24 : decode cX6_mapsAll 24 = .ok (.iinc 1 1, 3) := by decide +kernel
theorem dX6_mapsAll_27 : decode cX6_mapsAll 27 = .ok (.goto (-25), 3) := by decide +kernel
theorem dX6_mapsAll_30 : decode cX6_mapsAll 30 = .ok (.return_, 1) := by decide +kernel
theorem dX6_ends_0 : decode cX6_ends 0 = .ok (.iconst 1, 1) := by decide +kernel
theorem dX6_ends_1 : decode cX6_ends 1 = .ok (.iload_n 2, 1) := by decide +kernel
theorem dX6_ends_2 : decode cX6_ends 2 = .ok (.ishl, 1) := by decide +kernel
theorem dX6_ends_3 : decode cX6_ends 3 = .ok (.aload_n 0, 1) := by decide +kernel
theorem dX6_ends_4 : decode cX6_ends 4 = .ok (.getfield 48, 3) := by decide +kernel
theorem dX6_ends_7 : decode cX6_ends 7 = .ok (.bipush 16, 2) := by decide +kernel
theorem dX6_ends_9 : decode cX6_ends 9 = .ok (.iload_n 1, 1) := by decide +kernel
theorem dX6_ends_10 : decode cX6_ends 10 = .ok (.imul, 1) := by decide +kernel
theorem dX6_ends_11 : decode cX6_ends 11 = .ok (.aload_n 0, 1) := by decide +kernel
theorem dX6_ends_12 : decode cX6_ends 12 = .ok (.getfield 45, 3) := by decide +kernel
theorem dX6_ends_15 : decode cX6_ends 15 = .ok (.iconst 0, 1) := by decide +kernel
theorem dX6_ends_16 : decode cX6_ends 16 = .ok (.iaload, 1) := by decide +kernel
theorem dX6_ends_17 : decode cX6_ends 17 = .ok (.iadd, 1) := by decide +kernel
theorem dX6_ends_18 : decode cX6_ends 18 = .ok (.iaload, 1) := by decide +kernel
theorem dX6_ends_19 : decode cX6_ends 19 = .ok (.iand, 1) := by decide +kernel
theorem dX6_ends_20 : decode cX6_ends 20 = .ok (.istore 4, 2) := by decide +kernel
theorem dX6_ends_22 : decode cX6_ends 22 = .ok (.iconst 1, 1) := by decide +kernel
theorem dX6_ends_23 : decode cX6_ends 23 = .ok (.istore 5, 2) := by decide +kernel
theorem dX6_ends_25 : decode cX6_ends 25 = .ok (.iload 5, 2) := by decide +kernel
theorem dX6_ends_27 : decode cX6_ends 27 = .ok (.iload_n 3, 1) := by decide +kernel
theorem dX6_ends_28 : decode cX6_ends 28 = .ok (.if_icmp .ge 99, 3) := by decide +kernel
theorem dX6_ends_31 : decode cX6_ends 31 = .ok (.iload 4, 2) := by decide +kernel
theorem dX6_ends_33 : decode cX6_ends 33 = .ok (.ifCond .eq 94, 3) := by decide +kernel
theorem dX6_ends_36 : decode cX6_ends 36 = .ok (.iconst 0, 1) := by decide +kernel
theorem dX6_ends_37 : decode cX6_ends 37 = .ok (.istore 6, 2) := by decide +kernel
theorem dX6_ends_39 : decode cX6_ends 39 = .ok (.iconst 0, 1) := by decide +kernel
theorem dX6_ends_40 : decode cX6_ends 40 = .ok (.istore 7, 2) := by decide +kernel
theorem dX6_ends_42 : decode cX6_ends 42 = .ok (.iload 7, 2) := by decide +kernel
theorem dX6_ends_44 : decode cX6_ends 44 = .ok (.aload_n 0, 1) := by decide +kernel
theorem dX6_ends_45 : decode cX6_ends 45 = .ok (.getfield 27, 3) := by decide +kernel
theorem dX6_ends_48 : decode cX6_ends 48 = .ok (.iload_n 1, 1) := by decide +kernel
theorem dX6_ends_49 : decode cX6_ends 49 = .ok (.iaload, 1) := by decide +kernel
theorem dX6_ends_50 : decode cX6_ends 50 = .ok (.if_icmp .ge 37, 3) := by decide +kernel
theorem dX6_ends_53 : decode cX6_ends 53 = .ok (.iload 4, 2) := by decide +kernel
theorem dX6_ends_55 : decode cX6_ends 55 = .ok (.iload 7, 2) := by decide +kernel
theorem dX6_ends_57 : decode cX6_ends 57 = .ok (.ishr, 1) := by decide +kernel
theorem dX6_ends_58 : decode cX6_ends 58 = .ok (.iconst 1, 1) := by decide +kernel
theorem dX6_ends_59 : decode cX6_ends 59 = .ok (.iand, 1) := by decide +kernel
theorem dX6_ends_60 : decode cX6_ends 60 = .ok (.iconst 1, 1) := by decide +kernel
theorem dX6_ends_61 : decode cX6_ends 61 = .ok (.if_icmp .ne 20, 3) := by decide +kernel
theorem dX6_ends_64 : decode cX6_ends 64 = .ok (.iload 6, 2) := by decide +kernel
theorem dX6_ends_66 : decode cX6_ends 66 = .ok (.aload_n 0, 1) := by decide +kernel
theorem dX6_ends_67 : decode cX6_ends 67 = .ok (.getfield 51, 3) := by decide +kernel
theorem dX6_ends_70 : decode cX6_ends 70 = .ok (.bipush 30, 2) := by decide +kernel
theorem dX6_ends_72 : decode cX6_ends 72 = .ok (.iload_n 1, 1) := by decide +kernel
theorem dX6_ends_73 : decode cX6_ends 73 = .ok (.imul, 1) := by decide +kernel
theorem dX6_ends_74 : decode cX6_ends 74 = .ok (.iload 7, 2) := by decide +kernel
theorem dX6_ends_76 : decode cX6_ends 76 = .ok (.iadd, 1) := by decide +kernel
theorem dX6_ends_77 : decode cX6_ends 77 = .ok (.iaload, 1) := by decide +kernel
theorem dX6_ends_78 : decode cX6_ends 78 = .ok (.ior, 1) := by decide +kernel
theorem dX6_ends_79 : decode cX6_ends 79 = .ok (.istore 6, 2) := by decide +kernel
theorem dX6_ends_81 : decode cX6_ends 81 = .ok (.iinc 7 1, 3) := by decide +kernel
theorem dX6_ends_84 : decode cX6_ends 84 = .ok (.goto (-42), 3) := by decide +kernel
theorem dX6_ends_87 : decode cX6_ends 87 = .ok (.iload 6, 2) := by decide +kernel
theorem dX6_ends_89 : decode cX6_ends 89 = .ok (.aload_n 0, 1) := by decide +kernel
theorem dX6_ends_90 : decode cX6_ends 90 = .ok (.getfield 54, 3) := by decide +kernel
theorem dX6_ends_93 : decode cX6_ends 93 = .ok (.bipush 30, 2) := by decide +kernel
theorem dX6_ends_95 : decode cX6_ends 95 = .ok (.iload_n 1, 1) := by decide +kernel
theorem dX6_ends_96 : decode cX6_ends 96 = .ok (.imul, 1) := by decide +kernel
theorem dX6_ends_97 : decode cX6_ends 97 = .ok (.iload_n 2, 1) := by decide +kernel
theorem dX6_ends_98 : decode cX6_ends 98 = .ok (.iadd, 1) := by decide +kernel
theorem dX6_ends_99 : decode cX6_ends 99 = .ok (.iaload, 1) := by decide +kernel
theorem dX6_ends_100 : decode cX6_ends 100 = .ok (.iand, 1) := by decide +kernel
theorem dX6_ends_101 : decode cX6_ends 101 = .ok (.aload_n 0, 1) := by decide +kernel
theorem dX6_ends_102 : decode cX6_ends 102 = .ok (.getfield 48, 3) := by decide +kernel
theorem dX6_ends_105 : decode cX6_ends 105 = .ok (.bipush 16, 2) := by decide +kernel
theorem dX6_ends_107 : decode cX6_ends 107 = .ok (.iload_n 1, 1) := by decide +kernel
theorem dX6_ends_108 : decode cX6_ends 108 = .ok (.imul, 1) := by decide +kernel
theorem dX6_ends_109 : decode cX6_ends 109 = .ok (.aload_n 0, 1) := by decide +kernel
theorem dX6_ends_110 : decode cX6_ends 110 = .ok (.getfield 45, 3) := by decide +kernel
theorem dX6_ends_113 : decode cX6_ends 113 = .ok (.iload 5, 2) := by decide +kernel
theorem dX6_ends_115 : decode cX6_ends 115 = .ok (.iaload, 1) := by decide +kernel
theorem dX6_ends_116 : decode cX6_ends 116 = .ok (.iadd, 1) := by decide +kernel
theorem dX6_ends_117 : decode cX6_ends 117 = .ok (.iaload, 1) := by decide +kernel
theorem dX6_ends_118 : decode cX6_ends 118 = .ok (.iand, 1) := by decide +kernel
theorem dX6_ends_119 : decode cX6_ends 119 = .ok (.istore 4, 2) := by decide +kernel
theorem dX6_ends_121 : decode cX6_ends 121 = .ok (.iinc 5 1, 3) := by decide +kernel
theorem dX6_ends_124 : decode cX6_ends 124 = .ok (.goto (-99), 3) := by decide +kernel
theorem dX6_ends_127 : decode cX6_ends 127 = .ok (.iload 4, 2) := by decide +kernel
theorem dX6_ends_129 : decode cX6_ends 129 = .ok (.ireturn, 1) := by decide +kernel
theorem dX6_has_0 : decode cX6_has 0 = .ok (.iconst 0, 1) := by decide +kernel
theorem dX6_has_1 : decode cX6_has 1 = .ok (.istore_n 3, 1) := by decide +kernel
theorem dX6_has_2 : decode cX6_has 2 = .ok (.iload_n 3, 1) := by decide +kernel
theorem dX6_has_3 : decode cX6_has 3 = .ok (.aload_n 0, 1) := by decide +kernel
theorem dX6_has_4 : decode cX6_has 4 = .ok (.getfield 27, 3) := by decide +kernel
theorem dX6_has_7 : decode cX6_has 7 = .ok (.iload_n 1, 1) := by decide +kernel
theorem dX6_has_8 : decode cX6_has 8 = .ok (.iaload, 1) := by decide +kernel
theorem dX6_has_9 : decode cX6_has 9 = .ok (.if_icmp .ge 21, 3) := by decide +kernel
theorem dX6_has_12 : decode cX6_has 12 = .ok (.aload_n 0, 1) := by decide +kernel
theorem dX6_has_13 : decode cX6_has 13 = .ok (.iload_n 1, 1) := by decide +kernel
theorem dX6_has_14 : decode cX6_has 14 = .ok (.iload_n 3, 1) := by decide +kernel
theorem dX6_has_15 : decode cX6_has 15 = .ok (.iload_n 2, 1) := by decide +kernel
theorem dX6_has_16 : decode cX6_has 16 = .ok (.invokevirtual 94, 3) := by decide +kernel
theorem dX6_has_19 : decode cX6_has 19 = .ok (.ifCond .eq 5, 3) := by decide +kernel
theorem dX6_has_22 : decode cX6_has 22 = .ok (.iconst 1, 1) := by decide +kernel
theorem dX6_has_23 : decode cX6_has 23 = .ok (.ireturn, 1) := by decide +kernel
theorem dX6_has_24 : decode cX6_has 24 = .ok (.iinc 3 1, 3) := by decide +kernel
theorem dX6_has_27 : decode cX6_has 27 = .ok (.goto (-25), 3) := by decide +kernel
theorem dX6_has_30 : decode cX6_has 30 = .ok (.iconst 0, 1) := by decide +kernel
theorem dX6_has_31 : decode cX6_has 31 = .ok (.ireturn, 1) := by decide +kernel
theorem dX6_countOf_0 : decode cX6_countOf 0 = .ok (.iconst 0, 1) := by decide +kernel
theorem dX6_countOf_1 : decode cX6_countOf 1 = .ok (.istore_n 2, 1) := by decide +kernel
theorem dX6_countOf_2 : decode cX6_countOf 2 = .ok (.iconst 0, 1) := by decide +kernel
theorem dX6_countOf_3 : decode cX6_countOf 3 = .ok (.istore_n 3, 1) := by decide +kernel
theorem dX6_countOf_4 : decode cX6_countOf 4 = .ok (.iload_n 3, 1) := by decide +kernel
theorem dX6_countOf_5 : decode cX6_countOf 5 = .ok (.aload_n 0, 1) := by decide +kernel
theorem dX6_countOf_6 : decode cX6_countOf 6 = .ok (.getfield 64, 3) := by decide +kernel
theorem dX6_countOf_9 : decode cX6_countOf 9 = .ok (.if_icmp .ge 35, 3) := by decide +kernel
theorem dX6_countOf_12 : decode cX6_countOf 12 = .ok (.iload_n 2, 1) := by decide +kernel
theorem dX6_countOf_13 : decode cX6_countOf 13 = .ok (.aload_n 0, 1) := by decide +kernel
theorem dX6_countOf_14 : decode cX6_countOf 14 = .ok (.getfield 23, 3) := by decide +kernel
theorem dX6_countOf_17 : decode cX6_countOf 17 = .ok (.iload_n 3, 1) := by decide +kernel
theorem dX6_countOf_18 : decode cX6_countOf 18 = .ok (.baload, 1) := by decide +kernel
theorem dX6_countOf_19 : decode cX6_countOf 19 = .ok (.ifCond .ne 16, 3) := by decide +kernel
theorem dX6_countOf_22 : decode cX6_countOf 22 = .ok (.aload_n 0, 1) := by decide +kernel
theorem dX6_countOf_23 : decode cX6_countOf 23 = .ok (.iload_n 3, 1) := by decide +kernel
theorem dX6_countOf_24 : decode cX6_countOf 24 = .ok (.iload_n 1, 1) := by decide +kernel
theorem dX6_countOf_25 : decode cX6_countOf 25 = .ok (.invokevirtual 98, 3) := by decide +kernel
theorem dX6_countOf_28 : decode cX6_countOf 28 = .ok (.ifCond .eq 7, 3) := by decide +kernel
theorem dX6_countOf_31 : decode cX6_countOf 31 = .ok (.iconst 1, 1) := by decide +kernel
theorem dX6_countOf_32 : decode cX6_countOf 32 = .ok (.goto 4, 3) := by decide +kernel
theorem dX6_countOf_35 : decode cX6_countOf 35 = .ok (.iconst 0, 1) := by decide +kernel
theorem dX6_countOf_36 : decode cX6_countOf 36 = .ok (.iadd, 1) := by decide +kernel
theorem dX6_countOf_37 : decode cX6_countOf 37 = .ok (.istore_n 2, 1) := by decide +kernel
theorem dX6_countOf_38 : decode cX6_countOf 38 = .ok (.iinc 3 1, 3) := by decide +kernel
theorem dX6_countOf_41 : decode cX6_countOf 41 = .ok (.goto (-37), 3) := by decide +kernel
theorem dX6_countOf_44 : decode cX6_countOf 44 = .ok (.iload_n 2, 1) := by decide +kernel
theorem dX6_countOf_45 : decode cX6_countOf 45 = .ok (.ireturn, 1) := by decide +kernel
theorem dX6_count_0 : decode cX6_count 0 = .ok (.aload_n 0, 1) := by decide +kernel
theorem dX6_count_1 : decode cX6_count 1 = .ok (.iload_n 1, 1) := by decide +kernel
theorem dX6_count_2 : decode cX6_count 2 = .ok (.iload_n 2, 1) := by decide +kernel
theorem dX6_count_3 : decode cX6_count 3 = .ok (.iload_n 3, 1) := by decide +kernel
theorem dX6_count_4 : decode cX6_count 4 = .ok (.iload 4, 2) := by decide +kernel
theorem dX6_count_6 : decode cX6_count 6 = .ok (.invokevirtual 101, 3) := by decide +kernel
theorem dX6_count_9 : decode cX6_count 9 = .ok (.ifCond .ne 5, 3) := by decide +kernel
theorem dX6_count_12 : decode cX6_count 12 = .ok (.iconst (-1), 1) := by decide +kernel
theorem dX6_count_13 : decode cX6_count 13 = .ok (.ireturn, 1) := by decide +kernel
theorem dX6_count_14 : decode cX6_count 14 = .ok (.aload_n 0, 1) := by decide +kernel
theorem dX6_count_15 : decode cX6_count 15 = .ok (.invokevirtual 105, 3) := by decide +kernel
theorem dX6_count_18 : decode cX6_count 18 = .ok (.aload_n 0, 1) := by decide +kernel
theorem dX6_count_19 : decode cX6_count 19 = .ok (.aload_n 0, 1) := by decide +kernel
theorem dX6_count_20 : decode cX6_count 20 = .ok (.getfield 81, 3) := by decide +kernel
theorem dX6_count_23 : decode cX6_count 23 = .ok (.invokevirtual 108, 3) := by decide +kernel
theorem dX6_count_26 : decode cX6_count 26 = .ok (.ireturn, 1) := by decide +kernel
theorem dX6_next_0 : decode cX6_next 0 = .ok (.iload_n 2, 1) := by decide +kernel
theorem dX6_next_1 : decode cX6_next 1 = .ok (.ifCond .eq 7, 3) := by decide +kernel
theorem dX6_next_4 : decode cX6_next 4 = .ok (.iconst 0, 1) := by decide +kernel
theorem dX6_next_5 : decode cX6_next 5 = .ok (.goto 9, 3) := by decide +kernel
theorem dX6_next_8 : decode cX6_next 8 = .ok (.aload_n 0, 1) := by decide +kernel
theorem dX6_next_9 : decode cX6_next 9 = .ok (.getfield 81, 3) := by decide +kernel

theorem dX0_init_0 : decode cX0_init 0 = .ok (.aload_n 0, 1) := by decide +kernel
theorem dX0_init_1 : decode cX0_init 1 = .ok (.invokespecial 3, 3) := by decide +kernel
theorem dX0_init_4 : decode cX0_init 4 = .ok (.aload_n 0, 1) := by decide +kernel
theorem dX0_init_5 : decode cX0_init 5 = .ok (.sipush 2000, 3) := by decide +kernel
theorem dX0_init_8 : decode cX0_init 8 = .ok (.newarray .int, 2) := by decide +kernel
theorem dX0_init_10 : decode cX0_init 10 = .ok (.putfield 9, 3) := by decide +kernel
theorem dX0_init_13 : decode cX0_init 13 = .ok (.aload_n 0, 1) := by decide +kernel
theorem dX0_init_14 : decode cX0_init 14 = .ok (.sipush 2000, 3) := by decide +kernel
theorem dX0_init_17 : decode cX0_init 17 = .ok (.newarray .int, 2) := by decide +kernel
theorem dX0_init_19 : decode cX0_init 19 = .ok (.putfield 15, 3) := by decide +kernel
theorem dX0_init_22 : decode cX0_init 22 = .ok (.aload_n 0, 1) := by decide +kernel
theorem dX0_init_23 : decode cX0_init 23 = .ok (.iconst 0, 1) := by decide +kernel
theorem dX0_init_24 : decode cX0_init 24 = .ok (.putfield 18, 3) := by decide +kernel
theorem dX0_init_27 : decode cX0_init 27 = .ok (.return_, 1) := by decide +kernel
theorem dX0_forget_0 : decode cX0_forget 0 = .ok (.aload_n 0, 1) := by decide +kernel
theorem dX0_forget_1 : decode cX0_forget 1 = .ok (.iconst 0, 1) := by decide +kernel
theorem dX0_forget_2 : decode cX0_forget 2 = .ok (.putfield 18, 3) := by decide +kernel
theorem dX0_forget_5 : decode cX0_forget 5 = .ok (.return_, 1) := by decide +kernel
theorem dX0_add_0 : decode cX0_add 0 = .ok (.aload_n 0, 1) := by decide +kernel
theorem dX0_add_1 : decode cX0_add 1 = .ok (.getfield 18, 3) := by decide +kernel
theorem dX0_add_4 : decode cX0_add 4 = .ok (.sipush 2000, 3) := by decide +kernel
theorem dX0_add_7 : decode cX0_add 7 = .ok (.if_icmp .ge 33, 3) := by decide +kernel
theorem dX0_add_10 : decode cX0_add 10 = .ok (.aload_n 0, 1) := by decide +kernel
theorem dX0_add_11 : decode cX0_add 11 = .ok (.getfield 9, 3) := by decide +kernel
theorem dX0_add_14 : decode cX0_add 14 = .ok (.aload_n 0, 1) := by decide +kernel
theorem dX0_add_15 : decode cX0_add 15 = .ok (.getfield 18, 3) := by decide +kernel
theorem dX0_add_18 : decode cX0_add 18 = .ok (.iload_n 1, 1) := by decide +kernel
theorem dX0_add_19 : decode cX0_add 19 = .ok (.iastore, 1) := by decide +kernel
theorem dX0_add_20 : decode cX0_add 20 = .ok (.aload_n 0, 1) := by decide +kernel
theorem dX0_add_21 : decode cX0_add 21 = .ok (.getfield 15, 3) := by decide +kernel
theorem dX0_add_24 : decode cX0_add 24 = .ok (.aload_n 0, 1) := by decide +kernel
theorem dX0_add_25 : decode cX0_add 25 = .ok (.getfield 18, 3) := by decide +kernel
theorem dX0_add_28 : decode cX0_add 28 = .ok (.iload_n 2, 1) := by decide +kernel
theorem dX0_add_29 : decode cX0_add 29 = .ok (.iastore, 1) := by decide +kernel
theorem dX0_add_30 : decode cX0_add 30 = .ok (.aload_n 0, 1) := by decide +kernel
theorem dX0_add_31 : decode cX0_add 31 = .ok (.dup, 1) := by decide +kernel
theorem dX0_add_32 : decode cX0_add 32 = .ok (.getfield 18, 3) := by decide +kernel
theorem dX0_add_35 : decode cX0_add 35 = .ok (.iconst 1, 1) := by decide +kernel
theorem dX0_add_36 : decode cX0_add 36 = .ok (.iadd, 1) := by decide +kernel
theorem dX0_add_37 : decode cX0_add 37 = .ok (.putfield 18, 3) := by decide +kernel
theorem dX0_add_40 : decode cX0_add 40 = .ok (.return_, 1) := by decide +kernel
theorem dX0_isFull_0 : decode cX0_isFull 0 = .ok (.aload_n 0, 1) := by decide +kernel
theorem dX0_isFull_1 : decode cX0_isFull 1 = .ok (.getfield 18, 3) := by decide +kernel
theorem dX0_isFull_4 : decode cX0_isFull 4 = .ok (.sipush 2000, 3) := by decide +kernel
theorem dX0_isFull_7 : decode cX0_isFull 7 = .ok (.if_icmp .lt 7, 3) := by decide +kernel
theorem dX0_isFull_10 : decode cX0_isFull 10 = .ok (.iconst 1, 1) := by decide +kernel
theorem dX0_isFull_11 : decode cX0_isFull 11 = .ok (.goto 4, 3) := by decide +kernel
theorem dX0_isFull_14 : decode cX0_isFull 14 = .ok (.iconst 0, 1) := by decide +kernel
theorem dX0_isFull_15 : decode cX0_isFull 15 = .ok (.ireturn, 1) := by decide +kernel
theorem dX0_holds_0 : decode cX0_holds 0 = .ok (.iload_n 1, 1) := by decide +kernel
theorem dX0_holds_1 : decode cX0_holds 1 = .ok (.ifCond .lt 15, 3) := by decide +kernel
theorem dX0_holds_4 : decode cX0_holds 4 = .ok (.iload_n 1, 1) := by decide +kernel
theorem dX0_holds_5 : decode cX0_holds 5 = .ok (.aload_n 0, 1) := by decide +kernel
theorem dX0_holds_6 : decode cX0_holds 6 = .ok (.getfield 18, 3) := by decide +kernel
theorem dX0_holds_9 : decode cX0_holds 9 = .ok (.if_icmp .ge 7, 3) := by decide +kernel
theorem dX0_holds_12 : decode cX0_holds 12 = .ok (.iconst 1, 1) := by decide +kernel
theorem dX0_holds_13 : decode cX0_holds 13 = .ok (.goto 4, 3) := by decide +kernel
theorem dX0_holds_16 : decode cX0_holds 16 = .ok (.iconst 0, 1) := by decide +kernel
theorem dX0_holds_17 : decode cX0_holds 17 = .ok (.ireturn, 1) := by decide +kernel
theorem dX0_size_0 : decode cX0_size 0 = .ok (.aload_n 0, 1) := by decide +kernel
theorem dX0_size_1 : decode cX0_size 1 = .ok (.getfield 18, 3) := by decide +kernel
theorem dX0_size_4 : decode cX0_size 4 = .ok (.ireturn, 1) := by decide +kernel
theorem dX0_patternAt_0 : decode cX0_patternAt 0 = .ok (.aload_n 0, 1) := by decide +kernel
theorem dX0_patternAt_1 : decode cX0_patternAt 1 = .ok (.iload_n 1, 1) := by decide +kernel
theorem dX0_patternAt_2 : decode cX0_patternAt 2 = .ok (.invokevirtual 22, 3) := by decide +kernel
theorem dX0_patternAt_5 : decode cX0_patternAt 5 = .ok (.ifCond .eq 12, 3) := by decide +kernel
theorem dX0_patternAt_8 : decode cX0_patternAt 8 = .ok (.aload_n 0, 1) := by decide +kernel
theorem dX0_patternAt_9 : decode cX0_patternAt 9 = .ok (.getfield 9, 3) := by decide +kernel
theorem dX0_patternAt_12 : decode cX0_patternAt 12 = .ok (.iload_n 1, 1) := by decide +kernel
theorem dX0_patternAt_13 : decode cX0_patternAt 13 = .ok (.iaload, 1) := by decide +kernel
theorem dX0_patternAt_14 : decode cX0_patternAt 14 = .ok (.goto 4, 3) := by decide +kernel
theorem dX0_patternAt_17 : decode cX0_patternAt 17 = .ok (.iconst (-1), 1) := by decide +kernel
theorem dX0_patternAt_18 : decode cX0_patternAt 18 = .ok (.ireturn, 1) := by decide +kernel
theorem dX0_rowsThenAt_0 : decode cX0_rowsThenAt 0 = .ok (.aload_n 0, 1) := by decide +kernel
theorem dX0_rowsThenAt_1 : decode cX0_rowsThenAt 1 = .ok (.iload_n 1, 1) := by decide +kernel
theorem dX0_rowsThenAt_2 : decode cX0_rowsThenAt 2 = .ok (.invokevirtual 22, 3) := by decide +kernel
theorem dX0_rowsThenAt_5 : decode cX0_rowsThenAt 5 = .ok (.ifCond .eq 12, 3) := by decide +kernel
theorem dX0_rowsThenAt_8 : decode cX0_rowsThenAt 8 = .ok (.aload_n 0, 1) := by decide +kernel
theorem dX0_rowsThenAt_9 : decode cX0_rowsThenAt 9 = .ok (.getfield 15, 3) := by decide +kernel
theorem dX0_rowsThenAt_12 : decode cX0_rowsThenAt 12 = .ok (.iload_n 1, 1) := by decide +kernel
theorem dX0_rowsThenAt_13 : decode cX0_rowsThenAt 13 = .ok (.iaload, 1) := by decide +kernel
theorem dX0_rowsThenAt_14 : decode cX0_rowsThenAt 14 = .ok (.goto 4, 3) := by decide +kernel
theorem dX0_rowsThenAt_17 : decode cX0_rowsThenAt 17 = .ok (.iconst 0, 1) := by decide +kernel
theorem dX0_rowsThenAt_18 : decode cX0_rowsThenAt 18 = .ok (.ireturn, 1) := by decide +kernel
theorem dX1_init_0 : decode cX1_init 0 = .ok (.aload_n 0, 1) := by decide +kernel
theorem dX1_init_1 : decode cX1_init 1 = .ok (.invokespecial 3, 3) := by decide +kernel
theorem dX1_init_4 : decode cX1_init 4 = .ok (.aload_n 0, 1) := by decide +kernel
theorem dX1_init_5 : decode cX1_init 5 = .ok (.bipush 16, 2) := by decide +kernel
theorem dX1_init_7 : decode cX1_init 7 = .ok (.newarray .int, 2) := by decide +kernel
theorem dX1_init_9 : decode cX1_init 9 = .ok (.putfield 9, 3) := by decide +kernel
theorem dX1_init_12 : decode cX1_init 12 = .ok (.aload_n 0, 1) := by decide +kernel
theorem dX1_init_13 : decode cX1_init 13 = .ok (.bipush 16, 2) := by decide +kernel
theorem dX1_init_15 : decode cX1_init 15 = .ok (.newarray .int, 2) := by decide +kernel
theorem dX1_init_17 : decode cX1_init 17 = .ok (.putfield 15, 3) := by decide +kernel
theorem dX1_init_20 : decode cX1_init 20 = .ok (.iconst 0, 1) := by decide +kernel
theorem dX1_init_21 : decode cX1_init 21 = .ok (.istore_n 1, 1) := by decide +kernel
theorem dX1_init_22 : decode cX1_init 22 = .ok (.iload_n 1, 1) := by decide +kernel
theorem dX1_init_23 : decode cX1_init 23 = .ok (.bipush 16, 2) := by decide +kernel
theorem dX1_init_25 : decode cX1_init 25 = .ok (.if_icmp .ge 25, 3) := by decide +kernel
theorem dX1_init_28 : decode cX1_init 28 = .ok (.aload_n 0, 1) := by decide +kernel
theorem dX1_init_29 : decode cX1_init 29 = .ok (.getfield 9, 3) := by decide +kernel
theorem dX1_init_32 : decode cX1_init 32 = .ok (.iload_n 1, 1) := by decide +kernel
theorem dX1_init_33 : decode cX1_init 33 = .ok (.iconst (-1), 1) := by decide +kernel
theorem dX1_init_34 : decode cX1_init 34 = .ok (.iastore, 1) := by decide +kernel
theorem dX1_init_35 : decode cX1_init 35 = .ok (.aload_n 0, 1) := by decide +kernel
theorem dX1_init_36 : decode cX1_init 36 = .ok (.getfield 15, 3) := by decide +kernel
theorem dX1_init_39 : decode cX1_init 39 = .ok (.iload_n 1, 1) := by decide +kernel
theorem dX1_init_40 : decode cX1_init 40 = .ok (.iconst 1, 1) := by decide +kernel
theorem dX1_init_41 : decode cX1_init 41 = .ok (.iload_n 1, 1) := by decide +kernel
theorem dX1_init_42 : decode cX1_init 42 = .ok (.ishl, 1) := by decide +kernel
theorem dX1_init_43 : decode cX1_init 43 = .ok (.iastore, 1) := by decide +kernel
theorem dX1_init_44 : decode cX1_init 44 = .ok (.iinc 1 1, 3) := by decide +kernel
theorem dX1_init_47 : decode cX1_init 47 = .ok (.goto (-25), 3) := by decide +kernel
theorem dX1_init_50 : decode cX1_init 50 = .ok (.return_, 1) := by decide +kernel
theorem dX1_lay_0 : decode cX1_lay 0 = .ok (.iload_n 2, 1) := by decide +kernel
theorem dX1_lay_1 : decode cX1_lay 1 = .ok (.iconst (-1), 1) := by decide +kernel
theorem dX1_lay_2 : decode cX1_lay 2 = .ok (.if_icmp .eq 14, 3) := by decide +kernel
theorem dX1_lay_5 : decode cX1_lay 5 = .ok (.aload_n 0, 1) := by decide +kernel
theorem dX1_lay_6 : decode cX1_lay 6 = .ok (.iload_n 2, 1) := by decide +kernel
theorem dX1_lay_7 : decode cX1_lay 7 = .ok (.iload_n 1, 1) := by decide +kernel
theorem dX1_lay_8 : decode cX1_lay 8 = .ok (.invokevirtual 18, 3) := by decide +kernel
theorem dX1_lay_11 : decode cX1_lay 11 = .ok (.ifCond .eq 5, 3) := by decide +kernel
theorem dX1_lay_14 : decode cX1_lay 14 = .ok (.iconst 0, 1) := by decide +kernel
theorem dX1_lay_15 : decode cX1_lay 15 = .ok (.ireturn, 1) := by decide +kernel
theorem dX1_lay_16 : decode cX1_lay 16 = .ok (.aload_n 0, 1) := by decide +kernel
theorem dX1_lay_17 : decode cX1_lay 17 = .ok (.getfield 9, 3) := by decide +kernel
theorem dX1_lay_20 : decode cX1_lay 20 = .ok (.iload_n 1, 1) := by decide +kernel
theorem dX1_lay_21 : decode cX1_lay 21 = .ok (.iload_n 2, 1) := by decide +kernel
theorem dX1_lay_22 : decode cX1_lay 22 = .ok (.iastore, 1) := by decide +kernel
theorem dX1_lay_23 : decode cX1_lay 23 = .ok (.iconst 0, 1) := by decide +kernel
theorem dX1_lay_24 : decode cX1_lay 24 = .ok (.istore_n 3, 1) := by decide +kernel
theorem dX1_lay_25 : decode cX1_lay 25 = .ok (.iload_n 3, 1) := by decide +kernel
theorem dX1_lay_26 : decode cX1_lay 26 = .ok (.bipush 16, 2) := by decide +kernel
theorem dX1_lay_28 : decode cX1_lay 28 = .ok (.if_icmp .ge 20, 3) := by decide +kernel
theorem dX1_lay_31 : decode cX1_lay 31 = .ok (.aload_n 0, 1) := by decide +kernel
theorem dX1_lay_32 : decode cX1_lay 32 = .ok (.getfield 15, 3) := by decide +kernel
theorem dX1_lay_35 : decode cX1_lay 35 = .ok (.iload_n 3, 1) := by decide +kernel
theorem dX1_lay_36 : decode cX1_lay 36 = .ok (.aload_n 0, 1) := by decide +kernel
theorem dX1_lay_37 : decode cX1_lay 37 = .ok (.iload_n 3, 1) := by decide +kernel
theorem dX1_lay_38 : decode cX1_lay 38 = .ok (.invokevirtual 22, 3) := by decide +kernel
theorem dX1_lay_41 : decode cX1_lay 41 = .ok (.iastore, 1) := by decide +kernel
theorem dX1_lay_42 : decode cX1_lay 42 = .ok (.iinc 3 1, 3) := by decide +kernel
theorem dX1_lay_45 : decode cX1_lay 45 = .ok (.goto (-20), 3) := by decide +kernel
theorem dX1_lay_48 : decode cX1_lay 48 = .ok (.iconst 1, 1) := by decide +kernel
theorem dX1_lay_49 : decode cX1_lay 49 = .ok (.ireturn, 1) := by decide +kernel
theorem dX1_climb_0 : decode cX1_climb 0 = .ok (.iconst 0, 1) := by decide +kernel
theorem dX1_climb_1 : decode cX1_climb 1 = .ok (.istore_n 2, 1) := by decide +kernel
theorem dX1_climb_2 : decode cX1_climb 2 = .ok (.iload_n 1, 1) := by decide +kernel
theorem dX1_climb_3 : decode cX1_climb 3 = .ok (.istore_n 3, 1) := by decide +kernel
theorem dX1_climb_4 : decode cX1_climb 4 = .ok (.iconst 0, 1) := by decide +kernel
theorem dX1_climb_5 : decode cX1_climb 5 = .ok (.istore 4, 2) := by decide +kernel
theorem dX1_climb_7 : decode cX1_climb 7 = .ok (.iload 4, 2) := by decide +kernel
theorem dX1_climb_9 : decode cX1_climb 9 = .ok (.bipush 16, 2) := by decide +kernel
theorem dX1_climb_11 : decode cX1_climb 11 = .ok (.if_icmp .ge 27, 3) := by decide +kernel
theorem dX1_climb_14 : decode cX1_climb 14 = .ok (.iload_n 3, 1) := by decide +kernel
theorem dX1_climb_15 : decode cX1_climb 15 = .ok (.iconst (-1), 1) := by decide +kernel
theorem dX1_climb_16 : decode cX1_climb 16 = .ok (.if_icmp .eq 22, 3) := by decide +kernel
theorem dX1_climb_19 : decode cX1_climb 19 = .ok (.iload_n 2, 1) := by decide +kernel
theorem dX1_climb_20 : decode cX1_climb 20 = .ok (.iconst 1, 1) := by decide +kernel
theorem dX1_climb_21 : decode cX1_climb 21 = .ok (.iload_n 3, 1) := by decide +kernel
theorem dX1_climb_22 : decode cX1_climb 22 = .ok (.ishl, 1) := by decide +kernel
theorem dX1_climb_23 : decode cX1_climb 23 = .ok (.ior, 1) := by decide +kernel
theorem dX1_climb_24 : decode cX1_climb 24 = .ok (.istore_n 2, 1) := by decide +kernel
theorem dX1_climb_25 : decode cX1_climb 25 = .ok (.aload_n 0, 1) := by decide +kernel
theorem dX1_climb_26 : decode cX1_climb 26 = .ok (.getfield 9, 3) := by decide +kernel
theorem dX1_climb_29 : decode cX1_climb 29 = .ok (.iload_n 3, 1) := by decide +kernel
theorem dX1_climb_30 : decode cX1_climb 30 = .ok (.iaload, 1) := by decide +kernel
theorem dX1_climb_31 : decode cX1_climb 31 = .ok (.istore_n 3, 1) := by decide +kernel
theorem dX1_climb_32 : decode cX1_climb 32 = .ok (.iinc 4 1, 3) := by decide +kernel
theorem dX1_climb_35 : decode cX1_climb 35 = .ok (.goto (-28), 3) := by decide +kernel
theorem dX1_climb_38 : decode cX1_climb 38 = .ok (.iload_n 2, 1) := by decide +kernel
theorem dX1_climb_39 : decode cX1_climb 39 = .ok (.ireturn, 1) := by decide +kernel
theorem dX1_is_0 : decode cX1_is 0 = .ok (.aload_n 0, 1) := by decide +kernel
theorem dX1_is_1 : decode cX1_is 1 = .ok (.getfield 15, 3) := by decide +kernel
theorem dX1_is_4 : decode cX1_is 4 = .ok (.iload_n 1, 1) := by decide +kernel
theorem dX1_is_5 : decode cX1_is 5 = .ok (.iaload, 1) := by decide +kernel
theorem dX1_is_6 : decode cX1_is 6 = .ok (.iload_n 2, 1) := by decide +kernel
theorem dX1_is_7 : decode cX1_is 7 = .ok (.ishr, 1) := by decide +kernel
theorem dX1_is_8 : decode cX1_is 8 = .ok (.iconst 1, 1) := by decide +kernel
theorem dX1_is_9 : decode cX1_is 9 = .ok (.iand, 1) := by decide +kernel
theorem dX1_is_10 : decode cX1_is 10 = .ok (.ifCond .eq 7, 3) := by decide +kernel
theorem dX1_is_13 : decode cX1_is 13 = .ok (.iconst 1, 1) := by decide +kernel
theorem dX1_is_14 : decode cX1_is 14 = .ok (.goto 4, 3) := by decide +kernel
theorem dX1_is_17 : decode cX1_is 17 = .ok (.iconst 0, 1) := by decide +kernel
theorem dX1_is_18 : decode cX1_is 18 = .ok (.ireturn, 1) := by decide +kernel
theorem dX1_liesJustUnder_0 : decode cX1_liesJustUnder 0 = .ok (.aload_n 0, 1) := by decide +kernel
theorem dX1_liesJustUnder_1 : decode cX1_liesJustUnder 1 = .ok (.getfield 9, 3) := by decide +kernel
theorem dX1_liesJustUnder_4 : decode cX1_liesJustUnder 4 = .ok (.iload_n 1, 1) := by decide +kernel
theorem dX1_liesJustUnder_5 : decode cX1_liesJustUnder 5 = .ok (.iaload, 1) := by decide +kernel
theorem dX1_liesJustUnder_6 : decode cX1_liesJustUnder 6 = .ok (.iload_n 2, 1) := by decide +kernel
theorem dX1_liesJustUnder_7 : decode cX1_liesJustUnder 7 = .ok (.if_icmp .ne 7, 3) := by decide +kernel
theorem dX1_liesJustUnder_10 : decode cX1_liesJustUnder 10 = .ok (.iconst 1, 1) := by decide +kernel
theorem dX1_liesJustUnder_11 : decode cX1_liesJustUnder 11 = .ok (.goto 4, 3) := by decide +kernel
theorem dX1_liesJustUnder_14 : decode cX1_liesJustUnder 14 = .ok (.iconst 0, 1) := by decide +kernel
theorem dX1_liesJustUnder_15 : decode cX1_liesJustUnder 15 = .ok (.ireturn, 1) := by decide +kernel
theorem dX2_init_0 : decode cX2_init 0 = .ok (.aload_n 0, 1) := by decide +kernel
theorem dX2_init_1 : decode cX2_init 1 = .ok (.invokespecial 3, 3) := by decide +kernel
theorem dX2_init_4 : decode cX2_init 4 = .ok (.aload_n 0, 1) := by decide +kernel
theorem dX2_init_5 : decode cX2_init 5 = .ok (.aload_n 1, 1) := by decide +kernel
theorem dX2_init_6 : decode cX2_init 6 = .ok (.putfield 9, 3) := by decide +kernel
theorem dX2_init_9 : decode cX2_init 9 = .ok (.aload_n 0, 1) := by decide +kernel
theorem dX2_init_10 : decode cX2_init 10 = .ok (.bipush 100, 2) := by decide +kernel
theorem dX2_init_12 : decode cX2_init 12 = .ok (.putfield 15, 3) := by decide +kernel
theorem dX2_init_15 : decode cX2_init 15 = .ok (.aload_n 0, 1) := by decide +kernel
theorem dX2_init_16 : decode cX2_init 16 = .ok (.sipush 1000, 3) := by decide +kernel
theorem dX2_init_19 : decode cX2_init 19 = .ok (.putfield 19, 3) := by decide +kernel
theorem dX2_init_22 : decode cX2_init 22 = .ok (.aload_n 0, 1) := by decide +kernel
theorem dX2_init_23 : decode cX2_init 23 = .ok (.bipush 16, 2) := by decide +kernel
theorem dX2_init_25 : decode cX2_init 25 = .ok (.newarray .int, 2) := by decide +kernel
theorem dX2_init_27 : decode cX2_init 27 = .ok (.putfield 22, 3) := by decide +kernel
theorem dX2_init_30 : decode cX2_init 30 = .ok (.aload_n 0, 1) := by decide +kernel
theorem dX2_init_31 : decode cX2_init 31 = .ok (.iconst 4, 1) := by decide +kernel
theorem dX2_init_32 : decode cX2_init 32 = .ok (.newarray .int, 2) := by decide +kernel
theorem dX2_init_34 : decode cX2_init 34 = .ok (.putfield 26, 3) := by decide +kernel
theorem dX2_init_37 : decode cX2_init 37 = .ok (.aload_n 0, 1) := by decide +kernel
theorem dX2_init_38 : decode cX2_init 38 = .ok (.iconst 4, 1) := by decide +kernel
theorem dX2_init_39 : decode cX2_init 39 = .ok (.newarray .int, 2) := by decide +kernel
theorem dX2_init_41 : decode cX2_init 41 = .ok (.putfield 29, 3) := by decide +kernel
theorem dX2_init_44 : decode cX2_init 44 = .ok (.aload_n 0, 1) := by decide +kernel
theorem dX2_init_45 : decode cX2_init 45 = .ok (.iconst 4, 1) := by decide +kernel
theorem dX2_init_46 : decode cX2_init 46 = .ok (.newarray .int, 2) := by decide +kernel
theorem dX2_init_48 : decode cX2_init 48 = .ok (.putfield 32, 3) := by decide +kernel
theorem dX2_init_51 : decode cX2_init 51 = .ok (.return_, 1) := by decide +kernel
theorem dX2_takeUp_0 : decode cX2_takeUp 0 = .ok (.aload_n 0, 1) := by decide +kernel
theorem dX2_takeUp_1 : decode cX2_takeUp 1 = .ok (.iload_n 1, 1) := by decide +kernel
theorem dX2_takeUp_2 : decode cX2_takeUp 2 = .ok (.invokestatic 35, 3) := by decide +kernel
theorem dX2_takeUp_5 : decode cX2_takeUp 5 = .ok (.putfield 41, 3) := by decide +kernel
theorem dX2_takeUp_8 : decode cX2_takeUp 8 = .ok (.iconst 0, 1) := by decide +kernel
theorem dX2_takeUp_9 : decode cX2_takeUp 9 = .ok (.istore_n 2, 1) := by decide +kernel
theorem dX2_takeUp_10 : decode cX2_takeUp 10 = .ok (.iload_n 2, 1) := by decide +kernel
theorem dX2_takeUp_11 : decode cX2_takeUp 11 = .ok (.bipush 16, 2) := by decide +kernel
theorem dX2_takeUp_13 : decode cX2_takeUp 13 = .ok (.if_icmp .ge 76, 3) := by decide +kernel
theorem dX2_takeUp_16 : decode cX2_takeUp 16 = .ok (.aload_n 0, 1) := by decide +kernel
theorem dX2_takeUp_17 : decode cX2_takeUp 17 = .ok (.getfield 9, 3) := by decide +kernel
theorem dX2_takeUp_20 : decode cX2_takeUp 20 = .ok (.getfield 43, 3) := by decide +kernel
theorem dX2_takeUp_23 : decode cX2_takeUp 23 = .ok (.iload_n 2, 1) := by decide +kernel
theorem dX2_takeUp_24 : decode cX2_takeUp 24 = .ok (.iaload, 1) := by decide +kernel
theorem dX2_takeUp_25 : decode cX2_takeUp 25 = .ok (.istore_n 3, 1) := by decide +kernel
theorem dX2_takeUp_26 : decode cX2_takeUp 26 = .ok (.iload_n 1, 1) := by decide +kernel
theorem dX2_takeUp_27 : decode cX2_takeUp 27 = .ok (.istore 4, 2) := by decide +kernel
theorem dX2_takeUp_29 : decode cX2_takeUp 29 = .ok (.aload_n 0, 1) := by decide +kernel
theorem dX2_takeUp_30 : decode cX2_takeUp 30 = .ok (.getfield 22, 3) := by decide +kernel
theorem dX2_takeUp_33 : decode cX2_takeUp 33 = .ok (.iload_n 2, 1) := by decide +kernel
theorem dX2_takeUp_34 : decode cX2_takeUp 34 = .ok (.iconst 0, 1) := by decide +kernel
theorem dX2_takeUp_35 : decode cX2_takeUp 35 = .ok (.iastore, 1) := by decide +kernel
theorem dX2_takeUp_36 : decode cX2_takeUp 36 = .ok (.aload_n 0, 1) := by decide +kernel
theorem dX2_takeUp_37 : decode cX2_takeUp 37 = .ok (.getfield 41, 3) := by decide +kernel
theorem dX2_takeUp_40 : decode cX2_takeUp 40 = .ok (.iconst 1, 1) := by decide +kernel
theorem dX2_takeUp_41 : decode cX2_takeUp 41 = .ok (.isub, 1) := by decide +kernel
theorem dX2_takeUp_42 : decode cX2_takeUp 42 = .ok (.istore 5, 2) := by decide +kernel
theorem dX2_takeUp_44 : decode cX2_takeUp 44 = .ok (.iload 5, 2) := by decide +kernel
theorem dX2_takeUp_46 : decode cX2_takeUp 46 = .ok (.ifCond .lt 37, 3) := by decide +kernel
theorem dX2_takeUp_49 : decode cX2_takeUp 49 = .ok (.aload_n 0, 1) := by decide +kernel
theorem dX2_takeUp_50 : decode cX2_takeUp 50 = .ok (.getfield 22, 3) := by decide +kernel
theorem dX2_takeUp_53 : decode cX2_takeUp 53 = .ok (.iload_n 2, 1) := by decide +kernel
theorem dX2_takeUp_54 : decode cX2_takeUp 54 = .ok (.dup2, 1) := by decide +kernel
theorem dX2_takeUp_55 : decode cX2_takeUp 55 = .ok (.iaload, 1) := by decide +kernel
theorem dX2_takeUp_56 : decode cX2_takeUp 56 = .ok (.iload_n 3, 1) := by decide +kernel
theorem dX2_takeUp_57 : decode cX2_takeUp 57 = .ok (.iload 4, 2) := by decide +kernel
theorem dX2_takeUp_59 : decode cX2_takeUp 59 = .ok (.invokestatic 48, 3) := by decide +kernel
theorem dX2_takeUp_62 : decode cX2_takeUp 62 = .ok (.ishr, 1) := by decide +kernel
theorem dX2_takeUp_63 : decode cX2_takeUp 63 = .ok (.iconst 1, 1) := by decide +kernel
theorem dX2_takeUp_64 : decode cX2_takeUp 64 = .ok (.iand, 1) := by decide +kernel
theorem dX2_takeUp_65 : decode cX2_takeUp 65 = .ok (.iload 5, 2) := by decide +kernel
theorem dX2_takeUp_67 : decode cX2_takeUp 67 = .ok (.ishl, 1) := by decide +kernel
theorem dX2_takeUp_68 : decode cX2_takeUp 68 = .ok (.ior, 1) := by decide +kernel
theorem dX2_takeUp_69 : decode cX2_takeUp 69 = .ok (.iastore, 1) := by decide +kernel
theorem dX2_takeUp_70 : decode cX2_takeUp 70 = .ok (.iload 4, 2) := by decide +kernel
theorem dX2_takeUp_72 : decode cX2_takeUp 72 = .ok (.invokestatic 51, 3) := by decide +kernel
theorem dX2_takeUp_75 : decode cX2_takeUp 75 = .ok (.istore 4, 2) := by decide +kernel
theorem dX2_takeUp_77 : decode cX2_takeUp 77 = .ok (.iinc 5 (-1), 3) := by decide +kernel
theorem dX2_takeUp_80 : decode cX2_takeUp 80 = .ok (.goto (-36), 3) := by decide +kernel
theorem dX2_takeUp_83 : decode cX2_takeUp 83 = .ok (.iinc 2 1, 3) := by decide +kernel
theorem dX2_takeUp_86 : decode cX2_takeUp 86 = .ok (.goto (-76), 3) := by decide +kernel
theorem dX2_takeUp_89 : decode cX2_takeUp 89 = .ok (.return_, 1) := by decide +kernel
theorem dX2_isIn_0 : decode cX2_isIn 0 = .ok (.aload_n 0, 1) := by decide +kernel
theorem dX2_isIn_1 : decode cX2_isIn 1 = .ok (.invokevirtual 54, 3) := by decide +kernel
theorem dX2_isIn_4 : decode cX2_isIn 4 = .ok (.iconst 0, 1) := by decide +kernel
theorem dX2_isIn_5 : decode cX2_isIn 5 = .ok (.istore_n 2, 1) := by decide +kernel
theorem dX2_isIn_6 : decode cX2_isIn 6 = .ok (.iload_n 2, 1) := by decide +kernel
theorem dX2_isIn_7 : decode cX2_isIn 7 = .ok (.aload_n 1, 1) := by decide +kernel
theorem dX2_isIn_8 : decode cX2_isIn 8 = .ok (.invokevirtual 57, 3) := by decide +kernel
theorem dX2_isIn_11 : decode cX2_isIn 11 = .ok (.if_icmp .ge 20, 3) := by decide +kernel
theorem dX2_isIn_14 : decode cX2_isIn 14 = .ok (.aload_n 0, 1) := by decide +kernel
theorem dX2_isIn_15 : decode cX2_isIn 15 = .ok (.aload_n 1, 1) := by decide +kernel
theorem dX2_isIn_16 : decode cX2_isIn 16 = .ok (.iload_n 2, 1) := by decide +kernel
theorem dX2_isIn_17 : decode cX2_isIn 17 = .ok (.invokevirtual 63, 3) := by decide +kernel
theorem dX2_isIn_20 : decode cX2_isIn 20 = .ok (.ifCond .eq 5, 3) := by decide +kernel
theorem dX2_isIn_23 : decode cX2_isIn 23 = .ok (.iconst 1, 1) := by decide +kernel
theorem dX2_isIn_24 : decode cX2_isIn 24 = .ok (.ireturn, 1) := by decide +kernel
theorem dX2_isIn_25 : decode cX2_isIn 25 = .ok (.iinc 2 1, 3) := by decide +kernel
theorem dX2_isIn_28 : decode cX2_isIn 28 = .ok (.goto (-22), 3) := by decide +kernel
theorem dX2_isIn_31 : decode cX2_isIn 31 = .ok (.iconst 0, 1) := by decide +kernel
theorem dX2_isIn_32 : decode cX2_isIn 32 = .ok (.ireturn, 1) := by decide +kernel
theorem dX2_lastEnd_0 : decode cX2_lastEnd 0 = .ok (.aload_n 0, 1) := by decide +kernel
theorem dX2_lastEnd_1 : decode cX2_lastEnd 1 = .ok (.invokevirtual 54, 3) := by decide +kernel
theorem dX2_lastEnd_4 : decode cX2_lastEnd 4 = .ok (.iconst (-1), 1) := by decide +kernel
theorem dX2_lastEnd_5 : decode cX2_lastEnd 5 = .ok (.istore_n 2, 1) := by decide +kernel
theorem dX2_lastEnd_6 : decode cX2_lastEnd 6 = .ok (.iconst 0, 1) := by decide +kernel
theorem dX2_lastEnd_7 : decode cX2_lastEnd 7 = .ok (.istore_n 3, 1) := by decide +kernel
theorem dX2_lastEnd_8 : decode cX2_lastEnd 8 = .ok (.iload_n 3, 1) := by decide +kernel
theorem dX2_lastEnd_9 : decode cX2_lastEnd 9 = .ok (.aload_n 1, 1) := by decide +kernel
theorem dX2_lastEnd_10 : decode cX2_lastEnd 10 = .ok (.invokevirtual 57, 3) := by decide +kernel
theorem dX2_lastEnd_13 : decode cX2_lastEnd 13 = .ok (.if_icmp .ge 24, 3) := by decide +kernel
theorem dX2_lastEnd_16 : decode cX2_lastEnd 16 = .ok (.aload_n 0, 1) := by decide +kernel
theorem dX2_lastEnd_17 : decode cX2_lastEnd 17 = .ok (.aload_n 1, 1) := by decide +kernel
theorem dX2_lastEnd_18 : decode cX2_lastEnd 18 = .ok (.iload_n 3, 1) := by decide +kernel
theorem dX2_lastEnd_19 : decode cX2_lastEnd 19 = .ok (.invokevirtual 63, 3) := by decide +kernel
theorem dX2_lastEnd_22 : decode cX2_lastEnd 22 = .ok (.ifCond .eq 9, 3) := by decide +kernel
theorem dX2_lastEnd_25 : decode cX2_lastEnd 25 = .ok (.aload_n 1, 1) := by decide +kernel
theorem dX2_lastEnd_26 : decode cX2_lastEnd 26 = .ok (.iload_n 3, 1) := by decide +kernel
theorem dX2_lastEnd_27 : decode cX2_lastEnd 27 = .ok (.invokevirtual 67, 3) := by decide +kernel
theorem dX2_lastEnd_30 : decode cX2_lastEnd 30 = .ok (.istore_n 2, 1) := by decide +kernel
theorem dX2_lastEnd_31 : decode cX2_lastEnd 31 = .ok (.iinc 3 1, 3) := by decide +kernel
theorem dX2_lastEnd_34 : decode cX2_lastEnd 34 = .ok (.goto (-26), 3) := by decide +kernel
theorem dX2_lastEnd_37 : decode cX2_lastEnd 37 = .ok (.iload_n 2, 1) := by decide +kernel
theorem dX2_lastEnd_38 : decode cX2_lastEnd 38 = .ok (.ireturn, 1) := by decide +kernel
theorem dX2_kindsBehind_0 : decode cX2_kindsBehind 0 = .ok (.aload_n 0, 1) := by decide +kernel
theorem dX2_kindsBehind_1 : decode cX2_kindsBehind 1 = .ok (.invokevirtual 54, 3) := by decide +kernel
theorem dX2_kindsBehind_4 : decode cX2_kindsBehind 4 = .ok (.iconst 0, 1) := by decide +kernel
theorem dX2_kindsBehind_5 : decode cX2_kindsBehind 5 = .ok (.istore_n 2, 1) := by decide +kernel
theorem dX2_kindsBehind_6 : decode cX2_kindsBehind 6 = .ok (.iconst 0, 1) := by decide +kernel
theorem dX2_kindsBehind_7 : decode cX2_kindsBehind 7 = .ok (.istore_n 3, 1) := by decide +kernel
theorem dX2_kindsBehind_8 : decode cX2_kindsBehind 8 = .ok (.iload_n 3, 1) := by decide +kernel
theorem dX2_kindsBehind_9 : decode cX2_kindsBehind 9 = .ok (.aload_n 1, 1) := by decide +kernel
theorem dX2_kindsBehind_10 : decode cX2_kindsBehind 10 = .ok (.invokevirtual 57, 3) := by decide +kernel
theorem dX2_kindsBehind_13 : decode cX2_kindsBehind 13 = .ok (.if_icmp .ge 47, 3) := by decide +kernel
theorem dX2_kindsBehind_16 : decode cX2_kindsBehind 16 = .ok (.aload_n 0, 1) := by decide +kernel
theorem dX2_kindsBehind_17 : decode cX2_kindsBehind 17 = .ok (.aload_n 0, 1) := by decide +kernel
theorem dX2_kindsBehind_18 : decode cX2_kindsBehind 18 = .ok (.getfield 41, 3) := by decide +kernel
theorem dX2_kindsBehind_21 : decode cX2_kindsBehind 21 = .ok (.aload_n 1, 1) := by decide +kernel
theorem dX2_kindsBehind_22 : decode cX2_kindsBehind 22 = .ok (.iload_n 3, 1) := by decide +kernel
theorem dX2_kindsBehind_23 : decode cX2_kindsBehind 23 = .ok (.invokevirtual 67, 3) := by decide +kernel
theorem dX2_kindsBehind_26 : decode cX2_kindsBehind 26 = .ok (.invokevirtual 70, 3) := by decide +kernel
theorem dX2_kindsBehind_29 : decode cX2_kindsBehind 29 = .ok (.ifCond .eq 18, 3) := by decide +kernel
theorem dX2_kindsBehind_32 : decode cX2_kindsBehind 32 = .ok (.iload_n 2, 1) := by decide +kernel
theorem dX2_kindsBehind_33 : decode cX2_kindsBehind 33 = .ok (.aload_n 1, 1) := by decide +kernel
theorem dX2_kindsBehind_34 : decode cX2_kindsBehind 34 = .ok (.iload_n 3, 1) := by decide +kernel
theorem dX2_kindsBehind_35 : decode cX2_kindsBehind 35 = .ok (.aload_n 0, 1) := by decide +kernel
theorem dX2_kindsBehind_36 : decode cX2_kindsBehind 36 = .ok (.getfield 9, 3) := by decide +kernel
theorem dX2_kindsBehind_39 : decode cX2_kindsBehind 39 = .ok (.getfield 43, 3) := by decide +kernel
theorem dX2_kindsBehind_42 : decode cX2_kindsBehind 42 = .ok (.invokevirtual 74, 3) := by decide +kernel
theorem dX2_kindsBehind_45 : decode cX2_kindsBehind 45 = .ok (.ior, 1) := by decide +kernel
theorem dX2_kindsBehind_46 : decode cX2_kindsBehind 46 = .ok (.istore_n 2, 1) := by decide +kernel
theorem dX2_kindsBehind_47 : decode cX2_kindsBehind 47 = .ok (.aload_n 0, 1) := by decide +kernel
theorem dX2_kindsBehind_48 : decode cX2_kindsBehind 48 = .ok (.aload_n 1, 1) := by decide +kernel
theorem dX2_kindsBehind_49 : decode cX2_kindsBehind 49 = .ok (.iload_n 3, 1) := by decide +kernel
theorem dX2_kindsBehind_50 : decode cX2_kindsBehind 50 = .ok (.invokevirtual 63, 3) := by decide +kernel
theorem dX2_kindsBehind_53 : decode cX2_kindsBehind 53 = .ok (.pop, 1) := by decide +kernel
theorem dX2_kindsBehind_54 : decode cX2_kindsBehind 54 = .ok (.iinc 3 1, 3) := by decide +kernel
theorem dX2_kindsBehind_57 : decode cX2_kindsBehind 57 = .ok (.goto (-49), 3) := by decide +kernel
theorem dX2_kindsBehind_60 : decode cX2_kindsBehind 60 = .ok (.iload_n 2, 1) := by decide +kernel
theorem dX2_kindsBehind_61 : decode cX2_kindsBehind 61 = .ok (.ireturn, 1) := by decide +kernel
theorem dX2_loseChains_0 : decode cX2_loseChains 0 = .ok (.iconst 0, 1) := by decide +kernel
theorem dX2_loseChains_1 : decode cX2_loseChains 1 = .ok (.istore_n 1, 1) := by decide +kernel
theorem dX2_loseChains_2 : decode cX2_loseChains 2 = .ok (.iload_n 1, 1) := by decide +kernel
theorem dX2_loseChains_3 : decode cX2_loseChains 3 = .ok (.iconst 4, 1) := by decide +kernel
theorem dX2_loseChains_4 : decode cX2_loseChains 4 = .ok (.if_icmp .ge 23, 3) := by decide +kernel
theorem dX2_loseChains_7 : decode cX2_loseChains 7 = .ok (.aload_n 0, 1) := by decide +kernel
theorem dX2_loseChains_8 : decode cX2_loseChains 8 = .ok (.getfield 26, 3) := by decide +kernel
theorem dX2_loseChains_11 : decode cX2_loseChains 11 = .ok (.iload_n 1, 1) := by decide +kernel
theorem dX2_loseChains_12 : decode cX2_loseChains 12 = .ok (.iconst (-1), 1) := by decide +kernel
theorem dX2_loseChains_13 : decode cX2_loseChains 13 = .ok (.iastore, 1) := by decide +kernel
theorem dX2_loseChains_14 : decode cX2_loseChains 14 = .ok (.aload_n 0, 1) := by decide +kernel
theorem dX2_loseChains_15 : decode cX2_loseChains 15 = .ok (.getfield 29, 3) := by decide +kernel
theorem dX2_loseChains_18 : decode cX2_loseChains 18 = .ok (.iload_n 1, 1) := by decide +kernel
theorem dX2_loseChains_19 : decode cX2_loseChains 19 = .ok (.iconst (-1), 1) := by decide +kernel
theorem dX2_loseChains_20 : decode cX2_loseChains 20 = .ok (.iastore, 1) := by decide +kernel
theorem dX2_loseChains_21 : decode cX2_loseChains 21 = .ok (.iinc 1 1, 3) := by decide +kernel
theorem dX2_loseChains_24 : decode cX2_loseChains 24 = .ok (.goto (-22), 3) := by decide +kernel
theorem dX2_loseChains_27 : decode cX2_loseChains 27 = .ok (.return_, 1) := by decide +kernel
theorem dX2_endsMatch_0 : decode cX2_endsMatch 0 = .ok (.aload_n 1, 1) := by decide +kernel
theorem dX2_endsMatch_1 : decode cX2_endsMatch 1 = .ok (.iload_n 2, 1) := by decide +kernel
theorem dX2_endsMatch_2 : decode cX2_endsMatch 2 = .ok (.aload_n 0, 1) := by decide +kernel
theorem dX2_endsMatch_3 : decode cX2_endsMatch 3 = .ok (.getfield 22, 3) := by decide +kernel
theorem dX2_endsMatch_6 : decode cX2_endsMatch 6 = .ok (.invokevirtual 74, 3) := by decide +kernel
theorem dX2_endsMatch_9 : decode cX2_endsMatch 9 = .ok (.istore_n 3, 1) := by decide +kernel
theorem dX2_endsMatch_10 : decode cX2_endsMatch 10 = .ok (.aload_n 1, 1) := by decide +kernel
theorem dX2_endsMatch_11 : decode cX2_endsMatch 11 = .ok (.iload_n 2, 1) := by decide +kernel
theorem dX2_endsMatch_12 : decode cX2_endsMatch 12 = .ok (.invokevirtual 67, 3) := by decide +kernel
theorem dX2_endsMatch_15 : decode cX2_endsMatch 15 = .ok (.istore 4, 2) := by decide +kernel
theorem dX2_endsMatch_17 : decode cX2_endsMatch 17 = .ok (.iconst 0, 1) := by decide +kernel
theorem dX2_endsMatch_18 : decode cX2_endsMatch 18 = .ok (.istore 5, 2) := by decide +kernel
theorem dX2_endsMatch_20 : decode cX2_endsMatch 20 = .ok (.aload_n 0, 1) := by decide +kernel
theorem dX2_endsMatch_21 : decode cX2_endsMatch 21 = .ok (.getfield 41, 3) := by decide +kernel
theorem dX2_endsMatch_24 : decode cX2_endsMatch 24 = .ok (.iconst 1, 1) := by decide +kernel
theorem dX2_endsMatch_25 : decode cX2_endsMatch 25 = .ok (.isub, 1) := by decide +kernel
theorem dX2_endsMatch_26 : decode cX2_endsMatch 26 = .ok (.istore 6, 2) := by decide +kernel
theorem dX2_endsMatch_28 : decode cX2_endsMatch 28 = .ok (.iload_n 3, 1) := by decide +kernel
theorem dX2_endsMatch_29 : decode cX2_endsMatch 29 = .ok (.ifCond .eq 90, 3) := by decide +kernel
theorem dX2_endsMatch_32 : decode cX2_endsMatch 32 = .ok (.iload 6, 2) := by decide +kernel
theorem dX2_endsMatch_34 : decode cX2_endsMatch 34 = .ok (.ifCond .lt 85, 3) := by decide +kernel
theorem dX2_endsMatch_37 : decode cX2_endsMatch 37 = .ok (.iload_n 3, 1) := by decide +kernel
theorem dX2_endsMatch_38 : decode cX2_endsMatch 38 = .ok (.iload 6, 2) := by decide +kernel
theorem dX2_endsMatch_40 : decode cX2_endsMatch 40 = .ok (.ishr, 1) := by decide +kernel
theorem dX2_endsMatch_41 : decode cX2_endsMatch 41 = .ok (.iconst 1, 1) := by decide +kernel
theorem dX2_endsMatch_42 : decode cX2_endsMatch 42 = .ok (.iand, 1) := by decide +kernel
theorem dX2_endsMatch_43 : decode cX2_endsMatch 43 = .ok (.ifCond .eq 70, 3) := by decide +kernel
theorem dX2_endsMatch_46 : decode cX2_endsMatch 46 = .ok (.aload_n 0, 1) := by decide +kernel
theorem dX2_endsMatch_47 : decode cX2_endsMatch 47 = .ok (.iload 6, 2) := by decide +kernel
theorem dX2_endsMatch_49 : decode cX2_endsMatch 49 = .ok (.iload 4, 2) := by decide +kernel
theorem dX2_endsMatch_51 : decode cX2_endsMatch 51 = .ok (.invokevirtual 70, 3) := by decide +kernel
theorem dX2_endsMatch_54 : decode cX2_endsMatch 54 = .ok (.ifCond .eq 59, 3) := by decide +kernel
theorem dX2_endsMatch_57 : decode cX2_endsMatch 57 = .ok (.aload_n 0, 1) := by decide +kernel
theorem dX2_endsMatch_58 : decode cX2_endsMatch 58 = .ok (.getfield 26, 3) := by decide +kernel
theorem dX2_endsMatch_61 : decode cX2_endsMatch 61 = .ok (.iload 6, 2) := by decide +kernel
theorem dX2_endsMatch_63 : decode cX2_endsMatch 63 = .ok (.iload 6, 2) := by decide +kernel
theorem dX2_endsMatch_65 : decode cX2_endsMatch 65 = .ok (.ifCond .ne 8, 3) := by decide +kernel
theorem dX2_endsMatch_68 : decode cX2_endsMatch 68 = .ok (.iload 4, 2) := by decide +kernel
theorem dX2_endsMatch_70 : decode cX2_endsMatch 70 = .ok (.goto 12, 3) := by decide +kernel
theorem dX2_endsMatch_73 : decode cX2_endsMatch 73 = .ok (.aload_n 0, 1) := by decide +kernel
theorem dX2_endsMatch_74 : decode cX2_endsMatch 74 = .ok (.getfield 26, 3) := by decide +kernel
theorem dX2_endsMatch_77 : decode cX2_endsMatch 77 = .ok (.iload 6, 2) := by decide +kernel
theorem dX2_endsMatch_79 : decode cX2_endsMatch 79 = .ok (.iconst 1, 1) := by decide +kernel
theorem dX2_endsMatch_80 : decode cX2_endsMatch 80 = .ok (.isub, 1) := by decide +kernel
theorem dX2_endsMatch_81 : decode cX2_endsMatch 81 = .ok (.iaload, 1) := by decide +kernel
theorem dX2_endsMatch_82 : decode cX2_endsMatch 82 = .ok (.iastore, 1) := by decide +kernel
theorem dX2_endsMatch_83 : decode cX2_endsMatch 83 = .ok (.aload_n 0, 1) := by decide +kernel
theorem dX2_endsMatch_84 : decode cX2_endsMatch 84 = .ok (.getfield 29, 3) := by decide +kernel
theorem dX2_endsMatch_87 : decode cX2_endsMatch 87 = .ok (.iload 6, 2) := by decide +kernel
theorem dX2_endsMatch_89 : decode cX2_endsMatch 89 = .ok (.iload 4, 2) := by decide +kernel
theorem dX2_endsMatch_91 : decode cX2_endsMatch 91 = .ok (.iastore, 1) := by decide +kernel
theorem dX2_endsMatch_92 : decode cX2_endsMatch 92 = .ok (.iload 5, 2) := by decide +kernel
theorem dX2_endsMatch_94 : decode cX2_endsMatch 94 = .ok (.iload 6, 2) := by decide +kernel
theorem dX2_endsMatch_96 : decode cX2_endsMatch 96 = .ok (.aload_n 0, 1) := by decide +kernel
theorem dX2_endsMatch_97 : decode cX2_endsMatch 97 = .ok (.getfield 41, 3) := by decide +kernel
theorem dX2_endsMatch_100 : decode cX2_endsMatch 100 = .ok (.iconst 1, 1) := by decide +kernel
theorem dX2_endsMatch_101 : decode cX2_endsMatch 101 = .ok (.isub, 1) := by decide +kernel
theorem dX2_endsMatch_102 : decode cX2_endsMatch 102 = .ok (.if_icmp .ne 7, 3) := by decide +kernel
theorem dX2_endsMatch_105 : decode cX2_endsMatch 105 = .ok (.iconst 1, 1) := by decide +kernel
theorem dX2_endsMatch_106 : decode cX2_endsMatch 106 = .ok (.goto 4, 3) := by decide +kernel
theorem dX2_endsMatch_109 : decode cX2_endsMatch 109 = .ok (.iconst 0, 1) := by decide +kernel
theorem dX2_endsMatch_110 : decode cX2_endsMatch 110 = .ok (.ior, 1) := by decide +kernel
theorem dX2_endsMatch_111 : decode cX2_endsMatch 111 = .ok (.istore 5, 2) := by decide +kernel
theorem dX2_endsMatch_113 : decode cX2_endsMatch 113 = .ok (.iinc 6 (-1), 3) := by decide +kernel
theorem dX2_endsMatch_116 : decode cX2_endsMatch 116 = .ok (.goto (-88), 3) := by decide +kernel
theorem dX2_endsMatch_119 : decode cX2_endsMatch 119 = .ok (.iload 5, 2) := by decide +kernel
theorem dX2_endsMatch_121 : decode cX2_endsMatch 121 = .ok (.ireturn, 1) := by decide +kernel
theorem dX2_canFollow_0 : decode cX2_canFollow 0 = .ok (.iload_n 1, 1) := by decide +kernel
theorem dX2_canFollow_1 : decode cX2_canFollow 1 = .ok (.ifCond .ne 5, 3) := by decide +kernel
theorem dX2_canFollow_4 : decode cX2_canFollow 4 = .ok (.iconst 1, 1) := by decide +kernel
theorem dX2_canFollow_5 : decode cX2_canFollow 5 = .ok (.ireturn, 1) := by decide +kernel
theorem dX2_canFollow_6 : decode cX2_canFollow 6 = .ok (.iload_n 1, 1) := by decide +kernel
theorem dX2_canFollow_7 : decode cX2_canFollow 7 = .ok (.iconst 1, 1) := by decide +kernel
theorem dX2_canFollow_8 : decode cX2_canFollow 8 = .ok (.isub, 1) := by decide +kernel
theorem dX2_canFollow_9 : decode cX2_canFollow 9 = .ok (.istore_n 3, 1) := by decide +kernel
theorem dX2_canFollow_10 : decode cX2_canFollow 10 = .ok (.aload_n 0, 1) := by decide +kernel
theorem dX2_canFollow_11 : decode cX2_canFollow 11 = .ok (.getfield 29, 3) := by decide +kernel
theorem dX2_canFollow_14 : decode cX2_canFollow 14 = .ok (.iload_n 3, 1) := by decide +kernel
theorem dX2_canFollow_15 : decode cX2_canFollow 15 = .ok (.iaload, 1) := by decide +kernel
theorem dX2_canFollow_16 : decode cX2_canFollow 16 = .ok (.iconst (-1), 1) := by decide +kernel
theorem dX2_canFollow_17 : decode cX2_canFollow 17 = .ok (.if_icmp .eq 37, 3) := by decide +kernel
theorem dX2_canFollow_20 : decode cX2_canFollow 20 = .ok (.iload_n 2, 1) := by decide +kernel
theorem dX2_canFollow_21 : decode cX2_canFollow 21 = .ok (.aload_n 0, 1) := by decide +kernel
theorem dX2_canFollow_22 : decode cX2_canFollow 22 = .ok (.getfield 29, 3) := by decide +kernel
theorem dX2_canFollow_25 : decode cX2_canFollow 25 = .ok (.iload_n 3, 1) := by decide +kernel
theorem dX2_canFollow_26 : decode cX2_canFollow 26 = .ok (.iaload, 1) := by decide +kernel
theorem dX2_canFollow_27 : decode cX2_canFollow 27 = .ok (.isub, 1) := by decide +kernel
theorem dX2_canFollow_28 : decode cX2_canFollow 28 = .ok (.aload_n 0, 1) := by decide +kernel
theorem dX2_canFollow_29 : decode cX2_canFollow 29 = .ok (.getfield 15, 3) := by decide +kernel
theorem dX2_canFollow_32 : decode cX2_canFollow 32 = .ok (.if_icmp .gt 22, 3) := by decide +kernel
theorem dX2_canFollow_35 : decode cX2_canFollow 35 = .ok (.iload_n 2, 1) := by decide +kernel
theorem dX2_canFollow_36 : decode cX2_canFollow 36 = .ok (.aload_n 0, 1) := by decide +kernel
theorem dX2_canFollow_37 : decode cX2_canFollow 37 = .ok (.getfield 26, 3) := by decide +kernel
theorem dX2_canFollow_40 : decode cX2_canFollow 40 = .ok (.iload_n 3, 1) := by decide +kernel
theorem dX2_canFollow_41 : decode cX2_canFollow 41 = .ok (.iaload, 1) := by decide +kernel
theorem dX2_canFollow_42 : decode cX2_canFollow 42 = .ok (.isub, 1) := by decide +kernel
theorem dX2_canFollow_43 : decode cX2_canFollow 43 = .ok (.aload_n 0, 1) := by decide +kernel
theorem dX2_canFollow_44 : decode cX2_canFollow 44 = .ok (.getfield 19, 3) := by decide +kernel
theorem dX2_canFollow_47 : decode cX2_canFollow 47 = .ok (.if_icmp .gt 7, 3) := by decide +kernel
theorem dX2_canFollow_50 : decode cX2_canFollow 50 = .ok (.iconst 1, 1) := by decide +kernel
theorem dX2_canFollow_51 : decode cX2_canFollow 51 = .ok (.goto 4, 3) := by decide +kernel
theorem dX2_canFollow_54 : decode cX2_canFollow 54 = .ok (.iconst 0, 1) := by decide +kernel
theorem dX2_canFollow_55 : decode cX2_canFollow 55 = .ok (.ireturn, 1) := by decide +kernel
theorem dX2_matchesIn_0 : decode cX2_matchesIn 0 = .ok (.lconst 0, 1) := by decide +kernel
theorem dX2_matchesIn_1 : decode cX2_matchesIn 1 = .ok (.lstore_n 2, 1) := by decide +kernel
theorem dX2_matchesIn_2 : decode cX2_matchesIn 2 = .ok (.aload_n 0, 1) := by decide +kernel
theorem dX2_matchesIn_3 : decode cX2_matchesIn 3 = .ok (.aload_n 1, 1) := by decide +kernel
theorem dX2_matchesIn_4 : decode cX2_matchesIn 4 = .ok (.invokevirtual 78, 3) := by decide +kernel
theorem dX2_matchesIn_7 : decode cX2_matchesIn 7 = .ok (.istore 4, 2) := by decide +kernel
theorem dX2_matchesIn_9 : decode cX2_matchesIn 9 = .ok (.iload 4, 2) := by decide +kernel
theorem dX2_matchesIn_11 : decode cX2_matchesIn 11 = .ok (.ifCond .eq 31, 3) := by decide +kernel
theorem dX2_matchesIn_14 : decode cX2_matchesIn 14 = .ok (.lload_n 2, 1) := by decide +kernel
theorem dX2_matchesIn_15 : decode cX2_matchesIn 15 = .ok (.ldc2_w 82, 3) := by decide +kernel
theorem dX2_matchesIn_18 : decode cX2_matchesIn 18 = .ok (.lcmp, 1) := by decide +kernel
theorem dX2_matchesIn_19 : decode cX2_matchesIn 19 = .ok (.ifCond .ge 23, 3) := by decide +kernel
theorem dX2_matchesIn_22 : decode cX2_matchesIn 22 = .ok (.lload_n 2, 1) := by decide +kernel
theorem dX2_matchesIn_23 : decode cX2_matchesIn 23 = .ok (.lconst 1, 1) := by decide +kernel
theorem dX2_matchesIn_24 : decode cX2_matchesIn 24 = .ok (.ladd, 1) := by decide +kernel
theorem dX2_matchesIn_25 : decode cX2_matchesIn 25 = .ok (.lstore_n 2, 1) := by decide +kernel
theorem dX2_matchesIn_26 : decode cX2_matchesIn 26 = .ok (.aload_n 0, 1) := by decide +kernel
theorem dX2_matchesIn_27 : decode cX2_matchesIn 27 = .ok (.aload_n 1, 1) := by decide +kernel
theorem dX2_matchesIn_28 : decode cX2_matchesIn 28 = .ok (.aload_n 0, 1) := by decide +kernel
theorem dX2_matchesIn_29 : decode cX2_matchesIn 29 = .ok (.getfield 41, 3) := by decide +kernel
theorem dX2_matchesIn_32 : decode cX2_matchesIn 32 = .ok (.iconst 1, 1) := by decide +kernel
theorem dX2_matchesIn_33 : decode cX2_matchesIn 33 = .ok (.isub, 1) := by decide +kernel
theorem dX2_matchesIn_34 : decode cX2_matchesIn 34 = .ok (.invokevirtual 84, 3) := by decide +kernel
theorem dX2_matchesIn_37 : decode cX2_matchesIn 37 = .ok (.istore 4, 2) := by decide +kernel
theorem dX2_matchesIn_39 : decode cX2_matchesIn 39 = .ok (.goto (-30), 3) := by decide +kernel
theorem dX2_matchesIn_42 : decode cX2_matchesIn 42 = .ok (.lload_n 2, 1) := by decide +kernel
theorem dX2_matchesIn_43 : decode cX2_matchesIn 43 = .ok (.lreturn, 1) := by decide +kernel
theorem dX2_placeInFirst_0 : decode cX2_placeInFirst 0 = .ok (.iload_n 2, 1) := by decide +kernel
theorem dX2_placeInFirst_1 : decode cX2_placeInFirst 1 = .ok (.ifCond .lt 28, 3) := by decide +kernel
theorem dX2_placeInFirst_4 : decode cX2_placeInFirst 4 = .ok (.iload_n 2, 1) := by decide +kernel
theorem dX2_placeInFirst_5 : decode cX2_placeInFirst 5 = .ok (.aload_n 0, 1) := by decide +kernel
theorem dX2_placeInFirst_6 : decode cX2_placeInFirst 6 = .ok (.getfield 41, 3) := by decide +kernel
theorem dX2_placeInFirst_9 : decode cX2_placeInFirst 9 = .ok (.if_icmp .ge 20, 3) := by decide +kernel
theorem dX2_placeInFirst_12 : decode cX2_placeInFirst 12 = .ok (.aload_n 0, 1) := by decide +kernel
theorem dX2_placeInFirst_13 : decode cX2_placeInFirst 13 = .ok (.aload_n 1, 1) := by decide +kernel
theorem dX2_placeInFirst_14 : decode cX2_placeInFirst 14 = .ok (.invokevirtual 78, 3) := by decide +kernel
theorem dX2_placeInFirst_17 : decode cX2_placeInFirst 17 = .ok (.ifCond .eq 12, 3) := by decide +kernel
theorem dX2_placeInFirst_20 : decode cX2_placeInFirst 20 = .ok (.aload_n 0, 1) := by decide +kernel
theorem dX2_placeInFirst_21 : decode cX2_placeInFirst 21 = .ok (.getfield 32, 3) := by decide +kernel
theorem dX2_placeInFirst_24 : decode cX2_placeInFirst 24 = .ok (.iload_n 2, 1) := by decide +kernel
theorem dX2_placeInFirst_25 : decode cX2_placeInFirst 25 = .ok (.iaload, 1) := by decide +kernel
theorem dX2_placeInFirst_26 : decode cX2_placeInFirst 26 = .ok (.goto 4, 3) := by decide +kernel
theorem dX2_placeInFirst_29 : decode cX2_placeInFirst 29 = .ok (.iconst (-1), 1) := by decide +kernel
theorem dX2_placeInFirst_30 : decode cX2_placeInFirst 30 = .ok (.ireturn, 1) := by decide +kernel
theorem dX2_goToFirstMatch_0 : decode cX2_goToFirstMatch 0 = .ok (.aload_n 0, 1) := by decide +kernel
theorem dX2_goToFirstMatch_1 : decode cX2_goToFirstMatch 1 = .ok (.getfield 32, 3) := by decide +kernel
theorem dX2_goToFirstMatch_4 : decode cX2_goToFirstMatch 4 = .ok (.iconst 0, 1) := by decide +kernel
theorem dX2_goToFirstMatch_5 : decode cX2_goToFirstMatch 5 = .ok (.iconst (-1), 1) := by decide +kernel
theorem dX2_goToFirstMatch_6 : decode cX2_goToFirstMatch 6 = .ok (.iastore, 1) := by decide +kernel
theorem dX2_goToFirstMatch_7 : decode cX2_goToFirstMatch 7 = .ok (.aload_n 0, 1) := by decide +kernel
theorem dX2_goToFirstMatch_8 : decode cX2_goToFirstMatch 8 = .ok (.aload_n 1, 1) := by decide +kernel
theorem dX2_goToFirstMatch_9 : decode cX2_goToFirstMatch 9 = .ok (.iconst 0, 1) := by decide +kernel
theorem dX2_goToFirstMatch_10 : decode cX2_goToFirstMatch 10 = .ok (.invokevirtual 84, 3) := by decide +kernel
theorem dX2_goToFirstMatch_13 : decode cX2_goToFirstMatch 13 = .ok (.ireturn, 1) := by decide +kernel
theorem dX2_goToNextMatch_0 : decode cX2_goToNextMatch 0 = .ok (.iload_n 2, 1) := by decide +kernel
theorem dX2_goToNextMatch_1 : decode cX2_goToNextMatch 1 = .ok (.istore_n 3, 1) := by decide +kernel
theorem dX2_goToNextMatch_2 : decode cX2_goToNextMatch 2 = .ok (.iconst 0, 1) := by decide +kernel
theorem dX2_goToNextMatch_3 : decode cX2_goToNextMatch 3 = .ok (.istore 4, 2) := by decide +kernel
theorem dX2_goToNextMatch_5 : decode cX2_goToNextMatch 5 = .ok (.iload 4, 2) := by decide +kernel
theorem dX2_goToNextMatch_7 : decode cX2_goToNextMatch 7 = .ok (.ldc 87, 2) := by decide +kernel
theorem dX2_goToNextMatch_9 : decode cX2_goToNextMatch 9 = .ok (.if_icmp .ge 70, 3) := by decide +kernel
theorem dX2_goToNextMatch_12 : decode cX2_goToNextMatch 12 = .ok (.iload_n 3, 1) := by decide +kernel
theorem dX2_goToNextMatch_13 : decode cX2_goToNextMatch 13 = .ok (.ifCond .lt 66, 3) := by decide +kernel
theorem dX2_goToNextMatch_16 : decode cX2_goToNextMatch 16 = .ok (.aload_n 0, 1) := by decide +kernel
theorem dX2_goToNextMatch_17 : decode cX2_goToNextMatch 17 = .ok (.getfield 32, 3) := by decide +kernel
theorem dX2_goToNextMatch_20 : decode cX2_goToNextMatch 20 = .ok (.iload_n 3, 1) := by decide +kernel
theorem dX2_goToNextMatch_21 : decode cX2_goToNextMatch 21 = .ok (.aload_n 0, 1) := by decide +kernel
theorem dX2_goToNextMatch_22 : decode cX2_goToNextMatch 22 = .ok (.aload_n 1, 1) := by decide +kernel
theorem dX2_goToNextMatch_23 : decode cX2_goToNextMatch 23 = .ok (.iload_n 3, 1) := by decide +kernel
theorem dX2_goToNextMatch_24 : decode cX2_goToNextMatch 24 = .ok (.invokevirtual 88, 3) := by decide +kernel
theorem dX2_goToNextMatch_27 : decode cX2_goToNextMatch 27 = .ok (.iastore, 1) := by decide +kernel
theorem dX2_goToNextMatch_28 : decode cX2_goToNextMatch 28 = .ok (.aload_n 0, 1) := by decide +kernel
theorem dX2_goToNextMatch_29 : decode cX2_goToNextMatch 29 = .ok (.getfield 32, 3) := by decide +kernel
theorem dX2_goToNextMatch_32 : decode cX2_goToNextMatch 32 = .ok (.iload_n 3, 1) := by decide +kernel
theorem dX2_goToNextMatch_33 : decode cX2_goToNextMatch 33 = .ok (.iaload, 1) := by decide +kernel
theorem dX2_goToNextMatch_34 : decode cX2_goToNextMatch 34 = .ok (.iconst (-1), 1) := by decide +kernel
theorem dX2_goToNextMatch_35 : decode cX2_goToNextMatch 35 = .ok (.if_icmp .ne 9, 3) := by decide +kernel
theorem dX2_goToNextMatch_38 : decode cX2_goToNextMatch 38 = .ok (.iinc 3 (-1), 3) := by decide +kernel
theorem dX2_goToNextMatch_41 : decode cX2_goToNextMatch 41 = .ok (.goto 32, 3) := by decide +kernel
theorem dX2_goToNextMatch_44 : decode cX2_goToNextMatch 44 = .ok (.iload_n 3, 1) := by decide +kernel
theorem dX2_goToNextMatch_45 : decode cX2_goToNextMatch 45 = .ok (.aload_n 0, 1) := by decide +kernel
theorem dX2_goToNextMatch_46 : decode cX2_goToNextMatch 46 = .ok (.getfield 41, 3) := by decide +kernel
theorem dX2_goToNextMatch_49 : decode cX2_goToNextMatch 49 = .ok (.iconst 1, 1) := by decide +kernel
theorem dX2_goToNextMatch_50 : decode cX2_goToNextMatch 50 = .ok (.isub, 1) := by decide +kernel
theorem dX2_goToNextMatch_51 : decode cX2_goToNextMatch 51 = .ok (.if_icmp .lt 5, 3) := by decide +kernel
theorem dX2_goToNextMatch_54 : decode cX2_goToNextMatch 54 = .ok (.iconst 1, 1) := by decide +kernel
theorem dX2_goToNextMatch_55 : decode cX2_goToNextMatch 55 = .ok (.ireturn, 1) := by decide +kernel
theorem dX2_goToNextMatch_56 : decode cX2_goToNextMatch 56 = .ok (.aload_n 0, 1) := by decide +kernel
theorem dX2_goToNextMatch_57 : decode cX2_goToNextMatch 57 = .ok (.getfield 32, 3) := by decide +kernel
theorem dX2_goToNextMatch_60 : decode cX2_goToNextMatch 60 = .ok (.iload_n 3, 1) := by decide +kernel
theorem dX2_goToNextMatch_61 : decode cX2_goToNextMatch 61 = .ok (.iconst 1, 1) := by decide +kernel
theorem dX2_goToNextMatch_62 : decode cX2_goToNextMatch 62 = .ok (.iadd, 1) := by decide +kernel
theorem dX2_goToNextMatch_63 : decode cX2_goToNextMatch 63 = .ok (.aload_n 0, 1) := by decide +kernel
theorem dX2_goToNextMatch_64 : decode cX2_goToNextMatch 64 = .ok (.getfield 32, 3) := by decide +kernel
theorem dX2_goToNextMatch_67 : decode cX2_goToNextMatch 67 = .ok (.iload_n 3, 1) := by decide +kernel
theorem dX2_goToNextMatch_68 : decode cX2_goToNextMatch 68 = .ok (.iaload, 1) := by decide +kernel
theorem dX2_goToNextMatch_69 : decode cX2_goToNextMatch 69 = .ok (.iastore, 1) := by decide +kernel
theorem dX2_goToNextMatch_70 : decode cX2_goToNextMatch 70 = .ok (.iinc 3 1, 3) := by decide +kernel
theorem dX2_goToNextMatch_73 : decode cX2_goToNextMatch 73 = .ok (.iinc 4 1, 3) := by decide +kernel
theorem dX2_goToNextMatch_76 : decode cX2_goToNextMatch 76 = .ok (.goto (-71), 3) := by decide +kernel
theorem dX2_goToNextMatch_79 : decode cX2_goToNextMatch 79 = .ok (.iconst 0, 1) := by decide +kernel
theorem dX2_goToNextMatch_80 : decode cX2_goToNextMatch 80 = .ok (.ireturn, 1) := by decide +kernel
theorem dX2_nextPlace_0 : decode cX2_nextPlace 0 = .ok (.aload_n 0, 1) := by decide +kernel
theorem dX2_nextPlace_1 : decode cX2_nextPlace 1 = .ok (.getfield 32, 3) := by decide +kernel
theorem dX2_nextPlace_4 : decode cX2_nextPlace 4 = .ok (.iload_n 2, 1) := by decide +kernel
theorem dX2_nextPlace_5 : decode cX2_nextPlace 5 = .ok (.iaload, 1) := by decide +kernel
theorem dX2_nextPlace_6 : decode cX2_nextPlace 6 = .ok (.iconst 1, 1) := by decide +kernel
theorem dX2_nextPlace_7 : decode cX2_nextPlace 7 = .ok (.iadd, 1) := by decide +kernel
theorem dX2_nextPlace_8 : decode cX2_nextPlace 8 = .ok (.istore_n 3, 1) := by decide +kernel
theorem dX2_nextPlace_9 : decode cX2_nextPlace 9 = .ok (.iload_n 3, 1) := by decide +kernel
theorem dX2_nextPlace_10 : decode cX2_nextPlace 10 = .ok (.aload_n 1, 1) := by decide +kernel
theorem dX2_nextPlace_11 : decode cX2_nextPlace 11 = .ok (.invokevirtual 57, 3) := by decide +kernel
theorem dX2_nextPlace_14 : decode cX2_nextPlace 14 = .ok (.if_icmp .ge 21, 3) := by decide +kernel
theorem dX2_nextPlace_17 : decode cX2_nextPlace 17 = .ok (.aload_n 0, 1) := by decide +kernel
theorem dX2_nextPlace_18 : decode cX2_nextPlace 18 = .ok (.aload_n 1, 1) := by decide +kernel
theorem dX2_nextPlace_19 : decode cX2_nextPlace 19 = .ok (.iload_n 3, 1) := by decide +kernel
theorem dX2_nextPlace_20 : decode cX2_nextPlace 20 = .ok (.iload_n 2, 1) := by decide +kernel
theorem dX2_nextPlace_21 : decode cX2_nextPlace 21 = .ok (.invokevirtual 92, 3) := by decide +kernel
theorem dX2_nextPlace_24 : decode cX2_nextPlace 24 = .ok (.ifCond .eq 5, 3) := by decide +kernel
theorem dX2_nextPlace_27 : decode cX2_nextPlace 27 = .ok (.iload_n 3, 1) := by decide +kernel
theorem dX2_nextPlace_28 : decode cX2_nextPlace 28 = .ok (.ireturn, 1) := by decide +kernel
theorem dX2_nextPlace_29 : decode cX2_nextPlace 29 = .ok (.iinc 3 1, 3) := by decide +kernel
theorem dX2_nextPlace_32 : decode cX2_nextPlace 32 = .ok (.goto (-23), 3) := by decide +kernel
theorem dX2_nextPlace_35 : decode cX2_nextPlace 35 = .ok (.iconst (-1), 1) := by decide +kernel
theorem dX2_nextPlace_36 : decode cX2_nextPlace 36 = .ok (.ireturn, 1) := by decide +kernel
theorem dX2_canStandAt_0 : decode cX2_canStandAt 0 = .ok (.aload_n 1, 1) := by decide +kernel
theorem dX2_canStandAt_1 : decode cX2_canStandAt 1 = .ok (.iload_n 2, 1) := by decide +kernel
theorem dX2_canStandAt_2 : decode cX2_canStandAt 2 = .ok (.aload_n 0, 1) := by decide +kernel
theorem dX2_canStandAt_3 : decode cX2_canStandAt 3 = .ok (.getfield 22, 3) := by decide +kernel
theorem dX2_canStandAt_6 : decode cX2_canStandAt 6 = .ok (.invokevirtual 74, 3) := by decide +kernel
theorem dX2_canStandAt_9 : decode cX2_canStandAt 9 = .ok (.iload_n 3, 1) := by decide +kernel
theorem dX2_canStandAt_10 : decode cX2_canStandAt 10 = .ok (.ishr, 1) := by decide +kernel
theorem dX2_canStandAt_11 : decode cX2_canStandAt 11 = .ok (.iconst 1, 1) := by decide +kernel
theorem dX2_canStandAt_12 : decode cX2_canStandAt 12 = .ok (.iand, 1) := by decide +kernel
theorem dX2_canStandAt_13 : decode cX2_canStandAt 13 = .ok (.ifCond .ne 5, 3) := by decide +kernel
theorem dX2_canStandAt_16 : decode cX2_canStandAt 16 = .ok (.iconst 0, 1) := by decide +kernel
theorem dX2_canStandAt_17 : decode cX2_canStandAt 17 = .ok (.ireturn, 1) := by decide +kernel
theorem dX2_canStandAt_18 : decode cX2_canStandAt 18 = .ok (.aload_n 1, 1) := by decide +kernel
theorem dX2_canStandAt_19 : decode cX2_canStandAt 19 = .ok (.iload_n 2, 1) := by decide +kernel
theorem dX2_canStandAt_20 : decode cX2_canStandAt 20 = .ok (.invokevirtual 67, 3) := by decide +kernel
theorem dX2_canStandAt_23 : decode cX2_canStandAt 23 = .ok (.istore 4, 2) := by decide +kernel
theorem dX2_canStandAt_25 : decode cX2_canStandAt 25 = .ok (.iload_n 3, 1) := by decide +kernel
theorem dX2_canStandAt_26 : decode cX2_canStandAt 26 = .ok (.ifCond .eq 45, 3) := by decide +kernel
theorem dX2_canStandAt_29 : decode cX2_canStandAt 29 = .ok (.iload 4, 2) := by decide +kernel
theorem dX2_canStandAt_31 : decode cX2_canStandAt 31 = .ok (.aload_n 1, 1) := by decide +kernel
theorem dX2_canStandAt_32 : decode cX2_canStandAt 32 = .ok (.aload_n 0, 1) := by decide +kernel
theorem dX2_canStandAt_33 : decode cX2_canStandAt 33 = .ok (.getfield 32, 3) := by decide +kernel
theorem dX2_canStandAt_36 : decode cX2_canStandAt 36 = .ok (.iload_n 3, 1) := by decide +kernel
theorem dX2_canStandAt_37 : decode cX2_canStandAt 37 = .ok (.iconst 1, 1) := by decide +kernel
theorem dX2_canStandAt_38 : decode cX2_canStandAt 38 = .ok (.isub, 1) := by decide +kernel
theorem dX2_canStandAt_39 : decode cX2_canStandAt 39 = .ok (.iaload, 1) := by decide +kernel
theorem dX2_canStandAt_40 : decode cX2_canStandAt 40 = .ok (.invokevirtual 67, 3) := by decide +kernel
theorem dX2_canStandAt_43 : decode cX2_canStandAt 43 = .ok (.isub, 1) := by decide +kernel
theorem dX2_canStandAt_44 : decode cX2_canStandAt 44 = .ok (.aload_n 0, 1) := by decide +kernel
theorem dX2_canStandAt_45 : decode cX2_canStandAt 45 = .ok (.getfield 15, 3) := by decide +kernel
theorem dX2_canStandAt_48 : decode cX2_canStandAt 48 = .ok (.if_icmp .gt 27, 3) := by decide +kernel
theorem dX2_canStandAt_51 : decode cX2_canStandAt 51 = .ok (.iload 4, 2) := by decide +kernel
theorem dX2_canStandAt_53 : decode cX2_canStandAt 53 = .ok (.aload_n 1, 1) := by decide +kernel
theorem dX2_canStandAt_54 : decode cX2_canStandAt 54 = .ok (.aload_n 0, 1) := by decide +kernel
theorem dX2_canStandAt_55 : decode cX2_canStandAt 55 = .ok (.getfield 32, 3) := by decide +kernel
theorem dX2_canStandAt_58 : decode cX2_canStandAt 58 = .ok (.iconst 0, 1) := by decide +kernel
theorem dX2_canStandAt_59 : decode cX2_canStandAt 59 = .ok (.iaload, 1) := by decide +kernel
theorem dX2_canStandAt_60 : decode cX2_canStandAt 60 = .ok (.invokevirtual 67, 3) := by decide +kernel
theorem dX2_canStandAt_63 : decode cX2_canStandAt 63 = .ok (.isub, 1) := by decide +kernel
theorem dX2_canStandAt_64 : decode cX2_canStandAt 64 = .ok (.aload_n 0, 1) := by decide +kernel
theorem dX2_canStandAt_65 : decode cX2_canStandAt 65 = .ok (.getfield 19, 3) := by decide +kernel
theorem dX2_canStandAt_68 : decode cX2_canStandAt 68 = .ok (.if_icmp .gt 7, 3) := by decide +kernel
theorem dX2_canStandAt_71 : decode cX2_canStandAt 71 = .ok (.iconst 1, 1) := by decide +kernel
theorem dX2_canStandAt_72 : decode cX2_canStandAt 72 = .ok (.goto 4, 3) := by decide +kernel
theorem dX2_canStandAt_75 : decode cX2_canStandAt 75 = .ok (.iconst 0, 1) := by decide +kernel
theorem dX2_canStandAt_76 : decode cX2_canStandAt 76 = .ok (.ireturn, 1) := by decide +kernel
theorem dX3_of_0 : decode cX3_of 0 = .ok (.iload_n 0, 1) := by decide +kernel
theorem dX3_of_1 : decode cX3_of 1 = .ok (.invokestatic 9, 3) := by decide +kernel
theorem dX3_of_4 : decode cX3_of 4 = .ok (.ifCond .eq 24, 3) := by decide +kernel
theorem dX3_of_7 : decode cX3_of 7 = .ok (.iload_n 1, 1) := by decide +kernel
theorem dX3_of_8 : decode cX3_of 8 = .ok (.invokestatic 13, 3) := by decide +kernel
theorem dX3_of_11 : decode cX3_of 11 = .ok (.ifCond .eq 17, 3) := by decide +kernel
theorem dX3_of_14 : decode cX3_of 14 = .ok (.iload_n 2, 1) := by decide +kernel
theorem dX3_of_15 : decode cX3_of 15 = .ok (.invokestatic 13, 3) := by decide +kernel
theorem dX3_of_18 : decode cX3_of 18 = .ok (.ifCond .eq 10, 3) := by decide +kernel
theorem dX3_of_21 : decode cX3_of 21 = .ok (.iload_n 3, 1) := by decide +kernel
theorem dX3_of_22 : decode cX3_of 22 = .ok (.invokestatic 13, 3) := by decide +kernel
theorem dX3_of_25 : decode cX3_of 25 = .ok (.ifCond .ne 5, 3) := by decide +kernel
theorem dX3_of_28 : decode cX3_of 28 = .ok (.iconst (-1), 1) := by decide +kernel
theorem dX3_of_29 : decode cX3_of 29 = .ok (.ireturn, 1) := by decide +kernel
theorem dX3_of_30 : decode cX3_of 30 = .ok (.iload_n 1, 1) := by decide +kernel
theorem dX3_of_31 : decode cX3_of 31 = .ok (.iconst (-1), 1) := by decide +kernel
theorem dX3_of_32 : decode cX3_of 32 = .ok (.if_icmp .ne 8, 3) := by decide +kernel
theorem dX3_of_35 : decode cX3_of 35 = .ok (.iload_n 2, 1) := by decide +kernel
theorem dX3_of_36 : decode cX3_of 36 = .ok (.iconst (-1), 1) := by decide +kernel
theorem dX3_of_37 : decode cX3_of 37 = .ok (.if_icmp .ne 13, 3) := by decide +kernel
theorem dX3_of_40 : decode cX3_of 40 = .ok (.iload_n 2, 1) := by decide +kernel
theorem dX3_of_41 : decode cX3_of 41 = .ok (.iconst (-1), 1) := by decide +kernel
theorem dX3_of_42 : decode cX3_of 42 = .ok (.if_icmp .ne 10, 3) := by decide +kernel
theorem dX3_of_45 : decode cX3_of 45 = .ok (.iload_n 3, 1) := by decide +kernel
theorem dX3_of_46 : decode cX3_of 46 = .ok (.iconst (-1), 1) := by decide +kernel
theorem dX3_of_47 : decode cX3_of 47 = .ok (.if_icmp .eq 5, 3) := by decide +kernel
theorem dX3_of_50 : decode cX3_of 50 = .ok (.iconst (-1), 1) := by decide +kernel
theorem dX3_of_51 : decode cX3_of 51 = .ok (.ireturn, 1) := by decide +kernel
theorem dX3_of_52 : decode cX3_of 52 = .ok (.iconst 1, 1) := by decide +kernel
theorem dX3_of_53 : decode cX3_of 53 = .ok (.iload_n 0, 1) := by decide +kernel
theorem dX3_of_54 : decode cX3_of 54 = .ok (.invokestatic 18, 3) := by decide +kernel
theorem dX3_of_57 : decode cX3_of 57 = .ok (.iload_n 1, 1) := by decide +kernel
theorem dX3_of_58 : decode cX3_of 58 = .ok (.invokestatic 18, 3) := by decide +kernel
theorem dX3_of_61 : decode cX3_of 61 = .ok (.iload_n 2, 1) := by decide +kernel
theorem dX3_of_62 : decode cX3_of 62 = .ok (.invokestatic 18, 3) := by decide +kernel
theorem dX3_of_65 : decode cX3_of 65 = .ok (.iload_n 3, 1) := by decide +kernel
theorem dX3_of_66 : decode cX3_of 66 = .ok (.invokestatic 18, 3) := by decide +kernel
theorem dX3_of_69 : decode cX3_of 69 = .ok (.ireturn, 1) := by decide +kernel
theorem dX3_isKindOrNone_0 : decode cX3_isKindOrNone 0 = .ok (.iload_n 0, 1) := by decide +kernel
theorem dX3_isKindOrNone_1 : decode cX3_isKindOrNone 1 = .ok (.iconst (-1), 1) := by decide +kernel
theorem dX3_isKindOrNone_2 : decode cX3_isKindOrNone 2 = .ok (.if_icmp .eq 10, 3) := by decide +kernel
theorem dX3_isKindOrNone_5 : decode cX3_isKindOrNone 5 = .ok (.iload_n 0, 1) := by decide +kernel
theorem dX3_isKindOrNone_6 : decode cX3_isKindOrNone 6 = .ok (.invokestatic 9, 3) := by decide +kernel
theorem dX3_isKindOrNone_9 : decode cX3_isKindOrNone 9 = .ok (.ifCond .eq 7, 3) := by decide +kernel
theorem dX3_isKindOrNone_12 : decode cX3_isKindOrNone 12 = .ok (.iconst 1, 1) := by decide +kernel
theorem dX3_isKindOrNone_13 : decode cX3_isKindOrNone 13 = .ok (.goto 4, 3) := by decide +kernel
theorem dX3_isKindOrNone_16 : decode cX3_isKindOrNone 16 = .ok (.iconst 0, 1) := by decide +kernel
theorem dX3_isKindOrNone_17 : decode cX3_isKindOrNone 17 = .ok (.ireturn, 1) := by decide +kernel
theorem dX3_lengthen_0 : decode cX3_lengthen 0 = .ok (.iload_n 1, 1) := by decide +kernel
theorem dX3_lengthen_1 : decode cX3_lengthen 1 = .ok (.iconst (-1), 1) := by decide +kernel
theorem dX3_lengthen_2 : decode cX3_lengthen 2 = .ok (.if_icmp .ne 7, 3) := by decide +kernel
theorem dX3_lengthen_5 : decode cX3_lengthen 5 = .ok (.iload_n 0, 1) := by decide +kernel
theorem dX3_lengthen_6 : decode cX3_lengthen 6 = .ok (.goto 9, 3) := by decide +kernel
theorem dX3_lengthen_9 : decode cX3_lengthen 9 = .ok (.iload_n 0, 1) := by decide +kernel
theorem dX3_lengthen_10 : decode cX3_lengthen 10 = .ok (.iconst 0, 1) := by decide +kernel
theorem dX3_lengthen_11 : decode cX3_lengthen 11 = .ok (.iload_n 1, 1) := by decide +kernel
theorem dX3_lengthen_12 : decode cX3_lengthen 12 = .ok (.invokestatic 22, 3) := by decide +kernel
theorem dX3_lengthen_15 : decode cX3_lengthen 15 = .ok (.ireturn, 1) := by decide +kernel
theorem dX3_length_0 : decode cX3_length 0 = .ok (.iconst 0, 1) := by decide +kernel
theorem dX3_length_1 : decode cX3_length 1 = .ok (.istore_n 1, 1) := by decide +kernel
theorem dX3_length_2 : decode cX3_length 2 = .ok (.iload_n 1, 1) := by decide +kernel
theorem dX3_length_3 : decode cX3_length 3 = .ok (.iconst 4, 1) := by decide +kernel
theorem dX3_length_4 : decode cX3_length 4 = .ok (.if_icmp .ge 19, 3) := by decide +kernel
theorem dX3_length_7 : decode cX3_length 7 = .ok (.iload_n 0, 1) := by decide +kernel
theorem dX3_length_8 : decode cX3_length 8 = .ok (.iconst 4, 1) := by decide +kernel
theorem dX3_length_9 : decode cX3_length 9 = .ok (.iload_n 1, 1) := by decide +kernel
theorem dX3_length_10 : decode cX3_length 10 = .ok (.iconst 1, 1) := by decide +kernel
theorem dX3_length_11 : decode cX3_length 11 = .ok (.iadd, 1) := by decide +kernel
theorem dX3_length_12 : decode cX3_length 12 = .ok (.imul, 1) := by decide +kernel
theorem dX3_length_13 : decode cX3_length 13 = .ok (.ishr, 1) := by decide +kernel
theorem dX3_length_14 : decode cX3_length 14 = .ok (.ifCond .le 9, 3) := by decide +kernel
theorem dX3_length_17 : decode cX3_length 17 = .ok (.iinc 1 1, 3) := by decide +kernel
theorem dX3_length_20 : decode cX3_length 20 = .ok (.goto (-18), 3) := by decide +kernel
theorem dX3_length_23 : decode cX3_length 23 = .ok (.iload_n 1, 1) := by decide +kernel
theorem dX3_length_24 : decode cX3_length 24 = .ok (.ireturn, 1) := by decide +kernel
theorem dX3_item_0 : decode cX3_item 0 = .ok (.iload_n 0, 1) := by decide +kernel
theorem dX3_item_1 : decode cX3_item 1 = .ok (.invokestatic 26, 3) := by decide +kernel
theorem dX3_item_4 : decode cX3_item 4 = .ok (.istore_n 2, 1) := by decide +kernel
theorem dX3_item_5 : decode cX3_item 5 = .ok (.iload_n 1, 1) := by decide +kernel
theorem dX3_item_6 : decode cX3_item 6 = .ok (.ifCond .lt 8, 3) := by decide +kernel
theorem dX3_item_9 : decode cX3_item 9 = .ok (.iload_n 1, 1) := by decide +kernel
theorem dX3_item_10 : decode cX3_item 10 = .ok (.iload_n 2, 1) := by decide +kernel
theorem dX3_item_11 : decode cX3_item 11 = .ok (.if_icmp .lt 7, 3) := by decide +kernel
theorem dX3_item_14 : decode cX3_item 14 = .ok (.iconst (-1), 1) := by decide +kernel
theorem dX3_item_15 : decode cX3_item 15 = .ok (.goto 15, 3) := by decide +kernel
theorem dX3_item_18 : decode cX3_item 18 = .ok (.iload_n 0, 1) := by decide +kernel
theorem dX3_item_19 : decode cX3_item 19 = .ok (.iconst 4, 1) := by decide +kernel
theorem dX3_item_20 : decode cX3_item 20 = .ok (.iload_n 2, 1) := by decide +kernel
theorem dX3_item_21 : decode cX3_item 21 = .ok (.iconst 1, 1) := by decide +kernel
theorem dX3_item_22 : decode cX3_item 22 = .ok (.isub, 1) := by decide +kernel
theorem dX3_item_23 : decode cX3_item 23 = .ok (.iload_n 1, 1) := by decide +kernel
theorem dX3_item_24 : decode cX3_item 24 = .ok (.isub, 1) := by decide +kernel
theorem dX3_item_25 : decode cX3_item 25 = .ok (.imul, 1) := by decide +kernel
theorem dX3_item_26 : decode cX3_item 26 = .ok (.ishr, 1) := by decide +kernel
theorem dX3_item_27 : decode cX3_item 27 = .ok (.bipush 15, 2) := by decide +kernel
theorem dX3_item_29 : decode cX3_item 29 = .ok (.iand, 1) := by decide +kernel
theorem dX3_item_30 : decode cX3_item 30 = .ok (.ireturn, 1) := by decide +kernel
theorem dX3_lastItem_0 : decode cX3_lastItem 0 = .ok (.iload_n 0, 1) := by decide +kernel
theorem dX3_lastItem_1 : decode cX3_lastItem 1 = .ok (.bipush 15, 2) := by decide +kernel
theorem dX3_lastItem_3 : decode cX3_lastItem 3 = .ok (.iand, 1) := by decide +kernel
theorem dX3_lastItem_4 : decode cX3_lastItem 4 = .ok (.ireturn, 1) := by decide +kernel
theorem dX3_withoutLast_0 : decode cX3_withoutLast 0 = .ok (.iload_n 0, 1) := by decide +kernel
theorem dX3_withoutLast_1 : decode cX3_withoutLast 1 = .ok (.iconst 4, 1) := by decide +kernel
theorem dX3_withoutLast_2 : decode cX3_withoutLast 2 = .ok (.ishr, 1) := by decide +kernel
theorem dX3_withoutLast_3 : decode cX3_withoutLast 3 = .ok (.ireturn, 1) := by decide +kernel
theorem dX3_insert_0 : decode cX3_insert 0 = .ok (.iconst 4, 1) := by decide +kernel
theorem dX3_insert_1 : decode cX3_insert 1 = .ok (.iload_n 1, 1) := by decide +kernel
theorem dX3_insert_2 : decode cX3_insert 2 = .ok (.imul, 1) := by decide +kernel
theorem dX3_insert_3 : decode cX3_insert 3 = .ok (.istore_n 3, 1) := by decide +kernel
theorem dX3_insert_4 : decode cX3_insert 4 = .ok (.iload_n 0, 1) := by decide +kernel
theorem dX3_insert_5 : decode cX3_insert 5 = .ok (.iconst 1, 1) := by decide +kernel
theorem dX3_insert_6 : decode cX3_insert 6 = .ok (.iload_n 3, 1) := by decide +kernel
theorem dX3_insert_7 : decode cX3_insert 7 = .ok (.ishl, 1) := by decide +kernel
theorem dX3_insert_8 : decode cX3_insert 8 = .ok (.iconst 1, 1) := by decide +kernel
theorem dX3_insert_9 : decode cX3_insert 9 = .ok (.isub, 1) := by decide +kernel
theorem dX3_insert_10 : decode cX3_insert 10 = .ok (.iand, 1) := by decide +kernel
theorem dX3_insert_11 : decode cX3_insert 11 = .ok (.istore 4, 2) := by decide +kernel
theorem dX3_insert_13 : decode cX3_insert 13 = .ok (.iload_n 0, 1) := by decide +kernel
theorem dX3_insert_14 : decode cX3_insert 14 = .ok (.iload_n 3, 1) := by decide +kernel
theorem dX3_insert_15 : decode cX3_insert 15 = .ok (.ishr, 1) := by decide +kernel
theorem dX3_insert_16 : decode cX3_insert 16 = .ok (.iconst 4, 1) := by decide +kernel
theorem dX3_insert_17 : decode cX3_insert 17 = .ok (.ishl, 1) := by decide +kernel
theorem dX3_insert_18 : decode cX3_insert 18 = .ok (.iload_n 2, 1) := by decide +kernel
theorem dX3_insert_19 : decode cX3_insert 19 = .ok (.ior, 1) := by decide +kernel
theorem dX3_insert_20 : decode cX3_insert 20 = .ok (.iload_n 3, 1) := by decide +kernel
theorem dX3_insert_21 : decode cX3_insert 21 = .ok (.ishl, 1) := by decide +kernel
theorem dX3_insert_22 : decode cX3_insert 22 = .ok (.iload 4, 2) := by decide +kernel
theorem dX3_insert_24 : decode cX3_insert 24 = .ok (.ior, 1) := by decide +kernel
theorem dX3_insert_25 : decode cX3_insert 25 = .ok (.ireturn, 1) := by decide +kernel
theorem dX3_replace_0 : decode cX3_replace 0 = .ok (.iconst 4, 1) := by decide +kernel
theorem dX3_replace_1 : decode cX3_replace 1 = .ok (.iload_n 0, 1) := by decide +kernel
theorem dX3_replace_2 : decode cX3_replace 2 = .ok (.invokestatic 26, 3) := by decide +kernel
theorem dX3_replace_5 : decode cX3_replace 5 = .ok (.iconst 1, 1) := by decide +kernel
theorem dX3_replace_6 : decode cX3_replace 6 = .ok (.isub, 1) := by decide +kernel
theorem dX3_replace_7 : decode cX3_replace 7 = .ok (.iload_n 1, 1) := by decide +kernel
theorem dX3_replace_8 : decode cX3_replace 8 = .ok (.isub, 1) := by decide +kernel
theorem dX3_replace_9 : decode cX3_replace 9 = .ok (.imul, 1) := by decide +kernel
theorem dX3_replace_10 : decode cX3_replace 10 = .ok (.istore_n 3, 1) := by decide +kernel
theorem dX3_replace_11 : decode cX3_replace 11 = .ok (.iload_n 0, 1) := by decide +kernel
theorem dX3_replace_12 : decode cX3_replace 12 = .ok (.bipush 15, 2) := by decide +kernel
theorem dX3_replace_14 : decode cX3_replace 14 = .ok (.iload_n 3, 1) := by decide +kernel
theorem dX3_replace_15 : decode cX3_replace 15 = .ok (.ishl, 1) := by decide +kernel
theorem dX3_replace_16 : decode cX3_replace 16 = .ok (.iconst (-1), 1) := by decide +kernel
theorem dX3_replace_17 : decode cX3_replace 17 = .ok (.ixor, 1) := by decide +kernel
theorem dX3_replace_18 : decode cX3_replace 18 = .ok (.iand, 1) := by decide +kernel
theorem dX3_replace_19 : decode cX3_replace 19 = .ok (.iload_n 2, 1) := by decide +kernel
theorem dX3_replace_20 : decode cX3_replace 20 = .ok (.iload_n 3, 1) := by decide +kernel
theorem dX3_replace_21 : decode cX3_replace 21 = .ok (.ishl, 1) := by decide +kernel
theorem dX3_replace_22 : decode cX3_replace 22 = .ok (.ior, 1) := by decide +kernel
theorem dX3_replace_23 : decode cX3_replace 23 = .ok (.ireturn, 1) := by decide +kernel
theorem dX4_init_0 : decode cX4_init 0 = .ok (.aload_n 0, 1) := by decide +kernel
theorem dX4_init_1 : decode cX4_init 1 = .ok (.invokespecial 3, 3) := by decide +kernel
theorem dX4_init_4 : decode cX4_init 4 = .ok (.aload_n 0, 1) := by decide +kernel
theorem dX4_init_5 : decode cX4_init 5 = .ok (.bipush 30, 2) := by decide +kernel
theorem dX4_init_7 : decode cX4_init 7 = .ok (.newarray .int, 2) := by decide +kernel
theorem dX4_init_9 : decode cX4_init 9 = .ok (.putfield 9, 3) := by decide +kernel
theorem dX4_init_12 : decode cX4_init 12 = .ok (.aload_n 0, 1) := by decide +kernel
theorem dX4_init_13 : decode cX4_init 13 = .ok (.bipush 30, 2) := by decide +kernel
theorem dX4_init_15 : decode cX4_init 15 = .ok (.newarray .int, 2) := by decide +kernel
theorem dX4_init_17 : decode cX4_init 17 = .ok (.putfield 15, 3) := by decide +kernel
theorem dX4_init_20 : decode cX4_init 20 = .ok (.return_, 1) := by decide +kernel
theorem dX4_begin_0 : decode cX4_begin 0 = .ok (.aload_n 0, 1) := by decide +kernel
theorem dX4_begin_1 : decode cX4_begin 1 = .ok (.iload_n 1, 1) := by decide +kernel
theorem dX4_begin_2 : decode cX4_begin 2 = .ok (.putfield 18, 3) := by decide +kernel
theorem dX4_begin_5 : decode cX4_begin 5 = .ok (.aload_n 0, 1) := by decide +kernel
theorem dX4_begin_6 : decode cX4_begin 6 = .ok (.iconst 1, 1) := by decide +kernel
theorem dX4_begin_7 : decode cX4_begin 7 = .ok (.putfield 22, 3) := by decide +kernel
theorem dX4_begin_10 : decode cX4_begin 10 = .ok (.aload_n 0, 1) := by decide +kernel
theorem dX4_begin_11 : decode cX4_begin 11 = .ok (.iconst 0, 1) := by decide +kernel
theorem dX4_begin_12 : decode cX4_begin 12 = .ok (.putfield 26, 3) := by decide +kernel
theorem dX4_begin_15 : decode cX4_begin 15 = .ok (.return_, 1) := by decide +kernel
theorem dX4_append_0 : decode cX4_append 0 = .ok (.aload_n 0, 1) := by decide +kernel
theorem dX4_append_1 : decode cX4_append 1 = .ok (.getfield 26, 3) := by decide +kernel
theorem dX4_append_4 : decode cX4_append 4 = .ok (.bipush 30, 2) := by decide +kernel
theorem dX4_append_6 : decode cX4_append 6 = .ok (.if_icmp .ge 17, 3) := by decide +kernel
theorem dX4_append_9 : decode cX4_append 9 = .ok (.iload_n 1, 1) := by decide +kernel
theorem dX4_append_10 : decode cX4_append 10 = .ok (.aload_n 0, 1) := by decide +kernel
theorem dX4_append_11 : decode cX4_append 11 = .ok (.aload_n 0, 1) := by decide +kernel
theorem dX4_append_12 : decode cX4_append 12 = .ok (.getfield 26, 3) := by decide +kernel
theorem dX4_append_15 : decode cX4_append 15 = .ok (.iconst 1, 1) := by decide +kernel
theorem dX4_append_16 : decode cX4_append 16 = .ok (.isub, 1) := by decide +kernel
theorem dX4_append_17 : decode cX4_append 17 = .ok (.invokevirtual 29, 3) := by decide +kernel
theorem dX4_append_20 : decode cX4_append 20 = .ok (.if_icmp .ge 5, 3) := by decide +kernel
theorem dX4_append_23 : decode cX4_append 23 = .ok (.iconst (-1), 1) := by decide +kernel
theorem dX4_append_24 : decode cX4_append 24 = .ok (.ireturn, 1) := by decide +kernel
theorem dX4_append_25 : decode cX4_append 25 = .ok (.aload_n 0, 1) := by decide +kernel
theorem dX4_append_26 : decode cX4_append 26 = .ok (.getfield 9, 3) := by decide +kernel
theorem dX4_append_29 : decode cX4_append 29 = .ok (.aload_n 0, 1) := by decide +kernel
theorem dX4_append_30 : decode cX4_append 30 = .ok (.getfield 26, 3) := by decide +kernel
theorem dX4_append_33 : decode cX4_append 33 = .ok (.iload_n 1, 1) := by decide +kernel
theorem dX4_append_34 : decode cX4_append 34 = .ok (.iastore, 1) := by decide +kernel
theorem dX4_append_35 : decode cX4_append 35 = .ok (.aload_n 0, 1) := by decide +kernel
theorem dX4_append_36 : decode cX4_append 36 = .ok (.getfield 15, 3) := by decide +kernel
theorem dX4_append_39 : decode cX4_append 39 = .ok (.aload_n 0, 1) := by decide +kernel
theorem dX4_append_40 : decode cX4_append 40 = .ok (.getfield 26, 3) := by decide +kernel
theorem dX4_append_43 : decode cX4_append 43 = .ok (.iload_n 2, 1) := by decide +kernel
theorem dX4_append_44 : decode cX4_append 44 = .ok (.iastore, 1) := by decide +kernel
theorem dX4_append_45 : decode cX4_append 45 = .ok (.aload_n 0, 1) := by decide +kernel
theorem dX4_append_46 : decode cX4_append 46 = .ok (.dup, 1) := by decide +kernel
theorem dX4_append_47 : decode cX4_append 47 = .ok (.getfield 26, 3) := by decide +kernel
theorem dX4_append_50 : decode cX4_append 50 = .ok (.iconst 1, 1) := by decide +kernel
theorem dX4_append_51 : decode cX4_append 51 = .ok (.iadd, 1) := by decide +kernel
theorem dX4_append_52 : decode cX4_append 52 = .ok (.putfield 26, 3) := by decide +kernel
theorem dX4_append_55 : decode cX4_append 55 = .ok (.aload_n 0, 1) := by decide +kernel
theorem dX4_append_56 : decode cX4_append 56 = .ok (.getfield 26, 3) := by decide +kernel
theorem dX4_append_59 : decode cX4_append 59 = .ok (.iconst 1, 1) := by decide +kernel
theorem dX4_append_60 : decode cX4_append 60 = .ok (.isub, 1) := by decide +kernel
theorem dX4_append_61 : decode cX4_append 61 = .ok (.ireturn, 1) := by decide +kernel
theorem dX4_size_0 : decode cX4_size 0 = .ok (.aload_n 0, 1) := by decide +kernel
theorem dX4_size_1 : decode cX4_size 1 = .ok (.getfield 26, 3) := by decide +kernel
theorem dX4_size_4 : decode cX4_size 4 = .ok (.ireturn, 1) := by decide +kernel
theorem dX4_tickAt_0 : decode cX4_tickAt 0 = .ok (.iload_n 1, 1) := by decide +kernel
theorem dX4_tickAt_1 : decode cX4_tickAt 1 = .ok (.ifCond .lt 20, 3) := by decide +kernel
theorem dX4_tickAt_4 : decode cX4_tickAt 4 = .ok (.iload_n 1, 1) := by decide +kernel
theorem dX4_tickAt_5 : decode cX4_tickAt 5 = .ok (.aload_n 0, 1) := by decide +kernel
theorem dX4_tickAt_6 : decode cX4_tickAt 6 = .ok (.getfield 26, 3) := by decide +kernel
theorem dX4_tickAt_9 : decode cX4_tickAt 9 = .ok (.if_icmp .ge 12, 3) := by decide +kernel
theorem dX4_tickAt_12 : decode cX4_tickAt 12 = .ok (.aload_n 0, 1) := by decide +kernel
theorem dX4_tickAt_13 : decode cX4_tickAt 13 = .ok (.getfield 9, 3) := by decide +kernel
theorem dX4_tickAt_16 : decode cX4_tickAt 16 = .ok (.iload_n 1, 1) := by decide +kernel
theorem dX4_tickAt_17 : decode cX4_tickAt 17 = .ok (.iaload, 1) := by decide +kernel
theorem dX4_tickAt_18 : decode cX4_tickAt 18 = .ok (.goto 4, 3) := by decide +kernel
theorem dX4_tickAt_21 : decode cX4_tickAt 21 = .ok (.iconst (-1), 1) := by decide +kernel
theorem dX4_tickAt_22 : decode cX4_tickAt 22 = .ok (.ireturn, 1) := by decide +kernel
theorem dX4_kindAt_0 : decode cX4_kindAt 0 = .ok (.iload_n 1, 1) := by decide +kernel
theorem dX4_kindAt_1 : decode cX4_kindAt 1 = .ok (.ifCond .lt 20, 3) := by decide +kernel
theorem dX4_kindAt_4 : decode cX4_kindAt 4 = .ok (.iload_n 1, 1) := by decide +kernel
theorem dX4_kindAt_5 : decode cX4_kindAt 5 = .ok (.aload_n 0, 1) := by decide +kernel
theorem dX4_kindAt_6 : decode cX4_kindAt 6 = .ok (.getfield 26, 3) := by decide +kernel
theorem dX4_kindAt_9 : decode cX4_kindAt 9 = .ok (.if_icmp .ge 12, 3) := by decide +kernel
theorem dX4_kindAt_12 : decode cX4_kindAt 12 = .ok (.aload_n 0, 1) := by decide +kernel
theorem dX4_kindAt_13 : decode cX4_kindAt 13 = .ok (.getfield 15, 3) := by decide +kernel
theorem dX4_kindAt_16 : decode cX4_kindAt 16 = .ok (.iload_n 1, 1) := by decide +kernel
theorem dX4_kindAt_17 : decode cX4_kindAt 17 = .ok (.iaload, 1) := by decide +kernel
theorem dX4_kindAt_18 : decode cX4_kindAt 18 = .ok (.goto 4, 3) := by decide +kernel
theorem dX4_kindAt_21 : decode cX4_kindAt 21 = .ok (.iconst (-1), 1) := by decide +kernel
theorem dX4_kindAt_22 : decode cX4_kindAt 22 = .ok (.ireturn, 1) := by decide +kernel
theorem dX4_bitsAt_0 : decode cX4_bitsAt 0 = .ok (.iload_n 1, 1) := by decide +kernel
theorem dX4_bitsAt_1 : decode cX4_bitsAt 1 = .ok (.ifCond .lt 22, 3) := by decide +kernel
theorem dX4_bitsAt_4 : decode cX4_bitsAt 4 = .ok (.iload_n 1, 1) := by decide +kernel
theorem dX4_bitsAt_5 : decode cX4_bitsAt 5 = .ok (.aload_n 0, 1) := by decide +kernel
theorem dX4_bitsAt_6 : decode cX4_bitsAt 6 = .ok (.getfield 26, 3) := by decide +kernel
theorem dX4_bitsAt_9 : decode cX4_bitsAt 9 = .ok (.if_icmp .ge 14, 3) := by decide +kernel
theorem dX4_bitsAt_12 : decode cX4_bitsAt 12 = .ok (.aload_n 2, 1) := by decide +kernel
theorem dX4_bitsAt_13 : decode cX4_bitsAt 13 = .ok (.aload_n 0, 1) := by decide +kernel
theorem dX4_bitsAt_14 : decode cX4_bitsAt 14 = .ok (.getfield 15, 3) := by decide +kernel
theorem dX4_bitsAt_17 : decode cX4_bitsAt 17 = .ok (.iload_n 1, 1) := by decide +kernel
theorem dX4_bitsAt_18 : decode cX4_bitsAt 18 = .ok (.iaload, 1) := by decide +kernel
theorem dX4_bitsAt_19 : decode cX4_bitsAt 19 = .ok (.iaload, 1) := by decide +kernel
theorem dX4_bitsAt_20 : decode cX4_bitsAt 20 = .ok (.goto 4, 3) := by decide +kernel
theorem dX4_bitsAt_23 : decode cX4_bitsAt 23 = .ok (.iconst 0, 1) := by decide +kernel
theorem dX4_bitsAt_24 : decode cX4_bitsAt 24 = .ok (.ireturn, 1) := by decide +kernel
theorem dX4_howMany_0 : decode cX4_howMany 0 = .ok (.iconst 0, 1) := by decide +kernel
theorem dX4_howMany_1 : decode cX4_howMany 1 = .ok (.istore_n 3, 1) := by decide +kernel
theorem dX4_howMany_2 : decode cX4_howMany 2 = .ok (.iconst 0, 1) := by decide +kernel

theorem dX4_howMany_3 : decode cX4_howMany 3 = .ok (.istore 4, 2) := by decide +kernel
theorem dX4_howMany_5 : decode cX4_howMany 5 = .ok (.iload 4, 2) := by decide +kernel
theorem dX4_howMany_7 : decode cX4_howMany 7 = .ok (.aload_n 0, 1) := by decide +kernel
theorem dX4_howMany_8 : decode cX4_howMany 8 = .ok (.getfield 26, 3) := by decide +kernel
theorem dX4_howMany_11 : decode cX4_howMany 11 = .ok (.if_icmp .ge 26, 3) := by decide +kernel
theorem dX4_howMany_14 : decode cX4_howMany 14 = .ok (.iload_n 3, 1) := by decide +kernel
theorem dX4_howMany_15 : decode cX4_howMany 15 = .ok (.aload_n 0, 1) := by decide +kernel
theorem dX4_howMany_16 : decode cX4_howMany 16 = .ok (.iload 4, 2) := by decide +kernel
theorem dX4_howMany_18 : decode cX4_howMany 18 = .ok (.aload_n 1, 1) := by decide +kernel
theorem dX4_howMany_19 : decode cX4_howMany 19 = .ok (.getfield 33, 3) := by decide +kernel
theorem dX4_howMany_22 : decode cX4_howMany 22 = .ok (.invokevirtual 38, 3) := by decide +kernel
theorem dX4_howMany_25 : decode cX4_howMany 25 = .ok (.iload_n 2, 1) := by decide +kernel
theorem dX4_howMany_26 : decode cX4_howMany 26 = .ok (.ishr, 1) := by decide +kernel
theorem dX4_howMany_27 : decode cX4_howMany 27 = .ok (.iconst 1, 1) := by decide +kernel
theorem dX4_howMany_28 : decode cX4_howMany 28 = .ok (.iand, 1) := by decide +kernel
theorem dX4_howMany_29 : decode cX4_howMany 29 = .ok (.iadd, 1) := by decide +kernel
theorem dX4_howMany_30 : decode cX4_howMany 30 = .ok (.istore_n 3, 1) := by decide +kernel
theorem dX4_howMany_31 : decode cX4_howMany 31 = .ok (.iinc 4 1, 3) := by decide +kernel
theorem dX4_howMany_34 : decode cX4_howMany 34 = .ok (.goto (-29), 3) := by decide +kernel
theorem dX4_howMany_37 : decode cX4_howMany 37 = .ok (.iload_n 3, 1) := by decide +kernel
theorem dX4_howMany_38 : decode cX4_howMany 38 = .ok (.ireturn, 1) := by decide +kernel
theorem dX5_init_0 : decode cX5_init 0 = .ok (.aload_n 0, 1) := by decide +kernel
theorem dX5_init_1 : decode cX5_init 1 = .ok (.invokespecial 1, 3) := by decide +kernel
theorem dX5_init_4 : decode cX5_init 4 = .ok (.aload_n 0, 1) := by decide +kernel
theorem dX5_init_5 : decode cX5_init 5 = .ok (.new 7, 3) := by decide +kernel
theorem dX5_init_8 : decode cX5_init 8 = .ok (.dup, 1) := by decide +kernel
theorem dX5_init_9 : decode cX5_init 9 = .ok (.invokespecial 9, 3) := by decide +kernel
theorem dX5_init_12 : decode cX5_init 12 = .ok (.putfield 10, 3) := by decide +kernel
theorem dX5_init_15 : decode cX5_init 15 = .ok (.aload_n 0, 1) := by decide +kernel
theorem dX5_init_16 : decode cX5_init 16 = .ok (.new 16, 3) := by decide +kernel
theorem dX5_init_19 : decode cX5_init 19 = .ok (.dup, 1) := by decide +kernel
theorem dX5_init_20 : decode cX5_init 20 = .ok (.aload_n 0, 1) := by decide +kernel
theorem dX5_init_21 : decode cX5_init 21 = .ok (.getfield 10, 3) := by decide +kernel
theorem dX5_init_24 : decode cX5_init 24 = .ok (.invokespecial 18, 3) := by decide +kernel
theorem dX5_init_27 : decode cX5_init 27 = .ok (.putfield 21, 3) := by decide +kernel
theorem dX5_init_30 : decode cX5_init 30 = .ok (.aload_n 0, 1) := by decide +kernel
theorem dX5_init_31 : decode cX5_init 31 = .ok (.new 25, 3) := by decide +kernel
theorem dX5_init_34 : decode cX5_init 34 = .ok (.dup, 1) := by decide +kernel
theorem dX5_init_35 : decode cX5_init 35 = .ok (.invokespecial 27, 3) := by decide +kernel
theorem dX5_init_38 : decode cX5_init 38 = .ok (.putfield 28, 3) := by decide +kernel
theorem dX5_init_41 : decode cX5_init 41 = .ok (.aload_n 0, 1) := by decide +kernel
theorem dX5_init_42 : decode cX5_init 42 = .ok (.bipush 24, 2) := by decide +kernel
theorem dX5_init_44 : decode cX5_init 44 = .ok (.anewarray 32, 3) := by decide +kernel
theorem dX5_init_47 : decode cX5_init 47 = .ok (.putfield 34, 3) := by decide +kernel
theorem dX5_init_50 : decode cX5_init 50 = .ok (.iconst 0, 1) := by decide +kernel
theorem dX5_init_51 : decode cX5_init 51 = .ok (.istore_n 1, 1) := by decide +kernel
theorem dX5_init_52 : decode cX5_init 52 = .ok (.iload_n 1, 1) := by decide +kernel
theorem dX5_init_53 : decode cX5_init 53 = .ok (.bipush 24, 2) := by decide +kernel
theorem dX5_init_55 : decode cX5_init 55 = .ok (.if_icmp .ge 22, 3) := by decide +kernel
theorem dX5_init_58 : decode cX5_init 58 = .ok (.aload_n 0, 1) := by decide +kernel
theorem dX5_init_59 : decode cX5_init 59 = .ok (.getfield 34, 3) := by decide +kernel
theorem dX5_init_62 : decode cX5_init 62 = .ok (.iload_n 1, 1) := by decide +kernel
theorem dX5_init_63 : decode cX5_init 63 = .ok (.new 32, 3) := by decide +kernel
theorem dX5_init_66 : decode cX5_init 66 = .ok (.dup, 1) := by decide +kernel
theorem dX5_init_67 : decode cX5_init 67 = .ok (.invokespecial 38, 3) := by decide +kernel
theorem dX5_init_70 : decode cX5_init 70 = .ok (.aastore, 1) := by decide +kernel
theorem dX5_init_71 : decode cX5_init 71 = .ok (.iinc 1 1, 3) := by decide +kernel
theorem dX5_init_74 : decode cX5_init 74 = .ok (.goto (-22), 3) := by decide +kernel
theorem dX5_init_77 : decode cX5_init 77 = .ok (.aload_n 0, 1) := by decide +kernel
theorem dX5_init_78 : decode cX5_init 78 = .ok (.bipush 16, 2) := by decide +kernel
theorem dX5_init_80 : decode cX5_init 80 = .ok (.newarray .int, 2) := by decide +kernel
theorem dX5_init_82 : decode cX5_init 82 = .ok (.putfield 39, 3) := by decide +kernel
theorem dX5_init_85 : decode cX5_init 85 = .ok (.aload_n 0, 1) := by decide +kernel
theorem dX5_init_86 : decode cX5_init 86 = .ok (.iconst 0, 1) := by decide +kernel
theorem dX5_init_87 : decode cX5_init 87 = .ok (.putfield 43, 3) := by decide +kernel
theorem dX5_init_90 : decode cX5_init 90 = .ok (.return_, 1) := by decide +kernel
theorem dX5_under_0 : decode cX5_under 0 = .ok (.iload_n 1, 1) := by decide +kernel
theorem dX5_under_1 : decode cX5_under 1 = .ok (.invokestatic 47, 3) := by decide +kernel
theorem dX5_under_4 : decode cX5_under 4 = .ok (.ifCond .eq 31, 3) := by decide +kernel
theorem dX5_under_7 : decode cX5_under 7 = .ok (.iload_n 2, 1) := by decide +kernel
theorem dX5_under_8 : decode cX5_under 8 = .ok (.iconst (-1), 1) := by decide +kernel
theorem dX5_under_9 : decode cX5_under 9 = .ok (.if_icmp .eq 10, 3) := by decide +kernel
theorem dX5_under_12 : decode cX5_under 12 = .ok (.iload_n 2, 1) := by decide +kernel
theorem dX5_under_13 : decode cX5_under 13 = .ok (.invokestatic 47, 3) := by decide +kernel
theorem dX5_under_16 : decode cX5_under 16 = .ok (.ifCond .eq 19, 3) := by decide +kernel
theorem dX5_under_19 : decode cX5_under 19 = .ok (.aload_n 0, 1) := by decide +kernel
theorem dX5_under_20 : decode cX5_under 20 = .ok (.getfield 10, 3) := by decide +kernel
theorem dX5_under_23 : decode cX5_under 23 = .ok (.iload_n 1, 1) := by decide +kernel
theorem dX5_under_24 : decode cX5_under 24 = .ok (.iload_n 2, 1) := by decide +kernel
theorem dX5_under_25 : decode cX5_under 25 = .ok (.invokevirtual 51, 3) := by decide +kernel
theorem dX5_under_28 : decode cX5_under 28 = .ok (.ifCond .eq 7, 3) := by decide +kernel
theorem dX5_under_31 : decode cX5_under 31 = .ok (.iconst 1, 1) := by decide +kernel
theorem dX5_under_32 : decode cX5_under 32 = .ok (.goto 4, 3) := by decide +kernel
theorem dX5_under_35 : decode cX5_under 35 = .ok (.iconst 0, 1) := by decide +kernel
theorem dX5_under_36 : decode cX5_under 36 = .ok (.ireturn, 1) := by decide +kernel
theorem dX5_row_0 : decode cX5_row 0 = .ok (.iload_n 1, 1) := by decide +kernel
theorem dX5_row_1 : decode cX5_row 1 = .ok (.ifCond .lt 17, 3) := by decide +kernel
theorem dX5_row_4 : decode cX5_row 4 = .ok (.iload_n 1, 1) := by decide +kernel
theorem dX5_row_5 : decode cX5_row 5 = .ok (.iconst 2, 1) := by decide +kernel
theorem dX5_row_6 : decode cX5_row 6 = .ok (.if_icmp .ge 12, 3) := by decide +kernel
theorem dX5_row_9 : decode cX5_row 9 = .ok (.aload_n 0, 1) := by decide +kernel
theorem dX5_row_10 : decode cX5_row 10 = .ok (.getfield 43, 3) := by decide +kernel
theorem dX5_row_13 : decode cX5_row 13 = .ok (.bipush 24, 2) := by decide +kernel
theorem dX5_row_15 : decode cX5_row 15 = .ok (.if_icmp .lt 5, 3) := by decide +kernel
theorem dX5_row_18 : decode cX5_row 18 = .ok (.iconst (-1), 1) := by decide +kernel
theorem dX5_row_19 : decode cX5_row 19 = .ok (.ireturn, 1) := by decide +kernel
theorem dX5_row_20 : decode cX5_row 20 = .ok (.aload_n 0, 1) := by decide +kernel
theorem dX5_row_21 : decode cX5_row 21 = .ok (.getfield 34, 3) := by decide +kernel
theorem dX5_row_24 : decode cX5_row 24 = .ok (.aload_n 0, 1) := by decide +kernel
theorem dX5_row_25 : decode cX5_row 25 = .ok (.getfield 43, 3) := by decide +kernel
theorem dX5_row_28 : decode cX5_row 28 = .ok (.aaload, 1) := by decide +kernel
theorem dX5_row_29 : decode cX5_row 29 = .ok (.iload_n 1, 1) := by decide +kernel
theorem dX5_row_30 : decode cX5_row 30 = .ok (.invokevirtual 55, 3) := by decide +kernel
theorem dX5_row_33 : decode cX5_row 33 = .ok (.aload_n 0, 1) := by decide +kernel
theorem dX5_row_34 : decode cX5_row 34 = .ok (.dup, 1) := by decide +kernel
theorem dX5_row_35 : decode cX5_row 35 = .ok (.getfield 43, 3) := by decide +kernel
theorem dX5_row_38 : decode cX5_row 38 = .ok (.iconst 1, 1) := by decide +kernel
theorem dX5_row_39 : decode cX5_row 39 = .ok (.iadd, 1) := by decide +kernel
theorem dX5_row_40 : decode cX5_row 40 = .ok (.putfield 43, 3) := by decide +kernel
theorem dX5_row_43 : decode cX5_row 43 = .ok (.aload_n 0, 1) := by decide +kernel
theorem dX5_row_44 : decode cX5_row 44 = .ok (.getfield 43, 3) := by decide +kernel
theorem dX5_row_47 : decode cX5_row 47 = .ok (.iconst 1, 1) := by decide +kernel
theorem dX5_row_48 : decode cX5_row 48 = .ok (.isub, 1) := by decide +kernel
theorem dX5_row_49 : decode cX5_row 49 = .ok (.ireturn, 1) := by decide +kernel
theorem dX5_put_0 : decode cX5_put 0 = .ok (.aload_n 0, 1) := by decide +kernel
theorem dX5_put_1 : decode cX5_put 1 = .ok (.iload_n 1, 1) := by decide +kernel
theorem dX5_put_2 : decode cX5_put 2 = .ok (.invokevirtual 59, 3) := by decide +kernel
theorem dX5_put_5 : decode cX5_put 5 = .ok (.ifCond .eq 31, 3) := by decide +kernel
theorem dX5_put_8 : decode cX5_put 8 = .ok (.iload_n 2, 1) := by decide +kernel
theorem dX5_put_9 : decode cX5_put 9 = .ok (.invokestatic 62, 3) := by decide +kernel
theorem dX5_put_12 : decode cX5_put 12 = .ok (.ifCond .eq 24, 3) := by decide +kernel
theorem dX5_put_15 : decode cX5_put 15 = .ok (.iload_n 3, 1) := by decide +kernel
theorem dX5_put_16 : decode cX5_put 16 = .ok (.invokestatic 47, 3) := by decide +kernel
theorem dX5_put_19 : decode cX5_put 19 = .ok (.ifCond .eq 17, 3) := by decide +kernel
theorem dX5_put_22 : decode cX5_put 22 = .ok (.aload_n 0, 1) := by decide +kernel
theorem dX5_put_23 : decode cX5_put 23 = .ok (.getfield 34, 3) := by decide +kernel
theorem dX5_put_26 : decode cX5_put 26 = .ok (.iload_n 1, 1) := by decide +kernel
theorem dX5_put_27 : decode cX5_put 27 = .ok (.aaload, 1) := by decide +kernel
theorem dX5_put_28 : decode cX5_put 28 = .ok (.iload_n 2, 1) := by decide +kernel
theorem dX5_put_29 : decode cX5_put 29 = .ok (.iload_n 3, 1) := by decide +kernel
theorem dX5_put_30 : decode cX5_put 30 = .ok (.invokevirtual 65, 3) := by decide +kernel
theorem dX5_put_33 : decode cX5_put 33 = .ok (.goto 4, 3) := by decide +kernel
theorem dX5_put_36 : decode cX5_put 36 = .ok (.iconst (-1), 1) := by decide +kernel
theorem dX5_put_37 : decode cX5_put 37 = .ok (.ireturn, 1) := by decide +kernel
theorem dX5_take_0 : decode cX5_take 0 = .ok (.aload_n 0, 1) := by decide +kernel
theorem dX5_take_1 : decode cX5_take 1 = .ok (.iload_n 1, 1) := by decide +kernel
theorem dX5_take_2 : decode cX5_take 2 = .ok (.invokevirtual 59, 3) := by decide +kernel
theorem dX5_take_5 : decode cX5_take 5 = .ok (.ifCond .eq 16, 3) := by decide +kernel
theorem dX5_take_8 : decode cX5_take 8 = .ok (.aload_n 0, 1) := by decide +kernel
theorem dX5_take_9 : decode cX5_take 9 = .ok (.getfield 34, 3) := by decide +kernel
theorem dX5_take_12 : decode cX5_take 12 = .ok (.iload_n 1, 1) := by decide +kernel
theorem dX5_take_13 : decode cX5_take 13 = .ok (.aaload, 1) := by decide +kernel
theorem dX5_take_14 : decode cX5_take 14 = .ok (.getfield 69, 3) := by decide +kernel
theorem dX5_take_17 : decode cX5_take 17 = .ok (.iload_n 2, 1) := by decide +kernel
theorem dX5_take_18 : decode cX5_take 18 = .ok (.if_icmp .ne 5, 3) := by decide +kernel
theorem dX5_take_21 : decode cX5_take 21 = .ok (.iconst 0, 1) := by decide +kernel
theorem dX5_take_22 : decode cX5_take 22 = .ok (.ireturn, 1) := by decide +kernel
theorem dX5_take_23 : decode cX5_take 23 = .ok (.aload_n 0, 1) := by decide +kernel
theorem dX5_take_24 : decode cX5_take 24 = .ok (.getfield 34, 3) := by decide +kernel
theorem dX5_take_27 : decode cX5_take 27 = .ok (.iload_n 1, 1) := by decide +kernel
theorem dX5_take_28 : decode cX5_take 28 = .ok (.aaload, 1) := by decide +kernel
theorem dX5_take_29 : decode cX5_take 29 = .ok (.iload_n 2, 1) := by decide +kernel
theorem dX5_take_30 : decode cX5_take 30 = .ok (.putfield 69, 3) := by decide +kernel
theorem dX5_take_33 : decode cX5_take 33 = .ok (.iconst 1, 1) := by decide +kernel
theorem dX5_take_34 : decode cX5_take 34 = .ok (.ireturn, 1) := by decide +kernel
theorem dX5_gap_0 : decode cX5_gap 0 = .ok (.iload_n 1, 1) := by decide +kernel
theorem dX5_gap_1 : decode cX5_gap 1 = .ok (.invokestatic 62, 3) := by decide +kernel
theorem dX5_gap_4 : decode cX5_gap 4 = .ok (.ifCond .ne 5, 3) := by decide +kernel
theorem dX5_gap_7 : decode cX5_gap 7 = .ok (.iconst 0, 1) := by decide +kernel
theorem dX5_gap_8 : decode cX5_gap 8 = .ok (.ireturn, 1) := by decide +kernel
theorem dX5_gap_9 : decode cX5_gap 9 = .ok (.aload_n 0, 1) := by decide +kernel
theorem dX5_gap_10 : decode cX5_gap 10 = .ok (.getfield 21, 3) := by decide +kernel
theorem dX5_gap_13 : decode cX5_gap 13 = .ok (.iload_n 1, 1) := by decide +kernel
theorem dX5_gap_14 : decode cX5_gap 14 = .ok (.putfield 73, 3) := by decide +kernel
theorem dX5_gap_17 : decode cX5_gap 17 = .ok (.iconst 1, 1) := by decide +kernel
theorem dX5_gap_18 : decode cX5_gap 18 = .ok (.ireturn, 1) := by decide +kernel
theorem dX5_span_0 : decode cX5_span 0 = .ok (.iload_n 1, 1) := by decide +kernel
theorem dX5_span_1 : decode cX5_span 1 = .ok (.invokestatic 62, 3) := by decide +kernel
theorem dX5_span_4 : decode cX5_span 4 = .ok (.ifCond .ne 5, 3) := by decide +kernel
theorem dX5_span_7 : decode cX5_span 7 = .ok (.iconst 0, 1) := by decide +kernel
theorem dX5_span_8 : decode cX5_span 8 = .ok (.ireturn, 1) := by decide +kernel
theorem dX5_span_9 : decode cX5_span 9 = .ok (.aload_n 0, 1) := by decide +kernel
theorem dX5_span_10 : decode cX5_span 10 = .ok (.getfield 21, 3) := by decide +kernel
theorem dX5_span_13 : decode cX5_span 13 = .ok (.iload_n 1, 1) := by decide +kernel
theorem dX5_span_14 : decode cX5_span 14 = .ok (.putfield 76, 3) := by decide +kernel
theorem dX5_span_17 : decode cX5_span 17 = .ok (.iconst 1, 1) := by decide +kernel
theorem dX5_span_18 : decode cX5_span 18 = .ok (.ireturn, 1) := by decide +kernel
theorem dX5_count_0 : decode cX5_count 0 = .ok (.iload_n 1, 1) := by decide +kernel
theorem dX5_count_1 : decode cX5_count 1 = .ok (.iload_n 2, 1) := by decide +kernel
theorem dX5_count_2 : decode cX5_count 2 = .ok (.iload_n 3, 1) := by decide +kernel
theorem dX5_count_3 : decode cX5_count 3 = .ok (.iload 4, 2) := by decide +kernel
theorem dX5_count_5 : decode cX5_count 5 = .ok (.invokestatic 79, 3) := by decide +kernel
theorem dX5_count_8 : decode cX5_count 8 = .ok (.istore 5, 2) := by decide +kernel
theorem dX5_count_10 : decode cX5_count 10 = .ok (.iload 5, 2) := by decide +kernel
theorem dX5_count_12 : decode cX5_count 12 = .ok (.iconst (-1), 1) := by decide +kernel
theorem dX5_count_13 : decode cX5_count 13 = .ok (.if_icmp .ne 7, 3) := by decide +kernel
theorem dX5_count_16 : decode cX5_count 16 = .ok (.iconst (-1), 1) := by decide +kernel
theorem dX5_count_17 : decode cX5_count 17 = .ok (.goto 9, 3) := by decide +kernel
theorem dX5_count_20 : decode cX5_count 20 = .ok (.aload_n 0, 1) := by decide +kernel
theorem dX5_count_21 : decode cX5_count 21 = .ok (.iload 5, 2) := by decide +kernel
theorem dX5_count_23 : decode cX5_count 23 = .ok (.invokevirtual 85, 3) := by decide +kernel
theorem dX5_count_26 : decode cX5_count 26 = .ok (.ireturn, 1) := by decide +kernel
theorem dX5_matches_0 : decode cX5_matches 0 = .ok (.iload_n 2, 1) := by decide +kernel
theorem dX5_matches_1 : decode cX5_matches 1 = .ok (.iload_n 3, 1) := by decide +kernel
theorem dX5_matches_2 : decode cX5_matches 2 = .ok (.iload 4, 2) := by decide +kernel
theorem dX5_matches_4 : decode cX5_matches 4 = .ok (.iload 5, 2) := by decide +kernel
theorem dX5_matches_6 : decode cX5_matches 6 = .ok (.invokestatic 79, 3) := by decide +kernel
theorem dX5_matches_9 : decode cX5_matches 9 = .ok (.istore 6, 2) := by decide +kernel
theorem dX5_matches_11 : decode cX5_matches 11 = .ok (.aload_n 0, 1) := by decide +kernel
theorem dX5_matches_12 : decode cX5_matches 12 = .ok (.iload_n 1, 1) := by decide +kernel
theorem dX5_matches_13 : decode cX5_matches 13 = .ok (.invokevirtual 59, 3) := by decide +kernel
theorem dX5_matches_16 : decode cX5_matches 16 = .ok (.ifCond .eq 9, 3) := by decide +kernel
theorem dX5_matches_19 : decode cX5_matches 19 = .ok (.iload 6, 2) := by decide +kernel
theorem dX5_matches_21 : decode cX5_matches 21 = .ok (.iconst (-1), 1) := by decide +kernel
theorem dX5_matches_22 : decode cX5_matches 22 = .ok (.if_icmp .ne 7, 3) := by decide +kernel
theorem dX5_matches_25 : decode cX5_matches 25 = .ok (.ldc2_w 89, 3) := by decide +kernel
theorem dX5_matches_28 : decode cX5_matches 28 = .ok (.lreturn, 1) := by decide +kernel
theorem dX5_matches_29 : decode cX5_matches 29 = .ok (.aload_n 0, 1) := by decide +kernel
theorem dX5_matches_30 : decode cX5_matches 30 = .ok (.getfield 21, 3) := by decide +kernel
theorem dX5_matches_33 : decode cX5_matches 33 = .ok (.iload 6, 2) := by decide +kernel
theorem dX5_matches_35 : decode cX5_matches 35 = .ok (.invokevirtual 91, 3) := by decide +kernel
theorem dX5_matches_38 : decode cX5_matches 38 = .ok (.aload_n 0, 1) := by decide +kernel
theorem dX5_matches_39 : decode cX5_matches 39 = .ok (.getfield 21, 3) := by decide +kernel
theorem dX5_matches_42 : decode cX5_matches 42 = .ok (.aload_n 0, 1) := by decide +kernel
theorem dX5_matches_43 : decode cX5_matches 43 = .ok (.getfield 34, 3) := by decide +kernel
theorem dX5_matches_46 : decode cX5_matches 46 = .ok (.iload_n 1, 1) := by decide +kernel
theorem dX5_matches_47 : decode cX5_matches 47 = .ok (.aaload, 1) := by decide +kernel
theorem dX5_matches_48 : decode cX5_matches 48 = .ok (.invokevirtual 94, 3) := by decide +kernel
theorem dX5_matches_51 : decode cX5_matches 51 = .ok (.lreturn, 1) := by decide +kernel
theorem dX5_match_0 : decode cX5_match 0 = .ok (.iload_n 2, 1) := by decide +kernel
theorem dX5_match_1 : decode cX5_match 1 = .ok (.iload_n 3, 1) := by decide +kernel
theorem dX5_match_2 : decode cX5_match 2 = .ok (.iload 4, 2) := by decide +kernel
theorem dX5_match_4 : decode cX5_match 4 = .ok (.iload 5, 2) := by decide +kernel
theorem dX5_match_6 : decode cX5_match 6 = .ok (.invokestatic 79, 3) := by decide +kernel
theorem dX5_match_9 : decode cX5_match 9 = .ok (.istore 7, 2) := by decide +kernel
theorem dX5_match_11 : decode cX5_match 11 = .ok (.aload_n 0, 1) := by decide +kernel
theorem dX5_match_12 : decode cX5_match 12 = .ok (.iload_n 1, 1) := by decide +kernel
theorem dX5_match_13 : decode cX5_match 13 = .ok (.invokevirtual 59, 3) := by decide +kernel
theorem dX5_match_16 : decode cX5_match 16 = .ok (.ifCond .eq 9, 3) := by decide +kernel
theorem dX5_match_19 : decode cX5_match 19 = .ok (.iload 7, 2) := by decide +kernel
theorem dX5_match_21 : decode cX5_match 21 = .ok (.iconst (-1), 1) := by decide +kernel
theorem dX5_match_22 : decode cX5_match 22 = .ok (.if_icmp .ne 5, 3) := by decide +kernel
theorem dX5_match_25 : decode cX5_match 25 = .ok (.iconst (-1), 1) := by decide +kernel
theorem dX5_match_26 : decode cX5_match 26 = .ok (.ireturn, 1) := by decide +kernel
theorem dX5_match_27 : decode cX5_match 27 = .ok (.aload_n 0, 1) := by decide +kernel
theorem dX5_match_28 : decode cX5_match 28 = .ok (.getfield 21, 3) := by decide +kernel
theorem dX5_match_31 : decode cX5_match 31 = .ok (.iload 7, 2) := by decide +kernel
theorem dX5_match_33 : decode cX5_match 33 = .ok (.invokevirtual 91, 3) := by decide +kernel
theorem dX5_match_36 : decode cX5_match 36 = .ok (.aload_n 0, 1) := by decide +kernel
theorem dX5_match_37 : decode cX5_match 37 = .ok (.getfield 21, 3) := by decide +kernel
theorem dX5_match_40 : decode cX5_match 40 = .ok (.aload_n 0, 1) := by decide +kernel
theorem dX5_match_41 : decode cX5_match 41 = .ok (.getfield 34, 3) := by decide +kernel
theorem dX5_match_44 : decode cX5_match 44 = .ok (.iload_n 1, 1) := by decide +kernel
theorem dX5_match_45 : decode cX5_match 45 = .ok (.aaload, 1) := by decide +kernel
theorem dX5_match_46 : decode cX5_match 46 = .ok (.iload 6, 2) := by decide +kernel
theorem dX5_match_48 : decode cX5_match 48 = .ok (.invokevirtual 98, 3) := by decide +kernel
theorem dX5_match_51 : decode cX5_match 51 = .ok (.ireturn, 1) := by decide +kernel
theorem dX5_find_0 : decode cX5_find 0 = .ok (.iload_n 1, 1) := by decide +kernel
theorem dX5_find_1 : decode cX5_find 1 = .ok (.iconst 1, 1) := by decide +kernel
theorem dX5_find_2 : decode cX5_find 2 = .ok (.if_icmp .lt 19, 3) := by decide +kernel
theorem dX5_find_5 : decode cX5_find 5 = .ok (.iload_n 1, 1) := by decide +kernel
theorem dX5_find_6 : decode cX5_find 6 = .ok (.bipush 24, 2) := by decide +kernel
theorem dX5_find_8 : decode cX5_find 8 = .ok (.if_icmp .gt 13, 3) := by decide +kernel
theorem dX5_find_11 : decode cX5_find 11 = .ok (.iload_n 2, 1) := by decide +kernel
theorem dX5_find_12 : decode cX5_find 12 = .ok (.iconst 1, 1) := by decide +kernel
theorem dX5_find_13 : decode cX5_find 13 = .ok (.if_icmp .lt 8, 3) := by decide +kernel
theorem dX5_find_16 : decode cX5_find 16 = .ok (.iload_n 2, 1) := by decide +kernel
theorem dX5_find_17 : decode cX5_find 17 = .ok (.iconst 4, 1) := by decide +kernel
theorem dX5_find_18 : decode cX5_find 18 = .ok (.if_icmp .le 5, 3) := by decide +kernel
theorem dX5_find_21 : decode cX5_find 21 = .ok (.iconst (-1), 1) := by decide +kernel
theorem dX5_find_22 : decode cX5_find 22 = .ok (.ireturn, 1) := by decide +kernel
theorem dX5_find_23 : decode cX5_find 23 = .ok (.aload_n 0, 1) := by decide +kernel
theorem dX5_find_24 : decode cX5_find 24 = .ok (.getfield 28, 3) := by decide +kernel
theorem dX5_find_27 : decode cX5_find 27 = .ok (.invokevirtual 102, 3) := by decide +kernel
theorem dX5_find_30 : decode cX5_find 30 = .ok (.aload_n 0, 1) := by decide +kernel
theorem dX5_find_31 : decode cX5_find 31 = .ok (.iconst 1, 1) := by decide +kernel
theorem dX5_find_32 : decode cX5_find 32 = .ok (.aload_n 0, 1) := by decide +kernel
theorem dX5_find_33 : decode cX5_find 33 = .ok (.invokevirtual 105, 3) := by decide +kernel
theorem dX5_find_36 : decode cX5_find 36 = .ok (.iload_n 1, 1) := by decide +kernel
theorem dX5_find_37 : decode cX5_find 37 = .ok (.invokevirtual 109, 3) := by decide +kernel
theorem dX5_find_40 : decode cX5_find 40 = .ok (.iconst 0, 1) := by decide +kernel
theorem dX5_find_41 : decode cX5_find 41 = .ok (.istore_n 3, 1) := by decide +kernel
theorem dX5_find_42 : decode cX5_find 42 = .ok (.iload_n 3, 1) := by decide +kernel
theorem dX5_find_43 : decode cX5_find 43 = .ok (.aload_n 0, 1) := by decide +kernel
theorem dX5_find_44 : decode cX5_find 44 = .ok (.getfield 28, 3) := by decide +kernel
theorem dX5_find_47 : decode cX5_find 47 = .ok (.invokevirtual 113, 3) := by decide +kernel
theorem dX5_find_50 : decode cX5_find 50 = .ok (.if_icmp .ge 65, 3) := by decide +kernel
theorem dX5_find_53 : decode cX5_find 53 = .ok (.iload_n 3, 1) := by decide +kernel
theorem dX5_find_54 : decode cX5_find 54 = .ok (.sipush 2000, 3) := by decide +kernel
theorem dX5_find_57 : decode cX5_find 57 = .ok (.if_icmp .ge 58, 3) := by decide +kernel
theorem dX5_find_60 : decode cX5_find 60 = .ok (.aload_n 0, 1) := by decide +kernel
theorem dX5_find_61 : decode cX5_find 61 = .ok (.getfield 28, 3) := by decide +kernel
theorem dX5_find_64 : decode cX5_find 64 = .ok (.invokevirtual 116, 3) := by decide +kernel
theorem dX5_find_67 : decode cX5_find 67 = .ok (.ifCond .ne 48, 3) := by decide +kernel
theorem dX5_find_70 : decode cX5_find 70 = .ok (.aload_n 0, 1) := by decide +kernel
theorem dX5_find_71 : decode cX5_find 71 = .ok (.getfield 28, 3) := by decide +kernel
theorem dX5_find_74 : decode cX5_find 74 = .ok (.iload_n 3, 1) := by decide +kernel
theorem dX5_find_75 : decode cX5_find 75 = .ok (.invokevirtual 120, 3) := by decide +kernel
theorem dX5_find_78 : decode cX5_find 78 = .ok (.invokestatic 123, 3) := by decide +kernel
theorem dX5_find_81 : decode cX5_find 81 = .ok (.iload_n 2, 1) := by decide +kernel
theorem dX5_find_82 : decode cX5_find 82 = .ok (.if_icmp .lt 6, 3) := by decide +kernel
theorem dX5_find_85 : decode cX5_find 85 = .ok (.goto 30, 3) := by decide +kernel
theorem dX5_find_88 : decode cX5_find 88 = .ok (.aload_n 0, 1) := by decide +kernel
theorem dX5_find_89 : decode cX5_find 89 = .ok (.aload_n 0, 1) := by decide +kernel
theorem dX5_find_90 : decode cX5_find 90 = .ok (.getfield 28, 3) := by decide +kernel
theorem dX5_find_93 : decode cX5_find 93 = .ok (.iload_n 3, 1) := by decide +kernel
theorem dX5_find_94 : decode cX5_find 94 = .ok (.invokevirtual 120, 3) := by decide +kernel
theorem dX5_find_97 : decode cX5_find 97 = .ok (.aload_n 0, 1) := by decide +kernel
theorem dX5_find_98 : decode cX5_find 98 = .ok (.getfield 28, 3) := by decide +kernel
theorem dX5_find_101 : decode cX5_find 101 = .ok (.iload_n 3, 1) := by decide +kernel
theorem dX5_find_102 : decode cX5_find 102 = .ok (.invokevirtual 126, 3) := by decide +kernel
theorem dX5_find_105 : decode cX5_find 105 = .ok (.iload_n 1, 1) := by decide +kernel
theorem dX5_find_106 : decode cX5_find 106 = .ok (.invokevirtual 109, 3) := by decide +kernel
theorem dX5_find_109 : decode cX5_find 109 = .ok (.iinc 3 1, 3) := by decide +kernel
theorem dX5_find_112 : decode cX5_find 112 = .ok (.goto (-70), 3) := by decide +kernel
theorem dX5_find_115 : decode cX5_find 115 = .ok (.aload_n 0, 1) := by decide +kernel
theorem dX5_find_116 : decode cX5_find 116 = .ok (.getfield 28, 3) := by decide +kernel
theorem dX5_find_119 : decode cX5_find 119 = .ok (.invokevirtual 113, 3) := by decide +kernel
theorem dX5_find_122 : decode cX5_find 122 = .ok (.ireturn, 1) := by decide +kernel
theorem dX5_found_0 : decode cX5_found 0 = .ok (.aload_n 0, 1) := by decide +kernel
theorem dX5_found_1 : decode cX5_found 1 = .ok (.getfield 28, 3) := by decide +kernel
theorem dX5_found_4 : decode cX5_found 4 = .ok (.iload_n 1, 1) := by decide +kernel
theorem dX5_found_5 : decode cX5_found 5 = .ok (.invokevirtual 129, 3) := by decide +kernel
theorem dX5_found_8 : decode cX5_found 8 = .ok (.ifCond .ne 5, 3) := by decide +kernel
theorem dX5_found_11 : decode cX5_found 11 = .ok (.iconst (-1), 1) := by decide +kernel
theorem dX5_found_12 : decode cX5_found 12 = .ok (.ireturn, 1) := by decide +kernel
theorem dX5_found_13 : decode cX5_found 13 = .ok (.iload_n 2, 1) := by decide +kernel
theorem dX5_found_14 : decode cX5_found 14 = .ok (.iconst 4, 1) := by decide +kernel
theorem dX5_found_15 : decode cX5_found 15 = .ok (.if_icmp .ne 15, 3) := by decide +kernel
theorem dX5_found_18 : decode cX5_found 18 = .ok (.aload_n 0, 1) := by decide +kernel
theorem dX5_found_19 : decode cX5_found 19 = .ok (.getfield 28, 3) := by decide +kernel
theorem dX5_found_22 : decode cX5_found 22 = .ok (.iload_n 1, 1) := by decide +kernel
theorem dX5_found_23 : decode cX5_found 23 = .ok (.invokevirtual 126, 3) := by decide +kernel
theorem dX5_found_26 : decode cX5_found 26 = .ok (.invokestatic 132, 3) := by decide +kernel
theorem dX5_found_29 : decode cX5_found 29 = .ok (.ireturn, 1) := by decide +kernel
theorem dX5_found_30 : decode cX5_found 30 = .ok (.iload_n 2, 1) := by decide +kernel
theorem dX5_found_31 : decode cX5_found 31 = .ok (.iconst 5, 1) := by decide +kernel
theorem dX5_found_32 : decode cX5_found 32 = .ok (.if_icmp .ne 17, 3) := by decide +kernel
theorem dX5_found_35 : decode cX5_found 35 = .ok (.aload_n 0, 1) := by decide +kernel
theorem dX5_found_36 : decode cX5_found 36 = .ok (.getfield 28, 3) := by decide +kernel
theorem dX5_found_39 : decode cX5_found 39 = .ok (.iload_n 1, 1) := by decide +kernel
theorem dX5_found_40 : decode cX5_found 40 = .ok (.invokevirtual 120, 3) := by decide +kernel
theorem dX5_found_43 : decode cX5_found 43 = .ok (.invokestatic 123, 3) := by decide +kernel
theorem dX5_found_46 : decode cX5_found 46 = .ok (.goto 15, 3) := by decide +kernel
theorem dX5_found_49 : decode cX5_found 49 = .ok (.aload_n 0, 1) := by decide +kernel
theorem dX5_found_50 : decode cX5_found 50 = .ok (.getfield 28, 3) := by decide +kernel
theorem dX5_found_53 : decode cX5_found 53 = .ok (.iload_n 1, 1) := by decide +kernel
theorem dX5_found_54 : decode cX5_found 54 = .ok (.invokevirtual 120, 3) := by decide +kernel
theorem dX5_found_57 : decode cX5_found 57 = .ok (.iload_n 2, 1) := by decide +kernel
theorem dX5_found_58 : decode cX5_found 58 = .ok (.invokestatic 137, 3) := by decide +kernel
theorem dX5_found_61 : decode cX5_found 61 = .ok (.ireturn, 1) := by decide +kernel
theorem dX5_closed_0 : decode cX5_closed 0 = .ok (.aload_n 0, 1) := by decide +kernel
theorem dX5_closed_1 : decode cX5_closed 1 = .ok (.getfield 28, 3) := by decide +kernel
theorem dX5_closed_4 : decode cX5_closed 4 = .ok (.iload_n 1, 1) := by decide +kernel
theorem dX5_closed_5 : decode cX5_closed 5 = .ok (.invokevirtual 129, 3) := by decide +kernel
theorem dX5_closed_8 : decode cX5_closed 8 = .ok (.ifCond .ne 5, 3) := by decide +kernel
theorem dX5_closed_11 : decode cX5_closed 11 = .ok (.iconst (-1), 1) := by decide +kernel
theorem dX5_closed_12 : decode cX5_closed 12 = .ok (.ireturn, 1) := by decide +kernel
theorem dX5_closed_13 : decode cX5_closed 13 = .ok (.aload_n 0, 1) := by decide +kernel
theorem dX5_closed_14 : decode cX5_closed 14 = .ok (.getfield 28, 3) := by decide +kernel
theorem dX5_closed_17 : decode cX5_closed 17 = .ok (.iload_n 1, 1) := by decide +kernel
theorem dX5_closed_18 : decode cX5_closed 18 = .ok (.invokevirtual 120, 3) := by decide +kernel
theorem dX5_closed_21 : decode cX5_closed 21 = .ok (.istore_n 2, 1) := by decide +kernel
theorem dX5_closed_22 : decode cX5_closed 22 = .ok (.aload_n 0, 1) := by decide +kernel
theorem dX5_closed_23 : decode cX5_closed 23 = .ok (.iload_n 2, 1) := by decide +kernel
theorem dX5_closed_24 : decode cX5_closed 24 = .ok (.invokevirtual 85, 3) := by decide +kernel
theorem dX5_closed_27 : decode cX5_closed 27 = .ok (.istore_n 3, 1) := by decide +kernel
theorem dX5_closed_28 : decode cX5_closed 28 = .ok (.aload_n 0, 1) := by decide +kernel
theorem dX5_closed_29 : decode cX5_closed 29 = .ok (.iload_n 2, 1) := by decide +kernel
theorem dX5_closed_30 : decode cX5_closed 30 = .ok (.iload_n 3, 1) := by decide +kernel
theorem dX5_closed_31 : decode cX5_closed 31 = .ok (.invokevirtual 140, 3) := by decide +kernel
theorem dX5_closed_34 : decode cX5_closed 34 = .ok (.ifCond .ne 12, 3) := by decide +kernel
theorem dX5_closed_37 : decode cX5_closed 37 = .ok (.aload_n 0, 1) := by decide +kernel
theorem dX5_closed_38 : decode cX5_closed 38 = .ok (.iload_n 2, 1) := by decide +kernel
theorem dX5_closed_39 : decode cX5_closed 39 = .ok (.iload_n 3, 1) := by decide +kernel
theorem dX5_closed_40 : decode cX5_closed 40 = .ok (.invokevirtual 143, 3) := by decide +kernel
theorem dX5_closed_43 : decode cX5_closed 43 = .ok (.ifCond .eq 7, 3) := by decide +kernel
theorem dX5_closed_46 : decode cX5_closed 46 = .ok (.iconst 0, 1) := by decide +kernel
theorem dX5_closed_47 : decode cX5_closed 47 = .ok (.goto 4, 3) := by decide +kernel
theorem dX5_closed_50 : decode cX5_closed 50 = .ok (.iconst 1, 1) := by decide +kernel
theorem dX5_closed_51 : decode cX5_closed 51 = .ok (.ireturn, 1) := by decide +kernel
theorem dX5_best_0 : decode cX5_best 0 = .ok (.aload_n 0, 1) := by decide +kernel
theorem dX5_best_1 : decode cX5_best 1 = .ok (.iconst 0, 1) := by decide +kernel
theorem dX5_best_2 : decode cX5_best 2 = .ok (.invokevirtual 146, 3) := by decide +kernel
theorem dX5_best_5 : decode cX5_best 5 = .ok (.istore_n 1, 1) := by decide +kernel
theorem dX5_best_6 : decode cX5_best 6 = .ok (.aload_n 0, 1) := by decide +kernel
theorem dX5_best_7 : decode cX5_best 7 = .ok (.iconst 1, 1) := by decide +kernel
theorem dX5_best_8 : decode cX5_best 8 = .ok (.invokevirtual 146, 3) := by decide +kernel
theorem dX5_best_11 : decode cX5_best 11 = .ok (.istore_n 2, 1) := by decide +kernel
theorem dX5_best_12 : decode cX5_best 12 = .ok (.iconst (-1), 1) := by decide +kernel
theorem dX5_best_13 : decode cX5_best 13 = .ok (.istore_n 3, 1) := by decide +kernel
theorem dX5_best_14 : decode cX5_best 14 = .ok (.iconst (-1), 1) := by decide +kernel
theorem dX5_best_15 : decode cX5_best 15 = .ok (.istore 4, 2) := by decide +kernel
theorem dX5_best_17 : decode cX5_best 17 = .ok (.iconst (-1), 1) := by decide +kernel
theorem dX5_best_18 : decode cX5_best 18 = .ok (.istore 5, 2) := by decide +kernel
theorem dX5_best_20 : decode cX5_best 20 = .ok (.iconst 0, 1) := by decide +kernel
theorem dX5_best_21 : decode cX5_best 21 = .ok (.istore 6, 2) := by decide +kernel
theorem dX5_best_23 : decode cX5_best 23 = .ok (.iload 6, 2) := by decide +kernel
theorem dX5_best_25 : decode cX5_best 25 = .ok (.aload_n 0, 1) := by decide +kernel
theorem dX5_best_26 : decode cX5_best 26 = .ok (.getfield 28, 3) := by decide +kernel
theorem dX5_best_29 : decode cX5_best 29 = .ok (.invokevirtual 113, 3) := by decide +kernel
theorem dX5_best_32 : decode cX5_best 32 = .ok (.if_icmp .ge 78, 3) := by decide +kernel
theorem dX5_best_35 : decode cX5_best 35 = .ok (.aload_n 0, 1) := by decide +kernel
theorem dX5_best_36 : decode cX5_best 36 = .ok (.getfield 28, 3) := by decide +kernel
theorem dX5_best_39 : decode cX5_best 39 = .ok (.iload 6, 2) := by decide +kernel
theorem dX5_best_41 : decode cX5_best 41 = .ok (.invokevirtual 120, 3) := by decide +kernel
theorem dX5_best_44 : decode cX5_best 44 = .ok (.istore 7, 2) := by decide +kernel
theorem dX5_best_46 : decode cX5_best 46 = .ok (.iload 7, 2) := by decide +kernel
theorem dX5_best_48 : decode cX5_best 48 = .ok (.invokestatic 149, 3) := by decide +kernel
theorem dX5_best_51 : decode cX5_best 51 = .ok (.istore 8, 2) := by decide +kernel
theorem dX5_best_53 : decode cX5_best 53 = .ok (.iload 8, 2) := by decide +kernel
theorem dX5_best_55 : decode cX5_best 55 = .ok (.iload 5, 2) := by decide +kernel
theorem dX5_best_57 : decode cX5_best 57 = .ok (.if_icmp .eq 16, 3) := by decide +kernel
theorem dX5_best_60 : decode cX5_best 60 = .ok (.aload_n 0, 1) := by decide +kernel
theorem dX5_best_61 : decode cX5_best 61 = .ok (.iload 8, 2) := by decide +kernel
theorem dX5_best_63 : decode cX5_best 63 = .ok (.iload_n 1, 1) := by decide +kernel
theorem dX5_best_64 : decode cX5_best 64 = .ok (.iload_n 2, 1) := by decide +kernel
theorem dX5_best_65 : decode cX5_best 65 = .ok (.ior, 1) := by decide +kernel
theorem dX5_best_66 : decode cX5_best 66 = .ok (.invokevirtual 152, 3) := by decide +kernel
theorem dX5_best_69 : decode cX5_best 69 = .ok (.iload 8, 2) := by decide +kernel
theorem dX5_best_71 : decode cX5_best 71 = .ok (.istore 5, 2) := by decide +kernel
theorem dX5_best_73 : decode cX5_best 73 = .ok (.aload_n 0, 1) := by decide +kernel
theorem dX5_best_74 : decode cX5_best 74 = .ok (.getfield 39, 3) := by decide +kernel
theorem dX5_best_77 : decode cX5_best 77 = .ok (.iload 7, 2) := by decide +kernel
theorem dX5_best_79 : decode cX5_best 79 = .ok (.invokestatic 156, 3) := by decide +kernel
theorem dX5_best_82 : decode cX5_best 82 = .ok (.iaload, 1) := by decide +kernel
theorem dX5_best_83 : decode cX5_best 83 = .ok (.iload_n 1, 1) := by decide +kernel
theorem dX5_best_84 : decode cX5_best 84 = .ok (.iload_n 2, 1) := by decide +kernel
theorem dX5_best_85 : decode cX5_best 85 = .ok (.invokestatic 159, 3) := by decide +kernel
theorem dX5_best_88 : decode cX5_best 88 = .ok (.istore 9, 2) := by decide +kernel
theorem dX5_best_90 : decode cX5_best 90 = .ok (.iload 9, 2) := by decide +kernel
theorem dX5_best_92 : decode cX5_best 92 = .ok (.iload 4, 2) := by decide +kernel
theorem dX5_best_94 : decode cX5_best 94 = .ok (.if_icmp .le 10, 3) := by decide +kernel
theorem dX5_best_97 : decode cX5_best 97 = .ok (.iload 9, 2) := by decide +kernel
theorem dX5_best_99 : decode cX5_best 99 = .ok (.istore 4, 2) := by decide +kernel
theorem dX5_best_101 : decode cX5_best 101 = .ok (.iload 6, 2) := by decide +kernel
theorem dX5_best_103 : decode cX5_best 103 = .ok (.istore_n 3, 1) := by decide +kernel
theorem dX5_best_104 : decode cX5_best 104 = .ok (.iinc 6 1, 3) := by decide +kernel
theorem dX5_best_107 : decode cX5_best 107 = .ok (.goto (-84), 3) := by decide +kernel
theorem dX5_best_110 : decode cX5_best 110 = .ok (.iload_n 3, 1) := by decide +kernel
theorem dX5_best_111 : decode cX5_best 111 = .ok (.ireturn, 1) := by decide +kernel
theorem dX5_expected_0 : decode cX5_expected 0 = .ok (.iload_n 1, 1) := by decide +kernel
theorem dX5_expected_1 : decode cX5_expected 1 = .ok (.invokestatic 47, 3) := by decide +kernel
theorem dX5_expected_4 : decode cX5_expected 4 = .ok (.ifCond .eq 34, 3) := by decide +kernel
theorem dX5_expected_7 : decode cX5_expected 7 = .ok (.iload_n 2, 1) := by decide +kernel
theorem dX5_expected_8 : decode cX5_expected 8 = .ok (.invokestatic 47, 3) := by decide +kernel
theorem dX5_expected_11 : decode cX5_expected 11 = .ok (.ifCond .eq 27, 3) := by decide +kernel
theorem dX5_expected_14 : decode cX5_expected 14 = .ok (.aload_n 0, 1) := by decide +kernel
theorem dX5_expected_15 : decode cX5_expected 15 = .ok (.getfield 10, 3) := by decide +kernel
theorem dX5_expected_18 : decode cX5_expected 18 = .ok (.iload_n 1, 1) := by decide +kernel
theorem dX5_expected_19 : decode cX5_expected 19 = .ok (.iload_n 2, 1) := by decide +kernel
theorem dX5_expected_20 : decode cX5_expected 20 = .ok (.invokevirtual 163, 3) := by decide +kernel
theorem dX5_expected_23 : decode cX5_expected 23 = .ok (.ifCond .ne 15, 3) := by decide +kernel
theorem dX5_expected_26 : decode cX5_expected 26 = .ok (.aload_n 0, 1) := by decide +kernel
theorem dX5_expected_27 : decode cX5_expected 27 = .ok (.getfield 10, 3) := by decide +kernel
theorem dX5_expected_30 : decode cX5_expected 30 = .ok (.iload_n 2, 1) := by decide +kernel
theorem dX5_expected_31 : decode cX5_expected 31 = .ok (.iload_n 1, 1) := by decide +kernel
theorem dX5_expected_32 : decode cX5_expected 32 = .ok (.invokevirtual 163, 3) := by decide +kernel
theorem dX5_expected_35 : decode cX5_expected 35 = .ok (.ifCond .eq 7, 3) := by decide +kernel
theorem dX5_expected_38 : decode cX5_expected 38 = .ok (.ldc2_w 89, 3) := by decide +kernel
theorem dX5_expected_41 : decode cX5_expected 41 = .ok (.lreturn, 1) := by decide +kernel
theorem dX5_expected_42 : decode cX5_expected 42 = .ok (.lconst 0, 1) := by decide +kernel
theorem dX5_expected_43 : decode cX5_expected 43 = .ok (.lstore_n 3, 1) := by decide +kernel
theorem dX5_expected_44 : decode cX5_expected 44 = .ok (.iconst 0, 1) := by decide +kernel
theorem dX5_expected_45 : decode cX5_expected 45 = .ok (.istore 5, 2) := by decide +kernel
theorem dX5_expected_47 : decode cX5_expected 47 = .ok (.iload 5, 2) := by decide +kernel
theorem dX5_expected_49 : decode cX5_expected 49 = .ok (.aload_n 0, 1) := by decide +kernel
theorem dX5_expected_50 : decode cX5_expected 50 = .ok (.getfield 43, 3) := by decide +kernel
theorem dX5_expected_53 : decode cX5_expected 53 = .ok (.if_icmp .ge 58, 3) := by decide +kernel
theorem dX5_expected_56 : decode cX5_expected 56 = .ok (.aload_n 0, 1) := by decide +kernel
theorem dX5_expected_57 : decode cX5_expected 57 = .ok (.getfield 34, 3) := by decide +kernel
theorem dX5_expected_60 : decode cX5_expected 60 = .ok (.iload 5, 2) := by decide +kernel
theorem dX5_expected_62 : decode cX5_expected 62 = .ok (.aaload, 1) := by decide +kernel
theorem dX5_expected_63 : decode cX5_expected 63 = .ok (.getfield 69, 3) := by decide +kernel
theorem dX5_expected_66 : decode cX5_expected 66 = .ok (.ifCond .eq 39, 3) := by decide +kernel
theorem dX5_expected_69 : decode cX5_expected 69 = .ok (.lload_n 3, 1) := by decide +kernel
theorem dX5_expected_70 : decode cX5_expected 70 = .ok (.aload_n 0, 1) := by decide +kernel
theorem dX5_expected_71 : decode cX5_expected 71 = .ok (.getfield 34, 3) := by decide +kernel
theorem dX5_expected_74 : decode cX5_expected 74 = .ok (.iload 5, 2) := by decide +kernel
theorem dX5_expected_76 : decode cX5_expected 76 = .ok (.aaload, 1) := by decide +kernel
theorem dX5_expected_77 : decode cX5_expected 77 = .ok (.aload_n 0, 1) := by decide +kernel
theorem dX5_expected_78 : decode cX5_expected 78 = .ok (.getfield 10, 3) := by decide +kernel
theorem dX5_expected_81 : decode cX5_expected 81 = .ok (.iload_n 1, 1) := by decide +kernel
theorem dX5_expected_82 : decode cX5_expected 82 = .ok (.invokevirtual 166, 3) := by decide +kernel
theorem dX5_expected_85 : decode cX5_expected 85 = .ok (.aload_n 0, 1) := by decide +kernel
theorem dX5_expected_86 : decode cX5_expected 86 = .ok (.getfield 34, 3) := by decide +kernel
theorem dX5_expected_89 : decode cX5_expected 89 = .ok (.iload 5, 2) := by decide +kernel
theorem dX5_expected_91 : decode cX5_expected 91 = .ok (.aaload, 1) := by decide +kernel
theorem dX5_expected_92 : decode cX5_expected 92 = .ok (.aload_n 0, 1) := by decide +kernel
theorem dX5_expected_93 : decode cX5_expected 93 = .ok (.getfield 10, 3) := by decide +kernel
theorem dX5_expected_96 : decode cX5_expected 96 = .ok (.iload_n 2, 1) := by decide +kernel
theorem dX5_expected_97 : decode cX5_expected 97 = .ok (.invokevirtual 166, 3) := by decide +kernel
theorem dX5_expected_100 : decode cX5_expected 100 = .ok (.invokestatic 170, 3) := by decide +kernel
theorem dX5_expected_103 : decode cX5_expected 103 = .ok (.ladd, 1) := by decide +kernel
theorem dX5_expected_104 : decode cX5_expected 104 = .ok (.lstore_n 3, 1) := by decide +kernel
theorem dX5_expected_105 : decode cX5_expected 105 = .ok (.iinc 5 1, 3) := by decide +kernel
theorem dX5_expected_108 : decode cX5_expected 108 = .ok (.goto (-61), 3) := by decide +kernel
theorem dX5_expected_111 : decode cX5_expected 111 = .ok (.lload_n 3, 1) := by decide +kernel
theorem dX5_expected_112 : decode cX5_expected 112 = .ok (.lreturn, 1) := by decide +kernel
theorem dX5_share_0 : decode cX5_share 0 = .ok (.iload_n 1, 1) := by decide +kernel
theorem dX5_share_1 : decode cX5_share 1 = .ok (.iload_n 2, 1) := by decide +kernel
theorem dX5_share_2 : decode cX5_share 2 = .ok (.iload_n 3, 1) := by decide +kernel
theorem dX5_share_3 : decode cX5_share 3 = .ok (.iload 4, 2) := by decide +kernel
theorem dX5_share_5 : decode cX5_share 5 = .ok (.invokestatic 79, 3) := by decide +kernel
theorem dX5_share_8 : decode cX5_share 8 = .ok (.istore 5, 2) := by decide +kernel
theorem dX5_share_10 : decode cX5_share 10 = .ok (.iload 5, 2) := by decide +kernel
theorem dX5_share_12 : decode cX5_share 12 = .ok (.invokestatic 123, 3) := by decide +kernel
theorem dX5_share_15 : decode cX5_share 15 = .ok (.iconst 2, 1) := by decide +kernel
theorem dX5_share_16 : decode cX5_share 16 = .ok (.if_icmp .ge 5, 3) := by decide +kernel
theorem dX5_share_19 : decode cX5_share 19 = .ok (.iconst (-1), 1) := by decide +kernel
theorem dX5_share_20 : decode cX5_share 20 = .ok (.ireturn, 1) := by decide +kernel
theorem dX5_share_21 : decode cX5_share 21 = .ok (.aload_n 0, 1) := by decide +kernel
theorem dX5_share_22 : decode cX5_share 22 = .ok (.iload 5, 2) := by decide +kernel
theorem dX5_share_24 : decode cX5_share 24 = .ok (.invokestatic 149, 3) := by decide +kernel
theorem dX5_share_27 : decode cX5_share 27 = .ok (.invokevirtual 85, 3) := by decide +kernel
theorem dX5_share_30 : decode cX5_share 30 = .ok (.istore 6, 2) := by decide +kernel
theorem dX5_share_32 : decode cX5_share 32 = .ok (.iload 6, 2) := by decide +kernel
theorem dX5_share_34 : decode cX5_share 34 = .ok (.ifCond .ne 7, 3) := by decide +kernel
theorem dX5_share_37 : decode cX5_share 37 = .ok (.iconst 0, 1) := by decide +kernel
theorem dX5_share_38 : decode cX5_share 38 = .ok (.goto 16, 3) := by decide +kernel
theorem dX5_share_41 : decode cX5_share 41 = .ok (.aload_n 0, 1) := by decide +kernel
theorem dX5_share_42 : decode cX5_share 42 = .ok (.iload 5, 2) := by decide +kernel
theorem dX5_share_44 : decode cX5_share 44 = .ok (.invokevirtual 85, 3) := by decide +kernel
theorem dX5_share_47 : decode cX5_share 47 = .ok (.sipush 1000, 3) := by decide +kernel
theorem dX5_share_50 : decode cX5_share 50 = .ok (.imul, 1) := by decide +kernel
theorem dX5_share_51 : decode cX5_share 51 = .ok (.iload 6, 2) := by decide +kernel
theorem dX5_share_53 : decode cX5_share 53 = .ok (.idiv, 1) := by decide +kernel
theorem dX5_share_54 : decode cX5_share 54 = .ok (.ireturn, 1) := by decide +kernel
theorem dX5_lacking_0 : decode cX5_lacking 0 = .ok (.aload_n 0, 1) := by decide +kernel
theorem dX5_lacking_1 : decode cX5_lacking 1 = .ok (.iload_n 1, 1) := by decide +kernel
theorem dX5_lacking_2 : decode cX5_lacking 2 = .ok (.iload_n 2, 1) := by decide +kernel
theorem dX5_lacking_3 : decode cX5_lacking 3 = .ok (.iload_n 3, 1) := by decide +kernel
theorem dX5_lacking_4 : decode cX5_lacking 4 = .ok (.iload 4, 2) := by decide +kernel
theorem dX5_lacking_6 : decode cX5_lacking 6 = .ok (.invokestatic 79, 3) := by decide +kernel
theorem dX5_lacking_9 : decode cX5_lacking 9 = .ok (.invokevirtual 174, 3) := by decide +kernel
theorem dX5_lacking_12 : decode cX5_lacking 12 = .ok (.istore 6, 2) := by decide +kernel
theorem dX5_lacking_14 : decode cX5_lacking 14 = .ok (.iconst 0, 1) := by decide +kernel
theorem dX5_lacking_15 : decode cX5_lacking 15 = .ok (.istore 7, 2) := by decide +kernel
theorem dX5_lacking_17 : decode cX5_lacking 17 = .ok (.iconst 0, 1) := by decide +kernel
theorem dX5_lacking_18 : decode cX5_lacking 18 = .ok (.istore 8, 2) := by decide +kernel
theorem dX5_lacking_20 : decode cX5_lacking 20 = .ok (.iload 8, 2) := by decide +kernel
theorem dX5_lacking_22 : decode cX5_lacking 22 = .ok (.aload_n 0, 1) := by decide +kernel
theorem dX5_lacking_23 : decode cX5_lacking 23 = .ok (.getfield 43, 3) := by decide +kernel
theorem dX5_lacking_26 : decode cX5_lacking 26 = .ok (.if_icmp .ge 32, 3) := by decide +kernel
theorem dX5_lacking_29 : decode cX5_lacking 29 = .ok (.iload 8, 2) := by decide +kernel
theorem dX5_lacking_31 : decode cX5_lacking 31 = .ok (.iload 6, 2) := by decide +kernel
theorem dX5_lacking_33 : decode cX5_lacking 33 = .ok (.invokestatic 177, 3) := by decide +kernel
theorem dX5_lacking_36 : decode cX5_lacking 36 = .ok (.ifCond .eq 16, 3) := by decide +kernel
theorem dX5_lacking_39 : decode cX5_lacking 39 = .ok (.iload 7, 2) := by decide +kernel
theorem dX5_lacking_41 : decode cX5_lacking 41 = .ok (.iload 5, 2) := by decide +kernel
theorem dX5_lacking_43 : decode cX5_lacking 43 = .ok (.if_icmp .ne 6, 3) := by decide +kernel
theorem dX5_lacking_46 : decode cX5_lacking 46 = .ok (.iload 8, 2) := by decide +kernel
theorem dX5_lacking_48 : decode cX5_lacking 48 = .ok (.ireturn, 1) := by decide +kernel
theorem dX5_lacking_49 : decode cX5_lacking 49 = .ok (.iinc 7 1, 3) := by decide +kernel
theorem dX5_lacking_52 : decode cX5_lacking 52 = .ok (.iinc 8 1, 3) := by decide +kernel
theorem dX5_lacking_55 : decode cX5_lacking 55 = .ok (.goto (-35), 3) := by decide +kernel
theorem dX5_lacking_58 : decode cX5_lacking 58 = .ok (.iconst (-1), 1) := by decide +kernel
theorem dX5_lacking_59 : decode cX5_lacking 59 = .ok (.ireturn, 1) := by decide +kernel
theorem dX5_sure_0 : decode cX5_sure 0 = .ok (.iload_n 2, 1) := by decide +kernel
theorem dX5_sure_1 : decode cX5_sure 1 = .ok (.iload_n 3, 1) := by decide +kernel
theorem dX5_sure_2 : decode cX5_sure 2 = .ok (.iload 4, 2) := by decide +kernel
theorem dX5_sure_4 : decode cX5_sure 4 = .ok (.iload 5, 2) := by decide +kernel
theorem dX5_sure_6 : decode cX5_sure 6 = .ok (.invokestatic 79, 3) := by decide +kernel
theorem dX5_sure_9 : decode cX5_sure 9 = .ok (.istore 6, 2) := by decide +kernel
theorem dX5_sure_11 : decode cX5_sure 11 = .ok (.aload_n 0, 1) := by decide +kernel
theorem dX5_sure_12 : decode cX5_sure 12 = .ok (.iload_n 1, 1) := by decide +kernel
theorem dX5_sure_13 : decode cX5_sure 13 = .ok (.invokevirtual 59, 3) := by decide +kernel
theorem dX5_sure_16 : decode cX5_sure 16 = .ok (.ifCond .eq 16, 3) := by decide +kernel
theorem dX5_sure_19 : decode cX5_sure 19 = .ok (.iload_n 1, 1) := by decide +kernel
theorem dX5_sure_20 : decode cX5_sure 20 = .ok (.aload_n 0, 1) := by decide +kernel
theorem dX5_sure_21 : decode cX5_sure 21 = .ok (.iload 6, 2) := by decide +kernel
theorem dX5_sure_23 : decode cX5_sure 23 = .ok (.invokevirtual 174, 3) := by decide +kernel
theorem dX5_sure_26 : decode cX5_sure 26 = .ok (.invokestatic 177, 3) := by decide +kernel
theorem dX5_sure_29 : decode cX5_sure 29 = .ok (.ifCond .ne 5, 3) := by decide +kernel
theorem dX5_sure_32 : decode cX5_sure 32 = .ok (.iconst (-1), 1) := by decide +kernel
theorem dX5_sure_33 : decode cX5_sure 33 = .ok (.ireturn, 1) := by decide +kernel
theorem dX5_sure_34 : decode cX5_sure 34 = .ok (.aload_n 0, 1) := by decide +kernel
theorem dX5_sure_35 : decode cX5_sure 35 = .ok (.getfield 21, 3) := by decide +kernel
theorem dX5_sure_38 : decode cX5_sure 38 = .ok (.iload 6, 2) := by decide +kernel
theorem dX5_sure_40 : decode cX5_sure 40 = .ok (.invokestatic 149, 3) := by decide +kernel
theorem dX5_sure_43 : decode cX5_sure 43 = .ok (.invokevirtual 91, 3) := by decide +kernel
theorem dX5_sure_46 : decode cX5_sure 46 = .ok (.sipush 9999, 3) := by decide +kernel
theorem dX5_sure_49 : decode cX5_sure 49 = .ok (.aload_n 0, 1) := by decide +kernel
theorem dX5_sure_50 : decode cX5_sure 50 = .ok (.getfield 21, 3) := by decide +kernel
theorem dX5_sure_53 : decode cX5_sure 53 = .ok (.aload_n 0, 1) := by decide +kernel
theorem dX5_sure_54 : decode cX5_sure 54 = .ok (.getfield 34, 3) := by decide +kernel
theorem dX5_sure_57 : decode cX5_sure 57 = .ok (.iload_n 1, 1) := by decide +kernel
theorem dX5_sure_58 : decode cX5_sure 58 = .ok (.aaload, 1) := by decide +kernel
theorem dX5_sure_59 : decode cX5_sure 59 = .ok (.invokevirtual 180, 3) := by decide +kernel
theorem dX5_sure_62 : decode cX5_sure 62 = .ok (.aload_n 0, 1) := by decide +kernel
theorem dX5_sure_63 : decode cX5_sure 63 = .ok (.getfield 21, 3) := by decide +kernel
theorem dX5_sure_66 : decode cX5_sure 66 = .ok (.getfield 73, 3) := by decide +kernel
theorem dX5_sure_69 : decode cX5_sure 69 = .ok (.iadd, 1) := by decide +kernel
theorem dX5_sure_70 : decode cX5_sure 70 = .ok (.invokestatic 184, 3) := by decide +kernel
theorem dX5_sure_73 : decode cX5_sure 73 = .ok (.ireturn, 1) := by decide +kernel
theorem dX5_look_0 : decode cX5_look 0 = .ok (.aload_n 0, 1) := by decide +kernel
theorem dX5_look_1 : decode cX5_look 1 = .ok (.iload_n 1, 1) := by decide +kernel
theorem dX5_look_2 : decode cX5_look 2 = .ok (.invokevirtual 59, 3) := by decide +kernel
theorem dX5_look_5 : decode cX5_look 5 = .ok (.ifCond .ne 5, 3) := by decide +kernel
theorem dX5_look_8 : decode cX5_look 8 = .ok (.iconst (-1), 1) := by decide +kernel
theorem dX5_look_9 : decode cX5_look 9 = .ok (.ireturn, 1) := by decide +kernel
theorem dX5_look_10 : decode cX5_look 10 = .ok (.iload_n 2, 1) := by decide +kernel
theorem dX5_look_11 : decode cX5_look 11 = .ok (.iconst (-1), 1) := by decide +kernel
theorem dX5_look_12 : decode cX5_look 12 = .ok (.if_icmp .ne 14, 3) := by decide +kernel
theorem dX5_look_15 : decode cX5_look 15 = .ok (.aload_n 0, 1) := by decide +kernel
theorem dX5_look_16 : decode cX5_look 16 = .ok (.getfield 34, 3) := by decide +kernel
theorem dX5_look_19 : decode cX5_look 19 = .ok (.iload_n 1, 1) := by decide +kernel
theorem dX5_look_20 : decode cX5_look 20 = .ok (.aaload, 1) := by decide +kernel
theorem dX5_look_21 : decode cX5_look 21 = .ok (.iload_n 3, 1) := by decide +kernel
theorem dX5_look_22 : decode cX5_look 22 = .ok (.invokestatic 189, 3) := by decide +kernel
theorem dX5_look_25 : decode cX5_look 25 = .ok (.ireturn, 1) := by decide +kernel
theorem dX5_look_26 : decode cX5_look 26 = .ok (.iload_n 3, 1) := by decide +kernel
theorem dX5_look_27 : decode cX5_look 27 = .ok (.lookupswitch 47 #[(0, 25), (1, 36)], 25) := by decide +kernel
theorem dX5_look_52 : decode cX5_look 52 = .ok (.aload_n 0, 1) := by decide +kernel
theorem dX5_look_53 : decode cX5_look 53 = .ok (.getfield 34, 3) := by decide +kernel
theorem dX5_look_56 : decode cX5_look 56 = .ok (.iload_n 1, 1) := by decide +kernel
theorem dX5_look_57 : decode cX5_look 57 = .ok (.aaload, 1) := by decide +kernel
theorem dX5_look_58 : decode cX5_look 58 = .ok (.iload_n 2, 1) := by decide +kernel
theorem dX5_look_59 : decode cX5_look 59 = .ok (.invokevirtual 192, 3) := by decide +kernel
theorem dX5_look_62 : decode cX5_look 62 = .ok (.ireturn, 1) := by decide +kernel
theorem dX5_look_63 : decode cX5_look 63 = .ok (.aload_n 0, 1) := by decide +kernel
theorem dX5_look_64 : decode cX5_look 64 = .ok (.getfield 34, 3) := by decide +kernel
theorem dX5_look_67 : decode cX5_look 67 = .ok (.iload_n 1, 1) := by decide +kernel
theorem dX5_look_68 : decode cX5_look 68 = .ok (.aaload, 1) := by decide +kernel
theorem dX5_look_69 : decode cX5_look 69 = .ok (.iload_n 2, 1) := by decide +kernel
theorem dX5_look_70 : decode cX5_look 70 = .ok (.invokevirtual 195, 3) := by decide +kernel
theorem dX5_look_73 : decode cX5_look 73 = .ok (.ireturn, 1) := by decide +kernel
theorem dX5_look_74 : decode cX5_look 74 = .ok (.iconst (-1), 1) := by decide +kernel
theorem dX5_look_75 : decode cX5_look 75 = .ok (.ireturn, 1) := by decide +kernel
theorem dX5_isUnder_0 : decode cX5_isUnder 0 = .ok (.iload_n 1, 1) := by decide +kernel
theorem dX5_isUnder_1 : decode cX5_isUnder 1 = .ok (.invokestatic 47, 3) := by decide +kernel
theorem dX5_isUnder_4 : decode cX5_isUnder 4 = .ok (.ifCond .eq 10, 3) := by decide +kernel
theorem dX5_isUnder_7 : decode cX5_isUnder 7 = .ok (.iload_n 2, 1) := by decide +kernel
theorem dX5_isUnder_8 : decode cX5_isUnder 8 = .ok (.invokestatic 47, 3) := by decide +kernel
theorem dX5_isUnder_11 : decode cX5_isUnder 11 = .ok (.ifCond .ne 5, 3) := by decide +kernel
theorem dX5_isUnder_14 : decode cX5_isUnder 14 = .ok (.iconst (-1), 1) := by decide +kernel
theorem dX5_isUnder_15 : decode cX5_isUnder 15 = .ok (.ireturn, 1) := by decide +kernel
theorem dX5_isUnder_16 : decode cX5_isUnder 16 = .ok (.iload_n 1, 1) := by decide +kernel
theorem dX5_isUnder_17 : decode cX5_isUnder 17 = .ok (.iload_n 2, 1) := by decide +kernel
theorem dX5_isUnder_18 : decode cX5_isUnder 18 = .ok (.if_icmp .eq 19, 3) := by decide +kernel
theorem dX5_isUnder_21 : decode cX5_isUnder 21 = .ok (.aload_n 0, 1) := by decide +kernel
theorem dX5_isUnder_22 : decode cX5_isUnder 22 = .ok (.getfield 10, 3) := by decide +kernel
theorem dX5_isUnder_25 : decode cX5_isUnder 25 = .ok (.iload_n 1, 1) := by decide +kernel
theorem dX5_isUnder_26 : decode cX5_isUnder 26 = .ok (.iload_n 2, 1) := by decide +kernel
theorem dX5_isUnder_27 : decode cX5_isUnder 27 = .ok (.invokevirtual 163, 3) := by decide +kernel
theorem dX5_isUnder_30 : decode cX5_isUnder 30 = .ok (.ifCond .eq 7, 3) := by decide +kernel
theorem dX5_isUnder_33 : decode cX5_isUnder 33 = .ok (.iconst 1, 1) := by decide +kernel
theorem dX5_isUnder_34 : decode cX5_isUnder 34 = .ok (.goto 4, 3) := by decide +kernel
theorem dX5_isUnder_37 : decode cX5_isUnder 37 = .ok (.iconst 0, 1) := by decide +kernel
theorem dX5_isUnder_38 : decode cX5_isUnder 38 = .ok (.ireturn, 1) := by decide +kernel
theorem dX5_tell_0 : decode cX5_tell 0 = .ok (.iload_n 1, 1) := by decide +kernel
theorem dX5_tell_1 : decode cX5_tell 1 = .ok (.tableswitch 81 0 5 #[39, 44, 52, 60, 68, 76], 39) := by decide +kernel
theorem dX5_tell_40 : decode cX5_tell 40 = .ok (.aload_n 0, 1) := by decide +kernel
theorem dX5_tell_41 : decode cX5_tell 41 = .ok (.getfield 43, 3) := by decide +kernel
theorem dX5_tell_44 : decode cX5_tell 44 = .ok (.ireturn, 1) := by decide +kernel
theorem dX5_tell_45 : decode cX5_tell 45 = .ok (.aload_n 0, 1) := by decide +kernel
theorem dX5_tell_46 : decode cX5_tell 46 = .ok (.invokevirtual 105, 3) := by decide +kernel
theorem dX5_tell_49 : decode cX5_tell 49 = .ok (.invokestatic 132, 3) := by decide +kernel
theorem dX5_tell_52 : decode cX5_tell 52 = .ok (.ireturn, 1) := by decide +kernel
theorem dX5_tell_53 : decode cX5_tell 53 = .ok (.aload_n 0, 1) := by decide +kernel
theorem dX5_tell_54 : decode cX5_tell 54 = .ok (.getfield 21, 3) := by decide +kernel
theorem dX5_tell_57 : decode cX5_tell 57 = .ok (.getfield 73, 3) := by decide +kernel
theorem dX5_tell_60 : decode cX5_tell 60 = .ok (.ireturn, 1) := by decide +kernel
theorem dX5_tell_61 : decode cX5_tell 61 = .ok (.aload_n 0, 1) := by decide +kernel
theorem dX5_tell_62 : decode cX5_tell 62 = .ok (.getfield 21, 3) := by decide +kernel
theorem dX5_tell_65 : decode cX5_tell 65 = .ok (.getfield 76, 3) := by decide +kernel
theorem dX5_tell_68 : decode cX5_tell 68 = .ok (.ireturn, 1) := by decide +kernel
theorem dX5_tell_69 : decode cX5_tell 69 = .ok (.aload_n 0, 1) := by decide +kernel
theorem dX5_tell_70 : decode cX5_tell 70 = .ok (.getfield 28, 3) := by decide +kernel
theorem dX5_tell_73 : decode cX5_tell 73 = .ok (.invokevirtual 113, 3) := by decide +kernel
theorem dX5_tell_76 : decode cX5_tell 76 = .ok (.ireturn, 1) := by decide +kernel
theorem dX5_tell_77 : decode cX5_tell 77 = .ok (.aload_n 0, 1) := by decide +kernel
theorem dX5_tell_78 : decode cX5_tell 78 = .ok (.invokevirtual 198, 3) := by decide +kernel
theorem dX5_tell_81 : decode cX5_tell 81 = .ok (.ireturn, 1) := by decide +kernel
theorem dX5_tell_82 : decode cX5_tell 82 = .ok (.iconst (-1), 1) := by decide +kernel
theorem dX5_tell_83 : decode cX5_tell 83 = .ok (.ireturn, 1) := by decide +kernel
theorem dX5_isKind_0 : decode cX5_isKind 0 = .ok (.iload_n 0, 1) := by decide +kernel
theorem dX5_isKind_1 : decode cX5_isKind 1 = .ok (.ifCond .lt 13, 3) := by decide +kernel
theorem dX5_isKind_4 : decode cX5_isKind 4 = .ok (.iload_n 0, 1) := by decide +kernel
theorem dX5_isKind_5 : decode cX5_isKind 5 = .ok (.bipush 16, 2) := by decide +kernel
theorem dX5_isKind_7 : decode cX5_isKind 7 = .ok (.if_icmp .ge 7, 3) := by decide +kernel
theorem dX5_isKind_10 : decode cX5_isKind 10 = .ok (.iconst 1, 1) := by decide +kernel
theorem dX5_isKind_11 : decode cX5_isKind 11 = .ok (.goto 4, 3) := by decide +kernel
theorem dX5_isKind_14 : decode cX5_isKind 14 = .ok (.iconst 0, 1) := by decide +kernel
theorem dX5_isKind_15 : decode cX5_isKind 15 = .ok (.ireturn, 1) := by decide +kernel
theorem dX5_isTick_0 : decode cX5_isTick 0 = .ok (.iload_n 0, 1) := by decide +kernel
theorem dX5_isTick_1 : decode cX5_isTick 1 = .ok (.ifCond .lt 14, 3) := by decide +kernel
theorem dX5_isTick_4 : decode cX5_isTick 4 = .ok (.iload_n 0, 1) := by decide +kernel
theorem dX5_isTick_5 : decode cX5_isTick 5 = .ok (.sipush 9999, 3) := by decide +kernel
theorem dX5_isTick_8 : decode cX5_isTick 8 = .ok (.if_icmp .gt 7, 3) := by decide +kernel
theorem dX5_isTick_11 : decode cX5_isTick 11 = .ok (.iconst 1, 1) := by decide +kernel
theorem dX5_isTick_12 : decode cX5_isTick 12 = .ok (.goto 4, 3) := by decide +kernel
theorem dX5_isTick_15 : decode cX5_isTick 15 = .ok (.iconst 0, 1) := by decide +kernel
theorem dX5_isTick_16 : decode cX5_isTick 16 = .ok (.ireturn, 1) := by decide +kernel
theorem dX5_isAmong_0 : decode cX5_isAmong 0 = .ok (.iload_n 1, 1) := by decide +kernel
theorem dX5_isAmong_1 : decode cX5_isAmong 1 = .ok (.iload_n 0, 1) := by decide +kernel
theorem dX5_isAmong_2 : decode cX5_isAmong 2 = .ok (.ishr, 1) := by decide +kernel
theorem dX5_isAmong_3 : decode cX5_isAmong 3 = .ok (.iconst 1, 1) := by decide +kernel
theorem dX5_isAmong_4 : decode cX5_isAmong 4 = .ok (.iand, 1) := by decide +kernel
theorem dX5_isAmong_5 : decode cX5_isAmong 5 = .ok (.ifCond .eq 7, 3) := by decide +kernel
theorem dX5_isAmong_8 : decode cX5_isAmong 8 = .ok (.iconst 1, 1) := by decide +kernel
theorem dX5_isAmong_9 : decode cX5_isAmong 9 = .ok (.goto 4, 3) := by decide +kernel
theorem dX5_isAmong_12 : decode cX5_isAmong 12 = .ok (.iconst 0, 1) := by decide +kernel
theorem dX5_isAmong_13 : decode cX5_isAmong 13 = .ok (.ireturn, 1) := by decide +kernel
theorem dX5_isRow_0 : decode cX5_isRow 0 = .ok (.iload_n 1, 1) := by decide +kernel
theorem dX5_isRow_1 : decode cX5_isRow 1 = .ok (.ifCond .lt 15, 3) := by decide +kernel
theorem dX5_isRow_4 : decode cX5_isRow 4 = .ok (.iload_n 1, 1) := by decide +kernel
theorem dX5_isRow_5 : decode cX5_isRow 5 = .ok (.aload_n 0, 1) := by decide +kernel
theorem dX5_isRow_6 : decode cX5_isRow 6 = .ok (.getfield 43, 3) := by decide +kernel
theorem dX5_isRow_9 : decode cX5_isRow 9 = .ok (.if_icmp .ge 7, 3) := by decide +kernel
theorem dX5_isRow_12 : decode cX5_isRow 12 = .ok (.iconst 1, 1) := by decide +kernel
theorem dX5_isRow_13 : decode cX5_isRow 13 = .ok (.goto 4, 3) := by decide +kernel
theorem dX5_isRow_16 : decode cX5_isRow 16 = .ok (.iconst 0, 1) := by decide +kernel
theorem dX5_isRow_17 : decode cX5_isRow 17 = .ok (.ireturn, 1) := by decide +kernel
theorem dX5_lookAtRow_0 : decode cX5_lookAtRow 0 = .ok (.iload_n 1, 1) := by decide +kernel
theorem dX5_lookAtRow_1 : decode cX5_lookAtRow 1 = .ok (.tableswitch 50 0 2 #[27, 32, 45], 27) := by decide +kernel
theorem dX5_lookAtRow_28 : decode cX5_lookAtRow 28 = .ok (.aload_n 0, 1) := by decide +kernel
theorem dX5_lookAtRow_29 : decode cX5_lookAtRow 29 = .ok (.getfield 201, 3) := by decide +kernel
theorem dX5_lookAtRow_32 : decode cX5_lookAtRow 32 = .ok (.ireturn, 1) := by decide +kernel
theorem dX5_lookAtRow_33 : decode cX5_lookAtRow 33 = .ok (.aload_n 0, 1) := by decide +kernel
theorem dX5_lookAtRow_34 : decode cX5_lookAtRow 34 = .ok (.getfield 69, 3) := by decide +kernel
theorem dX5_lookAtRow_37 : decode cX5_lookAtRow 37 = .ok (.ifCond .eq 7, 3) := by decide +kernel
theorem dX5_lookAtRow_40 : decode cX5_lookAtRow 40 = .ok (.iconst 1, 1) := by decide +kernel
theorem dX5_lookAtRow_41 : decode cX5_lookAtRow 41 = .ok (.goto 4, 3) := by decide +kernel
theorem dX5_lookAtRow_44 : decode cX5_lookAtRow 44 = .ok (.iconst 0, 1) := by decide +kernel
theorem dX5_lookAtRow_45 : decode cX5_lookAtRow 45 = .ok (.ireturn, 1) := by decide +kernel
theorem dX5_lookAtRow_46 : decode cX5_lookAtRow 46 = .ok (.aload_n 0, 1) := by decide +kernel
theorem dX5_lookAtRow_47 : decode cX5_lookAtRow 47 = .ok (.invokevirtual 204, 3) := by decide +kernel
theorem dX5_lookAtRow_50 : decode cX5_lookAtRow 50 = .ok (.ireturn, 1) := by decide +kernel
theorem dX5_lookAtRow_51 : decode cX5_lookAtRow 51 = .ok (.iconst (-1), 1) := by decide +kernel
theorem dX5_lookAtRow_52 : decode cX5_lookAtRow 52 = .ok (.ireturn, 1) := by decide +kernel
theorem dX5_happeningsInAll_0 : decode cX5_happeningsInAll 0 = .ok (.iconst 0, 1) := by decide +kernel
theorem dX5_happeningsInAll_1 : decode cX5_happeningsInAll 1 = .ok (.istore_n 1, 1) := by decide +kernel
theorem dX5_happeningsInAll_2 : decode cX5_happeningsInAll 2 = .ok (.iconst 0, 1) := by decide +kernel
theorem dX5_happeningsInAll_3 : decode cX5_happeningsInAll 3 = .ok (.istore_n 2, 1) := by decide +kernel
theorem dX5_happeningsInAll_4 : decode cX5_happeningsInAll 4 = .ok (.iload_n 2, 1) := by decide +kernel
theorem dX5_happeningsInAll_5 : decode cX5_happeningsInAll 5 = .ok (.aload_n 0, 1) := by decide +kernel
theorem dX5_happeningsInAll_6 : decode cX5_happeningsInAll 6 = .ok (.getfield 43, 3) := by decide +kernel
theorem dX5_happeningsInAll_9 : decode cX5_happeningsInAll 9 = .ok (.if_icmp .ge 21, 3) := by decide +kernel
theorem dX5_happeningsInAll_12 : decode cX5_happeningsInAll 12 = .ok (.iload_n 1, 1) := by decide +kernel
theorem dX5_happeningsInAll_13 : decode cX5_happeningsInAll 13 = .ok (.aload_n 0, 1) := by decide +kernel
theorem dX5_happeningsInAll_14 : decode cX5_happeningsInAll 14 = .ok (.getfield 34, 3) := by decide +kernel
theorem dX5_happeningsInAll_17 : decode cX5_happeningsInAll 17 = .ok (.iload_n 2, 1) := by decide +kernel
theorem dX5_happeningsInAll_18 : decode cX5_happeningsInAll 18 = .ok (.aaload, 1) := by decide +kernel
theorem dX5_happeningsInAll_19 : decode cX5_happeningsInAll 19 = .ok (.invokevirtual 204, 3) := by decide +kernel
theorem dX5_happeningsInAll_22 : decode cX5_happeningsInAll 22 = .ok (.iadd, 1) := by decide +kernel
theorem dX5_happeningsInAll_23 : decode cX5_happeningsInAll 23 = .ok (.istore_n 1, 1) := by decide +kernel
theorem dX5_happeningsInAll_24 : decode cX5_happeningsInAll 24 = .ok (.iinc 2 1, 3) := by decide +kernel
theorem dX5_happeningsInAll_27 : decode cX5_happeningsInAll 27 = .ok (.goto (-23), 3) := by decide +kernel
theorem dX5_happeningsInAll_30 : decode cX5_happeningsInAll 30 = .ok (.iload_n 1, 1) := by decide +kernel
theorem dX5_happeningsInAll_31 : decode cX5_happeningsInAll 31 = .ok (.ireturn, 1) := by decide +kernel
theorem dX5_rowsInOf_0 : decode cX5_rowsInOf 0 = .ok (.iconst 0, 1) := by decide +kernel
theorem dX5_rowsInOf_1 : decode cX5_rowsInOf 1 = .ok (.istore_n 2, 1) := by decide +kernel
theorem dX5_rowsInOf_2 : decode cX5_rowsInOf 2 = .ok (.iconst 0, 1) := by decide +kernel
theorem dX5_rowsInOf_3 : decode cX5_rowsInOf 3 = .ok (.istore_n 3, 1) := by decide +kernel
theorem dX5_rowsInOf_4 : decode cX5_rowsInOf 4 = .ok (.iload_n 3, 1) := by decide +kernel
theorem dX5_rowsInOf_5 : decode cX5_rowsInOf 5 = .ok (.aload_n 0, 1) := by decide +kernel
theorem dX5_rowsInOf_6 : decode cX5_rowsInOf 6 = .ok (.getfield 43, 3) := by decide +kernel
theorem dX5_rowsInOf_9 : decode cX5_rowsInOf 9 = .ok (.if_icmp .ge 40, 3) := by decide +kernel
theorem dX5_rowsInOf_12 : decode cX5_rowsInOf 12 = .ok (.aload_n 0, 1) := by decide +kernel
theorem dX5_rowsInOf_13 : decode cX5_rowsInOf 13 = .ok (.getfield 34, 3) := by decide +kernel
theorem dX5_rowsInOf_16 : decode cX5_rowsInOf 16 = .ok (.iload_n 3, 1) := by decide +kernel
theorem dX5_rowsInOf_17 : decode cX5_rowsInOf 17 = .ok (.aaload, 1) := by decide +kernel
theorem dX5_rowsInOf_18 : decode cX5_rowsInOf 18 = .ok (.getfield 69, 3) := by decide +kernel
theorem dX5_rowsInOf_21 : decode cX5_rowsInOf 21 = .ok (.ifCond .eq 22, 3) := by decide +kernel
theorem dX5_rowsInOf_24 : decode cX5_rowsInOf 24 = .ok (.aload_n 0, 1) := by decide +kernel
theorem dX5_rowsInOf_25 : decode cX5_rowsInOf 25 = .ok (.getfield 34, 3) := by decide +kernel
theorem dX5_rowsInOf_28 : decode cX5_rowsInOf 28 = .ok (.iload_n 3, 1) := by decide +kernel
theorem dX5_rowsInOf_29 : decode cX5_rowsInOf 29 = .ok (.aaload, 1) := by decide +kernel
theorem dX5_rowsInOf_30 : decode cX5_rowsInOf 30 = .ok (.getfield 201, 3) := by decide +kernel
theorem dX5_rowsInOf_33 : decode cX5_rowsInOf 33 = .ok (.iload_n 1, 1) := by decide +kernel
theorem dX5_rowsInOf_34 : decode cX5_rowsInOf 34 = .ok (.if_icmp .ne 9, 3) := by decide +kernel
theorem dX5_rowsInOf_37 : decode cX5_rowsInOf 37 = .ok (.iload_n 2, 1) := by decide +kernel
theorem dX5_rowsInOf_38 : decode cX5_rowsInOf 38 = .ok (.iconst 1, 1) := by decide +kernel
theorem dX5_rowsInOf_39 : decode cX5_rowsInOf 39 = .ok (.iload_n 3, 1) := by decide +kernel
theorem dX5_rowsInOf_40 : decode cX5_rowsInOf 40 = .ok (.ishl, 1) := by decide +kernel
theorem dX5_rowsInOf_41 : decode cX5_rowsInOf 41 = .ok (.ior, 1) := by decide +kernel
theorem dX5_rowsInOf_42 : decode cX5_rowsInOf 42 = .ok (.istore_n 2, 1) := by decide +kernel
theorem dX5_rowsInOf_43 : decode cX5_rowsInOf 43 = .ok (.iinc 3 1, 3) := by decide +kernel
theorem dX5_rowsInOf_46 : decode cX5_rowsInOf 46 = .ok (.goto (-42), 3) := by decide +kernel
theorem dX5_rowsInOf_49 : decode cX5_rowsInOf 49 = .ok (.iload_n 2, 1) := by decide +kernel
theorem dX5_rowsInOf_50 : decode cX5_rowsInOf 50 = .ok (.ireturn, 1) := by decide +kernel
theorem dX5_rowsIn_0 : decode cX5_rowsIn 0 = .ok (.aload_n 0, 1) := by decide +kernel
theorem dX5_rowsIn_1 : decode cX5_rowsIn 1 = .ok (.iconst 0, 1) := by decide +kernel
theorem dX5_rowsIn_2 : decode cX5_rowsIn 2 = .ok (.invokevirtual 146, 3) := by decide +kernel
theorem dX5_rowsIn_5 : decode cX5_rowsIn 5 = .ok (.aload_n 0, 1) := by decide +kernel
theorem dX5_rowsIn_6 : decode cX5_rowsIn 6 = .ok (.iconst 1, 1) := by decide +kernel
theorem dX5_rowsIn_7 : decode cX5_rowsIn 7 = .ok (.invokevirtual 146, 3) := by decide +kernel
theorem dX5_rowsIn_10 : decode cX5_rowsIn 10 = .ok (.ior, 1) := by decide +kernel
theorem dX5_rowsIn_11 : decode cX5_rowsIn 11 = .ok (.ireturn, 1) := by decide +kernel
theorem dX5_rowsWith_0 : decode cX5_rowsWith 0 = .ok (.aload_n 0, 1) := by decide +kernel
theorem dX5_rowsWith_1 : decode cX5_rowsWith 1 = .ok (.getfield 21, 3) := by decide +kernel
theorem dX5_rowsWith_4 : decode cX5_rowsWith 4 = .ok (.iload_n 1, 1) := by decide +kernel
theorem dX5_rowsWith_5 : decode cX5_rowsWith 5 = .ok (.invokevirtual 91, 3) := by decide +kernel
theorem dX5_rowsWith_8 : decode cX5_rowsWith 8 = .ok (.iconst 0, 1) := by decide +kernel
theorem dX5_rowsWith_9 : decode cX5_rowsWith 9 = .ok (.istore_n 2, 1) := by decide +kernel
theorem dX5_rowsWith_10 : decode cX5_rowsWith 10 = .ok (.iconst 0, 1) := by decide +kernel
theorem dX5_rowsWith_11 : decode cX5_rowsWith 11 = .ok (.istore_n 3, 1) := by decide +kernel
theorem dX5_rowsWith_12 : decode cX5_rowsWith 12 = .ok (.iload_n 3, 1) := by decide +kernel
theorem dX5_rowsWith_13 : decode cX5_rowsWith 13 = .ok (.aload_n 0, 1) := by decide +kernel
theorem dX5_rowsWith_14 : decode cX5_rowsWith 14 = .ok (.getfield 43, 3) := by decide +kernel
theorem dX5_rowsWith_17 : decode cX5_rowsWith 17 = .ok (.if_icmp .ge 43, 3) := by decide +kernel
theorem dX5_rowsWith_20 : decode cX5_rowsWith 20 = .ok (.aload_n 0, 1) := by decide +kernel
theorem dX5_rowsWith_21 : decode cX5_rowsWith 21 = .ok (.getfield 34, 3) := by decide +kernel
theorem dX5_rowsWith_24 : decode cX5_rowsWith 24 = .ok (.iload_n 3, 1) := by decide +kernel
theorem dX5_rowsWith_25 : decode cX5_rowsWith 25 = .ok (.aaload, 1) := by decide +kernel
theorem dX5_rowsWith_26 : decode cX5_rowsWith 26 = .ok (.getfield 69, 3) := by decide +kernel
theorem dX5_rowsWith_29 : decode cX5_rowsWith 29 = .ok (.ifCond .eq 25, 3) := by decide +kernel
theorem dX5_rowsWith_32 : decode cX5_rowsWith 32 = .ok (.aload_n 0, 1) := by decide +kernel
theorem dX5_rowsWith_33 : decode cX5_rowsWith 33 = .ok (.getfield 21, 3) := by decide +kernel
theorem dX5_rowsWith_36 : decode cX5_rowsWith 36 = .ok (.aload_n 0, 1) := by decide +kernel
theorem dX5_rowsWith_37 : decode cX5_rowsWith 37 = .ok (.getfield 34, 3) := by decide +kernel
theorem dX5_rowsWith_40 : decode cX5_rowsWith 40 = .ok (.iload_n 3, 1) := by decide +kernel
theorem dX5_rowsWith_41 : decode cX5_rowsWith 41 = .ok (.aaload, 1) := by decide +kernel
theorem dX5_rowsWith_42 : decode cX5_rowsWith 42 = .ok (.invokevirtual 205, 3) := by decide +kernel
theorem dX5_rowsWith_45 : decode cX5_rowsWith 45 = .ok (.ifCond .eq 9, 3) := by decide +kernel
theorem dX5_rowsWith_48 : decode cX5_rowsWith 48 = .ok (.iload_n 2, 1) := by decide +kernel
theorem dX5_rowsWith_49 : decode cX5_rowsWith 49 = .ok (.iconst 1, 1) := by decide +kernel
theorem dX5_rowsWith_50 : decode cX5_rowsWith 50 = .ok (.iload_n 3, 1) := by decide +kernel
theorem dX5_rowsWith_51 : decode cX5_rowsWith 51 = .ok (.ishl, 1) := by decide +kernel
theorem dX5_rowsWith_52 : decode cX5_rowsWith 52 = .ok (.ior, 1) := by decide +kernel
theorem dX5_rowsWith_53 : decode cX5_rowsWith 53 = .ok (.istore_n 2, 1) := by decide +kernel
theorem dX5_rowsWith_54 : decode cX5_rowsWith 54 = .ok (.iinc 3 1, 3) := by decide +kernel
theorem dX5_rowsWith_57 : decode cX5_rowsWith 57 = .ok (.goto (-45), 3) := by decide +kernel
theorem dX5_rowsWith_60 : decode cX5_rowsWith 60 = .ok (.iload_n 2, 1) := by decide +kernel
theorem dX5_rowsWith_61 : decode cX5_rowsWith 61 = .ok (.ireturn, 1) := by decide +kernel
theorem dX5_countOf_0 : decode cX5_countOf 0 = .ok (.aload_n 0, 1) := by decide +kernel
theorem dX5_countOf_1 : decode cX5_countOf 1 = .ok (.iload_n 1, 1) := by decide +kernel
theorem dX5_countOf_2 : decode cX5_countOf 2 = .ok (.invokevirtual 209, 3) := by decide +kernel
theorem dX5_countOf_5 : decode cX5_countOf 5 = .ok (.invokestatic 132, 3) := by decide +kernel
theorem dX5_countOf_8 : decode cX5_countOf 8 = .ok (.ireturn, 1) := by decide +kernel
theorem dX5_rowsLacking_0 : decode cX5_rowsLacking 0 = .ok (.iload_n 1, 1) := by decide +kernel
theorem dX5_rowsLacking_1 : decode cX5_rowsLacking 1 = .ok (.invokestatic 123, 3) := by decide +kernel
theorem dX5_rowsLacking_4 : decode cX5_rowsLacking 4 = .ok (.iconst 2, 1) := by decide +kernel
theorem dX5_rowsLacking_5 : decode cX5_rowsLacking 5 = .ok (.if_icmp .ge 7, 3) := by decide +kernel
theorem dX5_rowsLacking_8 : decode cX5_rowsLacking 8 = .ok (.iconst 0, 1) := by decide +kernel
theorem dX5_rowsLacking_9 : decode cX5_rowsLacking 9 = .ok (.goto 19, 3) := by decide +kernel
theorem dX5_rowsLacking_12 : decode cX5_rowsLacking 12 = .ok (.aload_n 0, 1) := by decide +kernel
theorem dX5_rowsLacking_13 : decode cX5_rowsLacking 13 = .ok (.iload_n 1, 1) := by decide +kernel
theorem dX5_rowsLacking_14 : decode cX5_rowsLacking 14 = .ok (.invokestatic 149, 3) := by decide +kernel
theorem dX5_rowsLacking_17 : decode cX5_rowsLacking 17 = .ok (.invokevirtual 209, 3) := by decide +kernel
theorem dX5_rowsLacking_20 : decode cX5_rowsLacking 20 = .ok (.aload_n 0, 1) := by decide +kernel
theorem dX5_rowsLacking_21 : decode cX5_rowsLacking 21 = .ok (.iload_n 1, 1) := by decide +kernel
theorem dX5_rowsLacking_22 : decode cX5_rowsLacking 22 = .ok (.invokevirtual 209, 3) := by decide +kernel
theorem dX5_rowsLacking_25 : decode cX5_rowsLacking 25 = .ok (.iconst (-1), 1) := by decide +kernel
theorem dX5_rowsLacking_26 : decode cX5_rowsLacking 26 = .ok (.ixor, 1) := by decide +kernel
theorem dX5_rowsLacking_27 : decode cX5_rowsLacking 27 = .ok (.iand, 1) := by decide +kernel
theorem dX5_rowsLacking_28 : decode cX5_rowsLacking 28 = .ok (.ireturn, 1) := by decide +kernel
theorem dX5_gatherRowsBehind_0 : decode cX5_gatherRowsBehind 0 = .ok (.aload_n 0, 1) := by decide +kernel
theorem dX5_gatherRowsBehind_1 : decode cX5_gatherRowsBehind 1 = .ok (.getfield 21, 3) := by decide +kernel
theorem dX5_gatherRowsBehind_4 : decode cX5_gatherRowsBehind 4 = .ok (.iload_n 1, 1) := by decide +kernel
theorem dX5_gatherRowsBehind_5 : decode cX5_gatherRowsBehind 5 = .ok (.invokevirtual 91, 3) := by decide +kernel
theorem dX5_gatherRowsBehind_8 : decode cX5_gatherRowsBehind 8 = .ok (.iconst 0, 1) := by decide +kernel
theorem dX5_gatherRowsBehind_9 : decode cX5_gatherRowsBehind 9 = .ok (.istore_n 3, 1) := by decide +kernel
theorem dX5_gatherRowsBehind_10 : decode cX5_gatherRowsBehind 10 = .ok (.iload_n 3, 1) := by decide +kernel
theorem dX5_gatherRowsBehind_11 : decode cX5_gatherRowsBehind 11 = .ok (.bipush 16, 2) := by decide +kernel
theorem dX5_gatherRowsBehind_13 : decode cX5_gatherRowsBehind 13 = .ok (.if_icmp .ge 16, 3) := by decide +kernel
theorem dX5_gatherRowsBehind_16 : decode cX5_gatherRowsBehind 16 = .ok (.aload_n 0, 1) := by decide +kernel
theorem dX5_gatherRowsBehind_17 : decode cX5_gatherRowsBehind 17 = .ok (.getfield 39, 3) := by decide +kernel
theorem dX5_gatherRowsBehind_20 : decode cX5_gatherRowsBehind 20 = .ok (.iload_n 3, 1) := by decide +kernel
theorem dX5_gatherRowsBehind_21 : decode cX5_gatherRowsBehind 21 = .ok (.iconst 0, 1) := by decide +kernel
theorem dX5_gatherRowsBehind_22 : decode cX5_gatherRowsBehind 22 = .ok (.iastore, 1) := by decide +kernel
theorem dX5_gatherRowsBehind_23 : decode cX5_gatherRowsBehind 23 = .ok (.iinc 3 1, 3) := by decide +kernel
theorem dX5_gatherRowsBehind_26 : decode cX5_gatherRowsBehind 26 = .ok (.goto (-16), 3) := by decide +kernel
theorem dX5_gatherRowsBehind_29 : decode cX5_gatherRowsBehind 29 = .ok (.iconst 0, 1) := by decide +kernel
theorem dX5_gatherRowsBehind_30 : decode cX5_gatherRowsBehind 30 = .ok (.istore_n 3, 1) := by decide +kernel
theorem dX5_gatherRowsBehind_31 : decode cX5_gatherRowsBehind 31 = .ok (.iload_n 3, 1) := by decide +kernel
theorem dX5_gatherRowsBehind_32 : decode cX5_gatherRowsBehind 32 = .ok (.aload_n 0, 1) := by decide +kernel
theorem dX5_gatherRowsBehind_33 : decode cX5_gatherRowsBehind 33 = .ok (.getfield 43, 3) := by decide +kernel
theorem dX5_gatherRowsBehind_36 : decode cX5_gatherRowsBehind 36 = .ok (.if_icmp .ge 71, 3) := by decide +kernel
theorem dX5_gatherRowsBehind_39 : decode cX5_gatherRowsBehind 39 = .ok (.iload_n 3, 1) := by decide +kernel
theorem dX5_gatherRowsBehind_40 : decode cX5_gatherRowsBehind 40 = .ok (.iload_n 2, 1) := by decide +kernel
theorem dX5_gatherRowsBehind_41 : decode cX5_gatherRowsBehind 41 = .ok (.invokestatic 177, 3) := by decide +kernel
theorem dX5_gatherRowsBehind_44 : decode cX5_gatherRowsBehind 44 = .ok (.ifCond .eq 19, 3) := by decide +kernel
theorem dX5_gatherRowsBehind_47 : decode cX5_gatherRowsBehind 47 = .ok (.aload_n 0, 1) := by decide +kernel
theorem dX5_gatherRowsBehind_48 : decode cX5_gatherRowsBehind 48 = .ok (.getfield 21, 3) := by decide +kernel
theorem dX5_gatherRowsBehind_51 : decode cX5_gatherRowsBehind 51 = .ok (.aload_n 0, 1) := by decide +kernel
theorem dX5_gatherRowsBehind_52 : decode cX5_gatherRowsBehind 52 = .ok (.getfield 34, 3) := by decide +kernel
theorem dX5_gatherRowsBehind_55 : decode cX5_gatherRowsBehind 55 = .ok (.iload_n 3, 1) := by decide +kernel
theorem dX5_gatherRowsBehind_56 : decode cX5_gatherRowsBehind 56 = .ok (.aaload, 1) := by decide +kernel
theorem dX5_gatherRowsBehind_57 : decode cX5_gatherRowsBehind 57 = .ok (.invokevirtual 212, 3) := by decide +kernel
theorem dX5_gatherRowsBehind_60 : decode cX5_gatherRowsBehind 60 = .ok (.goto 4, 3) := by decide +kernel
theorem dX5_gatherRowsBehind_63 : decode cX5_gatherRowsBehind 63 = .ok (.iconst 0, 1) := by decide +kernel
theorem dX5_gatherRowsBehind_64 : decode cX5_gatherRowsBehind 64 = .ok (.istore 4, 2) := by decide +kernel
theorem dX5_gatherRowsBehind_66 : decode cX5_gatherRowsBehind 66 = .ok (.iconst 0, 1) := by decide +kernel
theorem dX5_gatherRowsBehind_67 : decode cX5_gatherRowsBehind 67 = .ok (.istore 5, 2) := by decide +kernel
theorem dX5_gatherRowsBehind_69 : decode cX5_gatherRowsBehind 69 = .ok (.iload 5, 2) := by decide +kernel
theorem dX5_gatherRowsBehind_71 : decode cX5_gatherRowsBehind 71 = .ok (.bipush 16, 2) := by decide +kernel
theorem dX5_gatherRowsBehind_73 : decode cX5_gatherRowsBehind 73 = .ok (.if_icmp .ge 28, 3) := by decide +kernel
theorem dX5_gatherRowsBehind_76 : decode cX5_gatherRowsBehind 76 = .ok (.aload_n 0, 1) := by decide +kernel
theorem dX5_gatherRowsBehind_77 : decode cX5_gatherRowsBehind 77 = .ok (.getfield 39, 3) := by decide +kernel
theorem dX5_gatherRowsBehind_80 : decode cX5_gatherRowsBehind 80 = .ok (.iload 5, 2) := by decide +kernel
theorem dX5_gatherRowsBehind_82 : decode cX5_gatherRowsBehind 82 = .ok (.dup2, 1) := by decide +kernel
theorem dX5_gatherRowsBehind_83 : decode cX5_gatherRowsBehind 83 = .ok (.iaload, 1) := by decide +kernel
theorem dX5_gatherRowsBehind_84 : decode cX5_gatherRowsBehind 84 = .ok (.iload 4, 2) := by decide +kernel
theorem dX5_gatherRowsBehind_86 : decode cX5_gatherRowsBehind 86 = .ok (.iload 5, 2) := by decide +kernel
theorem dX5_gatherRowsBehind_88 : decode cX5_gatherRowsBehind 88 = .ok (.ishr, 1) := by decide +kernel
theorem dX5_gatherRowsBehind_89 : decode cX5_gatherRowsBehind 89 = .ok (.iconst 1, 1) := by decide +kernel
theorem dX5_gatherRowsBehind_90 : decode cX5_gatherRowsBehind 90 = .ok (.iand, 1) := by decide +kernel
theorem dX5_gatherRowsBehind_91 : decode cX5_gatherRowsBehind 91 = .ok (.iload_n 3, 1) := by decide +kernel
theorem dX5_gatherRowsBehind_92 : decode cX5_gatherRowsBehind 92 = .ok (.ishl, 1) := by decide +kernel
theorem dX5_gatherRowsBehind_93 : decode cX5_gatherRowsBehind 93 = .ok (.ior, 1) := by decide +kernel
theorem dX5_gatherRowsBehind_94 : decode cX5_gatherRowsBehind 94 = .ok (.iastore, 1) := by decide +kernel
theorem dX5_gatherRowsBehind_95 : decode cX5_gatherRowsBehind 95 = .ok (.iinc 5 1, 3) := by decide +kernel
theorem dX5_gatherRowsBehind_98 : decode cX5_gatherRowsBehind 98 = .ok (.goto (-29), 3) := by decide +kernel
theorem dX5_gatherRowsBehind_101 : decode cX5_gatherRowsBehind 101 = .ok (.iinc 3 1, 3) := by decide +kernel
theorem dX5_gatherRowsBehind_104 : decode cX5_gatherRowsBehind 104 = .ok (.goto (-73), 3) := by decide +kernel
theorem dX5_gatherRowsBehind_107 : decode cX5_gatherRowsBehind 107 = .ok (.return_, 1) := by decide +kernel
theorem dX5_findLonger_0 : decode cX5_findLonger 0 = .ok (.aload_n 0, 1) := by decide +kernel
theorem dX5_findLonger_1 : decode cX5_findLonger 1 = .ok (.iload_n 1, 1) := by decide +kernel

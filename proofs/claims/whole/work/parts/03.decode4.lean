theorem dX6_next_12 : decode cX6_next 12 = .ok (.iconst 1, 1) := by decide +kernel
theorem dX6_next_13 : decode cX6_next 13 = .ok (.isub, 1) := by decide +kernel
theorem dX6_next_14 : decode cX6_next 14 = .ok (.istore_n 3, 1) := by decide +kernel
theorem dX6_next_15 : decode cX6_next 15 = .ok (.aload_n 0, 1) := by decide +kernel
theorem dX6_next_16 : decode cX6_next 16 = .ok (.getfield 57, 3) := by decide +kernel
theorem dX6_next_19 : decode cX6_next 19 = .ok (.iconst 0, 1) := by decide +kernel
theorem dX6_next_20 : decode cX6_next 20 = .ok (.iload_n 2, 1) := by decide +kernel
theorem dX6_next_21 : decode cX6_next 21 = .ok (.ifCond .eq 7, 3) := by decide +kernel
theorem dX6_next_24 : decode cX6_next 24 = .ok (.iconst (-1), 1) := by decide +kernel
theorem dX6_next_25 : decode cX6_next 25 = .ok (.goto 9, 3) := by decide +kernel
theorem dX6_next_28 : decode cX6_next 28 = .ok (.aload_n 0, 1) := by decide +kernel
theorem dX6_next_29 : decode cX6_next 29 = .ok (.getfield 57, 3) := by decide +kernel
theorem dX6_next_32 : decode cX6_next 32 = .ok (.iconst 0, 1) := by decide +kernel
theorem dX6_next_33 : decode cX6_next 33 = .ok (.iaload, 1) := by decide +kernel
theorem dX6_next_34 : decode cX6_next 34 = .ok (.iastore, 1) := by decide +kernel
theorem dX6_next_35 : decode cX6_next 35 = .ok (.iload_n 3, 1) := by decide +kernel
theorem dX6_next_36 : decode cX6_next 36 = .ok (.ifCond .lt 130, 3) := by decide +kernel
theorem dX6_next_39 : decode cX6_next 39 = .ok (.aload_n 0, 1) := by decide +kernel
theorem dX6_next_40 : decode cX6_next 40 = .ok (.getfield 57, 3) := by decide +kernel
theorem dX6_next_43 : decode cX6_next 43 = .ok (.iload_n 3, 1) := by decide +kernel
theorem dX6_next_44 : decode cX6_next 44 = .ok (.dup2, 1) := by decide +kernel
theorem dX6_next_45 : decode cX6_next 45 = .ok (.iaload, 1) := by decide +kernel
theorem dX6_next_46 : decode cX6_next 46 = .ok (.iconst 1, 1) := by decide +kernel
theorem dX6_next_47 : decode cX6_next 47 = .ok (.iadd, 1) := by decide +kernel
theorem dX6_next_48 : decode cX6_next 48 = .ok (.iastore, 1) := by decide +kernel
theorem dX6_next_49 : decode cX6_next 49 = .ok (.aload_n 0, 1) := by decide +kernel
theorem dX6_next_50 : decode cX6_next 50 = .ok (.getfield 57, 3) := by decide +kernel
theorem dX6_next_53 : decode cX6_next 53 = .ok (.iload_n 3, 1) := by decide +kernel
theorem dX6_next_54 : decode cX6_next 54 = .ok (.iaload, 1) := by decide +kernel
theorem dX6_next_55 : decode cX6_next 55 = .ok (.aload_n 0, 1) := by decide +kernel
theorem dX6_next_56 : decode cX6_next 56 = .ok (.getfield 27, 3) := by decide +kernel
theorem dX6_next_59 : decode cX6_next 59 = .ok (.iload_n 1, 1) := by decide +kernel
theorem dX6_next_60 : decode cX6_next 60 = .ok (.iaload, 1) := by decide +kernel
theorem dX6_next_61 : decode cX6_next 61 = .ok (.if_icmp .lt 9, 3) := by decide +kernel
theorem dX6_next_64 : decode cX6_next 64 = .ok (.iinc 3 (-1), 3) := by decide +kernel
theorem dX6_next_67 : decode cX6_next 67 = .ok (.goto (-32), 3) := by decide +kernel
theorem dX6_next_70 : decode cX6_next 70 = .ok (.aload_n 0, 1) := by decide +kernel
theorem dX6_next_71 : decode cX6_next 71 = .ok (.iload_n 1, 1) := by decide +kernel
theorem dX6_next_72 : decode cX6_next 72 = .ok (.aload_n 0, 1) := by decide +kernel
theorem dX6_next_73 : decode cX6_next 73 = .ok (.getfield 57, 3) := by decide +kernel
theorem dX6_next_76 : decode cX6_next 76 = .ok (.iload_n 3, 1) := by decide +kernel
theorem dX6_next_77 : decode cX6_next 77 = .ok (.iaload, 1) := by decide +kernel
theorem dX6_next_78 : decode cX6_next 78 = .ok (.iload_n 3, 1) := by decide +kernel
theorem dX6_next_79 : decode cX6_next 79 = .ok (.invokevirtual 112, 3) := by decide +kernel
theorem dX6_next_82 : decode cX6_next 82 = .ok (.ifCond .eq (-47), 3) := by decide +kernel
theorem dX6_next_85 : decode cX6_next 85 = .ok (.iload_n 3, 1) := by decide +kernel
theorem dX6_next_86 : decode cX6_next 86 = .ok (.ifCond .le 48, 3) := by decide +kernel
theorem dX6_next_89 : decode cX6_next 89 = .ok (.aload_n 0, 1) := by decide +kernel
theorem dX6_next_90 : decode cX6_next 90 = .ok (.iload_n 1, 1) := by decide +kernel
theorem dX6_next_91 : decode cX6_next 91 = .ok (.aload_n 0, 1) := by decide +kernel
theorem dX6_next_92 : decode cX6_next 92 = .ok (.getfield 57, 3) := by decide +kernel
theorem dX6_next_95 : decode cX6_next 95 = .ok (.iload_n 3, 1) := by decide +kernel
theorem dX6_next_96 : decode cX6_next 96 = .ok (.iconst 1, 1) := by decide +kernel
theorem dX6_next_97 : decode cX6_next 97 = .ok (.isub, 1) := by decide +kernel
theorem dX6_next_98 : decode cX6_next 98 = .ok (.iaload, 1) := by decide +kernel
theorem dX6_next_99 : decode cX6_next 99 = .ok (.aload_n 0, 1) := by decide +kernel
theorem dX6_next_100 : decode cX6_next 100 = .ok (.getfield 57, 3) := by decide +kernel
theorem dX6_next_103 : decode cX6_next 103 = .ok (.iload_n 3, 1) := by decide +kernel
theorem dX6_next_104 : decode cX6_next 104 = .ok (.iaload, 1) := by decide +kernel
theorem dX6_next_105 : decode cX6_next 105 = .ok (.invokevirtual 84, 3) := by decide +kernel
theorem dX6_next_108 : decode cX6_next 108 = .ok (.ifCond .eq (-73), 3) := by decide +kernel
theorem dX6_next_111 : decode cX6_next 111 = .ok (.aload_n 0, 1) := by decide +kernel
theorem dX6_next_112 : decode cX6_next 112 = .ok (.iload_n 1, 1) := by decide +kernel
theorem dX6_next_113 : decode cX6_next 113 = .ok (.aload_n 0, 1) := by decide +kernel
theorem dX6_next_114 : decode cX6_next 114 = .ok (.getfield 57, 3) := by decide +kernel
theorem dX6_next_117 : decode cX6_next 117 = .ok (.iconst 0, 1) := by decide +kernel
theorem dX6_next_118 : decode cX6_next 118 = .ok (.iaload, 1) := by decide +kernel
theorem dX6_next_119 : decode cX6_next 119 = .ok (.aload_n 0, 1) := by decide +kernel
theorem dX6_next_120 : decode cX6_next 120 = .ok (.getfield 57, 3) := by decide +kernel
theorem dX6_next_123 : decode cX6_next 123 = .ok (.iload_n 3, 1) := by decide +kernel
theorem dX6_next_124 : decode cX6_next 124 = .ok (.iaload, 1) := by decide +kernel
theorem dX6_next_125 : decode cX6_next 125 = .ok (.invokevirtual 87, 3) := by decide +kernel
theorem dX6_next_128 : decode cX6_next 128 = .ok (.ifCond .ne 6, 3) := by decide +kernel
theorem dX6_next_131 : decode cX6_next 131 = .ok (.goto (-96), 3) := by decide +kernel
theorem dX6_next_134 : decode cX6_next 134 = .ok (.iload_n 3, 1) := by decide +kernel
theorem dX6_next_135 : decode cX6_next 135 = .ok (.aload_n 0, 1) := by decide +kernel
theorem dX6_next_136 : decode cX6_next 136 = .ok (.getfield 81, 3) := by decide +kernel
theorem dX6_next_139 : decode cX6_next 139 = .ok (.iconst 1, 1) := by decide +kernel
theorem dX6_next_140 : decode cX6_next 140 = .ok (.isub, 1) := by decide +kernel
theorem dX6_next_141 : decode cX6_next 141 = .ok (.if_icmp .ne 5, 3) := by decide +kernel
theorem dX6_next_144 : decode cX6_next 144 = .ok (.iconst 1, 1) := by decide +kernel
theorem dX6_next_145 : decode cX6_next 145 = .ok (.ireturn, 1) := by decide +kernel
theorem dX6_next_146 : decode cX6_next 146 = .ok (.aload_n 0, 1) := by decide +kernel
theorem dX6_next_147 : decode cX6_next 147 = .ok (.getfield 57, 3) := by decide +kernel
theorem dX6_next_150 : decode cX6_next 150 = .ok (.iload_n 3, 1) := by decide +kernel
theorem dX6_next_151 : decode cX6_next 151 = .ok (.iconst 1, 1) := by decide +kernel
theorem dX6_next_152 : decode cX6_next 152 = .ok (.iadd, 1) := by decide +kernel
theorem dX6_next_153 : decode cX6_next 153 = .ok (.aload_n 0, 1) := by decide +kernel
theorem dX6_next_154 : decode cX6_next 154 = .ok (.getfield 57, 3) := by decide +kernel
theorem dX6_next_157 : decode cX6_next 157 = .ok (.iload_n 3, 1) := by decide +kernel
theorem dX6_next_158 : decode cX6_next 158 = .ok (.iaload, 1) := by decide +kernel
theorem dX6_next_159 : decode cX6_next 159 = .ok (.iastore, 1) := by decide +kernel
theorem dX6_next_160 : decode cX6_next 160 = .ok (.iinc 3 1, 3) := by decide +kernel
theorem dX6_next_163 : decode cX6_next 163 = .ok (.goto (-128), 3) := by decide +kernel
theorem dX6_next_166 : decode cX6_next 166 = .ok (.iconst 0, 1) := by decide +kernel
theorem dX6_next_167 : decode cX6_next 167 = .ok (.ireturn, 1) := by decide +kernel
theorem dX6_matches_0 : decode cX6_matches 0 = .ok (.aload_n 0, 1) := by decide +kernel
theorem dX6_matches_1 : decode cX6_matches 1 = .ok (.iload_n 1, 1) := by decide +kernel
theorem dX6_matches_2 : decode cX6_matches 2 = .ok (.invokevirtual 75, 3) := by decide +kernel
theorem dX6_matches_5 : decode cX6_matches 5 = .ok (.ifCond .eq 16, 3) := by decide +kernel
theorem dX6_matches_8 : decode cX6_matches 8 = .ok (.aload_n 0, 1) := by decide +kernel
theorem dX6_matches_9 : decode cX6_matches 9 = .ok (.iload_n 2, 1) := by decide +kernel
theorem dX6_matches_10 : decode cX6_matches 10 = .ok (.iload_n 3, 1) := by decide +kernel
theorem dX6_matches_11 : decode cX6_matches 11 = .ok (.iload 4, 2) := by decide +kernel
theorem dX6_matches_13 : decode cX6_matches 13 = .ok (.iload 5, 2) := by decide +kernel
theorem dX6_matches_15 : decode cX6_matches 15 = .ok (.invokevirtual 101, 3) := by decide +kernel
theorem dX6_matches_18 : decode cX6_matches 18 = .ok (.ifCond .ne 7, 3) := by decide +kernel
theorem dX6_matches_21 : decode cX6_matches 21 = .ok (.ldc2_w 115, 3) := by decide +kernel
theorem dX6_matches_24 : decode cX6_matches 24 = .ok (.lreturn, 1) := by decide +kernel
theorem dX6_matches_25 : decode cX6_matches 25 = .ok (.lconst 0, 1) := by decide +kernel
theorem dX6_matches_26 : decode cX6_matches 26 = .ok (.lstore 6, 2) := by decide +kernel
theorem dX6_matches_28 : decode cX6_matches 28 = .ok (.aload_n 0, 1) := by decide +kernel
theorem dX6_matches_29 : decode cX6_matches 29 = .ok (.iload_n 1, 1) := by decide +kernel
theorem dX6_matches_30 : decode cX6_matches 30 = .ok (.iconst 1, 1) := by decide +kernel
theorem dX6_matches_31 : decode cX6_matches 31 = .ok (.invokevirtual 117, 3) := by decide +kernel
theorem dX6_matches_34 : decode cX6_matches 34 = .ok (.istore 8, 2) := by decide +kernel
theorem dX6_matches_36 : decode cX6_matches 36 = .ok (.iload 8, 2) := by decide +kernel
theorem dX6_matches_38 : decode cX6_matches 38 = .ok (.ifCond .eq 20, 3) := by decide +kernel
theorem dX6_matches_41 : decode cX6_matches 41 = .ok (.lload 6, 2) := by decide +kernel
theorem dX6_matches_43 : decode cX6_matches 43 = .ok (.lconst 1, 1) := by decide +kernel
theorem dX6_matches_44 : decode cX6_matches 44 = .ok (.ladd, 1) := by decide +kernel
theorem dX6_matches_45 : decode cX6_matches 45 = .ok (.lstore 6, 2) := by decide +kernel
theorem dX6_matches_47 : decode cX6_matches 47 = .ok (.aload_n 0, 1) := by decide +kernel
theorem dX6_matches_48 : decode cX6_matches 48 = .ok (.iload_n 1, 1) := by decide +kernel
theorem dX6_matches_49 : decode cX6_matches 49 = .ok (.iconst 0, 1) := by decide +kernel
theorem dX6_matches_50 : decode cX6_matches 50 = .ok (.invokevirtual 117, 3) := by decide +kernel
theorem dX6_matches_53 : decode cX6_matches 53 = .ok (.istore 8, 2) := by decide +kernel
theorem dX6_matches_55 : decode cX6_matches 55 = .ok (.goto (-19), 3) := by decide +kernel
theorem dX6_matches_58 : decode cX6_matches 58 = .ok (.lload 6, 2) := by decide +kernel
theorem dX6_matches_60 : decode cX6_matches 60 = .ok (.lreturn, 1) := by decide +kernel
theorem dX6_match_0 : decode cX6_match 0 = .ok (.aload_n 0, 1) := by decide +kernel
theorem dX6_match_1 : decode cX6_match 1 = .ok (.iload_n 1, 1) := by decide +kernel
theorem dX6_match_2 : decode cX6_match 2 = .ok (.invokevirtual 75, 3) := by decide +kernel
theorem dX6_match_5 : decode cX6_match 5 = .ok (.ifCond .eq 40, 3) := by decide +kernel
theorem dX6_match_8 : decode cX6_match 8 = .ok (.aload_n 0, 1) := by decide +kernel
theorem dX6_match_9 : decode cX6_match 9 = .ok (.iload_n 2, 1) := by decide +kernel
theorem dX6_match_10 : decode cX6_match 10 = .ok (.iload_n 3, 1) := by decide +kernel
theorem dX6_match_11 : decode cX6_match 11 = .ok (.iload 4, 2) := by decide +kernel
theorem dX6_match_13 : decode cX6_match 13 = .ok (.iload 5, 2) := by decide +kernel
theorem dX6_match_15 : decode cX6_match 15 = .ok (.invokevirtual 101, 3) := by decide +kernel
theorem dX6_match_18 : decode cX6_match 18 = .ok (.ifCond .eq 27, 3) := by decide +kernel
theorem dX6_match_21 : decode cX6_match 21 = .ok (.iload 6, 2) := by decide +kernel
theorem dX6_match_23 : decode cX6_match 23 = .ok (.iconst 0, 1) := by decide +kernel
theorem dX6_match_24 : decode cX6_match 24 = .ok (.aload_n 0, 1) := by decide +kernel
theorem dX6_match_25 : decode cX6_match 25 = .ok (.getfield 81, 3) := by decide +kernel
theorem dX6_match_28 : decode cX6_match 28 = .ok (.iconst 1, 1) := by decide +kernel
theorem dX6_match_29 : decode cX6_match 29 = .ok (.isub, 1) := by decide +kernel
theorem dX6_match_30 : decode cX6_match 30 = .ok (.invokestatic 60, 3) := by decide +kernel
theorem dX6_match_33 : decode cX6_match 33 = .ok (.ifCond .eq 12, 3) := by decide +kernel
theorem dX6_match_36 : decode cX6_match 36 = .ok (.aload_n 0, 1) := by decide +kernel
theorem dX6_match_37 : decode cX6_match 37 = .ok (.iload_n 1, 1) := by decide +kernel
theorem dX6_match_38 : decode cX6_match 38 = .ok (.iconst 1, 1) := by decide +kernel
theorem dX6_match_39 : decode cX6_match 39 = .ok (.invokevirtual 117, 3) := by decide +kernel
theorem dX6_match_42 : decode cX6_match 42 = .ok (.ifCond .ne 5, 3) := by decide +kernel
theorem dX6_match_45 : decode cX6_match 45 = .ok (.iconst (-1), 1) := by decide +kernel
theorem dX6_match_46 : decode cX6_match 46 = .ok (.ireturn, 1) := by decide +kernel
theorem dX6_match_47 : decode cX6_match 47 = .ok (.aload_n 0, 1) := by decide +kernel
theorem dX6_match_48 : decode cX6_match 48 = .ok (.getfield 57, 3) := by decide +kernel
theorem dX6_match_51 : decode cX6_match 51 = .ok (.iload 6, 2) := by decide +kernel
theorem dX6_match_53 : decode cX6_match 53 = .ok (.iaload, 1) := by decide +kernel
theorem dX6_match_54 : decode cX6_match 54 = .ok (.ireturn, 1) := by decide +kernel
theorem dX6_isThere_0 : decode cX6_isThere 0 = .ok (.iconst 0, 1) := by decide +kernel
theorem dX6_isThere_1 : decode cX6_isThere 1 = .ok (.istore_n 2, 1) := by decide +kernel
theorem dX6_isThere_2 : decode cX6_isThere 2 = .ok (.iload_n 2, 1) := by decide +kernel
theorem dX6_isThere_3 : decode cX6_isThere 3 = .ok (.aload_n 0, 1) := by decide +kernel
theorem dX6_isThere_4 : decode cX6_isThere 4 = .ok (.getfield 64, 3) := by decide +kernel
theorem dX6_isThere_7 : decode cX6_isThere 7 = .ok (.if_icmp .ge 34, 3) := by decide +kernel
theorem dX6_isThere_10 : decode cX6_isThere 10 = .ok (.aload_n 0, 1) := by decide +kernel
theorem dX6_isThere_11 : decode cX6_isThere 11 = .ok (.getfield 23, 3) := by decide +kernel
theorem dX6_isThere_14 : decode cX6_isThere 14 = .ok (.iload_n 2, 1) := by decide +kernel
theorem dX6_isThere_15 : decode cX6_isThere 15 = .ok (.baload, 1) := by decide +kernel
theorem dX6_isThere_16 : decode cX6_isThere 16 = .ok (.ifCond .ne 19, 3) := by decide +kernel
theorem dX6_isThere_19 : decode cX6_isThere 19 = .ok (.aload_n 0, 1) := by decide +kernel
theorem dX6_isThere_20 : decode cX6_isThere 20 = .ok (.getfield 48, 3) := by decide +kernel
theorem dX6_isThere_23 : decode cX6_isThere 23 = .ok (.bipush 16, 2) := by decide +kernel
theorem dX6_isThere_25 : decode cX6_isThere 25 = .ok (.iload_n 2, 1) := by decide +kernel
theorem dX6_isThere_26 : decode cX6_isThere 26 = .ok (.imul, 1) := by decide +kernel
theorem dX6_isThere_27 : decode cX6_isThere 27 = .ok (.iload_n 1, 1) := by decide +kernel
theorem dX6_isThere_28 : decode cX6_isThere 28 = .ok (.iadd, 1) := by decide +kernel
theorem dX6_isThere_29 : decode cX6_isThere 29 = .ok (.iaload, 1) := by decide +kernel
theorem dX6_isThere_30 : decode cX6_isThere 30 = .ok (.ifCond .eq 5, 3) := by decide +kernel
theorem dX6_isThere_33 : decode cX6_isThere 33 = .ok (.iconst 1, 1) := by decide +kernel
theorem dX6_isThere_34 : decode cX6_isThere 34 = .ok (.ireturn, 1) := by decide +kernel
theorem dX6_isThere_35 : decode cX6_isThere 35 = .ok (.iinc 2 1, 3) := by decide +kernel
theorem dX6_isThere_38 : decode cX6_isThere 38 = .ok (.goto (-36), 3) := by decide +kernel
theorem dX6_isThere_41 : decode cX6_isThere 41 = .ok (.iconst 0, 1) := by decide +kernel
theorem dX6_isThere_42 : decode cX6_isThere 42 = .ok (.ireturn, 1) := by decide +kernel
theorem dX6_keeps_0 : decode cX6_keeps 0 = .ok (.iconst 0, 1) := by decide +kernel
theorem dX6_keeps_1 : decode cX6_keeps 1 = .ok (.istore_n 3, 1) := by decide +kernel
theorem dX6_keeps_2 : decode cX6_keeps 2 = .ok (.iload_n 3, 1) := by decide +kernel
theorem dX6_keeps_3 : decode cX6_keeps 3 = .ok (.iconst 4, 1) := by decide +kernel
theorem dX6_keeps_4 : decode cX6_keeps 4 = .ok (.if_icmp .ge 37, 3) := by decide +kernel
theorem dX6_keeps_7 : decode cX6_keeps 7 = .ok (.aload_n 0, 1) := by decide +kernel
theorem dX6_keeps_8 : decode cX6_keeps 8 = .ok (.getfield 36, 3) := by decide +kernel
theorem dX6_keeps_11 : decode cX6_keeps 11 = .ok (.iconst 4, 1) := by decide +kernel
theorem dX6_keeps_12 : decode cX6_keeps 12 = .ok (.aload_n 0, 1) := by decide +kernel
theorem dX6_keeps_13 : decode cX6_keeps 13 = .ok (.getfield 121, 3) := by decide +kernel
theorem dX6_keeps_16 : decode cX6_keeps 16 = .ok (.imul, 1) := by decide +kernel
theorem dX6_keeps_17 : decode cX6_keeps 17 = .ok (.iload_n 3, 1) := by decide +kernel
theorem dX6_keeps_18 : decode cX6_keeps 18 = .ok (.iadd, 1) := by decide +kernel
theorem dX6_keeps_19 : decode cX6_keeps 19 = .ok (.iload_n 3, 1) := by decide +kernel
theorem dX6_keeps_20 : decode cX6_keeps 20 = .ok (.iload_n 1, 1) := by decide +kernel
theorem dX6_keeps_21 : decode cX6_keeps 21 = .ok (.if_icmp .ge 12, 3) := by decide +kernel
theorem dX6_keeps_24 : decode cX6_keeps 24 = .ok (.aload_n 0, 1) := by decide +kernel
theorem dX6_keeps_25 : decode cX6_keeps 25 = .ok (.getfield 45, 3) := by decide +kernel
theorem dX6_keeps_28 : decode cX6_keeps 28 = .ok (.iload_n 3, 1) := by decide +kernel
theorem dX6_keeps_29 : decode cX6_keeps 29 = .ok (.iaload, 1) := by decide +kernel
theorem dX6_keeps_30 : decode cX6_keeps 30 = .ok (.goto 4, 3) := by decide +kernel
theorem dX6_keeps_33 : decode cX6_keeps 33 = .ok (.iconst (-1), 1) := by decide +kernel
theorem dX6_keeps_34 : decode cX6_keeps 34 = .ok (.iastore, 1) := by decide +kernel
theorem dX6_keeps_35 : decode cX6_keeps 35 = .ok (.iinc 3 1, 3) := by decide +kernel
theorem dX6_keeps_38 : decode cX6_keeps 38 = .ok (.goto (-36), 3) := by decide +kernel
theorem dX6_keeps_41 : decode cX6_keeps 41 = .ok (.aload_n 0, 1) := by decide +kernel
theorem dX6_keeps_42 : decode cX6_keeps 42 = .ok (.getfield 39, 3) := by decide +kernel
theorem dX6_keeps_45 : decode cX6_keeps 45 = .ok (.aload_n 0, 1) := by decide +kernel
theorem dX6_keeps_46 : decode cX6_keeps 46 = .ok (.getfield 121, 3) := by decide +kernel
theorem dX6_keeps_49 : decode cX6_keeps 49 = .ok (.iload_n 2, 1) := by decide +kernel
theorem dX6_keeps_50 : decode cX6_keeps 50 = .ok (.iastore, 1) := by decide +kernel
theorem dX6_keeps_51 : decode cX6_keeps 51 = .ok (.aload_n 0, 1) := by decide +kernel
theorem dX6_keeps_52 : decode cX6_keeps 52 = .ok (.getfield 42, 3) := by decide +kernel
theorem dX6_keeps_55 : decode cX6_keeps 55 = .ok (.aload_n 0, 1) := by decide +kernel
theorem dX6_keeps_56 : decode cX6_keeps 56 = .ok (.getfield 121, 3) := by decide +kernel
theorem dX6_keeps_59 : decode cX6_keeps 59 = .ok (.iload_n 1, 1) := by decide +kernel
theorem dX6_keeps_60 : decode cX6_keeps 60 = .ok (.iastore, 1) := by decide +kernel
theorem dX6_keeps_61 : decode cX6_keeps 61 = .ok (.aload_n 0, 1) := by decide +kernel
theorem dX6_keeps_62 : decode cX6_keeps 62 = .ok (.dup, 1) := by decide +kernel
theorem dX6_keeps_63 : decode cX6_keeps 63 = .ok (.getfield 121, 3) := by decide +kernel
theorem dX6_keeps_66 : decode cX6_keeps 66 = .ok (.iconst 1, 1) := by decide +kernel
theorem dX6_keeps_67 : decode cX6_keeps 67 = .ok (.iadd, 1) := by decide +kernel
theorem dX6_keeps_68 : decode cX6_keeps 68 = .ok (.putfield 121, 3) := by decide +kernel
theorem dX6_keeps_71 : decode cX6_keeps 71 = .ok (.return_, 1) := by decide +kernel
theorem dX6_find_0 : decode cX6_find 0 = .ok (.iload_n 1, 1) := by decide +kernel
theorem dX6_find_1 : decode cX6_find 1 = .ok (.iconst 1, 1) := by decide +kernel
theorem dX6_find_2 : decode cX6_find 2 = .ok (.bipush 24, 2) := by decide +kernel
theorem dX6_find_4 : decode cX6_find 4 = .ok (.invokestatic 60, 3) := by decide +kernel
theorem dX6_find_7 : decode cX6_find 7 = .ok (.ifCond .eq 12, 3) := by decide +kernel
theorem dX6_find_10 : decode cX6_find 10 = .ok (.iload_n 2, 1) := by decide +kernel
theorem dX6_find_11 : decode cX6_find 11 = .ok (.iconst 1, 1) := by decide +kernel
theorem dX6_find_12 : decode cX6_find 12 = .ok (.iconst 4, 1) := by decide +kernel
theorem dX6_find_13 : decode cX6_find 13 = .ok (.invokestatic 60, 3) := by decide +kernel
theorem dX6_find_16 : decode cX6_find 16 = .ok (.ifCond .ne 5, 3) := by decide +kernel
theorem dX6_find_19 : decode cX6_find 19 = .ok (.iconst (-1), 1) := by decide +kernel
theorem dX6_find_20 : decode cX6_find 20 = .ok (.ireturn, 1) := by decide +kernel
theorem dX6_find_21 : decode cX6_find 21 = .ok (.aload_n 0, 1) := by decide +kernel
theorem dX6_find_22 : decode cX6_find 22 = .ok (.invokevirtual 105, 3) := by decide +kernel
theorem dX6_find_25 : decode cX6_find 25 = .ok (.aload_n 0, 1) := by decide +kernel
theorem dX6_find_26 : decode cX6_find 26 = .ok (.iconst 0, 1) := by decide +kernel
theorem dX6_find_27 : decode cX6_find 27 = .ok (.putfield 121, 3) := by decide +kernel
theorem dX6_find_30 : decode cX6_find 30 = .ok (.iconst 0, 1) := by decide +kernel
theorem dX6_find_31 : decode cX6_find 31 = .ok (.istore_n 3, 1) := by decide +kernel
theorem dX6_find_32 : decode cX6_find 32 = .ok (.iconst 1, 1) := by decide +kernel
theorem dX6_find_33 : decode cX6_find 33 = .ok (.istore 4, 2) := by decide +kernel
theorem dX6_find_35 : decode cX6_find 35 = .ok (.iconst 1, 1) := by decide +kernel
theorem dX6_find_36 : decode cX6_find 36 = .ok (.istore 5, 2) := by decide +kernel
theorem dX6_find_38 : decode cX6_find 38 = .ok (.iload 5, 2) := by decide +kernel
theorem dX6_find_40 : decode cX6_find 40 = .ok (.iload_n 2, 1) := by decide +kernel
theorem dX6_find_41 : decode cX6_find 41 = .ok (.if_icmp .gt 158, 3) := by decide +kernel
theorem dX6_find_44 : decode cX6_find 44 = .ok (.aload_n 0, 1) := by decide +kernel
theorem dX6_find_45 : decode cX6_find 45 = .ok (.getfield 121, 3) := by decide +kernel
theorem dX6_find_48 : decode cX6_find 48 = .ok (.istore 6, 2) := by decide +kernel
theorem dX6_find_50 : decode cX6_find 50 = .ok (.iload_n 3, 1) := by decide +kernel
theorem dX6_find_51 : decode cX6_find 51 = .ok (.istore 7, 2) := by decide +kernel
theorem dX6_find_53 : decode cX6_find 53 = .ok (.iload 7, 2) := by decide +kernel
theorem dX6_find_55 : decode cX6_find 55 = .ok (.iload 4, 2) := by decide +kernel
theorem dX6_find_57 : decode cX6_find 57 = .ok (.if_icmp .ge 127, 3) := by decide +kernel
theorem dX6_find_60 : decode cX6_find 60 = .ok (.aload_n 0, 1) := by decide +kernel
theorem dX6_find_61 : decode cX6_find 61 = .ok (.getfield 121, 3) := by decide +kernel
theorem dX6_find_64 : decode cX6_find 64 = .ok (.sipush 2000, 3) := by decide +kernel
theorem dX6_find_67 : decode cX6_find 67 = .ok (.if_icmp .ge 117, 3) := by decide +kernel
theorem dX6_find_70 : decode cX6_find 70 = .ok (.iconst 0, 1) := by decide +kernel
theorem dX6_find_71 : decode cX6_find 71 = .ok (.istore 8, 2) := by decide +kernel
theorem dX6_find_73 : decode cX6_find 73 = .ok (.iload 8, 2) := by decide +kernel
theorem dX6_find_75 : decode cX6_find 75 = .ok (.iload 5, 2) := by decide +kernel
theorem dX6_find_77 : decode cX6_find 77 = .ok (.iconst 1, 1) := by decide +kernel
theorem dX6_find_78 : decode cX6_find 78 = .ok (.isub, 1) := by decide +kernel
theorem dX6_find_79 : decode cX6_find 79 = .ok (.if_icmp .ge 28, 3) := by decide +kernel
theorem dX6_find_82 : decode cX6_find 82 = .ok (.aload_n 0, 1) := by decide +kernel
theorem dX6_find_83 : decode cX6_find 83 = .ok (.getfield 45, 3) := by decide +kernel
theorem dX6_find_86 : decode cX6_find 86 = .ok (.iload 8, 2) := by decide +kernel
theorem dX6_find_88 : decode cX6_find 88 = .ok (.aload_n 0, 1) := by decide +kernel
theorem dX6_find_89 : decode cX6_find 89 = .ok (.getfield 36, 3) := by decide +kernel
theorem dX6_find_92 : decode cX6_find 92 = .ok (.iconst 4, 1) := by decide +kernel
theorem dX6_find_93 : decode cX6_find 93 = .ok (.iload 7, 2) := by decide +kernel
theorem dX6_find_95 : decode cX6_find 95 = .ok (.imul, 1) := by decide +kernel
theorem dX6_find_96 : decode cX6_find 96 = .ok (.iload 8, 2) := by decide +kernel
theorem dX6_find_98 : decode cX6_find 98 = .ok (.iadd, 1) := by decide +kernel
theorem dX6_find_99 : decode cX6_find 99 = .ok (.iaload, 1) := by decide +kernel
theorem dX6_find_100 : decode cX6_find 100 = .ok (.iastore, 1) := by decide +kernel
theorem dX6_find_101 : decode cX6_find 101 = .ok (.iinc 8 1, 3) := by decide +kernel
theorem dX6_find_104 : decode cX6_find 104 = .ok (.goto (-31), 3) := by decide +kernel
theorem dX6_find_107 : decode cX6_find 107 = .ok (.iconst 0, 1) := by decide +kernel
theorem dX6_find_108 : decode cX6_find 108 = .ok (.istore 8, 2) := by decide +kernel
theorem dX6_find_110 : decode cX6_find 110 = .ok (.iload 8, 2) := by decide +kernel
theorem dX6_find_112 : decode cX6_find 112 = .ok (.bipush 16, 2) := by decide +kernel
theorem dX6_find_114 : decode cX6_find 114 = .ok (.if_icmp .ge 64, 3) := by decide +kernel
theorem dX6_find_117 : decode cX6_find 117 = .ok (.aload_n 0, 1) := by decide +kernel
theorem dX6_find_118 : decode cX6_find 118 = .ok (.getfield 121, 3) := by decide +kernel
theorem dX6_find_121 : decode cX6_find 121 = .ok (.sipush 2000, 3) := by decide +kernel
theorem dX6_find_124 : decode cX6_find 124 = .ok (.if_icmp .ge 54, 3) := by decide +kernel
theorem dX6_find_127 : decode cX6_find 127 = .ok (.aload_n 0, 1) := by decide +kernel
theorem dX6_find_128 : decode cX6_find 128 = .ok (.iload 8, 2) := by decide +kernel
theorem dX6_find_130 : decode cX6_find 130 = .ok (.invokevirtual 124, 3) := by decide +kernel
theorem dX6_find_133 : decode cX6_find 133 = .ok (.ifCond .ne 6, 3) := by decide +kernel
theorem dX6_find_136 : decode cX6_find 136 = .ok (.goto 36, 3) := by decide +kernel
theorem dX6_find_139 : decode cX6_find 139 = .ok (.aload_n 0, 1) := by decide +kernel
theorem dX6_find_140 : decode cX6_find 140 = .ok (.getfield 45, 3) := by decide +kernel
theorem dX6_find_143 : decode cX6_find 143 = .ok (.iload 5, 2) := by decide +kernel
theorem dX6_find_145 : decode cX6_find 145 = .ok (.iconst 1, 1) := by decide +kernel
theorem dX6_find_146 : decode cX6_find 146 = .ok (.isub, 1) := by decide +kernel
theorem dX6_find_147 : decode cX6_find 147 = .ok (.iload 8, 2) := by decide +kernel
theorem dX6_find_149 : decode cX6_find 149 = .ok (.iastore, 1) := by decide +kernel
theorem dX6_find_150 : decode cX6_find 150 = .ok (.aload_n 0, 1) := by decide +kernel
theorem dX6_find_151 : decode cX6_find 151 = .ok (.iload 5, 2) := by decide +kernel
theorem dX6_find_153 : decode cX6_find 153 = .ok (.invokevirtual 108, 3) := by decide +kernel
theorem dX6_find_156 : decode cX6_find 156 = .ok (.istore 9, 2) := by decide +kernel
theorem dX6_find_158 : decode cX6_find 158 = .ok (.iload 9, 2) := by decide +kernel
theorem dX6_find_160 : decode cX6_find 160 = .ok (.iload_n 1, 1) := by decide +kernel
theorem dX6_find_161 : decode cX6_find 161 = .ok (.if_icmp .lt 11, 3) := by decide +kernel
theorem dX6_find_164 : decode cX6_find 164 = .ok (.aload_n 0, 1) := by decide +kernel
theorem dX6_find_165 : decode cX6_find 165 = .ok (.iload 5, 2) := by decide +kernel
theorem dX6_find_167 : decode cX6_find 167 = .ok (.iload 9, 2) := by decide +kernel
theorem dX6_find_169 : decode cX6_find 169 = .ok (.invokevirtual 127, 3) := by decide +kernel
theorem dX6_find_172 : decode cX6_find 172 = .ok (.iinc 8 1, 3) := by decide +kernel
theorem dX6_find_175 : decode cX6_find 175 = .ok (.goto (-65), 3) := by decide +kernel
theorem dX6_find_178 : decode cX6_find 178 = .ok (.iinc 7 1, 3) := by decide +kernel
theorem dX6_find_181 : decode cX6_find 181 = .ok (.goto (-128), 3) := by decide +kernel
theorem dX6_find_184 : decode cX6_find 184 = .ok (.iload 6, 2) := by decide +kernel
theorem dX6_find_186 : decode cX6_find 186 = .ok (.istore_n 3, 1) := by decide +kernel
theorem dX6_find_187 : decode cX6_find 187 = .ok (.aload_n 0, 1) := by decide +kernel
theorem dX6_find_188 : decode cX6_find 188 = .ok (.getfield 121, 3) := by decide +kernel
theorem dX6_find_191 : decode cX6_find 191 = .ok (.istore 4, 2) := by decide +kernel
theorem dX6_find_193 : decode cX6_find 193 = .ok (.iinc 5 1, 3) := by decide +kernel
theorem dX6_find_196 : decode cX6_find 196 = .ok (.goto (-158), 3) := by decide +kernel
theorem dX6_find_199 : decode cX6_find 199 = .ok (.aload_n 0, 1) := by decide +kernel
theorem dX6_find_200 : decode cX6_find 200 = .ok (.getfield 121, 3) := by decide +kernel
theorem dX6_find_203 : decode cX6_find 203 = .ok (.ireturn, 1) := by decide +kernel
theorem dX6_found_0 : decode cX6_found 0 = .ok (.iload_n 1, 1) := by decide +kernel
theorem dX6_found_1 : decode cX6_found 1 = .ok (.iconst 0, 1) := by decide +kernel
theorem dX6_found_2 : decode cX6_found 2 = .ok (.aload_n 0, 1) := by decide +kernel
theorem dX6_found_3 : decode cX6_found 3 = .ok (.getfield 121, 3) := by decide +kernel
theorem dX6_found_6 : decode cX6_found 6 = .ok (.iconst 1, 1) := by decide +kernel
theorem dX6_found_7 : decode cX6_found 7 = .ok (.isub, 1) := by decide +kernel
theorem dX6_found_8 : decode cX6_found 8 = .ok (.invokestatic 60, 3) := by decide +kernel
theorem dX6_found_11 : decode cX6_found 11 = .ok (.ifCond .ne 5, 3) := by decide +kernel
theorem dX6_found_14 : decode cX6_found 14 = .ok (.iconst (-1), 1) := by decide +kernel
theorem dX6_found_15 : decode cX6_found 15 = .ok (.ireturn, 1) := by decide +kernel
theorem dX6_found_16 : decode cX6_found 16 = .ok (.iload_n 2, 1) := by decide +kernel
theorem dX6_found_17 : decode cX6_found 17 = .ok (.iconst 0, 1) := by decide +kernel
theorem dX6_found_18 : decode cX6_found 18 = .ok (.iconst 3, 1) := by decide +kernel
theorem dX6_found_19 : decode cX6_found 19 = .ok (.invokestatic 60, 3) := by decide +kernel
theorem dX6_found_22 : decode cX6_found 22 = .ok (.ifCond .eq 16, 3) := by decide +kernel
theorem dX6_found_25 : decode cX6_found 25 = .ok (.aload_n 0, 1) := by decide +kernel
theorem dX6_found_26 : decode cX6_found 26 = .ok (.getfield 36, 3) := by decide +kernel
theorem dX6_found_29 : decode cX6_found 29 = .ok (.iconst 4, 1) := by decide +kernel
theorem dX6_found_30 : decode cX6_found 30 = .ok (.iload_n 1, 1) := by decide +kernel
theorem dX6_found_31 : decode cX6_found 31 = .ok (.imul, 1) := by decide +kernel
theorem dX6_found_32 : decode cX6_found 32 = .ok (.iload_n 2, 1) := by decide +kernel
theorem dX6_found_33 : decode cX6_found 33 = .ok (.iadd, 1) := by decide +kernel
theorem dX6_found_34 : decode cX6_found 34 = .ok (.iaload, 1) := by decide +kernel
theorem dX6_found_35 : decode cX6_found 35 = .ok (.goto 32, 3) := by decide +kernel
theorem dX6_found_38 : decode cX6_found 38 = .ok (.iload_n 2, 1) := by decide +kernel
theorem dX6_found_39 : decode cX6_found 39 = .ok (.iconst 4, 1) := by decide +kernel
theorem dX6_found_40 : decode cX6_found 40 = .ok (.if_icmp .ne 12, 3) := by decide +kernel
theorem dX6_found_43 : decode cX6_found 43 = .ok (.aload_n 0, 1) := by decide +kernel
theorem dX6_found_44 : decode cX6_found 44 = .ok (.getfield 39, 3) := by decide +kernel
theorem dX6_found_47 : decode cX6_found 47 = .ok (.iload_n 1, 1) := by decide +kernel
theorem dX6_found_48 : decode cX6_found 48 = .ok (.iaload, 1) := by decide +kernel
theorem dX6_found_49 : decode cX6_found 49 = .ok (.goto 18, 3) := by decide +kernel
theorem dX6_found_52 : decode cX6_found 52 = .ok (.iload_n 2, 1) := by decide +kernel
theorem dX6_found_53 : decode cX6_found 53 = .ok (.iconst 5, 1) := by decide +kernel
theorem dX6_found_54 : decode cX6_found 54 = .ok (.if_icmp .ne 12, 3) := by decide +kernel
theorem dX6_found_57 : decode cX6_found 57 = .ok (.aload_n 0, 1) := by decide +kernel
theorem dX6_found_58 : decode cX6_found 58 = .ok (.getfield 42, 3) := by decide +kernel
theorem dX6_found_61 : decode cX6_found 61 = .ok (.iload_n 1, 1) := by decide +kernel
theorem dX6_found_62 : decode cX6_found 62 = .ok (.iaload, 1) := by decide +kernel
theorem dX6_found_63 : decode cX6_found 63 = .ok (.goto 4, 3) := by decide +kernel
theorem dX6_found_66 : decode cX6_found 66 = .ok (.iconst (-1), 1) := by decide +kernel
theorem dX6_found_67 : decode cX6_found 67 = .ok (.ireturn, 1) := by decide +kernel
theorem dX6_takesFound_0 : decode cX6_takesFound 0 = .ok (.aload_n 0, 1) := by decide +kernel
theorem dX6_takesFound_1 : decode cX6_takesFound 1 = .ok (.aload_n 0, 1) := by decide +kernel
theorem dX6_takesFound_2 : decode cX6_takesFound 2 = .ok (.getfield 36, 3) := by decide +kernel
theorem dX6_takesFound_5 : decode cX6_takesFound 5 = .ok (.iconst 4, 1) := by decide +kernel
theorem dX6_takesFound_6 : decode cX6_takesFound 6 = .ok (.iload_n 1, 1) := by decide +kernel
theorem dX6_takesFound_7 : decode cX6_takesFound 7 = .ok (.imul, 1) := by decide +kernel
theorem dX6_takesFound_8 : decode cX6_takesFound 8 = .ok (.iaload, 1) := by decide +kernel
theorem dX6_takesFound_9 : decode cX6_takesFound 9 = .ok (.aload_n 0, 1) := by decide +kernel
theorem dX6_takesFound_10 : decode cX6_takesFound 10 = .ok (.getfield 36, 3) := by decide +kernel
theorem dX6_takesFound_13 : decode cX6_takesFound 13 = .ok (.iconst 4, 1) := by decide +kernel
theorem dX6_takesFound_14 : decode cX6_takesFound 14 = .ok (.iload_n 1, 1) := by decide +kernel
theorem dX6_takesFound_15 : decode cX6_takesFound 15 = .ok (.imul, 1) := by decide +kernel
theorem dX6_takesFound_16 : decode cX6_takesFound 16 = .ok (.iconst 1, 1) := by decide +kernel
theorem dX6_takesFound_17 : decode cX6_takesFound 17 = .ok (.iadd, 1) := by decide +kernel
theorem dX6_takesFound_18 : decode cX6_takesFound 18 = .ok (.iaload, 1) := by decide +kernel
theorem dX6_takesFound_19 : decode cX6_takesFound 19 = .ok (.aload_n 0, 1) := by decide +kernel
theorem dX6_takesFound_20 : decode cX6_takesFound 20 = .ok (.getfield 36, 3) := by decide +kernel
theorem dX6_takesFound_23 : decode cX6_takesFound 23 = .ok (.iconst 4, 1) := by decide +kernel
theorem dX6_takesFound_24 : decode cX6_takesFound 24 = .ok (.iload_n 1, 1) := by decide +kernel
theorem dX6_takesFound_25 : decode cX6_takesFound 25 = .ok (.imul, 1) := by decide +kernel
theorem dX6_takesFound_26 : decode cX6_takesFound 26 = .ok (.iconst 2, 1) := by decide +kernel
theorem dX6_takesFound_27 : decode cX6_takesFound 27 = .ok (.iadd, 1) := by decide +kernel
theorem dX6_takesFound_28 : decode cX6_takesFound 28 = .ok (.iaload, 1) := by decide +kernel
theorem dX6_takesFound_29 : decode cX6_takesFound 29 = .ok (.aload_n 0, 1) := by decide +kernel
theorem dX6_takesFound_30 : decode cX6_takesFound 30 = .ok (.getfield 36, 3) := by decide +kernel
theorem dX6_takesFound_33 : decode cX6_takesFound 33 = .ok (.iconst 4, 1) := by decide +kernel
theorem dX6_takesFound_34 : decode cX6_takesFound 34 = .ok (.iload_n 1, 1) := by decide +kernel
theorem dX6_takesFound_35 : decode cX6_takesFound 35 = .ok (.imul, 1) := by decide +kernel
theorem dX6_takesFound_36 : decode cX6_takesFound 36 = .ok (.iconst 3, 1) := by decide +kernel
theorem dX6_takesFound_37 : decode cX6_takesFound 37 = .ok (.iadd, 1) := by decide +kernel
theorem dX6_takesFound_38 : decode cX6_takesFound 38 = .ok (.iaload, 1) := by decide +kernel
theorem dX6_takesFound_39 : decode cX6_takesFound 39 = .ok (.invokevirtual 101, 3) := by decide +kernel
theorem dX6_takesFound_42 : decode cX6_takesFound 42 = .ok (.ireturn, 1) := by decide +kernel
theorem dX6_closed_0 : decode cX6_closed 0 = .ok (.iload_n 1, 1) := by decide +kernel
theorem dX6_closed_1 : decode cX6_closed 1 = .ok (.iconst 0, 1) := by decide +kernel
theorem dX6_closed_2 : decode cX6_closed 2 = .ok (.aload_n 0, 1) := by decide +kernel
theorem dX6_closed_3 : decode cX6_closed 3 = .ok (.getfield 121, 3) := by decide +kernel
theorem dX6_closed_6 : decode cX6_closed 6 = .ok (.iconst 1, 1) := by decide +kernel
theorem dX6_closed_7 : decode cX6_closed 7 = .ok (.isub, 1) := by decide +kernel
theorem dX6_closed_8 : decode cX6_closed 8 = .ok (.invokestatic 60, 3) := by decide +kernel
theorem dX6_closed_11 : decode cX6_closed 11 = .ok (.ifCond .ne 5, 3) := by decide +kernel
theorem dX6_closed_14 : decode cX6_closed 14 = .ok (.iconst (-1), 1) := by decide +kernel
theorem dX6_closed_15 : decode cX6_closed 15 = .ok (.ireturn, 1) := by decide +kernel
theorem dX6_closed_16 : decode cX6_closed 16 = .ok (.aload_n 0, 1) := by decide +kernel
theorem dX6_closed_17 : decode cX6_closed 17 = .ok (.invokevirtual 105, 3) := by decide +kernel
theorem dX6_closed_20 : decode cX6_closed 20 = .ok (.aload_n 0, 1) := by decide +kernel
theorem dX6_closed_21 : decode cX6_closed 21 = .ok (.iload_n 1, 1) := by decide +kernel
theorem dX6_closed_22 : decode cX6_closed 22 = .ok (.invokevirtual 131, 3) := by decide +kernel
theorem dX6_closed_25 : decode cX6_closed 25 = .ok (.istore_n 2, 1) := by decide +kernel
theorem dX6_closed_26 : decode cX6_closed 26 = .ok (.aload_n 0, 1) := by decide +kernel
theorem dX6_closed_27 : decode cX6_closed 27 = .ok (.getfield 81, 3) := by decide +kernel
theorem dX6_closed_30 : decode cX6_closed 30 = .ok (.istore_n 3, 1) := by decide +kernel
theorem dX6_closed_31 : decode cX6_closed 31 = .ok (.aload_n 0, 1) := by decide +kernel
theorem dX6_closed_32 : decode cX6_closed 32 = .ok (.iload_n 3, 1) := by decide +kernel
theorem dX6_closed_33 : decode cX6_closed 33 = .ok (.invokevirtual 108, 3) := by decide +kernel
theorem dX6_closed_36 : decode cX6_closed 36 = .ok (.istore 4, 2) := by decide +kernel
theorem dX6_closed_38 : decode cX6_closed 38 = .ok (.iconst 0, 1) := by decide +kernel
theorem dX6_closed_39 : decode cX6_closed 39 = .ok (.istore 5, 2) := by decide +kernel
theorem dX6_closed_41 : decode cX6_closed 41 = .ok (.iload 5, 2) := by decide +kernel
theorem dX6_closed_43 : decode cX6_closed 43 = .ok (.iload_n 3, 1) := by decide +kernel
theorem dX6_closed_44 : decode cX6_closed 44 = .ok (.if_icmp .gt 103, 3) := by decide +kernel
theorem dX6_closed_47 : decode cX6_closed 47 = .ok (.iload_n 3, 1) := by decide +kernel
theorem dX6_closed_48 : decode cX6_closed 48 = .ok (.iconst 4, 1) := by decide +kernel
theorem dX6_closed_49 : decode cX6_closed 49 = .ok (.if_icmp .ge 98, 3) := by decide +kernel
theorem dX6_closed_52 : decode cX6_closed 52 = .ok (.iconst 0, 1) := by decide +kernel
theorem dX6_closed_53 : decode cX6_closed 53 = .ok (.istore 6, 2) := by decide +kernel
theorem dX6_closed_55 : decode cX6_closed 55 = .ok (.iload 6, 2) := by decide +kernel
theorem dX6_closed_57 : decode cX6_closed 57 = .ok (.bipush 16, 2) := by decide +kernel
theorem dX6_closed_59 : decode cX6_closed 59 = .ok (.if_icmp .ge 82, 3) := by decide +kernel
theorem dX6_closed_62 : decode cX6_closed 62 = .ok (.iconst 0, 1) := by decide +kernel
theorem dX6_closed_63 : decode cX6_closed 63 = .ok (.istore 7, 2) := by decide +kernel
theorem dX6_closed_65 : decode cX6_closed 65 = .ok (.iload 7, 2) := by decide +kernel
theorem dX6_closed_67 : decode cX6_closed 67 = .ok (.iload_n 3, 1) := by decide +kernel
theorem dX6_closed_68 : decode cX6_closed 68 = .ok (.if_icmp .gt 53, 3) := by decide +kernel
theorem dX6_closed_71 : decode cX6_closed 71 = .ok (.aload_n 0, 1) := by decide +kernel
theorem dX6_closed_72 : decode cX6_closed 72 = .ok (.getfield 45, 3) := by decide +kernel
theorem dX6_closed_75 : decode cX6_closed 75 = .ok (.iload 7, 2) := by decide +kernel
theorem dX6_closed_77 : decode cX6_closed 77 = .ok (.iload 7, 2) := by decide +kernel
theorem dX6_closed_79 : decode cX6_closed 79 = .ok (.iload 5, 2) := by decide +kernel
theorem dX6_closed_81 : decode cX6_closed 81 = .ok (.if_icmp .ne 8, 3) := by decide +kernel
theorem dX6_closed_84 : decode cX6_closed 84 = .ok (.iload 6, 2) := by decide +kernel
theorem dX6_closed_86 : decode cX6_closed 86 = .ok (.goto 28, 3) := by decide +kernel
theorem dX6_closed_89 : decode cX6_closed 89 = .ok (.aload_n 0, 1) := by decide +kernel
theorem dX6_closed_90 : decode cX6_closed 90 = .ok (.getfield 36, 3) := by decide +kernel
theorem dX6_closed_93 : decode cX6_closed 93 = .ok (.iconst 4, 1) := by decide +kernel
theorem dX6_closed_94 : decode cX6_closed 94 = .ok (.iload_n 1, 1) := by decide +kernel
theorem dX6_closed_95 : decode cX6_closed 95 = .ok (.imul, 1) := by decide +kernel
theorem dX6_closed_96 : decode cX6_closed 96 = .ok (.iload 7, 2) := by decide +kernel
theorem dX6_closed_98 : decode cX6_closed 98 = .ok (.iload 5, 2) := by decide +kernel
theorem dX6_closed_100 : decode cX6_closed 100 = .ok (.if_icmp .ge 8, 3) := by decide +kernel
theorem dX6_closed_103 : decode cX6_closed 103 = .ok (.iload 7, 2) := by decide +kernel
theorem dX6_closed_105 : decode cX6_closed 105 = .ok (.goto 7, 3) := by decide +kernel
theorem dX6_closed_108 : decode cX6_closed 108 = .ok (.iload 7, 2) := by decide +kernel
theorem dX6_closed_110 : decode cX6_closed 110 = .ok (.iconst 1, 1) := by decide +kernel
theorem dX6_closed_111 : decode cX6_closed 111 = .ok (.isub, 1) := by decide +kernel
theorem dX6_closed_112 : decode cX6_closed 112 = .ok (.iadd, 1) := by decide +kernel
theorem dX6_closed_113 : decode cX6_closed 113 = .ok (.iaload, 1) := by decide +kernel
theorem dX6_closed_114 : decode cX6_closed 114 = .ok (.iastore, 1) := by decide +kernel
theorem dX6_closed_115 : decode cX6_closed 115 = .ok (.iinc 7 1, 3) := by decide +kernel
theorem dX6_closed_118 : decode cX6_closed 118 = .ok (.goto (-53), 3) := by decide +kernel
theorem dX6_closed_121 : decode cX6_closed 121 = .ok (.aload_n 0, 1) := by decide +kernel
theorem dX6_closed_122 : decode cX6_closed 122 = .ok (.iload_n 3, 1) := by decide +kernel
theorem dX6_closed_123 : decode cX6_closed 123 = .ok (.iconst 1, 1) := by decide +kernel
theorem dX6_closed_124 : decode cX6_closed 124 = .ok (.iadd, 1) := by decide +kernel
theorem dX6_closed_125 : decode cX6_closed 125 = .ok (.invokevirtual 108, 3) := by decide +kernel
theorem dX6_closed_128 : decode cX6_closed 128 = .ok (.iload 4, 2) := by decide +kernel
theorem dX6_closed_130 : decode cX6_closed 130 = .ok (.if_icmp .ne 5, 3) := by decide +kernel
theorem dX6_closed_133 : decode cX6_closed 133 = .ok (.iconst 0, 1) := by decide +kernel
theorem dX6_closed_134 : decode cX6_closed 134 = .ok (.ireturn, 1) := by decide +kernel
theorem dX6_closed_135 : decode cX6_closed 135 = .ok (.iinc 6 1, 3) := by decide +kernel
theorem dX6_closed_138 : decode cX6_closed 138 = .ok (.goto (-83), 3) := by decide +kernel
theorem dX6_closed_141 : decode cX6_closed 141 = .ok (.iinc 5 1, 3) := by decide +kernel
theorem dX6_closed_144 : decode cX6_closed 144 = .ok (.goto (-103), 3) := by decide +kernel
theorem dX6_closed_147 : decode cX6_closed 147 = .ok (.iconst 0, 1) := by decide +kernel
theorem dX6_closed_148 : decode cX6_closed 148 = .ok (.istore 5, 2) := by decide +kernel
theorem dX6_closed_150 : decode cX6_closed 150 = .ok (.iload 5, 2) := by decide +kernel
theorem dX6_closed_152 : decode cX6_closed 152 = .ok (.iload_n 3, 1) := by decide +kernel
theorem dX6_closed_153 : decode cX6_closed 153 = .ok (.if_icmp .ge 106, 3) := by decide +kernel
theorem dX6_closed_156 : decode cX6_closed 156 = .ok (.iconst 0, 1) := by decide +kernel
theorem dX6_closed_157 : decode cX6_closed 157 = .ok (.istore 6, 2) := by decide +kernel
theorem dX6_closed_159 : decode cX6_closed 159 = .ok (.iload 6, 2) := by decide +kernel
theorem dX6_closed_161 : decode cX6_closed 161 = .ok (.bipush 16, 2) := by decide +kernel
theorem dX6_closed_163 : decode cX6_closed 163 = .ok (.if_icmp .ge 90, 3) := by decide +kernel
theorem dX6_closed_166 : decode cX6_closed 166 = .ok (.aload_n 0, 1) := by decide +kernel
theorem dX6_closed_167 : decode cX6_closed 167 = .ok (.getfield 16, 3) := by decide +kernel
theorem dX6_closed_170 : decode cX6_closed 170 = .ok (.iload 6, 2) := by decide +kernel
theorem dX6_closed_172 : decode cX6_closed 172 = .ok (.iaload, 1) := by decide +kernel
theorem dX6_closed_173 : decode cX6_closed 173 = .ok (.aload_n 0, 1) := by decide +kernel
theorem dX6_closed_174 : decode cX6_closed 174 = .ok (.getfield 36, 3) := by decide +kernel
theorem dX6_closed_177 : decode cX6_closed 177 = .ok (.iconst 4, 1) := by decide +kernel
theorem dX6_closed_178 : decode cX6_closed 178 = .ok (.iload_n 1, 1) := by decide +kernel
theorem dX6_closed_179 : decode cX6_closed 179 = .ok (.imul, 1) := by decide +kernel
theorem dX6_closed_180 : decode cX6_closed 180 = .ok (.iload 5, 2) := by decide +kernel
theorem dX6_closed_182 : decode cX6_closed 182 = .ok (.iadd, 1) := by decide +kernel
theorem dX6_closed_183 : decode cX6_closed 183 = .ok (.iaload, 1) := by decide +kernel
theorem dX6_closed_184 : decode cX6_closed 184 = .ok (.if_icmp .eq 6, 3) := by decide +kernel
theorem dX6_closed_187 : decode cX6_closed 187 = .ok (.goto 60, 3) := by decide +kernel
theorem dX6_closed_190 : decode cX6_closed 190 = .ok (.iconst 0, 1) := by decide +kernel
theorem dX6_closed_191 : decode cX6_closed 191 = .ok (.istore 7, 2) := by decide +kernel
theorem dX6_closed_193 : decode cX6_closed 193 = .ok (.iload 7, 2) := by decide +kernel
theorem dX6_closed_195 : decode cX6_closed 195 = .ok (.iload_n 3, 1) := by decide +kernel
theorem dX6_closed_196 : decode cX6_closed 196 = .ok (.if_icmp .ge 39, 3) := by decide +kernel
theorem dX6_closed_199 : decode cX6_closed 199 = .ok (.aload_n 0, 1) := by decide +kernel
theorem dX6_closed_200 : decode cX6_closed 200 = .ok (.getfield 45, 3) := by decide +kernel
theorem dX6_closed_203 : decode cX6_closed 203 = .ok (.iload 7, 2) := by decide +kernel
theorem dX6_closed_205 : decode cX6_closed 205 = .ok (.iload 7, 2) := by decide +kernel
theorem dX6_closed_207 : decode cX6_closed 207 = .ok (.iload 5, 2) := by decide +kernel
theorem dX6_closed_209 : decode cX6_closed 209 = .ok (.if_icmp .ne 8, 3) := by decide +kernel
theorem dX6_closed_212 : decode cX6_closed 212 = .ok (.iload 6, 2) := by decide +kernel
theorem dX6_closed_214 : decode cX6_closed 214 = .ok (.goto 14, 3) := by decide +kernel
theorem dX6_closed_217 : decode cX6_closed 217 = .ok (.aload_n 0, 1) := by decide +kernel
theorem dX6_closed_218 : decode cX6_closed 218 = .ok (.getfield 36, 3) := by decide +kernel
theorem dX6_closed_221 : decode cX6_closed 221 = .ok (.iconst 4, 1) := by decide +kernel
theorem dX6_closed_222 : decode cX6_closed 222 = .ok (.iload_n 1, 1) := by decide +kernel
theorem dX6_closed_223 : decode cX6_closed 223 = .ok (.imul, 1) := by decide +kernel
theorem dX6_closed_224 : decode cX6_closed 224 = .ok (.iload 7, 2) := by decide +kernel
theorem dX6_closed_226 : decode cX6_closed 226 = .ok (.iadd, 1) := by decide +kernel
theorem dX6_closed_227 : decode cX6_closed 227 = .ok (.iaload, 1) := by decide +kernel
theorem dX6_closed_228 : decode cX6_closed 228 = .ok (.iastore, 1) := by decide +kernel
theorem dX6_closed_229 : decode cX6_closed 229 = .ok (.iinc 7 1, 3) := by decide +kernel
theorem dX6_closed_232 : decode cX6_closed 232 = .ok (.goto (-39), 3) := by decide +kernel
theorem dX6_closed_235 : decode cX6_closed 235 = .ok (.aload_n 0, 1) := by decide +kernel
theorem dX6_closed_236 : decode cX6_closed 236 = .ok (.iload_n 3, 1) := by decide +kernel
theorem dX6_closed_237 : decode cX6_closed 237 = .ok (.invokevirtual 108, 3) := by decide +kernel
theorem dX6_closed_240 : decode cX6_closed 240 = .ok (.iload 4, 2) := by decide +kernel
theorem dX6_closed_242 : decode cX6_closed 242 = .ok (.if_icmp .ne 5, 3) := by decide +kernel
theorem dX6_closed_245 : decode cX6_closed 245 = .ok (.iconst 0, 1) := by decide +kernel
theorem dX6_closed_246 : decode cX6_closed 246 = .ok (.ireturn, 1) := by decide +kernel
theorem dX6_closed_247 : decode cX6_closed 247 = .ok (.iinc 6 1, 3) := by decide +kernel
theorem dX6_closed_250 : decode cX6_closed 250 = .ok (.goto (-91), 3) := by decide +kernel
theorem dX6_closed_253 : decode cX6_closed 253 = .ok (.iinc 5 1, 3) := by decide +kernel
theorem dX6_closed_256 : decode cX6_closed 256 = .ok (.goto (-106), 3) := by decide +kernel
theorem dX6_closed_259 : decode cX6_closed 259 = .ok (.iconst 1, 1) := by decide +kernel
theorem dX6_closed_260 : decode cX6_closed 260 = .ok (.ireturn, 1) := by decide +kernel
theorem dX6_inHeap_0 : decode cX6_inHeap 0 = .ok (.iconst 0, 1) := by decide +kernel
theorem dX6_inHeap_1 : decode cX6_inHeap 1 = .ok (.istore_n 3, 1) := by decide +kernel
theorem dX6_inHeap_2 : decode cX6_inHeap 2 = .ok (.iconst 0, 1) := by decide +kernel
theorem dX6_inHeap_3 : decode cX6_inHeap 3 = .ok (.istore 4, 2) := by decide +kernel
theorem dX6_inHeap_5 : decode cX6_inHeap 5 = .ok (.iload 4, 2) := by decide +kernel
theorem dX6_inHeap_7 : decode cX6_inHeap 7 = .ok (.aload_n 0, 1) := by decide +kernel
theorem dX6_inHeap_8 : decode cX6_inHeap 8 = .ok (.getfield 64, 3) := by decide +kernel
theorem dX6_inHeap_11 : decode cX6_inHeap 11 = .ok (.if_icmp .ge 55, 3) := by decide +kernel
theorem dX6_inHeap_14 : decode cX6_inHeap 14 = .ok (.iload_n 3, 1) := by decide +kernel
theorem dX6_inHeap_15 : decode cX6_inHeap 15 = .ok (.aload_n 0, 1) := by decide +kernel
theorem dX6_inHeap_16 : decode cX6_inHeap 16 = .ok (.getfield 23, 3) := by decide +kernel
theorem dX6_inHeap_19 : decode cX6_inHeap 19 = .ok (.iload 4, 2) := by decide +kernel
theorem dX6_inHeap_21 : decode cX6_inHeap 21 = .ok (.baload, 1) := by decide +kernel
theorem dX6_inHeap_22 : decode cX6_inHeap 22 = .ok (.ifCond .ne 35, 3) := by decide +kernel
theorem dX6_inHeap_25 : decode cX6_inHeap 25 = .ok (.aload_n 0, 1) := by decide +kernel
theorem dX6_inHeap_26 : decode cX6_inHeap 26 = .ok (.getfield 20, 3) := by decide +kernel
theorem dX6_inHeap_29 : decode cX6_inHeap 29 = .ok (.iload 4, 2) := by decide +kernel
theorem dX6_inHeap_31 : decode cX6_inHeap 31 = .ok (.iaload, 1) := by decide +kernel
theorem dX6_inHeap_32 : decode cX6_inHeap 32 = .ok (.iload_n 1, 1) := by decide +kernel
theorem dX6_inHeap_33 : decode cX6_inHeap 33 = .ok (.if_icmp .ne 24, 3) := by decide +kernel
theorem dX6_inHeap_36 : decode cX6_inHeap 36 = .ok (.iload_n 2, 1) := by decide +kernel
theorem dX6_inHeap_37 : decode cX6_inHeap 37 = .ok (.ifCond .ne 16, 3) := by decide +kernel
theorem dX6_inHeap_40 : decode cX6_inHeap 40 = .ok (.aload_n 0, 1) := by decide +kernel
theorem dX6_inHeap_41 : decode cX6_inHeap 41 = .ok (.iload 4, 2) := by decide +kernel
theorem dX6_inHeap_43 : decode cX6_inHeap 43 = .ok (.aload_n 0, 1) := by decide +kernel
theorem dX6_inHeap_44 : decode cX6_inHeap 44 = .ok (.getfield 81, 3) := by decide +kernel
theorem dX6_inHeap_47 : decode cX6_inHeap 47 = .ok (.invokevirtual 98, 3) := by decide +kernel
theorem dX6_inHeap_50 : decode cX6_inHeap 50 = .ok (.ifCond .eq 7, 3) := by decide +kernel
theorem dX6_inHeap_53 : decode cX6_inHeap 53 = .ok (.iconst 1, 1) := by decide +kernel
theorem dX6_inHeap_54 : decode cX6_inHeap 54 = .ok (.goto 4, 3) := by decide +kernel
theorem dX6_inHeap_57 : decode cX6_inHeap 57 = .ok (.iconst 0, 1) := by decide +kernel
theorem dX6_inHeap_58 : decode cX6_inHeap 58 = .ok (.iadd, 1) := by decide +kernel
theorem dX6_inHeap_59 : decode cX6_inHeap 59 = .ok (.istore_n 3, 1) := by decide +kernel
theorem dX6_inHeap_60 : decode cX6_inHeap 60 = .ok (.iinc 4 1, 3) := by decide +kernel
theorem dX6_inHeap_63 : decode cX6_inHeap 63 = .ok (.goto (-58), 3) := by decide +kernel
theorem dX6_inHeap_66 : decode cX6_inHeap 66 = .ok (.iload_n 3, 1) := by decide +kernel
theorem dX6_inHeap_67 : decode cX6_inHeap 67 = .ok (.ireturn, 1) := by decide +kernel
theorem dX6_best_0 : decode cX6_best 0 = .ok (.aload_n 0, 1) := by decide +kernel
theorem dX6_best_1 : decode cX6_best 1 = .ok (.getfield 121, 3) := by decide +kernel
theorem dX6_best_4 : decode cX6_best 4 = .ok (.ifCond .ne 5, 3) := by decide +kernel
theorem dX6_best_7 : decode cX6_best 7 = .ok (.iconst (-1), 1) := by decide +kernel
theorem dX6_best_8 : decode cX6_best 8 = .ok (.ireturn, 1) := by decide +kernel
theorem dX6_best_9 : decode cX6_best 9 = .ok (.aload_n 0, 1) := by decide +kernel
theorem dX6_best_10 : decode cX6_best 10 = .ok (.invokevirtual 105, 3) := by decide +kernel
theorem dX6_best_13 : decode cX6_best 13 = .ok (.iconst (-1), 1) := by decide +kernel
theorem dX6_best_14 : decode cX6_best 14 = .ok (.istore_n 1, 1) := by decide +kernel
theorem dX6_best_15 : decode cX6_best 15 = .ok (.iconst 0, 1) := by decide +kernel
theorem dX6_best_16 : decode cX6_best 16 = .ok (.istore_n 2, 1) := by decide +kernel
theorem dX6_best_17 : decode cX6_best 17 = .ok (.iconst 0, 1) := by decide +kernel
theorem dX6_best_18 : decode cX6_best 18 = .ok (.istore_n 3, 1) := by decide +kernel
theorem dX6_best_19 : decode cX6_best 19 = .ok (.iload_n 3, 1) := by decide +kernel
theorem dX6_best_20 : decode cX6_best 20 = .ok (.aload_n 0, 1) := by decide +kernel
theorem dX6_best_21 : decode cX6_best 21 = .ok (.getfield 121, 3) := by decide +kernel
theorem dX6_best_24 : decode cX6_best 24 = .ok (.if_icmp .ge 79, 3) := by decide +kernel
theorem dX6_best_27 : decode cX6_best 27 = .ok (.aload_n 0, 1) := by decide +kernel
theorem dX6_best_28 : decode cX6_best 28 = .ok (.iload_n 3, 1) := by decide +kernel
theorem dX6_best_29 : decode cX6_best 29 = .ok (.invokevirtual 131, 3) := by decide +kernel
theorem dX6_best_32 : decode cX6_best 32 = .ok (.istore 4, 2) := by decide +kernel
theorem dX6_best_34 : decode cX6_best 34 = .ok (.aload_n 0, 1) := by decide +kernel
theorem dX6_best_35 : decode cX6_best 35 = .ok (.iconst 0, 1) := by decide +kernel
theorem dX6_best_36 : decode cX6_best 36 = .ok (.iconst 0, 1) := by decide +kernel
theorem dX6_best_37 : decode cX6_best 37 = .ok (.invokevirtual 134, 3) := by decide +kernel
theorem dX6_best_40 : decode cX6_best 40 = .ok (.aload_n 0, 1) := by decide +kernel
theorem dX6_best_41 : decode cX6_best 41 = .ok (.iconst 1, 1) := by decide +kernel
theorem dX6_best_42 : decode cX6_best 42 = .ok (.iconst 1, 1) := by decide +kernel
theorem dX6_best_43 : decode cX6_best 43 = .ok (.invokevirtual 134, 3) := by decide +kernel
theorem dX6_best_46 : decode cX6_best 46 = .ok (.imul, 1) := by decide +kernel
theorem dX6_best_47 : decode cX6_best 47 = .ok (.aload_n 0, 1) := by decide +kernel
theorem dX6_best_48 : decode cX6_best 48 = .ok (.iconst 1, 1) := by decide +kernel
theorem dX6_best_49 : decode cX6_best 49 = .ok (.iconst 0, 1) := by decide +kernel
theorem dX6_best_50 : decode cX6_best 50 = .ok (.invokevirtual 134, 3) := by decide +kernel
theorem dX6_best_53 : decode cX6_best 53 = .ok (.aload_n 0, 1) := by decide +kernel
theorem dX6_best_54 : decode cX6_best 54 = .ok (.iconst 0, 1) := by decide +kernel
theorem dX6_best_55 : decode cX6_best 55 = .ok (.iconst 1, 1) := by decide +kernel
theorem dX6_best_56 : decode cX6_best 56 = .ok (.invokevirtual 134, 3) := by decide +kernel
theorem dX6_best_59 : decode cX6_best 59 = .ok (.imul, 1) := by decide +kernel
theorem dX6_best_60 : decode cX6_best 60 = .ok (.isub, 1) := by decide +kernel
theorem dX6_best_61 : decode cX6_best 61 = .ok (.istore 5, 2) := by decide +kernel
theorem dX6_best_63 : decode cX6_best 63 = .ok (.iload 5, 2) := by decide +kernel
theorem dX6_best_65 : decode cX6_best 65 = .ok (.ifCond .ge 9, 3) := by decide +kernel
theorem dX6_best_68 : decode cX6_best 68 = .ok (.iload 5, 2) := by decide +kernel
theorem dX6_best_70 : decode cX6_best 70 = .ok (.ineg, 1) := by decide +kernel
theorem dX6_best_71 : decode cX6_best 71 = .ok (.goto 5, 3) := by decide +kernel
theorem dX6_best_74 : decode cX6_best 74 = .ok (.iload 5, 2) := by decide +kernel
theorem dX6_best_76 : decode cX6_best 76 = .ok (.istore 5, 2) := by decide +kernel
theorem dX6_best_78 : decode cX6_best 78 = .ok (.iload_n 1, 1) := by decide +kernel
theorem dX6_best_79 : decode cX6_best 79 = .ok (.iconst (-1), 1) := by decide +kernel
theorem dX6_best_80 : decode cX6_best 80 = .ok (.if_icmp .eq 12, 3) := by decide +kernel
theorem dX6_best_83 : decode cX6_best 83 = .ok (.iload 5, 2) := by decide +kernel
theorem dX6_best_85 : decode cX6_best 85 = .ok (.iload_n 2, 1) := by decide +kernel
theorem dX6_best_86 : decode cX6_best 86 = .ok (.if_icmp .gt 6, 3) := by decide +kernel
theorem dX6_best_89 : decode cX6_best 89 = .ok (.goto 8, 3) := by decide +kernel
theorem dX6_best_92 : decode cX6_best 92 = .ok (.iload_n 3, 1) := by decide +kernel
theorem dX6_best_93 : decode cX6_best 93 = .ok (.istore_n 1, 1) := by decide +kernel
theorem dX6_best_94 : decode cX6_best 94 = .ok (.iload 5, 2) := by decide +kernel
theorem dX6_best_96 : decode cX6_best 96 = .ok (.istore_n 2, 1) := by decide +kernel
theorem dX6_best_97 : decode cX6_best 97 = .ok (.iinc 3 1, 3) := by decide +kernel
theorem dX6_best_100 : decode cX6_best 100 = .ok (.goto (-81), 3) := by decide +kernel
theorem dX6_best_103 : decode cX6_best 103 = .ok (.iload_n 1, 1) := by decide +kernel
theorem dX6_best_104 : decode cX6_best 104 = .ok (.ireturn, 1) := by decide +kernel
theorem dX6_those_0 : decode cX6_those 0 = .ok (.iconst 0, 1) := by decide +kernel
theorem dX6_those_1 : decode cX6_those 1 = .ok (.istore_n 3, 1) := by decide +kernel
theorem dX6_those_2 : decode cX6_those 2 = .ok (.iconst 0, 1) := by decide +kernel
theorem dX6_those_3 : decode cX6_those 3 = .ok (.istore 4, 2) := by decide +kernel
theorem dX6_those_5 : decode cX6_those 5 = .ok (.iload 4, 2) := by decide +kernel
theorem dX6_those_7 : decode cX6_those 7 = .ok (.aload_n 0, 1) := by decide +kernel
theorem dX6_those_8 : decode cX6_those 8 = .ok (.getfield 27, 3) := by decide +kernel
theorem dX6_those_11 : decode cX6_those 11 = .ok (.iload_n 1, 1) := by decide +kernel
theorem dX6_those_12 : decode cX6_those 12 = .ok (.iaload, 1) := by decide +kernel
theorem dX6_those_13 : decode cX6_those 13 = .ok (.if_icmp .ge 37, 3) := by decide +kernel
theorem dX6_those_16 : decode cX6_those 16 = .ok (.iload_n 3, 1) := by decide +kernel
theorem dX6_those_17 : decode cX6_those 17 = .ok (.aload_n 0, 1) := by decide +kernel
theorem dX6_those_18 : decode cX6_those 18 = .ok (.aload_n 0, 1) := by decide +kernel
theorem dX6_those_19 : decode cX6_those 19 = .ok (.getfield 33, 3) := by decide +kernel
theorem dX6_those_22 : decode cX6_those 22 = .ok (.bipush 30, 2) := by decide +kernel
theorem dX6_those_24 : decode cX6_those 24 = .ok (.iload_n 1, 1) := by decide +kernel
theorem dX6_those_25 : decode cX6_those 25 = .ok (.imul, 1) := by decide +kernel
theorem dX6_those_26 : decode cX6_those 26 = .ok (.iload 4, 2) := by decide +kernel
theorem dX6_those_28 : decode cX6_those 28 = .ok (.iadd, 1) := by decide +kernel
theorem dX6_those_29 : decode cX6_those 29 = .ok (.iaload, 1) := by decide +kernel
theorem dX6_those_30 : decode cX6_those 30 = .ok (.iload_n 2, 1) := by decide +kernel
theorem dX6_those_31 : decode cX6_those 31 = .ok (.invokevirtual 71, 3) := by decide +kernel
theorem dX6_those_34 : decode cX6_those 34 = .ok (.ifCond .eq 7, 3) := by decide +kernel
theorem dX6_those_37 : decode cX6_those 37 = .ok (.iconst 1, 1) := by decide +kernel
theorem dX6_those_38 : decode cX6_those 38 = .ok (.goto 4, 3) := by decide +kernel
theorem dX6_those_41 : decode cX6_those 41 = .ok (.iconst 0, 1) := by decide +kernel
theorem dX6_those_42 : decode cX6_those 42 = .ok (.iadd, 1) := by decide +kernel
theorem dX6_those_43 : decode cX6_those 43 = .ok (.istore_n 3, 1) := by decide +kernel
theorem dX6_those_44 : decode cX6_those 44 = .ok (.iinc 4 1, 3) := by decide +kernel
theorem dX6_those_47 : decode cX6_those 47 = .ok (.goto (-42), 3) := by decide +kernel
theorem dX6_those_50 : decode cX6_those 50 = .ok (.iload_n 3, 1) := by decide +kernel
theorem dX6_those_51 : decode cX6_those 51 = .ok (.ireturn, 1) := by decide +kernel
theorem dX6_ways_0 : decode cX6_ways 0 = .ok (.lconst 1, 1) := by decide +kernel
theorem dX6_ways_1 : decode cX6_ways 1 = .ok (.lstore_n 2, 1) := by decide +kernel
theorem dX6_ways_2 : decode cX6_ways 2 = .ok (.iconst 1, 1) := by decide +kernel
theorem dX6_ways_3 : decode cX6_ways 3 = .ok (.istore 4, 2) := by decide +kernel
theorem dX6_ways_5 : decode cX6_ways 5 = .ok (.iload 4, 2) := by decide +kernel
theorem dX6_ways_7 : decode cX6_ways 7 = .ok (.iload_n 0, 1) := by decide +kernel
theorem dX6_ways_8 : decode cX6_ways 8 = .ok (.if_icmp .gt 21, 3) := by decide +kernel
theorem dX6_ways_11 : decode cX6_ways 11 = .ok (.lload_n 2, 1) := by decide +kernel
theorem dX6_ways_12 : decode cX6_ways 12 = .ok (.iload_n 1, 1) := by decide +kernel
theorem dX6_ways_13 : decode cX6_ways 13 = .ok (.iload 4, 2) := by decide +kernel
theorem dX6_ways_15 : decode cX6_ways 15 = .ok (.iadd, 1) := by decide +kernel
theorem dX6_ways_16 : decode cX6_ways 16 = .ok (.i2l, 1) := by decide +kernel
theorem dX6_ways_17 : decode cX6_ways 17 = .ok (.lmul, 1) := by decide +kernel
theorem dX6_ways_18 : decode cX6_ways 18 = .ok (.iload 4, 2) := by decide +kernel
theorem dX6_ways_20 : decode cX6_ways 20 = .ok (.i2l, 1) := by decide +kernel
theorem dX6_ways_21 : decode cX6_ways 21 = .ok (.ldiv, 1) := by decide +kernel
theorem dX6_ways_22 : decode cX6_ways 22 = .ok (.lstore_n 2, 1) := by decide +kernel
theorem dX6_ways_23 : decode cX6_ways 23 = .ok (.iinc 4 1, 3) := by decide +kernel
theorem dX6_ways_26 : decode cX6_ways 26 = .ok (.goto (-21), 3) := by decide +kernel
theorem dX6_ways_29 : decode cX6_ways 29 = .ok (.lload_n 2, 1) := by decide +kernel
theorem dX6_ways_30 : decode cX6_ways 30 = .ok (.lreturn, 1) := by decide +kernel
theorem dX6_expected_0 : decode cX6_expected 0 = .ok (.iload_n 1, 1) := by decide +kernel
theorem dX6_expected_1 : decode cX6_expected 1 = .ok (.invokestatic 67, 3) := by decide +kernel
theorem dX6_expected_4 : decode cX6_expected 4 = .ok (.ifCond .eq 28, 3) := by decide +kernel
theorem dX6_expected_7 : decode cX6_expected 7 = .ok (.iload_n 2, 1) := by decide +kernel
theorem dX6_expected_8 : decode cX6_expected 8 = .ok (.invokestatic 67, 3) := by decide +kernel
theorem dX6_expected_11 : decode cX6_expected 11 = .ok (.ifCond .eq 21, 3) := by decide +kernel
theorem dX6_expected_14 : decode cX6_expected 14 = .ok (.aload_n 0, 1) := by decide +kernel
theorem dX6_expected_15 : decode cX6_expected 15 = .ok (.iload_n 1, 1) := by decide +kernel
theorem dX6_expected_16 : decode cX6_expected 16 = .ok (.iload_n 2, 1) := by decide +kernel
theorem dX6_expected_17 : decode cX6_expected 17 = .ok (.invokevirtual 71, 3) := by decide +kernel
theorem dX6_expected_20 : decode cX6_expected 20 = .ok (.ifCond .ne 12, 3) := by decide +kernel
theorem dX6_expected_23 : decode cX6_expected 23 = .ok (.aload_n 0, 1) := by decide +kernel
theorem dX6_expected_24 : decode cX6_expected 24 = .ok (.iload_n 2, 1) := by decide +kernel
theorem dX6_expected_25 : decode cX6_expected 25 = .ok (.iload_n 1, 1) := by decide +kernel
theorem dX6_expected_26 : decode cX6_expected 26 = .ok (.invokevirtual 71, 3) := by decide +kernel
theorem dX6_expected_29 : decode cX6_expected 29 = .ok (.ifCond .eq 7, 3) := by decide +kernel
theorem dX6_expected_32 : decode cX6_expected 32 = .ok (.ldc2_w 115, 3) := by decide +kernel
theorem dX6_expected_35 : decode cX6_expected 35 = .ok (.lreturn, 1) := by decide +kernel
theorem dX6_expected_36 : decode cX6_expected 36 = .ok (.lconst 0, 1) := by decide +kernel
theorem dX6_expected_37 : decode cX6_expected 37 = .ok (.lstore_n 3, 1) := by decide +kernel
theorem dX6_expected_38 : decode cX6_expected 38 = .ok (.iconst 0, 1) := by decide +kernel
theorem dX6_expected_39 : decode cX6_expected 39 = .ok (.istore 5, 2) := by decide +kernel
theorem dX6_expected_41 : decode cX6_expected 41 = .ok (.iload 5, 2) := by decide +kernel
theorem dX6_expected_43 : decode cX6_expected 43 = .ok (.aload_n 0, 1) := by decide +kernel
theorem dX6_expected_44 : decode cX6_expected 44 = .ok (.getfield 64, 3) := by decide +kernel
theorem dX6_expected_47 : decode cX6_expected 47 = .ok (.if_icmp .ge 69, 3) := by decide +kernel
theorem dX6_expected_50 : decode cX6_expected 50 = .ok (.aload_n 0, 1) := by decide +kernel
theorem dX6_expected_51 : decode cX6_expected 51 = .ok (.getfield 23, 3) := by decide +kernel
theorem dX6_expected_54 : decode cX6_expected 54 = .ok (.iload 5, 2) := by decide +kernel
theorem dX6_expected_56 : decode cX6_expected 56 = .ok (.baload, 1) := by decide +kernel
theorem dX6_expected_57 : decode cX6_expected 57 = .ok (.ifCond .eq 7, 3) := by decide +kernel
theorem dX6_expected_60 : decode cX6_expected 60 = .ok (.iconst 0, 1) := by decide +kernel
theorem dX6_expected_61 : decode cX6_expected 61 = .ok (.goto 10, 3) := by decide +kernel
theorem dX6_expected_64 : decode cX6_expected 64 = .ok (.aload_n 0, 1) := by decide +kernel
theorem dX6_expected_65 : decode cX6_expected 65 = .ok (.iload 5, 2) := by decide +kernel
theorem dX6_expected_67 : decode cX6_expected 67 = .ok (.iload_n 1, 1) := by decide +kernel
theorem dX6_expected_68 : decode cX6_expected 68 = .ok (.invokevirtual 138, 3) := by decide +kernel
theorem dX6_expected_71 : decode cX6_expected 71 = .ok (.istore 6, 2) := by decide +kernel
theorem dX6_expected_73 : decode cX6_expected 73 = .ok (.aload_n 0, 1) := by decide +kernel
theorem dX6_expected_74 : decode cX6_expected 74 = .ok (.iload 5, 2) := by decide +kernel
theorem dX6_expected_76 : decode cX6_expected 76 = .ok (.iload_n 2, 1) := by decide +kernel
theorem dX6_expected_77 : decode cX6_expected 77 = .ok (.invokevirtual 138, 3) := by decide +kernel
theorem dX6_expected_80 : decode cX6_expected 80 = .ok (.istore 7, 2) := by decide +kernel
theorem dX6_expected_82 : decode cX6_expected 82 = .ok (.iload 6, 2) := by decide +kernel
theorem dX6_expected_84 : decode cX6_expected 84 = .ok (.ifCond .le 26, 3) := by decide +kernel
theorem dX6_expected_87 : decode cX6_expected 87 = .ok (.iload 7, 2) := by decide +kernel
theorem dX6_expected_89 : decode cX6_expected 89 = .ok (.ifCond .le 21, 3) := by decide +kernel
theorem dX6_expected_92 : decode cX6_expected 92 = .ok (.lload_n 3, 1) := by decide +kernel
theorem dX6_expected_93 : decode cX6_expected 93 = .ok (.ldc2_w 142, 3) := by decide +kernel
theorem dX6_expected_96 : decode cX6_expected 96 = .ok (.ldc2_w 142, 3) := by decide +kernel
theorem dX6_expected_99 : decode cX6_expected 99 = .ok (.iload 6, 2) := by decide +kernel
theorem dX6_expected_101 : decode cX6_expected 101 = .ok (.iload 7, 2) := by decide +kernel
theorem dX6_expected_103 : decode cX6_expected 103 = .ok (.invokestatic 144, 3) := by decide +kernel
theorem dX6_expected_106 : decode cX6_expected 106 = .ok (.ldiv, 1) := by decide +kernel
theorem dX6_expected_107 : decode cX6_expected 107 = .ok (.lsub, 1) := by decide +kernel
theorem dX6_expected_108 : decode cX6_expected 108 = .ok (.ladd, 1) := by decide +kernel
theorem dX6_expected_109 : decode cX6_expected 109 = .ok (.lstore_n 3, 1) := by decide +kernel
theorem dX6_expected_110 : decode cX6_expected 110 = .ok (.iinc 5 1, 3) := by decide +kernel
theorem dX6_expected_113 : decode cX6_expected 113 = .ok (.goto (-72), 3) := by decide +kernel
theorem dX6_expected_116 : decode cX6_expected 116 = .ok (.lload_n 3, 1) := by decide +kernel
theorem dX6_expected_117 : decode cX6_expected 117 = .ok (.lreturn, 1) := by decide +kernel
theorem dX6_share_0 : decode cX6_share 0 = .ok (.aload_n 0, 1) := by decide +kernel
theorem dX6_share_1 : decode cX6_share 1 = .ok (.iload_n 1, 1) := by decide +kernel
theorem dX6_share_2 : decode cX6_share 2 = .ok (.iload_n 2, 1) := by decide +kernel
theorem dX6_share_3 : decode cX6_share 3 = .ok (.iload_n 3, 1) := by decide +kernel
theorem dX6_share_4 : decode cX6_share 4 = .ok (.iload 4, 2) := by decide +kernel
theorem dX6_share_6 : decode cX6_share 6 = .ok (.invokevirtual 101, 3) := by decide +kernel
theorem dX6_share_9 : decode cX6_share 9 = .ok (.ifCond .eq 11, 3) := by decide +kernel
theorem dX6_share_12 : decode cX6_share 12 = .ok (.aload_n 0, 1) := by decide +kernel
theorem dX6_share_13 : decode cX6_share 13 = .ok (.getfield 81, 3) := by decide +kernel
theorem dX6_share_16 : decode cX6_share 16 = .ok (.iconst 1, 1) := by decide +kernel
theorem dX6_share_17 : decode cX6_share 17 = .ok (.if_icmp .ne 5, 3) := by decide +kernel
theorem dX6_share_20 : decode cX6_share 20 = .ok (.iconst (-1), 1) := by decide +kernel
theorem dX6_share_21 : decode cX6_share 21 = .ok (.ireturn, 1) := by decide +kernel
theorem dX6_share_22 : decode cX6_share 22 = .ok (.aload_n 0, 1) := by decide +kernel
theorem dX6_share_23 : decode cX6_share 23 = .ok (.invokevirtual 105, 3) := by decide +kernel
theorem dX6_share_26 : decode cX6_share 26 = .ok (.aload_n 0, 1) := by decide +kernel
theorem dX6_share_27 : decode cX6_share 27 = .ok (.aload_n 0, 1) := by decide +kernel
theorem dX6_share_28 : decode cX6_share 28 = .ok (.getfield 81, 3) := by decide +kernel
theorem dX6_share_31 : decode cX6_share 31 = .ok (.iconst 1, 1) := by decide +kernel
theorem dX6_share_32 : decode cX6_share 32 = .ok (.isub, 1) := by decide +kernel
theorem dX6_share_33 : decode cX6_share 33 = .ok (.invokevirtual 108, 3) := by decide +kernel
theorem dX6_share_36 : decode cX6_share 36 = .ok (.istore 5, 2) := by decide +kernel
theorem dX6_share_38 : decode cX6_share 38 = .ok (.iload 5, 2) := by decide +kernel
theorem dX6_share_40 : decode cX6_share 40 = .ok (.ifCond .ne 7, 3) := by decide +kernel
theorem dX6_share_43 : decode cX6_share 43 = .ok (.iconst 0, 1) := by decide +kernel
theorem dX6_share_44 : decode cX6_share 44 = .ok (.goto 18, 3) := by decide +kernel
theorem dX6_share_47 : decode cX6_share 47 = .ok (.sipush 1000, 3) := by decide +kernel
theorem dX6_share_50 : decode cX6_share 50 = .ok (.aload_n 0, 1) := by decide +kernel
theorem dX6_share_51 : decode cX6_share 51 = .ok (.aload_n 0, 1) := by decide +kernel
theorem dX6_share_52 : decode cX6_share 52 = .ok (.getfield 81, 3) := by decide +kernel
theorem dX6_share_55 : decode cX6_share 55 = .ok (.invokevirtual 108, 3) := by decide +kernel
theorem dX6_share_58 : decode cX6_share 58 = .ok (.imul, 1) := by decide +kernel
theorem dX6_share_59 : decode cX6_share 59 = .ok (.iload 5, 2) := by decide +kernel
theorem dX6_share_61 : decode cX6_share 61 = .ok (.idiv, 1) := by decide +kernel
theorem dX6_share_62 : decode cX6_share 62 = .ok (.ireturn, 1) := by decide +kernel
theorem dX6_isLacking_0 : decode cX6_isLacking 0 = .ok (.aload_n 0, 1) := by decide +kernel
theorem dX6_isLacking_1 : decode cX6_isLacking 1 = .ok (.getfield 23, 3) := by decide +kernel
theorem dX6_isLacking_4 : decode cX6_isLacking 4 = .ok (.iload_n 1, 1) := by decide +kernel
theorem dX6_isLacking_5 : decode cX6_isLacking 5 = .ok (.baload, 1) := by decide +kernel
theorem dX6_isLacking_6 : decode cX6_isLacking 6 = .ok (.ifCond .ne 33, 3) := by decide +kernel
theorem dX6_isLacking_9 : decode cX6_isLacking 9 = .ok (.aload_n 0, 1) := by decide +kernel
theorem dX6_isLacking_10 : decode cX6_isLacking 10 = .ok (.iload_n 1, 1) := by decide +kernel
theorem dX6_isLacking_11 : decode cX6_isLacking 11 = .ok (.aload_n 0, 1) := by decide +kernel
theorem dX6_isLacking_12 : decode cX6_isLacking 12 = .ok (.getfield 81, 3) := by decide +kernel
theorem dX6_isLacking_15 : decode cX6_isLacking 15 = .ok (.iconst 1, 1) := by decide +kernel
theorem dX6_isLacking_16 : decode cX6_isLacking 16 = .ok (.isub, 1) := by decide +kernel
theorem dX6_isLacking_17 : decode cX6_isLacking 17 = .ok (.invokevirtual 98, 3) := by decide +kernel
theorem dX6_isLacking_20 : decode cX6_isLacking 20 = .ok (.ifCond .eq 19, 3) := by decide +kernel
theorem dX6_isLacking_23 : decode cX6_isLacking 23 = .ok (.aload_n 0, 1) := by decide +kernel
theorem dX6_isLacking_24 : decode cX6_isLacking 24 = .ok (.iload_n 1, 1) := by decide +kernel
theorem dX6_isLacking_25 : decode cX6_isLacking 25 = .ok (.aload_n 0, 1) := by decide +kernel
theorem dX6_isLacking_26 : decode cX6_isLacking 26 = .ok (.getfield 81, 3) := by decide +kernel
theorem dX6_isLacking_29 : decode cX6_isLacking 29 = .ok (.invokevirtual 98, 3) := by decide +kernel
theorem dX6_isLacking_32 : decode cX6_isLacking 32 = .ok (.ifCond .ne 7, 3) := by decide +kernel
theorem dX6_isLacking_35 : decode cX6_isLacking 35 = .ok (.iconst 1, 1) := by decide +kernel
theorem dX6_isLacking_36 : decode cX6_isLacking 36 = .ok (.goto 4, 3) := by decide +kernel
theorem dX6_isLacking_39 : decode cX6_isLacking 39 = .ok (.iconst 0, 1) := by decide +kernel
theorem dX6_isLacking_40 : decode cX6_isLacking 40 = .ok (.ireturn, 1) := by decide +kernel
theorem dX6_lacking_0 : decode cX6_lacking 0 = .ok (.aload_n 0, 1) := by decide +kernel
theorem dX6_lacking_1 : decode cX6_lacking 1 = .ok (.iload_n 1, 1) := by decide +kernel
theorem dX6_lacking_2 : decode cX6_lacking 2 = .ok (.iload_n 2, 1) := by decide +kernel
theorem dX6_lacking_3 : decode cX6_lacking 3 = .ok (.iload_n 3, 1) := by decide +kernel
theorem dX6_lacking_4 : decode cX6_lacking 4 = .ok (.iload 4, 2) := by decide +kernel
theorem dX6_lacking_6 : decode cX6_lacking 6 = .ok (.invokevirtual 101, 3) := by decide +kernel
theorem dX6_lacking_9 : decode cX6_lacking 9 = .ok (.ifCond .eq 16, 3) := by decide +kernel
theorem dX6_lacking_12 : decode cX6_lacking 12 = .ok (.aload_n 0, 1) := by decide +kernel
theorem dX6_lacking_13 : decode cX6_lacking 13 = .ok (.getfield 81, 3) := by decide +kernel
theorem dX6_lacking_16 : decode cX6_lacking 16 = .ok (.iconst 1, 1) := by decide +kernel
theorem dX6_lacking_17 : decode cX6_lacking 17 = .ok (.if_icmp .eq 8, 3) := by decide +kernel
theorem dX6_lacking_20 : decode cX6_lacking 20 = .ok (.iload 5, 2) := by decide +kernel
theorem dX6_lacking_22 : decode cX6_lacking 22 = .ok (.ifCond .ge 5, 3) := by decide +kernel
theorem dX6_lacking_25 : decode cX6_lacking 25 = .ok (.iconst (-1), 1) := by decide +kernel
theorem dX6_lacking_26 : decode cX6_lacking 26 = .ok (.ireturn, 1) := by decide +kernel
theorem dX6_lacking_27 : decode cX6_lacking 27 = .ok (.aload_n 0, 1) := by decide +kernel
theorem dX6_lacking_28 : decode cX6_lacking 28 = .ok (.invokevirtual 105, 3) := by decide +kernel
theorem dX6_lacking_31 : decode cX6_lacking 31 = .ok (.iconst 0, 1) := by decide +kernel
theorem dX6_lacking_32 : decode cX6_lacking 32 = .ok (.istore 6, 2) := by decide +kernel
theorem dX6_lacking_34 : decode cX6_lacking 34 = .ok (.iconst 0, 1) := by decide +kernel
theorem dX6_lacking_35 : decode cX6_lacking 35 = .ok (.istore 7, 2) := by decide +kernel
theorem dX6_lacking_37 : decode cX6_lacking 37 = .ok (.iload 7, 2) := by decide +kernel
theorem dX6_lacking_39 : decode cX6_lacking 39 = .ok (.aload_n 0, 1) := by decide +kernel
theorem dX6_lacking_40 : decode cX6_lacking 40 = .ok (.getfield 64, 3) := by decide +kernel
theorem dX6_lacking_43 : decode cX6_lacking 43 = .ok (.if_icmp .ge 34, 3) := by decide +kernel
theorem dX6_lacking_46 : decode cX6_lacking 46 = .ok (.aload_n 0, 1) := by decide +kernel
theorem dX6_lacking_47 : decode cX6_lacking 47 = .ok (.iload 7, 2) := by decide +kernel
theorem dX6_lacking_49 : decode cX6_lacking 49 = .ok (.invokevirtual 148, 3) := by decide +kernel
theorem dX6_lacking_52 : decode cX6_lacking 52 = .ok (.ifCond .ne 6, 3) := by decide +kernel
theorem dX6_lacking_55 : decode cX6_lacking 55 = .ok (.goto 16, 3) := by decide +kernel
theorem dX6_lacking_58 : decode cX6_lacking 58 = .ok (.iload 6, 2) := by decide +kernel
theorem dX6_lacking_60 : decode cX6_lacking 60 = .ok (.iload 5, 2) := by decide +kernel
theorem dX6_lacking_62 : decode cX6_lacking 62 = .ok (.if_icmp .ne 6, 3) := by decide +kernel
theorem dX6_lacking_65 : decode cX6_lacking 65 = .ok (.iload 7, 2) := by decide +kernel
theorem dX6_lacking_67 : decode cX6_lacking 67 = .ok (.ireturn, 1) := by decide +kernel
theorem dX6_lacking_68 : decode cX6_lacking 68 = .ok (.iinc 6 1, 3) := by decide +kernel
theorem dX6_lacking_71 : decode cX6_lacking 71 = .ok (.iinc 7 1, 3) := by decide +kernel
theorem dX6_lacking_74 : decode cX6_lacking 74 = .ok (.goto (-37), 3) := by decide +kernel
theorem dX6_lacking_77 : decode cX6_lacking 77 = .ok (.iconst (-1), 1) := by decide +kernel
theorem dX6_lacking_78 : decode cX6_lacking 78 = .ok (.ireturn, 1) := by decide +kernel
theorem dX6_sure_0 : decode cX6_sure 0 = .ok (.aload_n 0, 1) := by decide +kernel
theorem dX6_sure_1 : decode cX6_sure 1 = .ok (.iload_n 1, 1) := by decide +kernel
theorem dX6_sure_2 : decode cX6_sure 2 = .ok (.invokevirtual 75, 3) := by decide +kernel
theorem dX6_sure_5 : decode cX6_sure 5 = .ok (.ifCond .eq 24, 3) := by decide +kernel
theorem dX6_sure_8 : decode cX6_sure 8 = .ok (.aload_n 0, 1) := by decide +kernel
theorem dX6_sure_9 : decode cX6_sure 9 = .ok (.iload_n 2, 1) := by decide +kernel
theorem dX6_sure_10 : decode cX6_sure 10 = .ok (.iload_n 3, 1) := by decide +kernel
theorem dX6_sure_11 : decode cX6_sure 11 = .ok (.iload 4, 2) := by decide +kernel
theorem dX6_sure_13 : decode cX6_sure 13 = .ok (.iload 5, 2) := by decide +kernel
theorem dX6_sure_15 : decode cX6_sure 15 = .ok (.invokevirtual 101, 3) := by decide +kernel
theorem dX6_sure_18 : decode cX6_sure 18 = .ok (.ifCond .eq 11, 3) := by decide +kernel
theorem dX6_sure_21 : decode cX6_sure 21 = .ok (.aload_n 0, 1) := by decide +kernel
theorem dX6_sure_22 : decode cX6_sure 22 = .ok (.getfield 81, 3) := by decide +kernel
theorem dX6_sure_25 : decode cX6_sure 25 = .ok (.iconst 1, 1) := by decide +kernel
theorem dX6_sure_26 : decode cX6_sure 26 = .ok (.if_icmp .ne 5, 3) := by decide +kernel
theorem dX6_sure_29 : decode cX6_sure 29 = .ok (.iconst (-1), 1) := by decide +kernel
theorem dX6_sure_30 : decode cX6_sure 30 = .ok (.ireturn, 1) := by decide +kernel
theorem dX6_sure_31 : decode cX6_sure 31 = .ok (.aload_n 0, 1) := by decide +kernel
theorem dX6_sure_32 : decode cX6_sure 32 = .ok (.invokevirtual 105, 3) := by decide +kernel
theorem dX6_sure_35 : decode cX6_sure 35 = .ok (.aload_n 0, 1) := by decide +kernel
theorem dX6_sure_36 : decode cX6_sure 36 = .ok (.iload_n 1, 1) := by decide +kernel
theorem dX6_sure_37 : decode cX6_sure 37 = .ok (.invokevirtual 148, 3) := by decide +kernel
theorem dX6_sure_40 : decode cX6_sure 40 = .ok (.ifCond .ne 5, 3) := by decide +kernel
theorem dX6_sure_43 : decode cX6_sure 43 = .ok (.iconst (-1), 1) := by decide +kernel
theorem dX6_sure_44 : decode cX6_sure 44 = .ok (.ireturn, 1) := by decide +kernel
theorem dX6_sure_45 : decode cX6_sure 45 = .ok (.iconst 0, 1) := by decide +kernel
theorem dX6_sure_46 : decode cX6_sure 46 = .ok (.istore 6, 2) := by decide +kernel
theorem dX6_sure_48 : decode cX6_sure 48 = .ok (.iconst 0, 1) := by decide +kernel
theorem dX6_sure_49 : decode cX6_sure 49 = .ok (.istore 7, 2) := by decide +kernel
theorem dX6_sure_51 : decode cX6_sure 51 = .ok (.iload 7, 2) := by decide +kernel
theorem dX6_sure_53 : decode cX6_sure 53 = .ok (.aload_n 0, 1) := by decide +kernel
theorem dX6_sure_54 : decode cX6_sure 54 = .ok (.getfield 27, 3) := by decide +kernel
theorem dX6_sure_57 : decode cX6_sure 57 = .ok (.iload_n 1, 1) := by decide +kernel
theorem dX6_sure_58 : decode cX6_sure 58 = .ok (.iaload, 1) := by decide +kernel
theorem dX6_sure_59 : decode cX6_sure 59 = .ok (.if_icmp .ge 27, 3) := by decide +kernel
theorem dX6_sure_62 : decode cX6_sure 62 = .ok (.iload 6, 2) := by decide +kernel

/-! an entry of a table (printed by wip/gen/gen.py) -/
set_option maxRecDepth 8000 in
theorem e_X0_forget_0 : tabF k_X0_forget 0 = f_loadR 0 1 := rfl
set_option maxRecDepth 8000 in
theorem e_X0_forget_1 : tabF k_X0_forget 1 = f_push 0 1 := rfl
set_option maxRecDepth 8000 in
theorem e_X0_forget_2 : tabF k_X0_forget 2 = f_putI 0 2 := rfl
set_option maxRecDepth 8000 in
theorem e_X0_forget_5 : tabF k_X0_forget 5 = f_vret := rfl
set_option maxRecDepth 8000 in
theorem e_X0_add_0 : tabF k_X0_add 0 = f_loadR 0 1 := rfl
set_option maxRecDepth 8000 in
theorem e_X0_add_1 : tabF k_X0_add 1 = f_getI 0 2 := rfl
set_option maxRecDepth 8000 in
theorem e_X0_add_4 : tabF k_X0_add 4 = f_push 2000 3 := rfl
set_option maxRecDepth 8000 in
theorem e_X0_add_7 : tabF k_X0_add 7 = f_icmp cGe cLt 40 := rfl
set_option maxRecDepth 8000 in
theorem e_X0_add_10 : tabF k_X0_add 10 = f_loadR 0 1 := rfl
set_option maxRecDepth 8000 in
theorem e_X0_add_11 : tabF k_X0_add 11 = f_getR 0 0 (fun i => 10) := rfl
set_option maxRecDepth 8000 in
theorem e_X0_add_14 : tabF k_X0_add 14 = f_loadR 0 1 := rfl
set_option maxRecDepth 8000 in
theorem e_X0_add_15 : tabF k_X0_add 15 = f_getI 0 2 := rfl
set_option maxRecDepth 8000 in
theorem e_X0_add_18 : tabF k_X0_add 18 = f_loadI 1 1 := rfl
set_option maxRecDepth 8000 in
theorem e_X0_add_19 : tabF k_X0_add 19 = f_iast := rfl
set_option maxRecDepth 8000 in
theorem e_X0_add_20 : tabF k_X0_add 20 = f_loadR 0 1 := rfl
set_option maxRecDepth 8000 in
theorem e_X0_add_21 : tabF k_X0_add 21 = f_getR 0 1 (fun i => 11) := rfl
set_option maxRecDepth 8000 in
theorem e_X0_add_24 : tabF k_X0_add 24 = f_loadR 0 1 := rfl
set_option maxRecDepth 8000 in
theorem e_X0_add_25 : tabF k_X0_add 25 = f_getI 0 2 := rfl
set_option maxRecDepth 8000 in
theorem e_X0_add_28 : tabF k_X0_add 28 = f_loadI 2 1 := rfl
set_option maxRecDepth 8000 in
theorem e_X0_add_29 : tabF k_X0_add 29 = f_iast := rfl
set_option maxRecDepth 8000 in
theorem e_X0_add_30 : tabF k_X0_add 30 = f_loadR 0 1 := rfl
set_option maxRecDepth 8000 in
theorem e_X0_add_31 : tabF k_X0_add 31 = f_dup := rfl
set_option maxRecDepth 8000 in
theorem e_X0_add_32 : tabF k_X0_add 32 = f_getI 0 2 := rfl
set_option maxRecDepth 8000 in
theorem e_X0_add_35 : tabF k_X0_add 35 = f_push 1 1 := rfl
set_option maxRecDepth 8000 in
theorem e_X0_add_36 : tabF k_X0_add 36 = f_add := rfl
set_option maxRecDepth 8000 in
theorem e_X0_add_37 : tabF k_X0_add 37 = f_putI 0 2 := rfl
set_option maxRecDepth 8000 in
theorem e_X0_add_40 : tabF k_X0_add 40 = f_vret := rfl
set_option maxRecDepth 8000 in
theorem e_X0_isFull_0 : tabF k_X0_isFull 0 = f_loadR 0 1 := rfl
set_option maxRecDepth 8000 in
theorem e_X0_isFull_1 : tabF k_X0_isFull 1 = f_getI 0 2 := rfl
set_option maxRecDepth 8000 in
theorem e_X0_isFull_4 : tabF k_X0_isFull 4 = f_push 2000 3 := rfl
set_option maxRecDepth 8000 in
theorem e_X0_isFull_7 : tabF k_X0_isFull 7 = f_icmp cLt cGe 14 := rfl
set_option maxRecDepth 8000 in
theorem e_X0_isFull_10 : tabF k_X0_isFull 10 = f_push 1 1 := rfl
set_option maxRecDepth 8000 in
theorem e_X0_isFull_11 : tabF k_X0_isFull 11 = f_goto 15 := rfl
set_option maxRecDepth 8000 in
theorem e_X0_isFull_14 : tabF k_X0_isFull 14 = f_push 0 1 := rfl
set_option maxRecDepth 8000 in
theorem e_X0_isFull_15 : tabF k_X0_isFull 15 = f_zret := rfl
set_option maxRecDepth 8000 in
theorem e_X0_holds_0 : tabF k_X0_holds 0 = f_loadI 1 1 := rfl
set_option maxRecDepth 8000 in
theorem e_X0_holds_1 : tabF k_X0_holds 1 = f_if0 cLt cGe 16 := rfl
set_option maxRecDepth 8000 in
theorem e_X0_holds_4 : tabF k_X0_holds 4 = f_loadI 1 1 := rfl
set_option maxRecDepth 8000 in
theorem e_X0_holds_5 : tabF k_X0_holds 5 = f_loadR 0 1 := rfl
set_option maxRecDepth 8000 in
theorem e_X0_holds_6 : tabF k_X0_holds 6 = f_getI 0 2 := rfl
set_option maxRecDepth 8000 in
theorem e_X0_holds_9 : tabF k_X0_holds 9 = f_icmp cGe cLt 16 := rfl
set_option maxRecDepth 8000 in
theorem e_X0_holds_12 : tabF k_X0_holds 12 = f_push 1 1 := rfl
set_option maxRecDepth 8000 in
theorem e_X0_holds_13 : tabF k_X0_holds 13 = f_goto 17 := rfl
set_option maxRecDepth 8000 in
theorem e_X0_holds_16 : tabF k_X0_holds 16 = f_push 0 1 := rfl
set_option maxRecDepth 8000 in
theorem e_X0_holds_17 : tabF k_X0_holds 17 = f_zret := rfl
set_option maxRecDepth 8000 in
theorem e_X0_size_0 : tabF k_X0_size 0 = f_loadR 0 1 := rfl
set_option maxRecDepth 8000 in
theorem e_X0_size_1 : tabF k_X0_size 1 = f_getI 0 2 := rfl
set_option maxRecDepth 8000 in
theorem e_X0_size_4 : tabF k_X0_size 4 = f_iret := rfl
set_option maxRecDepth 8000 in
theorem e_X0_patternAt_0 : tabF k_X0_patternAt 0 = f_loadR 0 1 := rfl
set_option maxRecDepth 8000 in
theorem e_X0_patternAt_1 : tabF k_X0_patternAt 1 = f_loadI 1 1 := rfl
set_option maxRecDepth 8000 in
theorem e_X0_patternAt_2 : tabF k_X0_patternAt 2 = f_callV 0 3 1 := rfl
set_option maxRecDepth 8000 in
theorem e_X0_patternAt_5 : tabF k_X0_patternAt 5 = f_if0 cEq cNe 17 := rfl
set_option maxRecDepth 8000 in
theorem e_X0_patternAt_8 : tabF k_X0_patternAt 8 = f_loadR 0 1 := rfl
set_option maxRecDepth 8000 in
theorem e_X0_patternAt_9 : tabF k_X0_patternAt 9 = f_getR 0 0 (fun i => 10) := rfl
set_option maxRecDepth 8000 in
theorem e_X0_patternAt_12 : tabF k_X0_patternAt 12 = f_loadI 1 1 := rfl
set_option maxRecDepth 8000 in
theorem e_X0_patternAt_13 : tabF k_X0_patternAt 13 = f_iald := rfl
set_option maxRecDepth 8000 in
theorem e_X0_patternAt_14 : tabF k_X0_patternAt 14 = f_goto 18 := rfl
set_option maxRecDepth 8000 in
theorem e_X0_patternAt_17 : tabF k_X0_patternAt 17 = f_push (-1) 1 := rfl
set_option maxRecDepth 8000 in
theorem e_X0_patternAt_18 : tabF k_X0_patternAt 18 = f_iret := rfl
set_option maxRecDepth 8000 in
theorem e_X0_rowsThenAt_0 : tabF k_X0_rowsThenAt 0 = f_loadR 0 1 := rfl
set_option maxRecDepth 8000 in
theorem e_X0_rowsThenAt_1 : tabF k_X0_rowsThenAt 1 = f_loadI 1 1 := rfl
set_option maxRecDepth 8000 in
theorem e_X0_rowsThenAt_2 : tabF k_X0_rowsThenAt 2 = f_callV 0 3 1 := rfl
set_option maxRecDepth 8000 in
theorem e_X0_rowsThenAt_5 : tabF k_X0_rowsThenAt 5 = f_if0 cEq cNe 17 := rfl
set_option maxRecDepth 8000 in
theorem e_X0_rowsThenAt_8 : tabF k_X0_rowsThenAt 8 = f_loadR 0 1 := rfl
set_option maxRecDepth 8000 in
theorem e_X0_rowsThenAt_9 : tabF k_X0_rowsThenAt 9 = f_getR 0 1 (fun i => 11) := rfl
set_option maxRecDepth 8000 in
theorem e_X0_rowsThenAt_12 : tabF k_X0_rowsThenAt 12 = f_loadI 1 1 := rfl
set_option maxRecDepth 8000 in
theorem e_X0_rowsThenAt_13 : tabF k_X0_rowsThenAt 13 = f_iald := rfl
set_option maxRecDepth 8000 in
theorem e_X0_rowsThenAt_14 : tabF k_X0_rowsThenAt 14 = f_goto 18 := rfl
set_option maxRecDepth 8000 in
theorem e_X0_rowsThenAt_17 : tabF k_X0_rowsThenAt 17 = f_push 0 1 := rfl
set_option maxRecDepth 8000 in
theorem e_X0_rowsThenAt_18 : tabF k_X0_rowsThenAt 18 = f_iret := rfl
set_option maxRecDepth 8000 in
theorem e_X1_lay_0 : tabF k_X1_lay 0 = f_loadI 2 1 := rfl
set_option maxRecDepth 8000 in
theorem e_X1_lay_1 : tabF k_X1_lay 1 = f_push (-1) 1 := rfl
set_option maxRecDepth 8000 in
theorem e_X1_lay_2 : tabF k_X1_lay 2 = f_icmp cEq cNe 16 := rfl
set_option maxRecDepth 8000 in
theorem e_X1_lay_5 : tabF k_X1_lay 5 = f_loadR 0 1 := rfl
set_option maxRecDepth 8000 in
theorem e_X1_lay_6 : tabF k_X1_lay 6 = f_loadI 2 1 := rfl
set_option maxRecDepth 8000 in
theorem e_X1_lay_7 : tabF k_X1_lay 7 = f_loadI 1 1 := rfl
set_option maxRecDepth 8000 in
theorem e_X1_lay_8 : tabF k_X1_lay 8 = f_callV 1 9 2 := rfl
set_option maxRecDepth 8000 in
theorem e_X1_lay_11 : tabF k_X1_lay 11 = f_if0 cEq cNe 16 := rfl
set_option maxRecDepth 8000 in
theorem e_X1_lay_14 : tabF k_X1_lay 14 = f_push 0 1 := rfl
set_option maxRecDepth 8000 in
theorem e_X1_lay_15 : tabF k_X1_lay 15 = f_zret := rfl
set_option maxRecDepth 8000 in
theorem e_X1_lay_16 : tabF k_X1_lay 16 = f_loadR 0 1 := rfl
set_option maxRecDepth 8000 in
theorem e_X1_lay_17 : tabF k_X1_lay 17 = f_getR 1 1 (fun i => 3) := rfl
set_option maxRecDepth 8000 in
theorem e_X1_lay_20 : tabF k_X1_lay 20 = f_loadI 1 1 := rfl
set_option maxRecDepth 8000 in
theorem e_X1_lay_21 : tabF k_X1_lay 21 = f_loadI 2 1 := rfl
set_option maxRecDepth 8000 in
theorem e_X1_lay_22 : tabF k_X1_lay 22 = f_iast := rfl
set_option maxRecDepth 8000 in
theorem e_X1_lay_23 : tabF k_X1_lay 23 = f_push 0 1 := rfl
set_option maxRecDepth 8000 in
theorem e_X1_lay_24 : tabF k_X1_lay 24 = f_storeI 3 1 := rfl
set_option maxRecDepth 8000 in
theorem e_X1_lay_25 : tabF k_X1_lay 25 = f_loadI 3 1 := rfl
set_option maxRecDepth 8000 in
theorem e_X1_lay_26 : tabF k_X1_lay 26 = f_push 16 2 := rfl
set_option maxRecDepth 8000 in
theorem e_X1_lay_28 : tabF k_X1_lay 28 = f_icmp cGe cLt 48 := rfl
set_option maxRecDepth 8000 in
theorem e_X1_lay_31 : tabF k_X1_lay 31 = f_loadR 0 1 := rfl
set_option maxRecDepth 8000 in
theorem e_X1_lay_32 : tabF k_X1_lay 32 = f_getR 1 0 (fun i => 2) := rfl
set_option maxRecDepth 8000 in
theorem e_X1_lay_35 : tabF k_X1_lay 35 = f_loadI 3 1 := rfl
set_option maxRecDepth 8000 in
theorem e_X1_lay_36 : tabF k_X1_lay 36 = f_loadR 0 1 := rfl
set_option maxRecDepth 8000 in
theorem e_X1_lay_37 : tabF k_X1_lay 37 = f_loadI 3 1 := rfl
set_option maxRecDepth 8000 in
theorem e_X1_lay_38 : tabF k_X1_lay 38 = f_callV 1 8 1 := rfl
set_option maxRecDepth 8000 in
theorem e_X1_lay_41 : tabF k_X1_lay 41 = f_iast := rfl
set_option maxRecDepth 8000 in
theorem e_X1_lay_42 : tabF k_X1_lay 42 = f_iinc 3 1 := rfl
set_option maxRecDepth 8000 in
theorem e_X1_lay_45 : tabF k_X1_lay 45 = f_goto 25 := rfl
set_option maxRecDepth 8000 in
theorem e_X1_lay_48 : tabF k_X1_lay 48 = f_push 1 1 := rfl
set_option maxRecDepth 8000 in
theorem e_X1_lay_49 : tabF k_X1_lay 49 = f_zret := rfl
set_option maxRecDepth 8000 in
theorem e_X1_climb_0 : tabF k_X1_climb 0 = f_push 0 1 := rfl
set_option maxRecDepth 8000 in
theorem e_X1_climb_1 : tabF k_X1_climb 1 = f_storeI 2 1 := rfl
set_option maxRecDepth 8000 in
theorem e_X1_climb_2 : tabF k_X1_climb 2 = f_loadI 1 1 := rfl
set_option maxRecDepth 8000 in
theorem e_X1_climb_3 : tabF k_X1_climb 3 = f_storeI 3 1 := rfl
set_option maxRecDepth 8000 in
theorem e_X1_climb_4 : tabF k_X1_climb 4 = f_push 0 1 := rfl
set_option maxRecDepth 8000 in
theorem e_X1_climb_5 : tabF k_X1_climb 5 = f_storeI 4 2 := rfl
set_option maxRecDepth 8000 in
theorem e_X1_climb_7 : tabF k_X1_climb 7 = f_loadI 4 2 := rfl
set_option maxRecDepth 8000 in
theorem e_X1_climb_9 : tabF k_X1_climb 9 = f_push 16 2 := rfl
set_option maxRecDepth 8000 in
theorem e_X1_climb_11 : tabF k_X1_climb 11 = f_icmp cGe cLt 38 := rfl
set_option maxRecDepth 8000 in
theorem e_X1_climb_14 : tabF k_X1_climb 14 = f_loadI 3 1 := rfl
set_option maxRecDepth 8000 in
theorem e_X1_climb_15 : tabF k_X1_climb 15 = f_push (-1) 1 := rfl
set_option maxRecDepth 8000 in
theorem e_X1_climb_16 : tabF k_X1_climb 16 = f_icmp cEq cNe 38 := rfl
set_option maxRecDepth 8000 in
theorem e_X1_climb_19 : tabF k_X1_climb 19 = f_loadI 2 1 := rfl
set_option maxRecDepth 8000 in
theorem e_X1_climb_20 : tabF k_X1_climb 20 = f_push 1 1 := rfl
set_option maxRecDepth 8000 in
theorem e_X1_climb_21 : tabF k_X1_climb 21 = f_loadI 3 1 := rfl
set_option maxRecDepth 8000 in
theorem e_X1_climb_22 : tabF k_X1_climb 22 = f_shl := rfl
set_option maxRecDepth 8000 in
theorem e_X1_climb_23 : tabF k_X1_climb 23 = f_or := rfl
set_option maxRecDepth 8000 in
theorem e_X1_climb_24 : tabF k_X1_climb 24 = f_storeI 2 1 := rfl
set_option maxRecDepth 8000 in
theorem e_X1_climb_25 : tabF k_X1_climb 25 = f_loadR 0 1 := rfl
set_option maxRecDepth 8000 in
theorem e_X1_climb_26 : tabF k_X1_climb 26 = f_getR 1 1 (fun i => 3) := rfl
set_option maxRecDepth 8000 in
theorem e_X1_climb_29 : tabF k_X1_climb 29 = f_loadI 3 1 := rfl
set_option maxRecDepth 8000 in
theorem e_X1_climb_30 : tabF k_X1_climb 30 = f_iald := rfl
set_option maxRecDepth 8000 in
theorem e_X1_climb_31 : tabF k_X1_climb 31 = f_storeI 3 1 := rfl
set_option maxRecDepth 8000 in
theorem e_X1_climb_32 : tabF k_X1_climb 32 = f_iinc 4 1 := rfl
set_option maxRecDepth 8000 in
theorem e_X1_climb_35 : tabF k_X1_climb 35 = f_goto 7 := rfl
set_option maxRecDepth 8000 in
theorem e_X1_climb_38 : tabF k_X1_climb 38 = f_loadI 2 1 := rfl
set_option maxRecDepth 8000 in
theorem e_X1_climb_39 : tabF k_X1_climb 39 = f_iret := rfl
set_option maxRecDepth 8000 in
theorem e_X1_is_0 : tabF k_X1_is 0 = f_loadR 0 1 := rfl
set_option maxRecDepth 8000 in
theorem e_X1_is_1 : tabF k_X1_is 1 = f_getR 1 0 (fun i => 2) := rfl
set_option maxRecDepth 8000 in
theorem e_X1_is_4 : tabF k_X1_is 4 = f_loadI 1 1 := rfl
set_option maxRecDepth 8000 in
theorem e_X1_is_5 : tabF k_X1_is 5 = f_iald := rfl
set_option maxRecDepth 8000 in
theorem e_X1_is_6 : tabF k_X1_is 6 = f_loadI 2 1 := rfl
set_option maxRecDepth 8000 in
theorem e_X1_is_7 : tabF k_X1_is 7 = f_shr := rfl
set_option maxRecDepth 8000 in
theorem e_X1_is_8 : tabF k_X1_is 8 = f_push 1 1 := rfl
set_option maxRecDepth 8000 in
theorem e_X1_is_9 : tabF k_X1_is 9 = f_and := rfl
set_option maxRecDepth 8000 in
theorem e_X1_is_10 : tabF k_X1_is 10 = f_if0 cEq cNe 17 := rfl
set_option maxRecDepth 8000 in
theorem e_X1_is_13 : tabF k_X1_is 13 = f_push 1 1 := rfl
set_option maxRecDepth 8000 in
theorem e_X1_is_14 : tabF k_X1_is 14 = f_goto 18 := rfl
set_option maxRecDepth 8000 in
theorem e_X1_is_17 : tabF k_X1_is 17 = f_push 0 1 := rfl
set_option maxRecDepth 8000 in
theorem e_X1_is_18 : tabF k_X1_is 18 = f_zret := rfl
set_option maxRecDepth 8000 in
theorem e_X1_liesJustUnder_0 : tabF k_X1_liesJustUnder 0 = f_loadR 0 1 := rfl
set_option maxRecDepth 8000 in
theorem e_X1_liesJustUnder_1 : tabF k_X1_liesJustUnder 1 = f_getR 1 1 (fun i => 3) := rfl
set_option maxRecDepth 8000 in
theorem e_X1_liesJustUnder_4 : tabF k_X1_liesJustUnder 4 = f_loadI 1 1 := rfl
set_option maxRecDepth 8000 in
theorem e_X1_liesJustUnder_5 : tabF k_X1_liesJustUnder 5 = f_iald := rfl
set_option maxRecDepth 8000 in
theorem e_X1_liesJustUnder_6 : tabF k_X1_liesJustUnder 6 = f_loadI 2 1 := rfl
set_option maxRecDepth 8000 in
theorem e_X1_liesJustUnder_7 : tabF k_X1_liesJustUnder 7 = f_icmp cNe cEq 14 := rfl
set_option maxRecDepth 8000 in
theorem e_X1_liesJustUnder_10 : tabF k_X1_liesJustUnder 10 = f_push 1 1 := rfl
set_option maxRecDepth 8000 in
theorem e_X1_liesJustUnder_11 : tabF k_X1_liesJustUnder 11 = f_goto 15 := rfl
set_option maxRecDepth 8000 in
theorem e_X1_liesJustUnder_14 : tabF k_X1_liesJustUnder 14 = f_push 0 1 := rfl
set_option maxRecDepth 8000 in
theorem e_X1_liesJustUnder_15 : tabF k_X1_liesJustUnder 15 = f_zret := rfl
set_option maxRecDepth 8000 in
theorem e_X2_takeUp_0 : tabF k_X2_takeUp 0 = f_loadR 0 1 := rfl
set_option maxRecDepth 8000 in
theorem e_X2_takeUp_1 : tabF k_X2_takeUp 1 = f_loadI 1 1 := rfl
set_option maxRecDepth 8000 in
theorem e_X2_takeUp_2 : tabF k_X2_takeUp 2 = f_callS 27 1 := rfl
set_option maxRecDepth 8000 in
theorem e_X2_takeUp_5 : tabF k_X2_takeUp 5 = f_putI 2 3 := rfl
set_option maxRecDepth 8000 in
theorem e_X2_takeUp_8 : tabF k_X2_takeUp 8 = f_push 0 1 := rfl
set_option maxRecDepth 8000 in
theorem e_X2_takeUp_9 : tabF k_X2_takeUp 9 = f_storeI 2 1 := rfl
set_option maxRecDepth 8000 in
theorem e_X2_takeUp_10 : tabF k_X2_takeUp 10 = f_loadI 2 1 := rfl
set_option maxRecDepth 8000 in
theorem e_X2_takeUp_11 : tabF k_X2_takeUp 11 = f_push 16 2 := rfl
set_option maxRecDepth 8000 in
theorem e_X2_takeUp_13 : tabF k_X2_takeUp 13 = f_icmp cGe cLt 89 := rfl
set_option maxRecDepth 8000 in
theorem e_X2_takeUp_16 : tabF k_X2_takeUp 16 = f_loadR 0 1 := rfl
set_option maxRecDepth 8000 in
theorem e_X2_takeUp_17 : tabF k_X2_takeUp 17 = f_getR 2 2 (fun i => 1) := rfl
set_option maxRecDepth 8000 in
theorem e_X2_takeUp_20 : tabF k_X2_takeUp 20 = f_getR 1 0 (fun i => 2) := rfl
set_option maxRecDepth 8000 in
theorem e_X2_takeUp_23 : tabF k_X2_takeUp 23 = f_loadI 2 1 := rfl
set_option maxRecDepth 8000 in
theorem e_X2_takeUp_24 : tabF k_X2_takeUp 24 = f_iald := rfl
set_option maxRecDepth 8000 in
theorem e_X2_takeUp_25 : tabF k_X2_takeUp 25 = f_storeI 3 1 := rfl
set_option maxRecDepth 8000 in
theorem e_X2_takeUp_26 : tabF k_X2_takeUp 26 = f_loadI 1 1 := rfl
set_option maxRecDepth 8000 in
theorem e_X2_takeUp_27 : tabF k_X2_takeUp 27 = f_storeI 4 2 := rfl
set_option maxRecDepth 8000 in
theorem e_X2_takeUp_29 : tabF k_X2_takeUp 29 = f_loadR 0 1 := rfl
set_option maxRecDepth 8000 in
theorem e_X2_takeUp_30 : tabF k_X2_takeUp 30 = f_getR 2 4 (fun i => 5) := rfl
set_option maxRecDepth 8000 in
theorem e_X2_takeUp_33 : tabF k_X2_takeUp 33 = f_loadI 2 1 := rfl
set_option maxRecDepth 8000 in
theorem e_X2_takeUp_34 : tabF k_X2_takeUp 34 = f_push 0 1 := rfl
set_option maxRecDepth 8000 in
theorem e_X2_takeUp_35 : tabF k_X2_takeUp 35 = f_iast := rfl
set_option maxRecDepth 8000 in
theorem e_X2_takeUp_36 : tabF k_X2_takeUp 36 = f_loadR 0 1 := rfl
set_option maxRecDepth 8000 in
theorem e_X2_takeUp_37 : tabF k_X2_takeUp 37 = f_getI 2 3 := rfl
set_option maxRecDepth 8000 in
theorem e_X2_takeUp_40 : tabF k_X2_takeUp 40 = f_push 1 1 := rfl
set_option maxRecDepth 8000 in
theorem e_X2_takeUp_41 : tabF k_X2_takeUp 41 = f_sub := rfl
set_option maxRecDepth 8000 in
theorem e_X2_takeUp_42 : tabF k_X2_takeUp 42 = f_storeI 5 2 := rfl
set_option maxRecDepth 8000 in
theorem e_X2_takeUp_44 : tabF k_X2_takeUp 44 = f_loadI 5 2 := rfl
set_option maxRecDepth 8000 in
theorem e_X2_takeUp_46 : tabF k_X2_takeUp 46 = f_if0 cLt cGe 83 := rfl
set_option maxRecDepth 8000 in
theorem e_X2_takeUp_49 : tabF k_X2_takeUp 49 = f_loadR 0 1 := rfl
set_option maxRecDepth 8000 in
theorem e_X2_takeUp_50 : tabF k_X2_takeUp 50 = f_getR 2 4 (fun i => 5) := rfl
set_option maxRecDepth 8000 in
theorem e_X2_takeUp_53 : tabF k_X2_takeUp 53 = f_loadI 2 1 := rfl
set_option maxRecDepth 8000 in
theorem e_X2_takeUp_54 : tabF k_X2_takeUp 54 = f_dup2 := rfl
set_option maxRecDepth 8000 in
theorem e_X2_takeUp_55 : tabF k_X2_takeUp 55 = f_iald := rfl
set_option maxRecDepth 8000 in
theorem e_X2_takeUp_56 : tabF k_X2_takeUp 56 = f_loadI 3 1 := rfl
set_option maxRecDepth 8000 in
theorem e_X2_takeUp_57 : tabF k_X2_takeUp 57 = f_loadI 4 2 := rfl
set_option maxRecDepth 8000 in
theorem e_X2_takeUp_59 : tabF k_X2_takeUp 59 = f_callS 29 1 := rfl
set_option maxRecDepth 8000 in
theorem e_X2_takeUp_62 : tabF k_X2_takeUp 62 = f_shr := rfl
set_option maxRecDepth 8000 in
theorem e_X2_takeUp_63 : tabF k_X2_takeUp 63 = f_push 1 1 := rfl
set_option maxRecDepth 8000 in
theorem e_X2_takeUp_64 : tabF k_X2_takeUp 64 = f_and := rfl
set_option maxRecDepth 8000 in
theorem e_X2_takeUp_65 : tabF k_X2_takeUp 65 = f_loadI 5 2 := rfl
set_option maxRecDepth 8000 in
theorem e_X2_takeUp_67 : tabF k_X2_takeUp 67 = f_shl := rfl
set_option maxRecDepth 8000 in
theorem e_X2_takeUp_68 : tabF k_X2_takeUp 68 = f_or := rfl
set_option maxRecDepth 8000 in
theorem e_X2_takeUp_69 : tabF k_X2_takeUp 69 = f_iast := rfl
set_option maxRecDepth 8000 in
theorem e_X2_takeUp_70 : tabF k_X2_takeUp 70 = f_loadI 4 2 := rfl
set_option maxRecDepth 8000 in
theorem e_X2_takeUp_72 : tabF k_X2_takeUp 72 = f_callS 30 1 := rfl
set_option maxRecDepth 8000 in
theorem e_X2_takeUp_75 : tabF k_X2_takeUp 75 = f_storeI 4 2 := rfl
set_option maxRecDepth 8000 in
theorem e_X2_takeUp_77 : tabF k_X2_takeUp 77 = f_iinc 5 (-1) := rfl
set_option maxRecDepth 8000 in
theorem e_X2_takeUp_80 : tabF k_X2_takeUp 80 = f_goto 44 := rfl
set_option maxRecDepth 8000 in
theorem e_X2_takeUp_83 : tabF k_X2_takeUp 83 = f_iinc 2 1 := rfl
set_option maxRecDepth 8000 in
theorem e_X2_takeUp_86 : tabF k_X2_takeUp 86 = f_goto 10 := rfl
set_option maxRecDepth 8000 in
theorem e_X2_takeUp_89 : tabF k_X2_takeUp 89 = f_vret := rfl
set_option maxRecDepth 8000 in
theorem e_X2_isIn_0 : tabF k_X2_isIn 0 = f_loadR 0 1 := rfl
set_option maxRecDepth 8000 in
theorem e_X2_isIn_1 : tabF k_X2_isIn 1 = f_callV 2 15 0 := rfl
set_option maxRecDepth 8000 in
theorem e_X2_isIn_4 : tabF k_X2_isIn 4 = f_push 0 1 := rfl
set_option maxRecDepth 8000 in
theorem e_X2_isIn_5 : tabF k_X2_isIn 5 = f_storeI 2 1 := rfl
set_option maxRecDepth 8000 in
theorem e_X2_isIn_6 : tabF k_X2_isIn 6 = f_loadI 2 1 := rfl
set_option maxRecDepth 8000 in
theorem e_X2_isIn_7 : tabF k_X2_isIn 7 = f_loadR 1 1 := rfl
set_option maxRecDepth 8000 in
theorem e_X2_isIn_8 : tabF k_X2_isIn 8 = f_callV 3 35 0 := rfl
set_option maxRecDepth 8000 in
theorem e_X2_isIn_11 : tabF k_X2_isIn 11 = f_icmp cGe cLt 31 := rfl
set_option maxRecDepth 8000 in
theorem e_X2_isIn_14 : tabF k_X2_isIn 14 = f_loadR 0 1 := rfl
set_option maxRecDepth 8000 in
theorem e_X2_isIn_15 : tabF k_X2_isIn 15 = f_loadR 1 1 := rfl
set_option maxRecDepth 8000 in
theorem e_X2_isIn_16 : tabF k_X2_isIn 16 = f_loadI 2 1 := rfl
set_option maxRecDepth 8000 in
theorem e_X2_isIn_17 : tabF k_X2_isIn 17 = f_callV 2 16 2 := rfl
set_option maxRecDepth 8000 in
theorem e_X2_isIn_20 : tabF k_X2_isIn 20 = f_if0 cEq cNe 25 := rfl
set_option maxRecDepth 8000 in
theorem e_X2_isIn_23 : tabF k_X2_isIn 23 = f_push 1 1 := rfl
set_option maxRecDepth 8000 in
theorem e_X2_isIn_24 : tabF k_X2_isIn 24 = f_zret := rfl
set_option maxRecDepth 8000 in
theorem e_X2_isIn_25 : tabF k_X2_isIn 25 = f_iinc 2 1 := rfl
set_option maxRecDepth 8000 in
theorem e_X2_isIn_28 : tabF k_X2_isIn 28 = f_goto 6 := rfl
set_option maxRecDepth 8000 in
theorem e_X2_isIn_31 : tabF k_X2_isIn 31 = f_push 0 1 := rfl
set_option maxRecDepth 8000 in
theorem e_X2_isIn_32 : tabF k_X2_isIn 32 = f_zret := rfl
set_option maxRecDepth 8000 in
theorem e_X2_lastEnd_0 : tabF k_X2_lastEnd 0 = f_loadR 0 1 := rfl
set_option maxRecDepth 8000 in
theorem e_X2_lastEnd_1 : tabF k_X2_lastEnd 1 = f_callV 2 15 0 := rfl
set_option maxRecDepth 8000 in
theorem e_X2_lastEnd_4 : tabF k_X2_lastEnd 4 = f_push (-1) 1 := rfl
set_option maxRecDepth 8000 in
theorem e_X2_lastEnd_5 : tabF k_X2_lastEnd 5 = f_storeI 2 1 := rfl
set_option maxRecDepth 8000 in
theorem e_X2_lastEnd_6 : tabF k_X2_lastEnd 6 = f_push 0 1 := rfl
set_option maxRecDepth 8000 in
theorem e_X2_lastEnd_7 : tabF k_X2_lastEnd 7 = f_storeI 3 1 := rfl
set_option maxRecDepth 8000 in
theorem e_X2_lastEnd_8 : tabF k_X2_lastEnd 8 = f_loadI 3 1 := rfl
set_option maxRecDepth 8000 in
theorem e_X2_lastEnd_9 : tabF k_X2_lastEnd 9 = f_loadR 1 1 := rfl
set_option maxRecDepth 8000 in
theorem e_X2_lastEnd_10 : tabF k_X2_lastEnd 10 = f_callV 3 35 0 := rfl
set_option maxRecDepth 8000 in
theorem e_X2_lastEnd_13 : tabF k_X2_lastEnd 13 = f_icmp cGe cLt 37 := rfl
set_option maxRecDepth 8000 in
theorem e_X2_lastEnd_16 : tabF k_X2_lastEnd 16 = f_loadR 0 1 := rfl
set_option maxRecDepth 8000 in
theorem e_X2_lastEnd_17 : tabF k_X2_lastEnd 17 = f_loadR 1 1 := rfl
set_option maxRecDepth 8000 in
theorem e_X2_lastEnd_18 : tabF k_X2_lastEnd 18 = f_loadI 3 1 := rfl
set_option maxRecDepth 8000 in
theorem e_X2_lastEnd_19 : tabF k_X2_lastEnd 19 = f_callV 2 16 2 := rfl
set_option maxRecDepth 8000 in
theorem e_X2_lastEnd_22 : tabF k_X2_lastEnd 22 = f_if0 cEq cNe 31 := rfl
set_option maxRecDepth 8000 in
theorem e_X2_lastEnd_25 : tabF k_X2_lastEnd 25 = f_loadR 1 1 := rfl
set_option maxRecDepth 8000 in
theorem e_X2_lastEnd_26 : tabF k_X2_lastEnd 26 = f_loadI 3 1 := rfl
set_option maxRecDepth 8000 in
theorem e_X2_lastEnd_27 : tabF k_X2_lastEnd 27 = f_callV 3 36 1 := rfl
set_option maxRecDepth 8000 in
theorem e_X2_lastEnd_30 : tabF k_X2_lastEnd 30 = f_storeI 2 1 := rfl
set_option maxRecDepth 8000 in
theorem e_X2_lastEnd_31 : tabF k_X2_lastEnd 31 = f_iinc 3 1 := rfl
set_option maxRecDepth 8000 in
theorem e_X2_lastEnd_34 : tabF k_X2_lastEnd 34 = f_goto 8 := rfl
set_option maxRecDepth 8000 in
theorem e_X2_lastEnd_37 : tabF k_X2_lastEnd 37 = f_loadI 2 1 := rfl
set_option maxRecDepth 8000 in
theorem e_X2_lastEnd_38 : tabF k_X2_lastEnd 38 = f_iret := rfl
set_option maxRecDepth 8000 in
theorem e_X2_kindsBehind_0 : tabF k_X2_kindsBehind 0 = f_loadR 0 1 := rfl
set_option maxRecDepth 8000 in
theorem e_X2_kindsBehind_1 : tabF k_X2_kindsBehind 1 = f_callV 2 15 0 := rfl
set_option maxRecDepth 8000 in
theorem e_X2_kindsBehind_4 : tabF k_X2_kindsBehind 4 = f_push 0 1 := rfl
set_option maxRecDepth 8000 in
theorem e_X2_kindsBehind_5 : tabF k_X2_kindsBehind 5 = f_storeI 2 1 := rfl
set_option maxRecDepth 8000 in
theorem e_X2_kindsBehind_6 : tabF k_X2_kindsBehind 6 = f_push 0 1 := rfl
set_option maxRecDepth 8000 in
theorem e_X2_kindsBehind_7 : tabF k_X2_kindsBehind 7 = f_storeI 3 1 := rfl
set_option maxRecDepth 8000 in
theorem e_X2_kindsBehind_8 : tabF k_X2_kindsBehind 8 = f_loadI 3 1 := rfl
set_option maxRecDepth 8000 in
theorem e_X2_kindsBehind_9 : tabF k_X2_kindsBehind 9 = f_loadR 1 1 := rfl
set_option maxRecDepth 8000 in
theorem e_X2_kindsBehind_10 : tabF k_X2_kindsBehind 10 = f_callV 3 35 0 := rfl
set_option maxRecDepth 8000 in
theorem e_X2_kindsBehind_13 : tabF k_X2_kindsBehind 13 = f_icmp cGe cLt 60 := rfl
set_option maxRecDepth 8000 in
theorem e_X2_kindsBehind_16 : tabF k_X2_kindsBehind 16 = f_loadR 0 1 := rfl
set_option maxRecDepth 8000 in
theorem e_X2_kindsBehind_17 : tabF k_X2_kindsBehind 17 = f_loadR 0 1 := rfl
set_option maxRecDepth 8000 in
theorem e_X2_kindsBehind_18 : tabF k_X2_kindsBehind 18 = f_getI 2 3 := rfl
set_option maxRecDepth 8000 in
theorem e_X2_kindsBehind_21 : tabF k_X2_kindsBehind 21 = f_loadR 1 1 := rfl
set_option maxRecDepth 8000 in
theorem e_X2_kindsBehind_22 : tabF k_X2_kindsBehind 22 = f_loadI 3 1 := rfl
set_option maxRecDepth 8000 in
theorem e_X2_kindsBehind_23 : tabF k_X2_kindsBehind 23 = f_callV 3 36 1 := rfl
set_option maxRecDepth 8000 in
theorem e_X2_kindsBehind_26 : tabF k_X2_kindsBehind 26 = f_callV 2 17 2 := rfl
set_option maxRecDepth 8000 in
theorem e_X2_kindsBehind_29 : tabF k_X2_kindsBehind 29 = f_if0 cEq cNe 47 := rfl
set_option maxRecDepth 8000 in
theorem e_X2_kindsBehind_32 : tabF k_X2_kindsBehind 32 = f_loadI 2 1 := rfl
set_option maxRecDepth 8000 in
theorem e_X2_kindsBehind_33 : tabF k_X2_kindsBehind 33 = f_loadR 1 1 := rfl
set_option maxRecDepth 8000 in
theorem e_X2_kindsBehind_34 : tabF k_X2_kindsBehind 34 = f_loadI 3 1 := rfl
set_option maxRecDepth 8000 in
theorem e_X2_kindsBehind_35 : tabF k_X2_kindsBehind 35 = f_loadR 0 1 := rfl
set_option maxRecDepth 8000 in
theorem e_X2_kindsBehind_36 : tabF k_X2_kindsBehind 36 = f_getR 2 2 (fun i => 1) := rfl
set_option maxRecDepth 8000 in
theorem e_X2_kindsBehind_39 : tabF k_X2_kindsBehind 39 = f_getR 1 0 (fun i => 2) := rfl
set_option maxRecDepth 8000 in
theorem e_X2_kindsBehind_42 : tabF k_X2_kindsBehind 42 = f_callV 3 38 2 := rfl
set_option maxRecDepth 8000 in
theorem e_X2_kindsBehind_45 : tabF k_X2_kindsBehind 45 = f_or := rfl
set_option maxRecDepth 8000 in
theorem e_X2_kindsBehind_46 : tabF k_X2_kindsBehind 46 = f_storeI 2 1 := rfl
set_option maxRecDepth 8000 in
theorem e_X2_kindsBehind_47 : tabF k_X2_kindsBehind 47 = f_loadR 0 1 := rfl
set_option maxRecDepth 8000 in
theorem e_X2_kindsBehind_48 : tabF k_X2_kindsBehind 48 = f_loadR 1 1 := rfl
set_option maxRecDepth 8000 in
theorem e_X2_kindsBehind_49 : tabF k_X2_kindsBehind 49 = f_loadI 3 1 := rfl
set_option maxRecDepth 8000 in
theorem e_X2_kindsBehind_50 : tabF k_X2_kindsBehind 50 = f_callV 2 16 2 := rfl
set_option maxRecDepth 8000 in
theorem e_X2_kindsBehind_53 : tabF k_X2_kindsBehind 53 = f_pop := rfl
set_option maxRecDepth 8000 in
theorem e_X2_kindsBehind_54 : tabF k_X2_kindsBehind 54 = f_iinc 3 1 := rfl
set_option maxRecDepth 8000 in
theorem e_X2_kindsBehind_57 : tabF k_X2_kindsBehind 57 = f_goto 8 := rfl
set_option maxRecDepth 8000 in
theorem e_X2_kindsBehind_60 : tabF k_X2_kindsBehind 60 = f_loadI 2 1 := rfl
set_option maxRecDepth 8000 in
theorem e_X2_kindsBehind_61 : tabF k_X2_kindsBehind 61 = f_iret := rfl
set_option maxRecDepth 8000 in
theorem e_X2_loseChains_0 : tabF k_X2_loseChains 0 = f_push 0 1 := rfl
set_option maxRecDepth 8000 in
theorem e_X2_loseChains_1 : tabF k_X2_loseChains 1 = f_storeI 1 1 := rfl
set_option maxRecDepth 8000 in
theorem e_X2_loseChains_2 : tabF k_X2_loseChains 2 = f_loadI 1 1 := rfl
set_option maxRecDepth 8000 in
theorem e_X2_loseChains_3 : tabF k_X2_loseChains 3 = f_push 4 1 := rfl
set_option maxRecDepth 8000 in
theorem e_X2_loseChains_4 : tabF k_X2_loseChains 4 = f_icmp cGe cLt 27 := rfl
set_option maxRecDepth 8000 in
theorem e_X2_loseChains_7 : tabF k_X2_loseChains 7 = f_loadR 0 1 := rfl
set_option maxRecDepth 8000 in
theorem e_X2_loseChains_8 : tabF k_X2_loseChains 8 = f_getR 2 5 (fun i => 6) := rfl
set_option maxRecDepth 8000 in
theorem e_X2_loseChains_11 : tabF k_X2_loseChains 11 = f_loadI 1 1 := rfl
set_option maxRecDepth 8000 in
theorem e_X2_loseChains_12 : tabF k_X2_loseChains 12 = f_push (-1) 1 := rfl
set_option maxRecDepth 8000 in
theorem e_X2_loseChains_13 : tabF k_X2_loseChains 13 = f_iast := rfl
set_option maxRecDepth 8000 in
theorem e_X2_loseChains_14 : tabF k_X2_loseChains 14 = f_loadR 0 1 := rfl
set_option maxRecDepth 8000 in
theorem e_X2_loseChains_15 : tabF k_X2_loseChains 15 = f_getR 2 6 (fun i => 7) := rfl
set_option maxRecDepth 8000 in
theorem e_X2_loseChains_18 : tabF k_X2_loseChains 18 = f_loadI 1 1 := rfl
set_option maxRecDepth 8000 in
theorem e_X2_loseChains_19 : tabF k_X2_loseChains 19 = f_push (-1) 1 := rfl
set_option maxRecDepth 8000 in
theorem e_X2_loseChains_20 : tabF k_X2_loseChains 20 = f_iast := rfl
set_option maxRecDepth 8000 in
theorem e_X2_loseChains_21 : tabF k_X2_loseChains 21 = f_iinc 1 1 := rfl
set_option maxRecDepth 8000 in
theorem e_X2_loseChains_24 : tabF k_X2_loseChains 24 = f_goto 2 := rfl
set_option maxRecDepth 8000 in
theorem e_X2_loseChains_27 : tabF k_X2_loseChains 27 = f_vret := rfl
set_option maxRecDepth 8000 in
theorem e_X2_endsMatch_0 : tabF k_X2_endsMatch 0 = f_loadR 1 1 := rfl
set_option maxRecDepth 8000 in
theorem e_X2_endsMatch_1 : tabF k_X2_endsMatch 1 = f_loadI 2 1 := rfl
set_option maxRecDepth 8000 in
theorem e_X2_endsMatch_2 : tabF k_X2_endsMatch 2 = f_loadR 0 1 := rfl
set_option maxRecDepth 8000 in
theorem e_X2_endsMatch_3 : tabF k_X2_endsMatch 3 = f_getR 2 4 (fun i => 5) := rfl
set_option maxRecDepth 8000 in
theorem e_X2_endsMatch_6 : tabF k_X2_endsMatch 6 = f_callV 3 38 2 := rfl
set_option maxRecDepth 8000 in
theorem e_X2_endsMatch_9 : tabF k_X2_endsMatch 9 = f_storeI 3 1 := rfl
set_option maxRecDepth 8000 in
theorem e_X2_endsMatch_10 : tabF k_X2_endsMatch 10 = f_loadR 1 1 := rfl
set_option maxRecDepth 8000 in
theorem e_X2_endsMatch_11 : tabF k_X2_endsMatch 11 = f_loadI 2 1 := rfl
set_option maxRecDepth 8000 in
theorem e_X2_endsMatch_12 : tabF k_X2_endsMatch 12 = f_callV 3 36 1 := rfl
set_option maxRecDepth 8000 in
theorem e_X2_endsMatch_15 : tabF k_X2_endsMatch 15 = f_storeI 4 2 := rfl
set_option maxRecDepth 8000 in
theorem e_X2_endsMatch_17 : tabF k_X2_endsMatch 17 = f_push 0 1 := rfl
set_option maxRecDepth 8000 in
theorem e_X2_endsMatch_18 : tabF k_X2_endsMatch 18 = f_storeI 5 2 := rfl
set_option maxRecDepth 8000 in
theorem e_X2_endsMatch_20 : tabF k_X2_endsMatch 20 = f_loadR 0 1 := rfl
set_option maxRecDepth 8000 in
theorem e_X2_endsMatch_21 : tabF k_X2_endsMatch 21 = f_getI 2 3 := rfl
set_option maxRecDepth 8000 in
theorem e_X2_endsMatch_24 : tabF k_X2_endsMatch 24 = f_push 1 1 := rfl
set_option maxRecDepth 8000 in
theorem e_X2_endsMatch_25 : tabF k_X2_endsMatch 25 = f_sub := rfl
set_option maxRecDepth 8000 in
theorem e_X2_endsMatch_26 : tabF k_X2_endsMatch 26 = f_storeI 6 2 := rfl
set_option maxRecDepth 8000 in
theorem e_X2_endsMatch_28 : tabF k_X2_endsMatch 28 = f_loadI 3 1 := rfl
set_option maxRecDepth 8000 in
theorem e_X2_endsMatch_29 : tabF k_X2_endsMatch 29 = f_if0 cEq cNe 119 := rfl
set_option maxRecDepth 8000 in
theorem e_X2_endsMatch_32 : tabF k_X2_endsMatch 32 = f_loadI 6 2 := rfl
set_option maxRecDepth 8000 in
theorem e_X2_endsMatch_34 : tabF k_X2_endsMatch 34 = f_if0 cLt cGe 119 := rfl
set_option maxRecDepth 8000 in
theorem e_X2_endsMatch_37 : tabF k_X2_endsMatch 37 = f_loadI 3 1 := rfl
set_option maxRecDepth 8000 in
theorem e_X2_endsMatch_38 : tabF k_X2_endsMatch 38 = f_loadI 6 2 := rfl
set_option maxRecDepth 8000 in
theorem e_X2_endsMatch_40 : tabF k_X2_endsMatch 40 = f_shr := rfl
set_option maxRecDepth 8000 in
theorem e_X2_endsMatch_41 : tabF k_X2_endsMatch 41 = f_push 1 1 := rfl
set_option maxRecDepth 8000 in
theorem e_X2_endsMatch_42 : tabF k_X2_endsMatch 42 = f_and := rfl
set_option maxRecDepth 8000 in
theorem e_X2_endsMatch_43 : tabF k_X2_endsMatch 43 = f_if0 cEq cNe 113 := rfl
set_option maxRecDepth 8000 in
theorem e_X2_endsMatch_46 : tabF k_X2_endsMatch 46 = f_loadR 0 1 := rfl
set_option maxRecDepth 8000 in
theorem e_X2_endsMatch_47 : tabF k_X2_endsMatch 47 = f_loadI 6 2 := rfl
set_option maxRecDepth 8000 in
theorem e_X2_endsMatch_49 : tabF k_X2_endsMatch 49 = f_loadI 4 2 := rfl
set_option maxRecDepth 8000 in
theorem e_X2_endsMatch_51 : tabF k_X2_endsMatch 51 = f_callV 2 17 2 := rfl
set_option maxRecDepth 8000 in
theorem e_X2_endsMatch_54 : tabF k_X2_endsMatch 54 = f_if0 cEq cNe 113 := rfl
set_option maxRecDepth 8000 in
theorem e_X2_endsMatch_57 : tabF k_X2_endsMatch 57 = f_loadR 0 1 := rfl
set_option maxRecDepth 8000 in
theorem e_X2_endsMatch_58 : tabF k_X2_endsMatch 58 = f_getR 2 5 (fun i => 6) := rfl
set_option maxRecDepth 8000 in
theorem e_X2_endsMatch_61 : tabF k_X2_endsMatch 61 = f_loadI 6 2 := rfl
set_option maxRecDepth 8000 in
theorem e_X2_endsMatch_63 : tabF k_X2_endsMatch 63 = f_loadI 6 2 := rfl
set_option maxRecDepth 8000 in
theorem e_X2_endsMatch_65 : tabF k_X2_endsMatch 65 = f_if0 cNe cEq 73 := rfl
set_option maxRecDepth 8000 in
theorem e_X2_endsMatch_68 : tabF k_X2_endsMatch 68 = f_loadI 4 2 := rfl
set_option maxRecDepth 8000 in
theorem e_X2_endsMatch_70 : tabF k_X2_endsMatch 70 = f_goto 82 := rfl
set_option maxRecDepth 8000 in
theorem e_X2_endsMatch_73 : tabF k_X2_endsMatch 73 = f_loadR 0 1 := rfl
set_option maxRecDepth 8000 in
theorem e_X2_endsMatch_74 : tabF k_X2_endsMatch 74 = f_getR 2 5 (fun i => 6) := rfl
set_option maxRecDepth 8000 in
theorem e_X2_endsMatch_77 : tabF k_X2_endsMatch 77 = f_loadI 6 2 := rfl
set_option maxRecDepth 8000 in
theorem e_X2_endsMatch_79 : tabF k_X2_endsMatch 79 = f_push 1 1 := rfl
set_option maxRecDepth 8000 in
theorem e_X2_endsMatch_80 : tabF k_X2_endsMatch 80 = f_sub := rfl
set_option maxRecDepth 8000 in
theorem e_X2_endsMatch_81 : tabF k_X2_endsMatch 81 = f_iald := rfl
set_option maxRecDepth 8000 in
theorem e_X2_endsMatch_82 : tabF k_X2_endsMatch 82 = f_iast := rfl
set_option maxRecDepth 8000 in
theorem e_X2_endsMatch_83 : tabF k_X2_endsMatch 83 = f_loadR 0 1 := rfl
set_option maxRecDepth 8000 in
theorem e_X2_endsMatch_84 : tabF k_X2_endsMatch 84 = f_getR 2 6 (fun i => 7) := rfl
set_option maxRecDepth 8000 in
theorem e_X2_endsMatch_87 : tabF k_X2_endsMatch 87 = f_loadI 6 2 := rfl
set_option maxRecDepth 8000 in
theorem e_X2_endsMatch_89 : tabF k_X2_endsMatch 89 = f_loadI 4 2 := rfl
set_option maxRecDepth 8000 in
theorem e_X2_endsMatch_91 : tabF k_X2_endsMatch 91 = f_iast := rfl
set_option maxRecDepth 8000 in
theorem e_X2_endsMatch_92 : tabF k_X2_endsMatch 92 = f_loadI 5 2 := rfl
set_option maxRecDepth 8000 in
theorem e_X2_endsMatch_94 : tabF k_X2_endsMatch 94 = f_loadI 6 2 := rfl
set_option maxRecDepth 8000 in
theorem e_X2_endsMatch_96 : tabF k_X2_endsMatch 96 = f_loadR 0 1 := rfl
set_option maxRecDepth 8000 in
theorem e_X2_endsMatch_97 : tabF k_X2_endsMatch 97 = f_getI 2 3 := rfl
set_option maxRecDepth 8000 in
theorem e_X2_endsMatch_100 : tabF k_X2_endsMatch 100 = f_push 1 1 := rfl
set_option maxRecDepth 8000 in
theorem e_X2_endsMatch_101 : tabF k_X2_endsMatch 101 = f_sub := rfl
set_option maxRecDepth 8000 in
theorem e_X2_endsMatch_102 : tabF k_X2_endsMatch 102 = f_icmp cNe cEq 109 := rfl
set_option maxRecDepth 8000 in
theorem e_X2_endsMatch_105 : tabF k_X2_endsMatch 105 = f_push 1 1 := rfl
set_option maxRecDepth 8000 in
theorem e_X2_endsMatch_106 : tabF k_X2_endsMatch 106 = f_goto 110 := rfl
set_option maxRecDepth 8000 in
theorem e_X2_endsMatch_109 : tabF k_X2_endsMatch 109 = f_push 0 1 := rfl
set_option maxRecDepth 8000 in
theorem e_X2_endsMatch_110 : tabF k_X2_endsMatch 110 = f_or := rfl
set_option maxRecDepth 8000 in
theorem e_X2_endsMatch_111 : tabF k_X2_endsMatch 111 = f_storeI 5 2 := rfl
set_option maxRecDepth 8000 in
theorem e_X2_endsMatch_113 : tabF k_X2_endsMatch 113 = f_iinc 6 (-1) := rfl
set_option maxRecDepth 8000 in
theorem e_X2_endsMatch_116 : tabF k_X2_endsMatch 116 = f_goto 28 := rfl
set_option maxRecDepth 8000 in
theorem e_X2_endsMatch_119 : tabF k_X2_endsMatch 119 = f_loadI 5 2 := rfl
set_option maxRecDepth 8000 in
theorem e_X2_endsMatch_121 : tabF k_X2_endsMatch 121 = f_zret := rfl
set_option maxRecDepth 8000 in
theorem e_X2_canFollow_0 : tabF k_X2_canFollow 0 = f_loadI 1 1 := rfl
set_option maxRecDepth 8000 in
theorem e_X2_canFollow_1 : tabF k_X2_canFollow 1 = f_if0 cNe cEq 6 := rfl
set_option maxRecDepth 8000 in
theorem e_X2_canFollow_4 : tabF k_X2_canFollow 4 = f_push 1 1 := rfl
set_option maxRecDepth 8000 in
theorem e_X2_canFollow_5 : tabF k_X2_canFollow 5 = f_zret := rfl
set_option maxRecDepth 8000 in
theorem e_X2_canFollow_6 : tabF k_X2_canFollow 6 = f_loadI 1 1 := rfl
set_option maxRecDepth 8000 in
theorem e_X2_canFollow_7 : tabF k_X2_canFollow 7 = f_push 1 1 := rfl
set_option maxRecDepth 8000 in
theorem e_X2_canFollow_8 : tabF k_X2_canFollow 8 = f_sub := rfl
set_option maxRecDepth 8000 in
theorem e_X2_canFollow_9 : tabF k_X2_canFollow 9 = f_storeI 3 1 := rfl
set_option maxRecDepth 8000 in
theorem e_X2_canFollow_10 : tabF k_X2_canFollow 10 = f_loadR 0 1 := rfl
set_option maxRecDepth 8000 in
theorem e_X2_canFollow_11 : tabF k_X2_canFollow 11 = f_getR 2 6 (fun i => 7) := rfl
set_option maxRecDepth 8000 in
theorem e_X2_canFollow_14 : tabF k_X2_canFollow 14 = f_loadI 3 1 := rfl
set_option maxRecDepth 8000 in
theorem e_X2_canFollow_15 : tabF k_X2_canFollow 15 = f_iald := rfl
set_option maxRecDepth 8000 in
theorem e_X2_canFollow_16 : tabF k_X2_canFollow 16 = f_push (-1) 1 := rfl
set_option maxRecDepth 8000 in
theorem e_X2_canFollow_17 : tabF k_X2_canFollow 17 = f_icmp cEq cNe 54 := rfl
set_option maxRecDepth 8000 in
theorem e_X2_canFollow_20 : tabF k_X2_canFollow 20 = f_loadI 2 1 := rfl
set_option maxRecDepth 8000 in
theorem e_X2_canFollow_21 : tabF k_X2_canFollow 21 = f_loadR 0 1 := rfl
set_option maxRecDepth 8000 in
theorem e_X2_canFollow_22 : tabF k_X2_canFollow 22 = f_getR 2 6 (fun i => 7) := rfl
set_option maxRecDepth 8000 in
theorem e_X2_canFollow_25 : tabF k_X2_canFollow 25 = f_loadI 3 1 := rfl
set_option maxRecDepth 8000 in
theorem e_X2_canFollow_26 : tabF k_X2_canFollow 26 = f_iald := rfl
set_option maxRecDepth 8000 in
theorem e_X2_canFollow_27 : tabF k_X2_canFollow 27 = f_sub := rfl
set_option maxRecDepth 8000 in
theorem e_X2_canFollow_28 : tabF k_X2_canFollow 28 = f_loadR 0 1 := rfl
set_option maxRecDepth 8000 in
theorem e_X2_canFollow_29 : tabF k_X2_canFollow 29 = f_getI 2 0 := rfl
set_option maxRecDepth 8000 in
theorem e_X2_canFollow_32 : tabF k_X2_canFollow 32 = f_icmp cGt cLe 54 := rfl
set_option maxRecDepth 8000 in
theorem e_X2_canFollow_35 : tabF k_X2_canFollow 35 = f_loadI 2 1 := rfl
set_option maxRecDepth 8000 in
theorem e_X2_canFollow_36 : tabF k_X2_canFollow 36 = f_loadR 0 1 := rfl
set_option maxRecDepth 8000 in
theorem e_X2_canFollow_37 : tabF k_X2_canFollow 37 = f_getR 2 5 (fun i => 6) := rfl
set_option maxRecDepth 8000 in
theorem e_X2_canFollow_40 : tabF k_X2_canFollow 40 = f_loadI 3 1 := rfl
set_option maxRecDepth 8000 in
theorem e_X2_canFollow_41 : tabF k_X2_canFollow 41 = f_iald := rfl
set_option maxRecDepth 8000 in
theorem e_X2_canFollow_42 : tabF k_X2_canFollow 42 = f_sub := rfl
set_option maxRecDepth 8000 in
theorem e_X2_canFollow_43 : tabF k_X2_canFollow 43 = f_loadR 0 1 := rfl
set_option maxRecDepth 8000 in
theorem e_X2_canFollow_44 : tabF k_X2_canFollow 44 = f_getI 2 1 := rfl
set_option maxRecDepth 8000 in
theorem e_X2_canFollow_47 : tabF k_X2_canFollow 47 = f_icmp cGt cLe 54 := rfl
set_option maxRecDepth 8000 in
theorem e_X2_canFollow_50 : tabF k_X2_canFollow 50 = f_push 1 1 := rfl
set_option maxRecDepth 8000 in
theorem e_X2_canFollow_51 : tabF k_X2_canFollow 51 = f_goto 55 := rfl
set_option maxRecDepth 8000 in
theorem e_X2_canFollow_54 : tabF k_X2_canFollow 54 = f_push 0 1 := rfl
set_option maxRecDepth 8000 in
theorem e_X2_canFollow_55 : tabF k_X2_canFollow 55 = f_zret := rfl
set_option maxRecDepth 8000 in
theorem e_X2_matchesIn_0 : tabF k_X2_matchesIn 0 = f_pushL 0 1 := rfl
set_option maxRecDepth 8000 in
theorem e_X2_matchesIn_1 : tabF k_X2_matchesIn 1 = f_storeL 2 1 := rfl
set_option maxRecDepth 8000 in
theorem e_X2_matchesIn_2 : tabF k_X2_matchesIn 2 = f_loadR 0 1 := rfl
set_option maxRecDepth 8000 in
theorem e_X2_matchesIn_3 : tabF k_X2_matchesIn 3 = f_loadR 1 1 := rfl
set_option maxRecDepth 8000 in
theorem e_X2_matchesIn_4 : tabF k_X2_matchesIn 4 = f_callV 2 20 1 := rfl
set_option maxRecDepth 8000 in
theorem e_X2_matchesIn_7 : tabF k_X2_matchesIn 7 = f_storeI 4 2 := rfl
set_option maxRecDepth 8000 in
theorem e_X2_matchesIn_9 : tabF k_X2_matchesIn 9 = f_loadI 4 2 := rfl
set_option maxRecDepth 8000 in
theorem e_X2_matchesIn_11 : tabF k_X2_matchesIn 11 = f_if0 cEq cNe 42 := rfl
set_option maxRecDepth 8000 in
theorem e_X2_matchesIn_14 : tabF k_X2_matchesIn 14 = f_loadL 2 1 := rfl
set_option maxRecDepth 8000 in
theorem e_X2_matchesIn_15 : tabF k_X2_matchesIn 15 = f_pushL (27405) 3 := rfl
set_option maxRecDepth 8000 in
theorem e_X2_matchesIn_18 : tabF k_X2_matchesIn 18 = f_lcmp := rfl
set_option maxRecDepth 8000 in
theorem e_X2_matchesIn_19 : tabF k_X2_matchesIn 19 = f_if0 cGe cLt 42 := rfl
set_option maxRecDepth 8000 in
theorem e_X2_matchesIn_22 : tabF k_X2_matchesIn 22 = f_loadL 2 1 := rfl
set_option maxRecDepth 8000 in
theorem e_X2_matchesIn_23 : tabF k_X2_matchesIn 23 = f_pushL 1 1 := rfl
set_option maxRecDepth 8000 in
theorem e_X2_matchesIn_24 : tabF k_X2_matchesIn 24 = f_ladd := rfl
set_option maxRecDepth 8000 in
theorem e_X2_matchesIn_25 : tabF k_X2_matchesIn 25 = f_storeL 2 1 := rfl
set_option maxRecDepth 8000 in
theorem e_X2_matchesIn_26 : tabF k_X2_matchesIn 26 = f_loadR 0 1 := rfl
set_option maxRecDepth 8000 in
theorem e_X2_matchesIn_27 : tabF k_X2_matchesIn 27 = f_loadR 1 1 := rfl
set_option maxRecDepth 8000 in
theorem e_X2_matchesIn_28 : tabF k_X2_matchesIn 28 = f_loadR 0 1 := rfl
set_option maxRecDepth 8000 in
theorem e_X2_matchesIn_29 : tabF k_X2_matchesIn 29 = f_getI 2 3 := rfl
set_option maxRecDepth 8000 in
theorem e_X2_matchesIn_32 : tabF k_X2_matchesIn 32 = f_push 1 1 := rfl
set_option maxRecDepth 8000 in
theorem e_X2_matchesIn_33 : tabF k_X2_matchesIn 33 = f_sub := rfl
set_option maxRecDepth 8000 in
theorem e_X2_matchesIn_34 : tabF k_X2_matchesIn 34 = f_callV 2 21 2 := rfl
set_option maxRecDepth 8000 in
theorem e_X2_matchesIn_37 : tabF k_X2_matchesIn 37 = f_storeI 4 2 := rfl
set_option maxRecDepth 8000 in
theorem e_X2_matchesIn_39 : tabF k_X2_matchesIn 39 = f_goto 9 := rfl
set_option maxRecDepth 8000 in
theorem e_X2_matchesIn_42 : tabF k_X2_matchesIn 42 = f_loadL 2 1 := rfl
set_option maxRecDepth 8000 in
theorem e_X2_matchesIn_43 : tabF k_X2_matchesIn 43 = f_lret := rfl
set_option maxRecDepth 8000 in
theorem e_X2_placeInFirst_0 : tabF k_X2_placeInFirst 0 = f_loadI 2 1 := rfl
set_option maxRecDepth 8000 in
theorem e_X2_placeInFirst_1 : tabF k_X2_placeInFirst 1 = f_if0 cLt cGe 29 := rfl
set_option maxRecDepth 8000 in
theorem e_X2_placeInFirst_4 : tabF k_X2_placeInFirst 4 = f_loadI 2 1 := rfl
set_option maxRecDepth 8000 in
theorem e_X2_placeInFirst_5 : tabF k_X2_placeInFirst 5 = f_loadR 0 1 := rfl
set_option maxRecDepth 8000 in
theorem e_X2_placeInFirst_6 : tabF k_X2_placeInFirst 6 = f_getI 2 3 := rfl
set_option maxRecDepth 8000 in
theorem e_X2_placeInFirst_9 : tabF k_X2_placeInFirst 9 = f_icmp cGe cLt 29 := rfl
set_option maxRecDepth 8000 in
theorem e_X2_placeInFirst_12 : tabF k_X2_placeInFirst 12 = f_loadR 0 1 := rfl
set_option maxRecDepth 8000 in
theorem e_X2_placeInFirst_13 : tabF k_X2_placeInFirst 13 = f_loadR 1 1 := rfl
set_option maxRecDepth 8000 in
theorem e_X2_placeInFirst_14 : tabF k_X2_placeInFirst 14 = f_callV 2 20 1 := rfl
set_option maxRecDepth 8000 in
theorem e_X2_placeInFirst_17 : tabF k_X2_placeInFirst 17 = f_if0 cEq cNe 29 := rfl
set_option maxRecDepth 8000 in
theorem e_X2_placeInFirst_20 : tabF k_X2_placeInFirst 20 = f_loadR 0 1 := rfl
set_option maxRecDepth 8000 in
theorem e_X2_placeInFirst_21 : tabF k_X2_placeInFirst 21 = f_getR 2 7 (fun i => 8) := rfl
set_option maxRecDepth 8000 in
theorem e_X2_placeInFirst_24 : tabF k_X2_placeInFirst 24 = f_loadI 2 1 := rfl
set_option maxRecDepth 8000 in
theorem e_X2_placeInFirst_25 : tabF k_X2_placeInFirst 25 = f_iald := rfl
set_option maxRecDepth 8000 in
theorem e_X2_placeInFirst_26 : tabF k_X2_placeInFirst 26 = f_goto 30 := rfl
set_option maxRecDepth 8000 in
theorem e_X2_placeInFirst_29 : tabF k_X2_placeInFirst 29 = f_push (-1) 1 := rfl
set_option maxRecDepth 8000 in
theorem e_X2_placeInFirst_30 : tabF k_X2_placeInFirst 30 = f_iret := rfl
set_option maxRecDepth 8000 in
theorem e_X2_goToFirstMatch_0 : tabF k_X2_goToFirstMatch 0 = f_loadR 0 1 := rfl
set_option maxRecDepth 8000 in
theorem e_X2_goToFirstMatch_1 : tabF k_X2_goToFirstMatch 1 = f_getR 2 7 (fun i => 8) := rfl
set_option maxRecDepth 8000 in
theorem e_X2_goToFirstMatch_4 : tabF k_X2_goToFirstMatch 4 = f_push 0 1 := rfl
set_option maxRecDepth 8000 in
theorem e_X2_goToFirstMatch_5 : tabF k_X2_goToFirstMatch 5 = f_push (-1) 1 := rfl
set_option maxRecDepth 8000 in
theorem e_X2_goToFirstMatch_6 : tabF k_X2_goToFirstMatch 6 = f_iast := rfl
set_option maxRecDepth 8000 in
theorem e_X2_goToFirstMatch_7 : tabF k_X2_goToFirstMatch 7 = f_loadR 0 1 := rfl
set_option maxRecDepth 8000 in
theorem e_X2_goToFirstMatch_8 : tabF k_X2_goToFirstMatch 8 = f_loadR 1 1 := rfl
set_option maxRecDepth 8000 in
theorem e_X2_goToFirstMatch_9 : tabF k_X2_goToFirstMatch 9 = f_push 0 1 := rfl
set_option maxRecDepth 8000 in
theorem e_X2_goToFirstMatch_10 : tabF k_X2_goToFirstMatch 10 = f_callV 2 21 2 := rfl
set_option maxRecDepth 8000 in
theorem e_X2_goToFirstMatch_13 : tabF k_X2_goToFirstMatch 13 = f_zret := rfl
set_option maxRecDepth 8000 in
theorem e_X2_goToNextMatch_0 : tabF k_X2_goToNextMatch 0 = f_loadI 2 1 := rfl
set_option maxRecDepth 8000 in
theorem e_X2_goToNextMatch_1 : tabF k_X2_goToNextMatch 1 = f_storeI 3 1 := rfl
set_option maxRecDepth 8000 in
theorem e_X2_goToNextMatch_2 : tabF k_X2_goToNextMatch 2 = f_push 0 1 := rfl
set_option maxRecDepth 8000 in
theorem e_X2_goToNextMatch_3 : tabF k_X2_goToNextMatch 3 = f_storeI 4 2 := rfl
set_option maxRecDepth 8000 in
theorem e_X2_goToNextMatch_5 : tabF k_X2_goToNextMatch 5 = f_loadI 4 2 := rfl
set_option maxRecDepth 8000 in
theorem e_X2_goToNextMatch_7 : tabF k_X2_goToNextMatch 7 = f_push 1000000 2 := rfl
set_option maxRecDepth 8000 in
theorem e_X2_goToNextMatch_9 : tabF k_X2_goToNextMatch 9 = f_icmp cGe cLt 79 := rfl
set_option maxRecDepth 8000 in
theorem e_X2_goToNextMatch_12 : tabF k_X2_goToNextMatch 12 = f_loadI 3 1 := rfl
set_option maxRecDepth 8000 in
theorem e_X2_goToNextMatch_13 : tabF k_X2_goToNextMatch 13 = f_if0 cLt cGe 79 := rfl
set_option maxRecDepth 8000 in
theorem e_X2_goToNextMatch_16 : tabF k_X2_goToNextMatch 16 = f_loadR 0 1 := rfl
set_option maxRecDepth 8000 in
theorem e_X2_goToNextMatch_17 : tabF k_X2_goToNextMatch 17 = f_getR 2 7 (fun i => 8) := rfl
set_option maxRecDepth 8000 in
theorem e_X2_goToNextMatch_20 : tabF k_X2_goToNextMatch 20 = f_loadI 3 1 := rfl
set_option maxRecDepth 8000 in
theorem e_X2_goToNextMatch_21 : tabF k_X2_goToNextMatch 21 = f_loadR 0 1 := rfl
set_option maxRecDepth 8000 in
theorem e_X2_goToNextMatch_22 : tabF k_X2_goToNextMatch 22 = f_loadR 1 1 := rfl
set_option maxRecDepth 8000 in
theorem e_X2_goToNextMatch_23 : tabF k_X2_goToNextMatch 23 = f_loadI 3 1 := rfl
set_option maxRecDepth 8000 in
theorem e_X2_goToNextMatch_24 : tabF k_X2_goToNextMatch 24 = f_callV 2 22 2 := rfl
set_option maxRecDepth 8000 in
theorem e_X2_goToNextMatch_27 : tabF k_X2_goToNextMatch 27 = f_iast := rfl
set_option maxRecDepth 8000 in
theorem e_X2_goToNextMatch_28 : tabF k_X2_goToNextMatch 28 = f_loadR 0 1 := rfl
set_option maxRecDepth 8000 in
theorem e_X2_goToNextMatch_29 : tabF k_X2_goToNextMatch 29 = f_getR 2 7 (fun i => 8) := rfl
set_option maxRecDepth 8000 in
theorem e_X2_goToNextMatch_32 : tabF k_X2_goToNextMatch 32 = f_loadI 3 1 := rfl
set_option maxRecDepth 8000 in
theorem e_X2_goToNextMatch_33 : tabF k_X2_goToNextMatch 33 = f_iald := rfl
set_option maxRecDepth 8000 in
theorem e_X2_goToNextMatch_34 : tabF k_X2_goToNextMatch 34 = f_push (-1) 1 := rfl
set_option maxRecDepth 8000 in
theorem e_X2_goToNextMatch_35 : tabF k_X2_goToNextMatch 35 = f_icmp cNe cEq 44 := rfl
set_option maxRecDepth 8000 in
theorem e_X2_goToNextMatch_38 : tabF k_X2_goToNextMatch 38 = f_iinc 3 (-1) := rfl
set_option maxRecDepth 8000 in
theorem e_X2_goToNextMatch_41 : tabF k_X2_goToNextMatch 41 = f_goto 73 := rfl
set_option maxRecDepth 8000 in
theorem e_X2_goToNextMatch_44 : tabF k_X2_goToNextMatch 44 = f_loadI 3 1 := rfl
set_option maxRecDepth 8000 in
theorem e_X2_goToNextMatch_45 : tabF k_X2_goToNextMatch 45 = f_loadR 0 1 := rfl
set_option maxRecDepth 8000 in
theorem e_X2_goToNextMatch_46 : tabF k_X2_goToNextMatch 46 = f_getI 2 3 := rfl
set_option maxRecDepth 8000 in
theorem e_X2_goToNextMatch_49 : tabF k_X2_goToNextMatch 49 = f_push 1 1 := rfl
set_option maxRecDepth 8000 in
theorem e_X2_goToNextMatch_50 : tabF k_X2_goToNextMatch 50 = f_sub := rfl
set_option maxRecDepth 8000 in
theorem e_X2_goToNextMatch_51 : tabF k_X2_goToNextMatch 51 = f_icmp cLt cGe 56 := rfl
set_option maxRecDepth 8000 in
theorem e_X2_goToNextMatch_54 : tabF k_X2_goToNextMatch 54 = f_push 1 1 := rfl
set_option maxRecDepth 8000 in
theorem e_X2_goToNextMatch_55 : tabF k_X2_goToNextMatch 55 = f_zret := rfl
set_option maxRecDepth 8000 in
theorem e_X2_goToNextMatch_56 : tabF k_X2_goToNextMatch 56 = f_loadR 0 1 := rfl
set_option maxRecDepth 8000 in
theorem e_X2_goToNextMatch_57 : tabF k_X2_goToNextMatch 57 = f_getR 2 7 (fun i => 8) := rfl
set_option maxRecDepth 8000 in
theorem e_X2_goToNextMatch_60 : tabF k_X2_goToNextMatch 60 = f_loadI 3 1 := rfl
set_option maxRecDepth 8000 in
theorem e_X2_goToNextMatch_61 : tabF k_X2_goToNextMatch 61 = f_push 1 1 := rfl
set_option maxRecDepth 8000 in
theorem e_X2_goToNextMatch_62 : tabF k_X2_goToNextMatch 62 = f_add := rfl
set_option maxRecDepth 8000 in
theorem e_X2_goToNextMatch_63 : tabF k_X2_goToNextMatch 63 = f_loadR 0 1 := rfl
set_option maxRecDepth 8000 in
theorem e_X2_goToNextMatch_64 : tabF k_X2_goToNextMatch 64 = f_getR 2 7 (fun i => 8) := rfl
set_option maxRecDepth 8000 in
theorem e_X2_goToNextMatch_67 : tabF k_X2_goToNextMatch 67 = f_loadI 3 1 := rfl
set_option maxRecDepth 8000 in
theorem e_X2_goToNextMatch_68 : tabF k_X2_goToNextMatch 68 = f_iald := rfl
set_option maxRecDepth 8000 in
theorem e_X2_goToNextMatch_69 : tabF k_X2_goToNextMatch 69 = f_iast := rfl
set_option maxRecDepth 8000 in
theorem e_X2_goToNextMatch_70 : tabF k_X2_goToNextMatch 70 = f_iinc 3 1 := rfl
set_option maxRecDepth 8000 in
theorem e_X2_goToNextMatch_73 : tabF k_X2_goToNextMatch 73 = f_iinc 4 1 := rfl
set_option maxRecDepth 8000 in
theorem e_X2_goToNextMatch_76 : tabF k_X2_goToNextMatch 76 = f_goto 5 := rfl
set_option maxRecDepth 8000 in
theorem e_X2_goToNextMatch_79 : tabF k_X2_goToNextMatch 79 = f_push 0 1 := rfl
set_option maxRecDepth 8000 in
theorem e_X2_goToNextMatch_80 : tabF k_X2_goToNextMatch 80 = f_zret := rfl
set_option maxRecDepth 8000 in
theorem e_X2_nextPlace_0 : tabF k_X2_nextPlace 0 = f_loadR 0 1 := rfl
set_option maxRecDepth 8000 in
theorem e_X2_nextPlace_1 : tabF k_X2_nextPlace 1 = f_getR 2 7 (fun i => 8) := rfl
set_option maxRecDepth 8000 in
theorem e_X2_nextPlace_4 : tabF k_X2_nextPlace 4 = f_loadI 2 1 := rfl
set_option maxRecDepth 8000 in
theorem e_X2_nextPlace_5 : tabF k_X2_nextPlace 5 = f_iald := rfl
set_option maxRecDepth 8000 in
theorem e_X2_nextPlace_6 : tabF k_X2_nextPlace 6 = f_push 1 1 := rfl
set_option maxRecDepth 8000 in
theorem e_X2_nextPlace_7 : tabF k_X2_nextPlace 7 = f_add := rfl
set_option maxRecDepth 8000 in
theorem e_X2_nextPlace_8 : tabF k_X2_nextPlace 8 = f_storeI 3 1 := rfl
set_option maxRecDepth 8000 in
theorem e_X2_nextPlace_9 : tabF k_X2_nextPlace 9 = f_loadI 3 1 := rfl
set_option maxRecDepth 8000 in
theorem e_X2_nextPlace_10 : tabF k_X2_nextPlace 10 = f_loadR 1 1 := rfl
set_option maxRecDepth 8000 in
theorem e_X2_nextPlace_11 : tabF k_X2_nextPlace 11 = f_callV 3 35 0 := rfl
set_option maxRecDepth 8000 in
theorem e_X2_nextPlace_14 : tabF k_X2_nextPlace 14 = f_icmp cGe cLt 35 := rfl
set_option maxRecDepth 8000 in
theorem e_X2_nextPlace_17 : tabF k_X2_nextPlace 17 = f_loadR 0 1 := rfl
set_option maxRecDepth 8000 in
theorem e_X2_nextPlace_18 : tabF k_X2_nextPlace 18 = f_loadR 1 1 := rfl
set_option maxRecDepth 8000 in
theorem e_X2_nextPlace_19 : tabF k_X2_nextPlace 19 = f_loadI 3 1 := rfl
set_option maxRecDepth 8000 in
theorem e_X2_nextPlace_20 : tabF k_X2_nextPlace 20 = f_loadI 2 1 := rfl
set_option maxRecDepth 8000 in
theorem e_X2_nextPlace_21 : tabF k_X2_nextPlace 21 = f_callV 2 23 3 := rfl
set_option maxRecDepth 8000 in
theorem e_X2_nextPlace_24 : tabF k_X2_nextPlace 24 = f_if0 cEq cNe 29 := rfl
set_option maxRecDepth 8000 in
theorem e_X2_nextPlace_27 : tabF k_X2_nextPlace 27 = f_loadI 3 1 := rfl
set_option maxRecDepth 8000 in
theorem e_X2_nextPlace_28 : tabF k_X2_nextPlace 28 = f_iret := rfl
set_option maxRecDepth 8000 in
theorem e_X2_nextPlace_29 : tabF k_X2_nextPlace 29 = f_iinc 3 1 := rfl
set_option maxRecDepth 8000 in
theorem e_X2_nextPlace_32 : tabF k_X2_nextPlace 32 = f_goto 9 := rfl
set_option maxRecDepth 8000 in
theorem e_X2_nextPlace_35 : tabF k_X2_nextPlace 35 = f_push (-1) 1 := rfl
set_option maxRecDepth 8000 in
theorem e_X2_nextPlace_36 : tabF k_X2_nextPlace 36 = f_iret := rfl
set_option maxRecDepth 8000 in
theorem e_X2_canStandAt_0 : tabF k_X2_canStandAt 0 = f_loadR 1 1 := rfl
set_option maxRecDepth 8000 in
theorem e_X2_canStandAt_1 : tabF k_X2_canStandAt 1 = f_loadI 2 1 := rfl
set_option maxRecDepth 8000 in
theorem e_X2_canStandAt_2 : tabF k_X2_canStandAt 2 = f_loadR 0 1 := rfl
set_option maxRecDepth 8000 in
theorem e_X2_canStandAt_3 : tabF k_X2_canStandAt 3 = f_getR 2 4 (fun i => 5) := rfl
set_option maxRecDepth 8000 in
theorem e_X2_canStandAt_6 : tabF k_X2_canStandAt 6 = f_callV 3 38 2 := rfl
set_option maxRecDepth 8000 in
theorem e_X2_canStandAt_9 : tabF k_X2_canStandAt 9 = f_loadI 3 1 := rfl
set_option maxRecDepth 8000 in
theorem e_X2_canStandAt_10 : tabF k_X2_canStandAt 10 = f_shr := rfl
set_option maxRecDepth 8000 in
theorem e_X2_canStandAt_11 : tabF k_X2_canStandAt 11 = f_push 1 1 := rfl
set_option maxRecDepth 8000 in
theorem e_X2_canStandAt_12 : tabF k_X2_canStandAt 12 = f_and := rfl
set_option maxRecDepth 8000 in
theorem e_X2_canStandAt_13 : tabF k_X2_canStandAt 13 = f_if0 cNe cEq 18 := rfl
set_option maxRecDepth 8000 in
theorem e_X2_canStandAt_16 : tabF k_X2_canStandAt 16 = f_push 0 1 := rfl
set_option maxRecDepth 8000 in
theorem e_X2_canStandAt_17 : tabF k_X2_canStandAt 17 = f_zret := rfl
set_option maxRecDepth 8000 in
theorem e_X2_canStandAt_18 : tabF k_X2_canStandAt 18 = f_loadR 1 1 := rfl
set_option maxRecDepth 8000 in
theorem e_X2_canStandAt_19 : tabF k_X2_canStandAt 19 = f_loadI 2 1 := rfl
set_option maxRecDepth 8000 in
theorem e_X2_canStandAt_20 : tabF k_X2_canStandAt 20 = f_callV 3 36 1 := rfl
set_option maxRecDepth 8000 in
theorem e_X2_canStandAt_23 : tabF k_X2_canStandAt 23 = f_storeI 4 2 := rfl
set_option maxRecDepth 8000 in
theorem e_X2_canStandAt_25 : tabF k_X2_canStandAt 25 = f_loadI 3 1 := rfl
set_option maxRecDepth 8000 in
theorem e_X2_canStandAt_26 : tabF k_X2_canStandAt 26 = f_if0 cEq cNe 71 := rfl
set_option maxRecDepth 8000 in
theorem e_X2_canStandAt_29 : tabF k_X2_canStandAt 29 = f_loadI 4 2 := rfl
set_option maxRecDepth 8000 in
theorem e_X2_canStandAt_31 : tabF k_X2_canStandAt 31 = f_loadR 1 1 := rfl
set_option maxRecDepth 8000 in
theorem e_X2_canStandAt_32 : tabF k_X2_canStandAt 32 = f_loadR 0 1 := rfl
set_option maxRecDepth 8000 in
theorem e_X2_canStandAt_33 : tabF k_X2_canStandAt 33 = f_getR 2 7 (fun i => 8) := rfl
set_option maxRecDepth 8000 in
theorem e_X2_canStandAt_36 : tabF k_X2_canStandAt 36 = f_loadI 3 1 := rfl
set_option maxRecDepth 8000 in
theorem e_X2_canStandAt_37 : tabF k_X2_canStandAt 37 = f_push 1 1 := rfl
set_option maxRecDepth 8000 in
theorem e_X2_canStandAt_38 : tabF k_X2_canStandAt 38 = f_sub := rfl
set_option maxRecDepth 8000 in
theorem e_X2_canStandAt_39 : tabF k_X2_canStandAt 39 = f_iald := rfl
set_option maxRecDepth 8000 in
theorem e_X2_canStandAt_40 : tabF k_X2_canStandAt 40 = f_callV 3 36 1 := rfl
set_option maxRecDepth 8000 in
theorem e_X2_canStandAt_43 : tabF k_X2_canStandAt 43 = f_sub := rfl
set_option maxRecDepth 8000 in
theorem e_X2_canStandAt_44 : tabF k_X2_canStandAt 44 = f_loadR 0 1 := rfl
set_option maxRecDepth 8000 in
theorem e_X2_canStandAt_45 : tabF k_X2_canStandAt 45 = f_getI 2 0 := rfl
set_option maxRecDepth 8000 in
theorem e_X2_canStandAt_48 : tabF k_X2_canStandAt 48 = f_icmp cGt cLe 75 := rfl
set_option maxRecDepth 8000 in
theorem e_X2_canStandAt_51 : tabF k_X2_canStandAt 51 = f_loadI 4 2 := rfl
set_option maxRecDepth 8000 in
theorem e_X2_canStandAt_53 : tabF k_X2_canStandAt 53 = f_loadR 1 1 := rfl
set_option maxRecDepth 8000 in
theorem e_X2_canStandAt_54 : tabF k_X2_canStandAt 54 = f_loadR 0 1 := rfl
set_option maxRecDepth 8000 in
theorem e_X2_canStandAt_55 : tabF k_X2_canStandAt 55 = f_getR 2 7 (fun i => 8) := rfl
set_option maxRecDepth 8000 in
theorem e_X2_canStandAt_58 : tabF k_X2_canStandAt 58 = f_push 0 1 := rfl
set_option maxRecDepth 8000 in
theorem e_X2_canStandAt_59 : tabF k_X2_canStandAt 59 = f_iald := rfl
set_option maxRecDepth 8000 in
theorem e_X2_canStandAt_60 : tabF k_X2_canStandAt 60 = f_callV 3 36 1 := rfl
set_option maxRecDepth 8000 in
theorem e_X2_canStandAt_63 : tabF k_X2_canStandAt 63 = f_sub := rfl
set_option maxRecDepth 8000 in
theorem e_X2_canStandAt_64 : tabF k_X2_canStandAt 64 = f_loadR 0 1 := rfl
set_option maxRecDepth 8000 in
theorem e_X2_canStandAt_65 : tabF k_X2_canStandAt 65 = f_getI 2 1 := rfl
set_option maxRecDepth 8000 in
theorem e_X2_canStandAt_68 : tabF k_X2_canStandAt 68 = f_icmp cGt cLe 75 := rfl
set_option maxRecDepth 8000 in
theorem e_X2_canStandAt_71 : tabF k_X2_canStandAt 71 = f_push 1 1 := rfl
set_option maxRecDepth 8000 in
theorem e_X2_canStandAt_72 : tabF k_X2_canStandAt 72 = f_goto 76 := rfl
set_option maxRecDepth 8000 in
theorem e_X2_canStandAt_75 : tabF k_X2_canStandAt 75 = f_push 0 1 := rfl
set_option maxRecDepth 8000 in
theorem e_X2_canStandAt_76 : tabF k_X2_canStandAt 76 = f_zret := rfl
set_option maxRecDepth 8000 in
theorem e_X3_of_0 : tabF k_X3_of 0 = f_loadI 0 1 := rfl
set_option maxRecDepth 8000 in
theorem e_X3_of_1 : tabF k_X3_of 1 = f_callS 60 1 := rfl
set_option maxRecDepth 8000 in
theorem e_X3_of_4 : tabF k_X3_of 4 = f_if0 cEq cNe 28 := rfl
set_option maxRecDepth 8000 in
theorem e_X3_of_7 : tabF k_X3_of 7 = f_loadI 1 1 := rfl
set_option maxRecDepth 8000 in
theorem e_X3_of_8 : tabF k_X3_of 8 = f_callS 25 1 := rfl
set_option maxRecDepth 8000 in
theorem e_X3_of_11 : tabF k_X3_of 11 = f_if0 cEq cNe 28 := rfl
set_option maxRecDepth 8000 in
theorem e_X3_of_14 : tabF k_X3_of 14 = f_loadI 2 1 := rfl
set_option maxRecDepth 8000 in
theorem e_X3_of_15 : tabF k_X3_of 15 = f_callS 25 1 := rfl
set_option maxRecDepth 8000 in
theorem e_X3_of_18 : tabF k_X3_of 18 = f_if0 cEq cNe 28 := rfl
set_option maxRecDepth 8000 in
theorem e_X3_of_21 : tabF k_X3_of 21 = f_loadI 3 1 := rfl
set_option maxRecDepth 8000 in
theorem e_X3_of_22 : tabF k_X3_of 22 = f_callS 25 1 := rfl
set_option maxRecDepth 8000 in
theorem e_X3_of_25 : tabF k_X3_of 25 = f_if0 cNe cEq 30 := rfl
set_option maxRecDepth 8000 in
theorem e_X3_of_28 : tabF k_X3_of 28 = f_push (-1) 1 := rfl
set_option maxRecDepth 8000 in
theorem e_X3_of_29 : tabF k_X3_of 29 = f_iret := rfl
set_option maxRecDepth 8000 in
theorem e_X3_of_30 : tabF k_X3_of 30 = f_loadI 1 1 := rfl
set_option maxRecDepth 8000 in
theorem e_X3_of_31 : tabF k_X3_of 31 = f_push (-1) 1 := rfl
set_option maxRecDepth 8000 in
theorem e_X3_of_32 : tabF k_X3_of 32 = f_icmp cNe cEq 40 := rfl
set_option maxRecDepth 8000 in
theorem e_X3_of_35 : tabF k_X3_of 35 = f_loadI 2 1 := rfl
set_option maxRecDepth 8000 in
theorem e_X3_of_36 : tabF k_X3_of 36 = f_push (-1) 1 := rfl
set_option maxRecDepth 8000 in
theorem e_X3_of_37 : tabF k_X3_of 37 = f_icmp cNe cEq 50 := rfl
set_option maxRecDepth 8000 in
theorem e_X3_of_40 : tabF k_X3_of 40 = f_loadI 2 1 := rfl
set_option maxRecDepth 8000 in
theorem e_X3_of_41 : tabF k_X3_of 41 = f_push (-1) 1 := rfl
set_option maxRecDepth 8000 in
theorem e_X3_of_42 : tabF k_X3_of 42 = f_icmp cNe cEq 52 := rfl
set_option maxRecDepth 8000 in
theorem e_X3_of_45 : tabF k_X3_of 45 = f_loadI 3 1 := rfl
set_option maxRecDepth 8000 in
theorem e_X3_of_46 : tabF k_X3_of 46 = f_push (-1) 1 := rfl
set_option maxRecDepth 8000 in
theorem e_X3_of_47 : tabF k_X3_of 47 = f_icmp cEq cNe 52 := rfl
set_option maxRecDepth 8000 in
theorem e_X3_of_50 : tabF k_X3_of 50 = f_push (-1) 1 := rfl
set_option maxRecDepth 8000 in
theorem e_X3_of_51 : tabF k_X3_of 51 = f_iret := rfl
set_option maxRecDepth 8000 in
theorem e_X3_of_52 : tabF k_X3_of 52 = f_push 1 1 := rfl
set_option maxRecDepth 8000 in
theorem e_X3_of_53 : tabF k_X3_of 53 = f_loadI 0 1 := rfl
set_option maxRecDepth 8000 in
theorem e_X3_of_54 : tabF k_X3_of 54 = f_callS 26 2 := rfl
set_option maxRecDepth 8000 in
theorem e_X3_of_57 : tabF k_X3_of 57 = f_loadI 1 1 := rfl
set_option maxRecDepth 8000 in
theorem e_X3_of_58 : tabF k_X3_of 58 = f_callS 26 2 := rfl
set_option maxRecDepth 8000 in
theorem e_X3_of_61 : tabF k_X3_of 61 = f_loadI 2 1 := rfl
set_option maxRecDepth 8000 in
theorem e_X3_of_62 : tabF k_X3_of 62 = f_callS 26 2 := rfl
set_option maxRecDepth 8000 in
theorem e_X3_of_65 : tabF k_X3_of 65 = f_loadI 3 1 := rfl
set_option maxRecDepth 8000 in
theorem e_X3_of_66 : tabF k_X3_of 66 = f_callS 26 2 := rfl
set_option maxRecDepth 8000 in
theorem e_X3_of_69 : tabF k_X3_of 69 = f_iret := rfl
set_option maxRecDepth 8000 in
theorem e_X3_isKindOrNone_0 : tabF k_X3_isKindOrNone 0 = f_loadI 0 1 := rfl
set_option maxRecDepth 8000 in
theorem e_X3_isKindOrNone_1 : tabF k_X3_isKindOrNone 1 = f_push (-1) 1 := rfl
set_option maxRecDepth 8000 in
theorem e_X3_isKindOrNone_2 : tabF k_X3_isKindOrNone 2 = f_icmp cEq cNe 12 := rfl
set_option maxRecDepth 8000 in
theorem e_X3_isKindOrNone_5 : tabF k_X3_isKindOrNone 5 = f_loadI 0 1 := rfl
set_option maxRecDepth 8000 in
theorem e_X3_isKindOrNone_6 : tabF k_X3_isKindOrNone 6 = f_callS 60 1 := rfl
set_option maxRecDepth 8000 in
theorem e_X3_isKindOrNone_9 : tabF k_X3_isKindOrNone 9 = f_if0 cEq cNe 16 := rfl
set_option maxRecDepth 8000 in
theorem e_X3_isKindOrNone_12 : tabF k_X3_isKindOrNone 12 = f_push 1 1 := rfl
set_option maxRecDepth 8000 in
theorem e_X3_isKindOrNone_13 : tabF k_X3_isKindOrNone 13 = f_goto 17 := rfl
set_option maxRecDepth 8000 in
theorem e_X3_isKindOrNone_16 : tabF k_X3_isKindOrNone 16 = f_push 0 1 := rfl
set_option maxRecDepth 8000 in
theorem e_X3_isKindOrNone_17 : tabF k_X3_isKindOrNone 17 = f_zret := rfl
set_option maxRecDepth 8000 in
theorem e_X3_lengthen_0 : tabF k_X3_lengthen 0 = f_loadI 1 1 := rfl
set_option maxRecDepth 8000 in
theorem e_X3_lengthen_1 : tabF k_X3_lengthen 1 = f_push (-1) 1 := rfl
set_option maxRecDepth 8000 in
theorem e_X3_lengthen_2 : tabF k_X3_lengthen 2 = f_icmp cNe cEq 9 := rfl
set_option maxRecDepth 8000 in
theorem e_X3_lengthen_5 : tabF k_X3_lengthen 5 = f_loadI 0 1 := rfl
set_option maxRecDepth 8000 in
theorem e_X3_lengthen_6 : tabF k_X3_lengthen 6 = f_goto 15 := rfl
set_option maxRecDepth 8000 in
theorem e_X3_lengthen_9 : tabF k_X3_lengthen 9 = f_loadI 0 1 := rfl
set_option maxRecDepth 8000 in
theorem e_X3_lengthen_10 : tabF k_X3_lengthen 10 = f_push 0 1 := rfl
set_option maxRecDepth 8000 in
theorem e_X3_lengthen_11 : tabF k_X3_lengthen 11 = f_loadI 1 1 := rfl
set_option maxRecDepth 8000 in
theorem e_X3_lengthen_12 : tabF k_X3_lengthen 12 = f_callS 31 3 := rfl
set_option maxRecDepth 8000 in
theorem e_X3_lengthen_15 : tabF k_X3_lengthen 15 = f_iret := rfl
set_option maxRecDepth 8000 in
theorem e_X3_length_0 : tabF k_X3_length 0 = f_push 0 1 := rfl
set_option maxRecDepth 8000 in
theorem e_X3_length_1 : tabF k_X3_length 1 = f_storeI 1 1 := rfl
set_option maxRecDepth 8000 in
theorem e_X3_length_2 : tabF k_X3_length 2 = f_loadI 1 1 := rfl
set_option maxRecDepth 8000 in
theorem e_X3_length_3 : tabF k_X3_length 3 = f_push 4 1 := rfl
set_option maxRecDepth 8000 in
theorem e_X3_length_4 : tabF k_X3_length 4 = f_icmp cGe cLt 23 := rfl
set_option maxRecDepth 8000 in
theorem e_X3_length_7 : tabF k_X3_length 7 = f_loadI 0 1 := rfl
set_option maxRecDepth 8000 in
theorem e_X3_length_8 : tabF k_X3_length 8 = f_push 4 1 := rfl
set_option maxRecDepth 8000 in
theorem e_X3_length_9 : tabF k_X3_length 9 = f_loadI 1 1 := rfl
set_option maxRecDepth 8000 in
theorem e_X3_length_10 : tabF k_X3_length 10 = f_push 1 1 := rfl
set_option maxRecDepth 8000 in
theorem e_X3_length_11 : tabF k_X3_length 11 = f_add := rfl
set_option maxRecDepth 8000 in
theorem e_X3_length_12 : tabF k_X3_length 12 = f_mul := rfl
set_option maxRecDepth 8000 in
theorem e_X3_length_13 : tabF k_X3_length 13 = f_shr := rfl
set_option maxRecDepth 8000 in
theorem e_X3_length_14 : tabF k_X3_length 14 = f_if0 cLe cGt 23 := rfl
set_option maxRecDepth 8000 in
theorem e_X3_length_17 : tabF k_X3_length 17 = f_iinc 1 1 := rfl
set_option maxRecDepth 8000 in
theorem e_X3_length_20 : tabF k_X3_length 20 = f_goto 2 := rfl
set_option maxRecDepth 8000 in
theorem e_X3_length_23 : tabF k_X3_length 23 = f_loadI 1 1 := rfl
set_option maxRecDepth 8000 in
theorem e_X3_length_24 : tabF k_X3_length 24 = f_iret := rfl
set_option maxRecDepth 8000 in
theorem e_X3_item_0 : tabF k_X3_item 0 = f_loadI 0 1 := rfl
set_option maxRecDepth 8000 in
theorem e_X3_item_1 : tabF k_X3_item 1 = f_callS 27 1 := rfl
set_option maxRecDepth 8000 in
theorem e_X3_item_4 : tabF k_X3_item 4 = f_storeI 2 1 := rfl
set_option maxRecDepth 8000 in
theorem e_X3_item_5 : tabF k_X3_item 5 = f_loadI 1 1 := rfl
set_option maxRecDepth 8000 in
theorem e_X3_item_6 : tabF k_X3_item 6 = f_if0 cLt cGe 14 := rfl
set_option maxRecDepth 8000 in
theorem e_X3_item_9 : tabF k_X3_item 9 = f_loadI 1 1 := rfl
set_option maxRecDepth 8000 in
theorem e_X3_item_10 : tabF k_X3_item 10 = f_loadI 2 1 := rfl
set_option maxRecDepth 8000 in
theorem e_X3_item_11 : tabF k_X3_item 11 = f_icmp cLt cGe 18 := rfl
set_option maxRecDepth 8000 in
theorem e_X3_item_14 : tabF k_X3_item 14 = f_push (-1) 1 := rfl
set_option maxRecDepth 8000 in
theorem e_X3_item_15 : tabF k_X3_item 15 = f_goto 30 := rfl
set_option maxRecDepth 8000 in
theorem e_X3_item_18 : tabF k_X3_item 18 = f_loadI 0 1 := rfl
set_option maxRecDepth 8000 in
theorem e_X3_item_19 : tabF k_X3_item 19 = f_push 4 1 := rfl
set_option maxRecDepth 8000 in
theorem e_X3_item_20 : tabF k_X3_item 20 = f_loadI 2 1 := rfl
set_option maxRecDepth 8000 in
theorem e_X3_item_21 : tabF k_X3_item 21 = f_push 1 1 := rfl
set_option maxRecDepth 8000 in
theorem e_X3_item_22 : tabF k_X3_item 22 = f_sub := rfl
set_option maxRecDepth 8000 in
theorem e_X3_item_23 : tabF k_X3_item 23 = f_loadI 1 1 := rfl
set_option maxRecDepth 8000 in
theorem e_X3_item_24 : tabF k_X3_item 24 = f_sub := rfl
set_option maxRecDepth 8000 in
theorem e_X3_item_25 : tabF k_X3_item 25 = f_mul := rfl
set_option maxRecDepth 8000 in
theorem e_X3_item_26 : tabF k_X3_item 26 = f_shr := rfl
set_option maxRecDepth 8000 in
theorem e_X3_item_27 : tabF k_X3_item 27 = f_push 15 2 := rfl
set_option maxRecDepth 8000 in
theorem e_X3_item_29 : tabF k_X3_item 29 = f_and := rfl
set_option maxRecDepth 8000 in
theorem e_X3_item_30 : tabF k_X3_item 30 = f_iret := rfl
set_option maxRecDepth 8000 in
theorem e_X3_lastItem_0 : tabF k_X3_lastItem 0 = f_loadI 0 1 := rfl
set_option maxRecDepth 8000 in
theorem e_X3_lastItem_1 : tabF k_X3_lastItem 1 = f_push 15 2 := rfl
set_option maxRecDepth 8000 in
theorem e_X3_lastItem_3 : tabF k_X3_lastItem 3 = f_and := rfl
set_option maxRecDepth 8000 in
theorem e_X3_lastItem_4 : tabF k_X3_lastItem 4 = f_iret := rfl
set_option maxRecDepth 8000 in
theorem e_X3_withoutLast_0 : tabF k_X3_withoutLast 0 = f_loadI 0 1 := rfl
set_option maxRecDepth 8000 in
theorem e_X3_withoutLast_1 : tabF k_X3_withoutLast 1 = f_push 4 1 := rfl
set_option maxRecDepth 8000 in
theorem e_X3_withoutLast_2 : tabF k_X3_withoutLast 2 = f_shr := rfl
set_option maxRecDepth 8000 in
theorem e_X3_withoutLast_3 : tabF k_X3_withoutLast 3 = f_iret := rfl
set_option maxRecDepth 8000 in
theorem e_X3_insert_0 : tabF k_X3_insert 0 = f_push 4 1 := rfl
set_option maxRecDepth 8000 in
theorem e_X3_insert_1 : tabF k_X3_insert 1 = f_loadI 1 1 := rfl
set_option maxRecDepth 8000 in
theorem e_X3_insert_2 : tabF k_X3_insert 2 = f_mul := rfl
set_option maxRecDepth 8000 in
theorem e_X3_insert_3 : tabF k_X3_insert 3 = f_storeI 3 1 := rfl
set_option maxRecDepth 8000 in
theorem e_X3_insert_4 : tabF k_X3_insert 4 = f_loadI 0 1 := rfl
set_option maxRecDepth 8000 in
theorem e_X3_insert_5 : tabF k_X3_insert 5 = f_push 1 1 := rfl
set_option maxRecDepth 8000 in
theorem e_X3_insert_6 : tabF k_X3_insert 6 = f_loadI 3 1 := rfl
set_option maxRecDepth 8000 in
theorem e_X3_insert_7 : tabF k_X3_insert 7 = f_shl := rfl
set_option maxRecDepth 8000 in
theorem e_X3_insert_8 : tabF k_X3_insert 8 = f_push 1 1 := rfl
set_option maxRecDepth 8000 in
theorem e_X3_insert_9 : tabF k_X3_insert 9 = f_sub := rfl
set_option maxRecDepth 8000 in
theorem e_X3_insert_10 : tabF k_X3_insert 10 = f_and := rfl
set_option maxRecDepth 8000 in
theorem e_X3_insert_11 : tabF k_X3_insert 11 = f_storeI 4 2 := rfl
set_option maxRecDepth 8000 in
theorem e_X3_insert_13 : tabF k_X3_insert 13 = f_loadI 0 1 := rfl
set_option maxRecDepth 8000 in
theorem e_X3_insert_14 : tabF k_X3_insert 14 = f_loadI 3 1 := rfl
set_option maxRecDepth 8000 in
theorem e_X3_insert_15 : tabF k_X3_insert 15 = f_shr := rfl
set_option maxRecDepth 8000 in
theorem e_X3_insert_16 : tabF k_X3_insert 16 = f_push 4 1 := rfl
set_option maxRecDepth 8000 in
theorem e_X3_insert_17 : tabF k_X3_insert 17 = f_shl := rfl
set_option maxRecDepth 8000 in
theorem e_X3_insert_18 : tabF k_X3_insert 18 = f_loadI 2 1 := rfl
set_option maxRecDepth 8000 in
theorem e_X3_insert_19 : tabF k_X3_insert 19 = f_or := rfl
set_option maxRecDepth 8000 in
theorem e_X3_insert_20 : tabF k_X3_insert 20 = f_loadI 3 1 := rfl
set_option maxRecDepth 8000 in
theorem e_X3_insert_21 : tabF k_X3_insert 21 = f_shl := rfl
set_option maxRecDepth 8000 in
theorem e_X3_insert_22 : tabF k_X3_insert 22 = f_loadI 4 2 := rfl
set_option maxRecDepth 8000 in
theorem e_X3_insert_24 : tabF k_X3_insert 24 = f_or := rfl
set_option maxRecDepth 8000 in
theorem e_X3_insert_25 : tabF k_X3_insert 25 = f_iret := rfl
set_option maxRecDepth 8000 in
theorem e_X3_replace_0 : tabF k_X3_replace 0 = f_push 4 1 := rfl
set_option maxRecDepth 8000 in
theorem e_X3_replace_1 : tabF k_X3_replace 1 = f_loadI 0 1 := rfl
set_option maxRecDepth 8000 in
theorem e_X3_replace_2 : tabF k_X3_replace 2 = f_callS 27 1 := rfl
set_option maxRecDepth 8000 in
theorem e_X3_replace_5 : tabF k_X3_replace 5 = f_push 1 1 := rfl
set_option maxRecDepth 8000 in
theorem e_X3_replace_6 : tabF k_X3_replace 6 = f_sub := rfl
set_option maxRecDepth 8000 in
theorem e_X3_replace_7 : tabF k_X3_replace 7 = f_loadI 1 1 := rfl
set_option maxRecDepth 8000 in
theorem e_X3_replace_8 : tabF k_X3_replace 8 = f_sub := rfl
set_option maxRecDepth 8000 in
theorem e_X3_replace_9 : tabF k_X3_replace 9 = f_mul := rfl
set_option maxRecDepth 8000 in
theorem e_X3_replace_10 : tabF k_X3_replace 10 = f_storeI 3 1 := rfl
set_option maxRecDepth 8000 in
theorem e_X3_replace_11 : tabF k_X3_replace 11 = f_loadI 0 1 := rfl
set_option maxRecDepth 8000 in
theorem e_X3_replace_12 : tabF k_X3_replace 12 = f_push 15 2 := rfl
set_option maxRecDepth 8000 in
theorem e_X3_replace_14 : tabF k_X3_replace 14 = f_loadI 3 1 := rfl
set_option maxRecDepth 8000 in
theorem e_X3_replace_15 : tabF k_X3_replace 15 = f_shl := rfl
set_option maxRecDepth 8000 in
theorem e_X3_replace_16 : tabF k_X3_replace 16 = f_push (-1) 1 := rfl
set_option maxRecDepth 8000 in
theorem e_X3_replace_17 : tabF k_X3_replace 17 = f_xor := rfl
set_option maxRecDepth 8000 in
theorem e_X3_replace_18 : tabF k_X3_replace 18 = f_and := rfl
set_option maxRecDepth 8000 in
theorem e_X3_replace_19 : tabF k_X3_replace 19 = f_loadI 2 1 := rfl
set_option maxRecDepth 8000 in
theorem e_X3_replace_20 : tabF k_X3_replace 20 = f_loadI 3 1 := rfl
set_option maxRecDepth 8000 in
theorem e_X3_replace_21 : tabF k_X3_replace 21 = f_shl := rfl
set_option maxRecDepth 8000 in
theorem e_X3_replace_22 : tabF k_X3_replace 22 = f_or := rfl
set_option maxRecDepth 8000 in
theorem e_X3_replace_23 : tabF k_X3_replace 23 = f_iret := rfl
set_option maxRecDepth 8000 in
theorem e_X4_begin_0 : tabF k_X4_begin 0 = f_loadR 0 1 := rfl
set_option maxRecDepth 8000 in
theorem e_X4_begin_1 : tabF k_X4_begin 1 = f_loadI 1 1 := rfl
set_option maxRecDepth 8000 in
theorem e_X4_begin_2 : tabF k_X4_begin 2 = f_putI 3 0 := rfl
set_option maxRecDepth 8000 in
theorem e_X4_begin_5 : tabF k_X4_begin 5 = f_loadR 0 1 := rfl
set_option maxRecDepth 8000 in
theorem e_X4_begin_6 : tabF k_X4_begin 6 = f_push 1 1 := rfl
set_option maxRecDepth 8000 in
theorem e_X4_begin_7 : tabF k_X4_begin 7 = f_putZ 3 1 := rfl
set_option maxRecDepth 8000 in
theorem e_X4_begin_10 : tabF k_X4_begin 10 = f_loadR 0 1 := rfl
set_option maxRecDepth 8000 in
theorem e_X4_begin_11 : tabF k_X4_begin 11 = f_push 0 1 := rfl
set_option maxRecDepth 8000 in
theorem e_X4_begin_12 : tabF k_X4_begin 12 = f_putI 3 4 := rfl
set_option maxRecDepth 8000 in
theorem e_X4_begin_15 : tabF k_X4_begin 15 = f_vret := rfl
set_option maxRecDepth 8000 in
theorem e_X4_append_0 : tabF k_X4_append 0 = f_loadR 0 1 := rfl
set_option maxRecDepth 8000 in
theorem e_X4_append_1 : tabF k_X4_append 1 = f_getI 3 4 := rfl
set_option maxRecDepth 8000 in
theorem e_X4_append_4 : tabF k_X4_append 4 = f_push 30 2 := rfl
set_option maxRecDepth 8000 in
theorem e_X4_append_6 : tabF k_X4_append 6 = f_icmp cGe cLt 23 := rfl
set_option maxRecDepth 8000 in
theorem e_X4_append_9 : tabF k_X4_append 9 = f_loadI 1 1 := rfl
set_option maxRecDepth 8000 in
theorem e_X4_append_10 : tabF k_X4_append 10 = f_loadR 0 1 := rfl
set_option maxRecDepth 8000 in
theorem e_X4_append_11 : tabF k_X4_append 11 = f_loadR 0 1 := rfl
set_option maxRecDepth 8000 in
theorem e_X4_append_12 : tabF k_X4_append 12 = f_getI 3 4 := rfl
set_option maxRecDepth 8000 in
theorem e_X4_append_15 : tabF k_X4_append 15 = f_push 1 1 := rfl
set_option maxRecDepth 8000 in
theorem e_X4_append_16 : tabF k_X4_append 16 = f_sub := rfl
set_option maxRecDepth 8000 in
theorem e_X4_append_17 : tabF k_X4_append 17 = f_callV 3 36 1 := rfl
set_option maxRecDepth 8000 in
theorem e_X4_append_20 : tabF k_X4_append 20 = f_icmp cGe cLt 25 := rfl
set_option maxRecDepth 8000 in
theorem e_X4_append_23 : tabF k_X4_append 23 = f_push (-1) 1 := rfl
set_option maxRecDepth 8000 in
theorem e_X4_append_24 : tabF k_X4_append 24 = f_iret := rfl
set_option maxRecDepth 8000 in
theorem e_X4_append_25 : tabF k_X4_append 25 = f_loadR 0 1 := rfl
set_option maxRecDepth 8000 in
theorem e_X4_append_26 : tabF k_X4_append 26 = f_getR 3 2 (fun i => i + 24) := rfl
set_option maxRecDepth 8000 in
theorem e_X4_append_29 : tabF k_X4_append 29 = f_loadR 0 1 := rfl
set_option maxRecDepth 8000 in
theorem e_X4_append_30 : tabF k_X4_append 30 = f_getI 3 4 := rfl
set_option maxRecDepth 8000 in
theorem e_X4_append_33 : tabF k_X4_append 33 = f_loadI 1 1 := rfl
set_option maxRecDepth 8000 in
theorem e_X4_append_34 : tabF k_X4_append 34 = f_iast := rfl
set_option maxRecDepth 8000 in
theorem e_X4_append_35 : tabF k_X4_append 35 = f_loadR 0 1 := rfl
set_option maxRecDepth 8000 in
theorem e_X4_append_36 : tabF k_X4_append 36 = f_getR 3 3 (fun i => i + 48) := rfl
set_option maxRecDepth 8000 in
theorem e_X4_append_39 : tabF k_X4_append 39 = f_loadR 0 1 := rfl
set_option maxRecDepth 8000 in
theorem e_X4_append_40 : tabF k_X4_append 40 = f_getI 3 4 := rfl
set_option maxRecDepth 8000 in
theorem e_X4_append_43 : tabF k_X4_append 43 = f_loadI 2 1 := rfl
set_option maxRecDepth 8000 in
theorem e_X4_append_44 : tabF k_X4_append 44 = f_iast := rfl
set_option maxRecDepth 8000 in
theorem e_X4_append_45 : tabF k_X4_append 45 = f_loadR 0 1 := rfl
set_option maxRecDepth 8000 in
theorem e_X4_append_46 : tabF k_X4_append 46 = f_dup := rfl
set_option maxRecDepth 8000 in
theorem e_X4_append_47 : tabF k_X4_append 47 = f_getI 3 4 := rfl
set_option maxRecDepth 8000 in
theorem e_X4_append_50 : tabF k_X4_append 50 = f_push 1 1 := rfl
set_option maxRecDepth 8000 in
theorem e_X4_append_51 : tabF k_X4_append 51 = f_add := rfl
set_option maxRecDepth 8000 in
theorem e_X4_append_52 : tabF k_X4_append 52 = f_putI 3 4 := rfl
set_option maxRecDepth 8000 in
theorem e_X4_append_55 : tabF k_X4_append 55 = f_loadR 0 1 := rfl
set_option maxRecDepth 8000 in
theorem e_X4_append_56 : tabF k_X4_append 56 = f_getI 3 4 := rfl
set_option maxRecDepth 8000 in
theorem e_X4_append_59 : tabF k_X4_append 59 = f_push 1 1 := rfl
set_option maxRecDepth 8000 in
theorem e_X4_append_60 : tabF k_X4_append 60 = f_sub := rfl
set_option maxRecDepth 8000 in
theorem e_X4_append_61 : tabF k_X4_append 61 = f_iret := rfl
set_option maxRecDepth 8000 in
theorem e_X4_size_0 : tabF k_X4_size 0 = f_loadR 0 1 := rfl
set_option maxRecDepth 8000 in
theorem e_X4_size_1 : tabF k_X4_size 1 = f_getI 3 4 := rfl
set_option maxRecDepth 8000 in
theorem e_X4_size_4 : tabF k_X4_size 4 = f_iret := rfl
set_option maxRecDepth 8000 in
theorem e_X4_tickAt_0 : tabF k_X4_tickAt 0 = f_loadI 1 1 := rfl
set_option maxRecDepth 8000 in
theorem e_X4_tickAt_1 : tabF k_X4_tickAt 1 = f_if0 cLt cGe 21 := rfl
set_option maxRecDepth 8000 in
theorem e_X4_tickAt_4 : tabF k_X4_tickAt 4 = f_loadI 1 1 := rfl
set_option maxRecDepth 8000 in
theorem e_X4_tickAt_5 : tabF k_X4_tickAt 5 = f_loadR 0 1 := rfl
set_option maxRecDepth 8000 in
theorem e_X4_tickAt_6 : tabF k_X4_tickAt 6 = f_getI 3 4 := rfl
set_option maxRecDepth 8000 in
theorem e_X4_tickAt_9 : tabF k_X4_tickAt 9 = f_icmp cGe cLt 21 := rfl
set_option maxRecDepth 8000 in
theorem e_X4_tickAt_12 : tabF k_X4_tickAt 12 = f_loadR 0 1 := rfl
set_option maxRecDepth 8000 in
theorem e_X4_tickAt_13 : tabF k_X4_tickAt 13 = f_getR 3 2 (fun i => i + 24) := rfl
set_option maxRecDepth 8000 in
theorem e_X4_tickAt_16 : tabF k_X4_tickAt 16 = f_loadI 1 1 := rfl
set_option maxRecDepth 8000 in
theorem e_X4_tickAt_17 : tabF k_X4_tickAt 17 = f_iald := rfl
set_option maxRecDepth 8000 in
theorem e_X4_tickAt_18 : tabF k_X4_tickAt 18 = f_goto 22 := rfl
set_option maxRecDepth 8000 in
theorem e_X4_tickAt_21 : tabF k_X4_tickAt 21 = f_push (-1) 1 := rfl
set_option maxRecDepth 8000 in
theorem e_X4_tickAt_22 : tabF k_X4_tickAt 22 = f_iret := rfl
set_option maxRecDepth 8000 in
theorem e_X4_kindAt_0 : tabF k_X4_kindAt 0 = f_loadI 1 1 := rfl
set_option maxRecDepth 8000 in
theorem e_X4_kindAt_1 : tabF k_X4_kindAt 1 = f_if0 cLt cGe 21 := rfl
set_option maxRecDepth 8000 in
theorem e_X4_kindAt_4 : tabF k_X4_kindAt 4 = f_loadI 1 1 := rfl
set_option maxRecDepth 8000 in
theorem e_X4_kindAt_5 : tabF k_X4_kindAt 5 = f_loadR 0 1 := rfl
set_option maxRecDepth 8000 in
theorem e_X4_kindAt_6 : tabF k_X4_kindAt 6 = f_getI 3 4 := rfl
set_option maxRecDepth 8000 in
theorem e_X4_kindAt_9 : tabF k_X4_kindAt 9 = f_icmp cGe cLt 21 := rfl
set_option maxRecDepth 8000 in
theorem e_X4_kindAt_12 : tabF k_X4_kindAt 12 = f_loadR 0 1 := rfl
set_option maxRecDepth 8000 in
theorem e_X4_kindAt_13 : tabF k_X4_kindAt 13 = f_getR 3 3 (fun i => i + 48) := rfl
set_option maxRecDepth 8000 in
theorem e_X4_kindAt_16 : tabF k_X4_kindAt 16 = f_loadI 1 1 := rfl
set_option maxRecDepth 8000 in
theorem e_X4_kindAt_17 : tabF k_X4_kindAt 17 = f_iald := rfl
set_option maxRecDepth 8000 in
theorem e_X4_kindAt_18 : tabF k_X4_kindAt 18 = f_goto 22 := rfl
set_option maxRecDepth 8000 in
theorem e_X4_kindAt_21 : tabF k_X4_kindAt 21 = f_push (-1) 1 := rfl
set_option maxRecDepth 8000 in
theorem e_X4_kindAt_22 : tabF k_X4_kindAt 22 = f_iret := rfl
set_option maxRecDepth 8000 in
theorem e_X4_bitsAt_0 : tabF k_X4_bitsAt 0 = f_loadI 1 1 := rfl
set_option maxRecDepth 8000 in
theorem e_X4_bitsAt_1 : tabF k_X4_bitsAt 1 = f_if0 cLt cGe 23 := rfl
set_option maxRecDepth 8000 in
theorem e_X4_bitsAt_4 : tabF k_X4_bitsAt 4 = f_loadI 1 1 := rfl
set_option maxRecDepth 8000 in
theorem e_X4_bitsAt_5 : tabF k_X4_bitsAt 5 = f_loadR 0 1 := rfl
set_option maxRecDepth 8000 in
theorem e_X4_bitsAt_6 : tabF k_X4_bitsAt 6 = f_getI 3 4 := rfl
set_option maxRecDepth 8000 in
theorem e_X4_bitsAt_9 : tabF k_X4_bitsAt 9 = f_icmp cGe cLt 23 := rfl
set_option maxRecDepth 8000 in
theorem e_X4_bitsAt_12 : tabF k_X4_bitsAt 12 = f_loadR 2 1 := rfl
set_option maxRecDepth 8000 in
theorem e_X4_bitsAt_13 : tabF k_X4_bitsAt 13 = f_loadR 0 1 := rfl
set_option maxRecDepth 8000 in
theorem e_X4_bitsAt_14 : tabF k_X4_bitsAt 14 = f_getR 3 3 (fun i => i + 48) := rfl
set_option maxRecDepth 8000 in
theorem e_X4_bitsAt_17 : tabF k_X4_bitsAt 17 = f_loadI 1 1 := rfl
set_option maxRecDepth 8000 in
theorem e_X4_bitsAt_18 : tabF k_X4_bitsAt 18 = f_iald := rfl
set_option maxRecDepth 8000 in
theorem e_X4_bitsAt_19 : tabF k_X4_bitsAt 19 = f_iald := rfl
set_option maxRecDepth 8000 in
theorem e_X4_bitsAt_20 : tabF k_X4_bitsAt 20 = f_goto 24 := rfl
set_option maxRecDepth 8000 in
theorem e_X4_bitsAt_23 : tabF k_X4_bitsAt 23 = f_push 0 1 := rfl
set_option maxRecDepth 8000 in
theorem e_X4_bitsAt_24 : tabF k_X4_bitsAt 24 = f_iret := rfl
set_option maxRecDepth 8000 in
theorem e_X4_howMany_0 : tabF k_X4_howMany 0 = f_push 0 1 := rfl
set_option maxRecDepth 8000 in
theorem e_X4_howMany_1 : tabF k_X4_howMany 1 = f_storeI 3 1 := rfl
set_option maxRecDepth 8000 in
theorem e_X4_howMany_2 : tabF k_X4_howMany 2 = f_push 0 1 := rfl
set_option maxRecDepth 8000 in
theorem e_X4_howMany_3 : tabF k_X4_howMany 3 = f_storeI 4 2 := rfl
set_option maxRecDepth 8000 in
theorem e_X4_howMany_5 : tabF k_X4_howMany 5 = f_loadI 4 2 := rfl
set_option maxRecDepth 8000 in
theorem e_X4_howMany_7 : tabF k_X4_howMany 7 = f_loadR 0 1 := rfl
set_option maxRecDepth 8000 in
theorem e_X4_howMany_8 : tabF k_X4_howMany 8 = f_getI 3 4 := rfl
set_option maxRecDepth 8000 in
theorem e_X4_howMany_11 : tabF k_X4_howMany 11 = f_icmp cGe cLt 37 := rfl
set_option maxRecDepth 8000 in
theorem e_X4_howMany_14 : tabF k_X4_howMany 14 = f_loadI 3 1 := rfl
set_option maxRecDepth 8000 in
theorem e_X4_howMany_15 : tabF k_X4_howMany 15 = f_loadR 0 1 := rfl
set_option maxRecDepth 8000 in
theorem e_X4_howMany_16 : tabF k_X4_howMany 16 = f_loadI 4 2 := rfl
set_option maxRecDepth 8000 in
theorem e_X4_howMany_18 : tabF k_X4_howMany 18 = f_loadR 1 1 := rfl
set_option maxRecDepth 8000 in
theorem e_X4_howMany_19 : tabF k_X4_howMany 19 = f_getR 1 0 (fun i => 2) := rfl
set_option maxRecDepth 8000 in
theorem e_X4_howMany_22 : tabF k_X4_howMany 22 = f_callV 3 38 2 := rfl
set_option maxRecDepth 8000 in
theorem e_X4_howMany_25 : tabF k_X4_howMany 25 = f_loadI 2 1 := rfl
set_option maxRecDepth 8000 in
theorem e_X4_howMany_26 : tabF k_X4_howMany 26 = f_shr := rfl
set_option maxRecDepth 8000 in
theorem e_X4_howMany_27 : tabF k_X4_howMany 27 = f_push 1 1 := rfl
set_option maxRecDepth 8000 in
theorem e_X4_howMany_28 : tabF k_X4_howMany 28 = f_and := rfl
set_option maxRecDepth 8000 in
theorem e_X4_howMany_29 : tabF k_X4_howMany 29 = f_add := rfl
set_option maxRecDepth 8000 in
theorem e_X4_howMany_30 : tabF k_X4_howMany 30 = f_storeI 3 1 := rfl
set_option maxRecDepth 8000 in
theorem e_X4_howMany_31 : tabF k_X4_howMany 31 = f_iinc 4 1 := rfl
set_option maxRecDepth 8000 in
theorem e_X4_howMany_34 : tabF k_X4_howMany 34 = f_goto 5 := rfl
set_option maxRecDepth 8000 in
theorem e_X4_howMany_37 : tabF k_X4_howMany 37 = f_loadI 3 1 := rfl
set_option maxRecDepth 8000 in
theorem e_X4_howMany_38 : tabF k_X4_howMany 38 = f_iret := rfl
set_option maxRecDepth 8000 in
theorem e_X5_under_0 : tabF k_X5_under 0 = f_loadI 1 1 := rfl
set_option maxRecDepth 8000 in
theorem e_X5_under_1 : tabF k_X5_under 1 = f_callS 60 1 := rfl
set_option maxRecDepth 8000 in
theorem e_X5_under_4 : tabF k_X5_under 4 = f_if0 cEq cNe 35 := rfl
set_option maxRecDepth 8000 in
theorem e_X5_under_7 : tabF k_X5_under 7 = f_loadI 2 1 := rfl
set_option maxRecDepth 8000 in
theorem e_X5_under_8 : tabF k_X5_under 8 = f_push (-1) 1 := rfl
set_option maxRecDepth 8000 in
theorem e_X5_under_9 : tabF k_X5_under 9 = f_icmp cEq cNe 19 := rfl
set_option maxRecDepth 8000 in
theorem e_X5_under_12 : tabF k_X5_under 12 = f_loadI 2 1 := rfl
set_option maxRecDepth 8000 in
theorem e_X5_under_13 : tabF k_X5_under 13 = f_callS 60 1 := rfl
set_option maxRecDepth 8000 in
theorem e_X5_under_16 : tabF k_X5_under 16 = f_if0 cEq cNe 35 := rfl
set_option maxRecDepth 8000 in
theorem e_X5_under_19 : tabF k_X5_under 19 = f_loadR 0 1 := rfl
set_option maxRecDepth 8000 in
theorem e_X5_under_20 : tabF k_X5_under 20 = f_getR 4 0 (fun i => 1) := rfl
set_option maxRecDepth 8000 in
theorem e_X5_under_23 : tabF k_X5_under 23 = f_loadI 1 1 := rfl
set_option maxRecDepth 8000 in
theorem e_X5_under_24 : tabF k_X5_under 24 = f_loadI 2 1 := rfl
set_option maxRecDepth 8000 in
theorem e_X5_under_25 : tabF k_X5_under 25 = f_callV 1 7 2 := rfl
set_option maxRecDepth 8000 in
theorem e_X5_under_28 : tabF k_X5_under 28 = f_if0 cEq cNe 35 := rfl
set_option maxRecDepth 8000 in
theorem e_X5_under_31 : tabF k_X5_under 31 = f_push 1 1 := rfl
set_option maxRecDepth 8000 in
theorem e_X5_under_32 : tabF k_X5_under 32 = f_goto 36 := rfl
set_option maxRecDepth 8000 in
theorem e_X5_under_35 : tabF k_X5_under 35 = f_push 0 1 := rfl
set_option maxRecDepth 8000 in
theorem e_X5_under_36 : tabF k_X5_under 36 = f_zret := rfl
set_option maxRecDepth 8000 in
theorem e_X5_row_0 : tabF k_X5_row 0 = f_loadI 1 1 := rfl
set_option maxRecDepth 8000 in
theorem e_X5_row_1 : tabF k_X5_row 1 = f_if0 cLt cGe 18 := rfl
set_option maxRecDepth 8000 in
theorem e_X5_row_4 : tabF k_X5_row 4 = f_loadI 1 1 := rfl
set_option maxRecDepth 8000 in
theorem e_X5_row_5 : tabF k_X5_row 5 = f_push 2 1 := rfl
set_option maxRecDepth 8000 in
theorem e_X5_row_6 : tabF k_X5_row 6 = f_icmp cGe cLt 18 := rfl
set_option maxRecDepth 8000 in
theorem e_X5_row_9 : tabF k_X5_row 9 = f_loadR 0 1 := rfl
set_option maxRecDepth 8000 in
theorem e_X5_row_10 : tabF k_X5_row 10 = f_getI 4 5 := rfl
set_option maxRecDepth 8000 in
theorem e_X5_row_13 : tabF k_X5_row 13 = f_push 24 2 := rfl
set_option maxRecDepth 8000 in
theorem e_X5_row_15 : tabF k_X5_row 15 = f_icmp cLt cGe 20 := rfl
set_option maxRecDepth 8000 in
theorem e_X5_row_18 : tabF k_X5_row 18 = f_push (-1) 1 := rfl
set_option maxRecDepth 8000 in
theorem e_X5_row_19 : tabF k_X5_row 19 = f_iret := rfl
set_option maxRecDepth 8000 in
theorem e_X5_row_20 : tabF k_X5_row 20 = f_loadR 0 1 := rfl
set_option maxRecDepth 8000 in
theorem e_X5_row_21 : tabF k_X5_row 21 = f_getR 4 3 (fun i => 12) := rfl
set_option maxRecDepth 8000 in
theorem e_X5_row_24 : tabF k_X5_row 24 = f_loadR 0 1 := rfl
set_option maxRecDepth 8000 in
theorem e_X5_row_25 : tabF k_X5_row 25 = f_getI 4 5 := rfl
set_option maxRecDepth 8000 in
theorem e_X5_row_28 : tabF k_X5_row 28 = f_aald := rfl
set_option maxRecDepth 8000 in
theorem e_X5_row_29 : tabF k_X5_row 29 = f_loadI 1 1 := rfl
set_option maxRecDepth 8000 in
theorem e_X5_row_30 : tabF k_X5_row 30 = f_callV 3 33 1 := rfl
set_option maxRecDepth 8000 in
theorem e_X5_row_33 : tabF k_X5_row 33 = f_loadR 0 1 := rfl
set_option maxRecDepth 8000 in
theorem e_X5_row_34 : tabF k_X5_row 34 = f_dup := rfl
set_option maxRecDepth 8000 in
theorem e_X5_row_35 : tabF k_X5_row 35 = f_getI 4 5 := rfl
set_option maxRecDepth 8000 in
theorem e_X5_row_38 : tabF k_X5_row 38 = f_push 1 1 := rfl
set_option maxRecDepth 8000 in
theorem e_X5_row_39 : tabF k_X5_row 39 = f_add := rfl
set_option maxRecDepth 8000 in
theorem e_X5_row_40 : tabF k_X5_row 40 = f_putI 4 5 := rfl
set_option maxRecDepth 8000 in
theorem e_X5_row_43 : tabF k_X5_row 43 = f_loadR 0 1 := rfl
set_option maxRecDepth 8000 in
theorem e_X5_row_44 : tabF k_X5_row 44 = f_getI 4 5 := rfl
set_option maxRecDepth 8000 in
theorem e_X5_row_47 : tabF k_X5_row 47 = f_push 1 1 := rfl
set_option maxRecDepth 8000 in
theorem e_X5_row_48 : tabF k_X5_row 48 = f_sub := rfl
set_option maxRecDepth 8000 in
theorem e_X5_row_49 : tabF k_X5_row 49 = f_iret := rfl
set_option maxRecDepth 8000 in
theorem e_X5_put_0 : tabF k_X5_put 0 = f_loadR 0 1 := rfl
set_option maxRecDepth 8000 in
theorem e_X5_put_1 : tabF k_X5_put 1 = f_loadI 1 1 := rfl
set_option maxRecDepth 8000 in
theorem e_X5_put_2 : tabF k_X5_put 2 = f_callV 4 63 1 := rfl
set_option maxRecDepth 8000 in
theorem e_X5_put_5 : tabF k_X5_put 5 = f_if0 cEq cNe 36 := rfl
set_option maxRecDepth 8000 in
theorem e_X5_put_8 : tabF k_X5_put 8 = f_loadI 2 1 := rfl
set_option maxRecDepth 8000 in
theorem e_X5_put_9 : tabF k_X5_put 9 = f_callS 61 1 := rfl
set_option maxRecDepth 8000 in
theorem e_X5_put_12 : tabF k_X5_put 12 = f_if0 cEq cNe 36 := rfl
set_option maxRecDepth 8000 in
theorem e_X5_put_15 : tabF k_X5_put 15 = f_loadI 3 1 := rfl
set_option maxRecDepth 8000 in
theorem e_X5_put_16 : tabF k_X5_put 16 = f_callS 60 1 := rfl
set_option maxRecDepth 8000 in
theorem e_X5_put_19 : tabF k_X5_put 19 = f_if0 cEq cNe 36 := rfl
set_option maxRecDepth 8000 in
theorem e_X5_put_22 : tabF k_X5_put 22 = f_loadR 0 1 := rfl
set_option maxRecDepth 8000 in
theorem e_X5_put_23 : tabF k_X5_put 23 = f_getR 4 3 (fun i => 12) := rfl
set_option maxRecDepth 8000 in
theorem e_X5_put_26 : tabF k_X5_put 26 = f_loadI 1 1 := rfl
set_option maxRecDepth 8000 in
theorem e_X5_put_27 : tabF k_X5_put 27 = f_aald := rfl
set_option maxRecDepth 8000 in
theorem e_X5_put_28 : tabF k_X5_put 28 = f_loadI 2 1 := rfl
set_option maxRecDepth 8000 in
theorem e_X5_put_29 : tabF k_X5_put 29 = f_loadI 3 1 := rfl
set_option maxRecDepth 8000 in
theorem e_X5_put_30 : tabF k_X5_put 30 = f_callV 3 34 2 := rfl
set_option maxRecDepth 8000 in
theorem e_X5_put_33 : tabF k_X5_put 33 = f_goto 37 := rfl
set_option maxRecDepth 8000 in
theorem e_X5_put_36 : tabF k_X5_put 36 = f_push (-1) 1 := rfl
set_option maxRecDepth 8000 in
theorem e_X5_put_37 : tabF k_X5_put 37 = f_iret := rfl
set_option maxRecDepth 8000 in
theorem e_X5_take_0 : tabF k_X5_take 0 = f_loadR 0 1 := rfl
set_option maxRecDepth 8000 in
theorem e_X5_take_1 : tabF k_X5_take 1 = f_loadI 1 1 := rfl
set_option maxRecDepth 8000 in
theorem e_X5_take_2 : tabF k_X5_take 2 = f_callV 4 63 1 := rfl
set_option maxRecDepth 8000 in
theorem e_X5_take_5 : tabF k_X5_take 5 = f_if0 cEq cNe 21 := rfl
set_option maxRecDepth 8000 in
theorem e_X5_take_8 : tabF k_X5_take 8 = f_loadR 0 1 := rfl
set_option maxRecDepth 8000 in
theorem e_X5_take_9 : tabF k_X5_take 9 = f_getR 4 3 (fun i => 12) := rfl
set_option maxRecDepth 8000 in
theorem e_X5_take_12 : tabF k_X5_take 12 = f_loadI 1 1 := rfl
set_option maxRecDepth 8000 in
theorem e_X5_take_13 : tabF k_X5_take 13 = f_aald := rfl
set_option maxRecDepth 8000 in
theorem e_X5_take_14 : tabF k_X5_take 14 = f_getI 3 1 := rfl
set_option maxRecDepth 8000 in
theorem e_X5_take_17 : tabF k_X5_take 17 = f_loadI 2 1 := rfl
set_option maxRecDepth 8000 in
theorem e_X5_take_18 : tabF k_X5_take 18 = f_icmp cNe cEq 23 := rfl
set_option maxRecDepth 8000 in
theorem e_X5_take_21 : tabF k_X5_take 21 = f_push 0 1 := rfl
set_option maxRecDepth 8000 in
theorem e_X5_take_22 : tabF k_X5_take 22 = f_zret := rfl
set_option maxRecDepth 8000 in
theorem e_X5_take_23 : tabF k_X5_take 23 = f_loadR 0 1 := rfl
set_option maxRecDepth 8000 in
theorem e_X5_take_24 : tabF k_X5_take 24 = f_getR 4 3 (fun i => 12) := rfl
set_option maxRecDepth 8000 in
theorem e_X5_take_27 : tabF k_X5_take 27 = f_loadI 1 1 := rfl
set_option maxRecDepth 8000 in
theorem e_X5_take_28 : tabF k_X5_take 28 = f_aald := rfl
set_option maxRecDepth 8000 in
theorem e_X5_take_29 : tabF k_X5_take 29 = f_loadI 2 1 := rfl
set_option maxRecDepth 8000 in
theorem e_X5_take_30 : tabF k_X5_take 30 = f_putZ 3 1 := rfl
set_option maxRecDepth 8000 in
theorem e_X5_take_33 : tabF k_X5_take 33 = f_push 1 1 := rfl
set_option maxRecDepth 8000 in
theorem e_X5_take_34 : tabF k_X5_take 34 = f_zret := rfl
set_option maxRecDepth 8000 in
theorem e_X5_gap_0 : tabF k_X5_gap 0 = f_loadI 1 1 := rfl
set_option maxRecDepth 8000 in
theorem e_X5_gap_1 : tabF k_X5_gap 1 = f_callS 61 1 := rfl
set_option maxRecDepth 8000 in
theorem e_X5_gap_4 : tabF k_X5_gap 4 = f_if0 cNe cEq 9 := rfl
set_option maxRecDepth 8000 in
theorem e_X5_gap_7 : tabF k_X5_gap 7 = f_push 0 1 := rfl
set_option maxRecDepth 8000 in
theorem e_X5_gap_8 : tabF k_X5_gap 8 = f_zret := rfl
set_option maxRecDepth 8000 in
theorem e_X5_gap_9 : tabF k_X5_gap 9 = f_loadR 0 1 := rfl
set_option maxRecDepth 8000 in
theorem e_X5_gap_10 : tabF k_X5_gap 10 = f_getR 4 1 (fun i => 4) := rfl
set_option maxRecDepth 8000 in
theorem e_X5_gap_13 : tabF k_X5_gap 13 = f_loadI 1 1 := rfl
set_option maxRecDepth 8000 in
theorem e_X5_gap_14 : tabF k_X5_gap 14 = f_putI 2 0 := rfl
set_option maxRecDepth 8000 in
theorem e_X5_gap_17 : tabF k_X5_gap 17 = f_push 1 1 := rfl
set_option maxRecDepth 8000 in
theorem e_X5_gap_18 : tabF k_X5_gap 18 = f_zret := rfl
set_option maxRecDepth 8000 in
theorem e_X5_span_0 : tabF k_X5_span 0 = f_loadI 1 1 := rfl
set_option maxRecDepth 8000 in
theorem e_X5_span_1 : tabF k_X5_span 1 = f_callS 61 1 := rfl
set_option maxRecDepth 8000 in
theorem e_X5_span_4 : tabF k_X5_span 4 = f_if0 cNe cEq 9 := rfl
set_option maxRecDepth 8000 in
theorem e_X5_span_7 : tabF k_X5_span 7 = f_push 0 1 := rfl
set_option maxRecDepth 8000 in
theorem e_X5_span_8 : tabF k_X5_span 8 = f_zret := rfl
set_option maxRecDepth 8000 in
theorem e_X5_span_9 : tabF k_X5_span 9 = f_loadR 0 1 := rfl
set_option maxRecDepth 8000 in
theorem e_X5_span_10 : tabF k_X5_span 10 = f_getR 4 1 (fun i => 4) := rfl
set_option maxRecDepth 8000 in
theorem e_X5_span_13 : tabF k_X5_span 13 = f_loadI 1 1 := rfl
set_option maxRecDepth 8000 in
theorem e_X5_span_14 : tabF k_X5_span 14 = f_putI 2 1 := rfl
set_option maxRecDepth 8000 in
theorem e_X5_span_17 : tabF k_X5_span 17 = f_push 1 1 := rfl
set_option maxRecDepth 8000 in
theorem e_X5_span_18 : tabF k_X5_span 18 = f_zret := rfl
set_option maxRecDepth 8000 in
theorem e_X5_count_0 : tabF k_X5_count 0 = f_loadI 1 1 := rfl
set_option maxRecDepth 8000 in
theorem e_X5_count_1 : tabF k_X5_count 1 = f_loadI 2 1 := rfl
set_option maxRecDepth 8000 in
theorem e_X5_count_2 : tabF k_X5_count 2 = f_loadI 3 1 := rfl
set_option maxRecDepth 8000 in
theorem e_X5_count_3 : tabF k_X5_count 3 = f_loadI 4 2 := rfl
set_option maxRecDepth 8000 in
theorem e_X5_count_5 : tabF k_X5_count 5 = f_callS 24 4 := rfl
set_option maxRecDepth 8000 in
theorem e_X5_count_8 : tabF k_X5_count 8 = f_storeI 5 2 := rfl
set_option maxRecDepth 8000 in
theorem e_X5_count_10 : tabF k_X5_count 10 = f_loadI 5 2 := rfl
set_option maxRecDepth 8000 in
theorem e_X5_count_12 : tabF k_X5_count 12 = f_push (-1) 1 := rfl
set_option maxRecDepth 8000 in
theorem e_X5_count_13 : tabF k_X5_count 13 = f_icmp cNe cEq 20 := rfl
set_option maxRecDepth 8000 in
theorem e_X5_count_16 : tabF k_X5_count 16 = f_push (-1) 1 := rfl
set_option maxRecDepth 8000 in
theorem e_X5_count_17 : tabF k_X5_count 17 = f_goto 26 := rfl
set_option maxRecDepth 8000 in
theorem e_X5_count_20 : tabF k_X5_count 20 = f_loadR 0 1 := rfl
set_option maxRecDepth 8000 in
theorem e_X5_count_21 : tabF k_X5_count 21 = f_loadI 5 2 := rfl
set_option maxRecDepth 8000 in
theorem e_X5_count_23 : tabF k_X5_count 23 = f_callV 4 69 1 := rfl
set_option maxRecDepth 8000 in
theorem e_X5_count_26 : tabF k_X5_count 26 = f_iret := rfl
set_option maxRecDepth 8000 in
theorem e_X5_matches_0 : tabF k_X5_matches 0 = f_loadI 2 1 := rfl
set_option maxRecDepth 8000 in
theorem e_X5_matches_1 : tabF k_X5_matches 1 = f_loadI 3 1 := rfl
set_option maxRecDepth 8000 in
theorem e_X5_matches_2 : tabF k_X5_matches 2 = f_loadI 4 2 := rfl
set_option maxRecDepth 8000 in
theorem e_X5_matches_4 : tabF k_X5_matches 4 = f_loadI 5 2 := rfl
set_option maxRecDepth 8000 in
theorem e_X5_matches_6 : tabF k_X5_matches 6 = f_callS 24 4 := rfl
set_option maxRecDepth 8000 in
theorem e_X5_matches_9 : tabF k_X5_matches 9 = f_storeI 6 2 := rfl
set_option maxRecDepth 8000 in
theorem e_X5_matches_11 : tabF k_X5_matches 11 = f_loadR 0 1 := rfl
set_option maxRecDepth 8000 in
theorem e_X5_matches_12 : tabF k_X5_matches 12 = f_loadI 1 1 := rfl
set_option maxRecDepth 8000 in
theorem e_X5_matches_13 : tabF k_X5_matches 13 = f_callV 4 63 1 := rfl
set_option maxRecDepth 8000 in
theorem e_X5_matches_16 : tabF k_X5_matches 16 = f_if0 cEq cNe 25 := rfl
set_option maxRecDepth 8000 in
theorem e_X5_matches_19 : tabF k_X5_matches 19 = f_loadI 6 2 := rfl
set_option maxRecDepth 8000 in
theorem e_X5_matches_21 : tabF k_X5_matches 21 = f_push (-1) 1 := rfl
set_option maxRecDepth 8000 in
theorem e_X5_matches_22 : tabF k_X5_matches 22 = f_icmp cNe cEq 29 := rfl
set_option maxRecDepth 8000 in
theorem e_X5_matches_25 : tabF k_X5_matches 25 = f_pushL (-1) 3 := rfl
set_option maxRecDepth 8000 in
theorem e_X5_matches_28 : tabF k_X5_matches 28 = f_lret := rfl
set_option maxRecDepth 8000 in
theorem e_X5_matches_29 : tabF k_X5_matches 29 = f_loadR 0 1 := rfl
set_option maxRecDepth 8000 in
theorem e_X5_matches_30 : tabF k_X5_matches 30 = f_getR 4 1 (fun i => 4) := rfl
set_option maxRecDepth 8000 in
theorem e_X5_matches_33 : tabF k_X5_matches 33 = f_loadI 6 2 := rfl
set_option maxRecDepth 8000 in
theorem e_X5_matches_35 : tabF k_X5_matches 35 = f_callV 2 11 1 := rfl
set_option maxRecDepth 8000 in
theorem e_X5_matches_38 : tabF k_X5_matches 38 = f_loadR 0 1 := rfl
set_option maxRecDepth 8000 in
theorem e_X5_matches_39 : tabF k_X5_matches 39 = f_getR 4 1 (fun i => 4) := rfl
set_option maxRecDepth 8000 in
theorem e_X5_matches_42 : tabF k_X5_matches 42 = f_loadR 0 1 := rfl
set_option maxRecDepth 8000 in
theorem e_X5_matches_43 : tabF k_X5_matches 43 = f_getR 4 3 (fun i => 12) := rfl
set_option maxRecDepth 8000 in
theorem e_X5_matches_46 : tabF k_X5_matches 46 = f_loadI 1 1 := rfl
set_option maxRecDepth 8000 in
theorem e_X5_matches_47 : tabF k_X5_matches 47 = f_aald := rfl
set_option maxRecDepth 8000 in
theorem e_X5_matches_48 : tabF k_X5_matches 48 = f_callV 2 18 1 := rfl
set_option maxRecDepth 8000 in
theorem e_X5_matches_51 : tabF k_X5_matches 51 = f_lret := rfl
set_option maxRecDepth 8000 in
theorem e_X5_match_0 : tabF k_X5_match 0 = f_loadI 2 1 := rfl
set_option maxRecDepth 8000 in
theorem e_X5_match_1 : tabF k_X5_match 1 = f_loadI 3 1 := rfl
set_option maxRecDepth 8000 in
theorem e_X5_match_2 : tabF k_X5_match 2 = f_loadI 4 2 := rfl
set_option maxRecDepth 8000 in
theorem e_X5_match_4 : tabF k_X5_match 4 = f_loadI 5 2 := rfl
set_option maxRecDepth 8000 in
theorem e_X5_match_6 : tabF k_X5_match 6 = f_callS 24 4 := rfl
set_option maxRecDepth 8000 in
theorem e_X5_match_9 : tabF k_X5_match 9 = f_storeI 7 2 := rfl
set_option maxRecDepth 8000 in
theorem e_X5_match_11 : tabF k_X5_match 11 = f_loadR 0 1 := rfl
set_option maxRecDepth 8000 in
theorem e_X5_match_12 : tabF k_X5_match 12 = f_loadI 1 1 := rfl
set_option maxRecDepth 8000 in
theorem e_X5_match_13 : tabF k_X5_match 13 = f_callV 4 63 1 := rfl
set_option maxRecDepth 8000 in
theorem e_X5_match_16 : tabF k_X5_match 16 = f_if0 cEq cNe 25 := rfl
set_option maxRecDepth 8000 in
theorem e_X5_match_19 : tabF k_X5_match 19 = f_loadI 7 2 := rfl
set_option maxRecDepth 8000 in
theorem e_X5_match_21 : tabF k_X5_match 21 = f_push (-1) 1 := rfl
set_option maxRecDepth 8000 in
theorem e_X5_match_22 : tabF k_X5_match 22 = f_icmp cNe cEq 27 := rfl
set_option maxRecDepth 8000 in
theorem e_X5_match_25 : tabF k_X5_match 25 = f_push (-1) 1 := rfl
set_option maxRecDepth 8000 in
theorem e_X5_match_26 : tabF k_X5_match 26 = f_iret := rfl
set_option maxRecDepth 8000 in
theorem e_X5_match_27 : tabF k_X5_match 27 = f_loadR 0 1 := rfl
set_option maxRecDepth 8000 in
theorem e_X5_match_28 : tabF k_X5_match 28 = f_getR 4 1 (fun i => 4) := rfl
set_option maxRecDepth 8000 in
theorem e_X5_match_31 : tabF k_X5_match 31 = f_loadI 7 2 := rfl
set_option maxRecDepth 8000 in
theorem e_X5_match_33 : tabF k_X5_match 33 = f_callV 2 11 1 := rfl
set_option maxRecDepth 8000 in
theorem e_X5_match_36 : tabF k_X5_match 36 = f_loadR 0 1 := rfl
set_option maxRecDepth 8000 in
theorem e_X5_match_37 : tabF k_X5_match 37 = f_getR 4 1 (fun i => 4) := rfl
set_option maxRecDepth 8000 in
theorem e_X5_match_40 : tabF k_X5_match 40 = f_loadR 0 1 := rfl
set_option maxRecDepth 8000 in
theorem e_X5_match_41 : tabF k_X5_match 41 = f_getR 4 3 (fun i => 12) := rfl
set_option maxRecDepth 8000 in
theorem e_X5_match_44 : tabF k_X5_match 44 = f_loadI 1 1 := rfl
set_option maxRecDepth 8000 in
theorem e_X5_match_45 : tabF k_X5_match 45 = f_aald := rfl
set_option maxRecDepth 8000 in
theorem e_X5_match_46 : tabF k_X5_match 46 = f_loadI 6 2 := rfl
set_option maxRecDepth 8000 in
theorem e_X5_match_48 : tabF k_X5_match 48 = f_callV 2 19 2 := rfl
set_option maxRecDepth 8000 in
theorem e_X5_match_51 : tabF k_X5_match 51 = f_iret := rfl
set_option maxRecDepth 8000 in
theorem e_X5_find_0 : tabF k_X5_find 0 = f_loadI 1 1 := rfl
set_option maxRecDepth 8000 in
theorem e_X5_find_1 : tabF k_X5_find 1 = f_push 1 1 := rfl
set_option maxRecDepth 8000 in
theorem e_X5_find_2 : tabF k_X5_find 2 = f_icmp cLt cGe 21 := rfl
set_option maxRecDepth 8000 in
theorem e_X5_find_5 : tabF k_X5_find 5 = f_loadI 1 1 := rfl
set_option maxRecDepth 8000 in
theorem e_X5_find_6 : tabF k_X5_find 6 = f_push 24 2 := rfl
set_option maxRecDepth 8000 in
theorem e_X5_find_8 : tabF k_X5_find 8 = f_icmp cGt cLe 21 := rfl
set_option maxRecDepth 8000 in
theorem e_X5_find_11 : tabF k_X5_find 11 = f_loadI 2 1 := rfl
set_option maxRecDepth 8000 in
theorem e_X5_find_12 : tabF k_X5_find 12 = f_push 1 1 := rfl
set_option maxRecDepth 8000 in
theorem e_X5_find_13 : tabF k_X5_find 13 = f_icmp cLt cGe 21 := rfl
set_option maxRecDepth 8000 in
theorem e_X5_find_16 : tabF k_X5_find 16 = f_loadI 2 1 := rfl
set_option maxRecDepth 8000 in
theorem e_X5_find_17 : tabF k_X5_find 17 = f_push 4 1 := rfl
set_option maxRecDepth 8000 in
theorem e_X5_find_18 : tabF k_X5_find 18 = f_icmp cLe cGt 23 := rfl
set_option maxRecDepth 8000 in
theorem e_X5_find_21 : tabF k_X5_find 21 = f_push (-1) 1 := rfl
set_option maxRecDepth 8000 in
theorem e_X5_find_22 : tabF k_X5_find 22 = f_iret := rfl
set_option maxRecDepth 8000 in
theorem e_X5_find_23 : tabF k_X5_find 23 = f_loadR 0 1 := rfl
set_option maxRecDepth 8000 in
theorem e_X5_find_24 : tabF k_X5_find 24 = f_getR 4 2 (fun i => 9) := rfl
set_option maxRecDepth 8000 in
theorem e_X5_find_27 : tabF k_X5_find 27 = f_callV 0 0 0 := rfl
set_option maxRecDepth 8000 in
theorem e_X5_find_30 : tabF k_X5_find 30 = f_loadR 0 1 := rfl
set_option maxRecDepth 8000 in
theorem e_X5_find_31 : tabF k_X5_find 31 = f_push 1 1 := rfl
set_option maxRecDepth 8000 in
theorem e_X5_find_32 : tabF k_X5_find 32 = f_loadR 0 1 := rfl
set_option maxRecDepth 8000 in
theorem e_X5_find_33 : tabF k_X5_find 33 = f_callV 4 67 0 := rfl
set_option maxRecDepth 8000 in
theorem e_X5_find_36 : tabF k_X5_find 36 = f_loadI 1 1 := rfl
set_option maxRecDepth 8000 in
theorem e_X5_find_37 : tabF k_X5_find 37 = f_callV 4 72 3 := rfl
set_option maxRecDepth 8000 in
theorem e_X5_find_40 : tabF k_X5_find 40 = f_push 0 1 := rfl
set_option maxRecDepth 8000 in
theorem e_X5_find_41 : tabF k_X5_find 41 = f_storeI 3 1 := rfl
set_option maxRecDepth 8000 in
theorem e_X5_find_42 : tabF k_X5_find 42 = f_loadI 3 1 := rfl
set_option maxRecDepth 8000 in
theorem e_X5_find_43 : tabF k_X5_find 43 = f_loadR 0 1 := rfl
set_option maxRecDepth 8000 in
theorem e_X5_find_44 : tabF k_X5_find 44 = f_getR 4 2 (fun i => 9) := rfl
set_option maxRecDepth 8000 in
theorem e_X5_find_47 : tabF k_X5_find 47 = f_callV 0 4 0 := rfl
set_option maxRecDepth 8000 in
theorem e_X5_find_50 : tabF k_X5_find 50 = f_icmp cGe cLt 115 := rfl
set_option maxRecDepth 8000 in
theorem e_X5_find_53 : tabF k_X5_find 53 = f_loadI 3 1 := rfl
set_option maxRecDepth 8000 in
theorem e_X5_find_54 : tabF k_X5_find 54 = f_push 2000 3 := rfl
set_option maxRecDepth 8000 in
theorem e_X5_find_57 : tabF k_X5_find 57 = f_icmp cGe cLt 115 := rfl
set_option maxRecDepth 8000 in
theorem e_X5_find_60 : tabF k_X5_find 60 = f_loadR 0 1 := rfl
set_option maxRecDepth 8000 in
theorem e_X5_find_61 : tabF k_X5_find 61 = f_getR 4 2 (fun i => 9) := rfl
set_option maxRecDepth 8000 in
theorem e_X5_find_64 : tabF k_X5_find 64 = f_callV 0 2 0 := rfl
set_option maxRecDepth 8000 in
theorem e_X5_find_67 : tabF k_X5_find 67 = f_if0 cNe cEq 115 := rfl
set_option maxRecDepth 8000 in
theorem e_X5_find_70 : tabF k_X5_find 70 = f_loadR 0 1 := rfl
set_option maxRecDepth 8000 in
theorem e_X5_find_71 : tabF k_X5_find 71 = f_getR 4 2 (fun i => 9) := rfl
set_option maxRecDepth 8000 in
theorem e_X5_find_74 : tabF k_X5_find 74 = f_loadI 3 1 := rfl
set_option maxRecDepth 8000 in
theorem e_X5_find_75 : tabF k_X5_find 75 = f_callV 0 5 1 := rfl
set_option maxRecDepth 8000 in
theorem e_X5_find_78 : tabF k_X5_find 78 = f_callS 27 1 := rfl
set_option maxRecDepth 8000 in
theorem e_X5_find_81 : tabF k_X5_find 81 = f_loadI 2 1 := rfl
set_option maxRecDepth 8000 in
theorem e_X5_find_82 : tabF k_X5_find 82 = f_icmp cLt cGe 88 := rfl
set_option maxRecDepth 8000 in
theorem e_X5_find_85 : tabF k_X5_find 85 = f_goto 115 := rfl
set_option maxRecDepth 8000 in
theorem e_X5_find_88 : tabF k_X5_find 88 = f_loadR 0 1 := rfl
set_option maxRecDepth 8000 in
theorem e_X5_find_89 : tabF k_X5_find 89 = f_loadR 0 1 := rfl
set_option maxRecDepth 8000 in
theorem e_X5_find_90 : tabF k_X5_find 90 = f_getR 4 2 (fun i => 9) := rfl
set_option maxRecDepth 8000 in
theorem e_X5_find_93 : tabF k_X5_find 93 = f_loadI 3 1 := rfl
set_option maxRecDepth 8000 in
theorem e_X5_find_94 : tabF k_X5_find 94 = f_callV 0 5 1 := rfl
set_option maxRecDepth 8000 in
theorem e_X5_find_97 : tabF k_X5_find 97 = f_loadR 0 1 := rfl
set_option maxRecDepth 8000 in
theorem e_X5_find_98 : tabF k_X5_find 98 = f_getR 4 2 (fun i => 9) := rfl
set_option maxRecDepth 8000 in
theorem e_X5_find_101 : tabF k_X5_find 101 = f_loadI 3 1 := rfl
set_option maxRecDepth 8000 in
theorem e_X5_find_102 : tabF k_X5_find 102 = f_callV 0 6 1 := rfl
set_option maxRecDepth 8000 in
theorem e_X5_find_105 : tabF k_X5_find 105 = f_loadI 1 1 := rfl
set_option maxRecDepth 8000 in
theorem e_X5_find_106 : tabF k_X5_find 106 = f_callV 4 72 3 := rfl
set_option maxRecDepth 8000 in
theorem e_X5_find_109 : tabF k_X5_find 109 = f_iinc 3 1 := rfl
set_option maxRecDepth 8000 in
theorem e_X5_find_112 : tabF k_X5_find 112 = f_goto 42 := rfl
set_option maxRecDepth 8000 in
theorem e_X5_find_115 : tabF k_X5_find 115 = f_loadR 0 1 := rfl
set_option maxRecDepth 8000 in
theorem e_X5_find_116 : tabF k_X5_find 116 = f_getR 4 2 (fun i => 9) := rfl
set_option maxRecDepth 8000 in
theorem e_X5_find_119 : tabF k_X5_find 119 = f_callV 0 4 0 := rfl
set_option maxRecDepth 8000 in
theorem e_X5_find_122 : tabF k_X5_find 122 = f_iret := rfl
set_option maxRecDepth 8000 in
theorem e_X5_found_0 : tabF k_X5_found 0 = f_loadR 0 1 := rfl
set_option maxRecDepth 8000 in
theorem e_X5_found_1 : tabF k_X5_found 1 = f_getR 4 2 (fun i => 9) := rfl
set_option maxRecDepth 8000 in
theorem e_X5_found_4 : tabF k_X5_found 4 = f_loadI 1 1 := rfl
set_option maxRecDepth 8000 in
theorem e_X5_found_5 : tabF k_X5_found 5 = f_callV 0 3 1 := rfl
set_option maxRecDepth 8000 in
theorem e_X5_found_8 : tabF k_X5_found 8 = f_if0 cNe cEq 13 := rfl
set_option maxRecDepth 8000 in
theorem e_X5_found_11 : tabF k_X5_found 11 = f_push (-1) 1 := rfl
set_option maxRecDepth 8000 in
theorem e_X5_found_12 : tabF k_X5_found 12 = f_iret := rfl
set_option maxRecDepth 8000 in
theorem e_X5_found_13 : tabF k_X5_found 13 = f_loadI 2 1 := rfl
set_option maxRecDepth 8000 in
theorem e_X5_found_14 : tabF k_X5_found 14 = f_push 4 1 := rfl
set_option maxRecDepth 8000 in
theorem e_X5_found_15 : tabF k_X5_found 15 = f_icmp cNe cEq 30 := rfl
set_option maxRecDepth 8000 in
theorem e_X5_found_18 : tabF k_X5_found 18 = f_loadR 0 1 := rfl
set_option maxRecDepth 8000 in
theorem e_X5_found_19 : tabF k_X5_found 19 = f_getR 4 2 (fun i => 9) := rfl
set_option maxRecDepth 8000 in
theorem e_X5_found_22 : tabF k_X5_found 22 = f_loadI 1 1 := rfl
set_option maxRecDepth 8000 in
theorem e_X5_found_23 : tabF k_X5_found 23 = f_callV 0 6 1 := rfl
set_option maxRecDepth 8000 in
theorem e_X5_found_26 : tabF k_X5_found 26 = f_callS 119 1 := rfl
set_option maxRecDepth 8000 in
theorem e_X5_found_29 : tabF k_X5_found 29 = f_iret := rfl
set_option maxRecDepth 8000 in
theorem e_X5_found_30 : tabF k_X5_found 30 = f_loadI 2 1 := rfl
set_option maxRecDepth 8000 in
theorem e_X5_found_31 : tabF k_X5_found 31 = f_push 5 1 := rfl
set_option maxRecDepth 8000 in
theorem e_X5_found_32 : tabF k_X5_found 32 = f_icmp cNe cEq 49 := rfl
set_option maxRecDepth 8000 in
theorem e_X5_found_35 : tabF k_X5_found 35 = f_loadR 0 1 := rfl
set_option maxRecDepth 8000 in
theorem e_X5_found_36 : tabF k_X5_found 36 = f_getR 4 2 (fun i => 9) := rfl
set_option maxRecDepth 8000 in
theorem e_X5_found_39 : tabF k_X5_found 39 = f_loadI 1 1 := rfl
set_option maxRecDepth 8000 in
theorem e_X5_found_40 : tabF k_X5_found 40 = f_callV 0 5 1 := rfl
set_option maxRecDepth 8000 in
theorem e_X5_found_43 : tabF k_X5_found 43 = f_callS 27 1 := rfl
set_option maxRecDepth 8000 in
theorem e_X5_found_46 : tabF k_X5_found 46 = f_goto 61 := rfl
set_option maxRecDepth 8000 in
theorem e_X5_found_49 : tabF k_X5_found 49 = f_loadR 0 1 := rfl
set_option maxRecDepth 8000 in
theorem e_X5_found_50 : tabF k_X5_found 50 = f_getR 4 2 (fun i => 9) := rfl
set_option maxRecDepth 8000 in
theorem e_X5_found_53 : tabF k_X5_found 53 = f_loadI 1 1 := rfl
set_option maxRecDepth 8000 in
theorem e_X5_found_54 : tabF k_X5_found 54 = f_callV 0 5 1 := rfl
set_option maxRecDepth 8000 in
theorem e_X5_found_57 : tabF k_X5_found 57 = f_loadI 2 1 := rfl
set_option maxRecDepth 8000 in
theorem e_X5_found_58 : tabF k_X5_found 58 = f_callS 28 2 := rfl
set_option maxRecDepth 8000 in
theorem e_X5_found_61 : tabF k_X5_found 61 = f_iret := rfl
set_option maxRecDepth 8000 in
theorem e_X5_closed_0 : tabF k_X5_closed 0 = f_loadR 0 1 := rfl
set_option maxRecDepth 8000 in
theorem e_X5_closed_1 : tabF k_X5_closed 1 = f_getR 4 2 (fun i => 9) := rfl
set_option maxRecDepth 8000 in
theorem e_X5_closed_4 : tabF k_X5_closed 4 = f_loadI 1 1 := rfl
set_option maxRecDepth 8000 in
theorem e_X5_closed_5 : tabF k_X5_closed 5 = f_callV 0 3 1 := rfl
set_option maxRecDepth 8000 in
theorem e_X5_closed_8 : tabF k_X5_closed 8 = f_if0 cNe cEq 13 := rfl
set_option maxRecDepth 8000 in
theorem e_X5_closed_11 : tabF k_X5_closed 11 = f_push (-1) 1 := rfl
set_option maxRecDepth 8000 in
theorem e_X5_closed_12 : tabF k_X5_closed 12 = f_iret := rfl
set_option maxRecDepth 8000 in
theorem e_X5_closed_13 : tabF k_X5_closed 13 = f_loadR 0 1 := rfl
set_option maxRecDepth 8000 in
theorem e_X5_closed_14 : tabF k_X5_closed 14 = f_getR 4 2 (fun i => 9) := rfl
set_option maxRecDepth 8000 in
theorem e_X5_closed_17 : tabF k_X5_closed 17 = f_loadI 1 1 := rfl
set_option maxRecDepth 8000 in
theorem e_X5_closed_18 : tabF k_X5_closed 18 = f_callV 0 5 1 := rfl
set_option maxRecDepth 8000 in
theorem e_X5_closed_21 : tabF k_X5_closed 21 = f_storeI 2 1 := rfl
set_option maxRecDepth 8000 in
theorem e_X5_closed_22 : tabF k_X5_closed 22 = f_loadR 0 1 := rfl
set_option maxRecDepth 8000 in
theorem e_X5_closed_23 : tabF k_X5_closed 23 = f_loadI 2 1 := rfl
set_option maxRecDepth 8000 in
theorem e_X5_closed_24 : tabF k_X5_closed 24 = f_callV 4 69 1 := rfl
set_option maxRecDepth 8000 in
theorem e_X5_closed_27 : tabF k_X5_closed 27 = f_storeI 3 1 := rfl
set_option maxRecDepth 8000 in
theorem e_X5_closed_28 : tabF k_X5_closed 28 = f_loadR 0 1 := rfl
set_option maxRecDepth 8000 in
theorem e_X5_closed_29 : tabF k_X5_closed 29 = f_loadI 2 1 := rfl
set_option maxRecDepth 8000 in
theorem e_X5_closed_30 : tabF k_X5_closed 30 = f_loadI 3 1 := rfl
set_option maxRecDepth 8000 in
theorem e_X5_closed_31 : tabF k_X5_closed 31 = f_callV 4 73 2 := rfl
set_option maxRecDepth 8000 in
theorem e_X5_closed_34 : tabF k_X5_closed 34 = f_if0 cNe cEq 46 := rfl
set_option maxRecDepth 8000 in
theorem e_X5_closed_37 : tabF k_X5_closed 37 = f_loadR 0 1 := rfl
set_option maxRecDepth 8000 in
theorem e_X5_closed_38 : tabF k_X5_closed 38 = f_loadI 2 1 := rfl
set_option maxRecDepth 8000 in
theorem e_X5_closed_39 : tabF k_X5_closed 39 = f_loadI 3 1 := rfl
set_option maxRecDepth 8000 in
theorem e_X5_closed_40 : tabF k_X5_closed 40 = f_callV 4 74 2 := rfl
set_option maxRecDepth 8000 in
theorem e_X5_closed_43 : tabF k_X5_closed 43 = f_if0 cEq cNe 50 := rfl
set_option maxRecDepth 8000 in
theorem e_X5_closed_46 : tabF k_X5_closed 46 = f_push 0 1 := rfl
set_option maxRecDepth 8000 in
theorem e_X5_closed_47 : tabF k_X5_closed 47 = f_goto 51 := rfl
set_option maxRecDepth 8000 in
theorem e_X5_closed_50 : tabF k_X5_closed 50 = f_push 1 1 := rfl
set_option maxRecDepth 8000 in
theorem e_X5_closed_51 : tabF k_X5_closed 51 = f_iret := rfl
set_option maxRecDepth 8000 in
theorem e_X5_best_0 : tabF k_X5_best 0 = f_loadR 0 1 := rfl
set_option maxRecDepth 8000 in
theorem e_X5_best_1 : tabF k_X5_best 1 = f_push 0 1 := rfl
set_option maxRecDepth 8000 in
theorem e_X5_best_2 : tabF k_X5_best 2 = f_callV 4 66 1 := rfl
set_option maxRecDepth 8000 in
theorem e_X5_best_5 : tabF k_X5_best 5 = f_storeI 1 1 := rfl
set_option maxRecDepth 8000 in
theorem e_X5_best_6 : tabF k_X5_best 6 = f_loadR 0 1 := rfl
set_option maxRecDepth 8000 in
theorem e_X5_best_7 : tabF k_X5_best 7 = f_push 1 1 := rfl
set_option maxRecDepth 8000 in
theorem e_X5_best_8 : tabF k_X5_best 8 = f_callV 4 66 1 := rfl
set_option maxRecDepth 8000 in
theorem e_X5_best_11 : tabF k_X5_best 11 = f_storeI 2 1 := rfl
set_option maxRecDepth 8000 in
theorem e_X5_best_12 : tabF k_X5_best 12 = f_push (-1) 1 := rfl
set_option maxRecDepth 8000 in
theorem e_X5_best_13 : tabF k_X5_best 13 = f_storeI 3 1 := rfl
set_option maxRecDepth 8000 in
theorem e_X5_best_14 : tabF k_X5_best 14 = f_push (-1) 1 := rfl
set_option maxRecDepth 8000 in
theorem e_X5_best_15 : tabF k_X5_best 15 = f_storeI 4 2 := rfl
set_option maxRecDepth 8000 in
theorem e_X5_best_17 : tabF k_X5_best 17 = f_push (-1) 1 := rfl
set_option maxRecDepth 8000 in
theorem e_X5_best_18 : tabF k_X5_best 18 = f_storeI 5 2 := rfl
set_option maxRecDepth 8000 in
theorem e_X5_best_20 : tabF k_X5_best 20 = f_push 0 1 := rfl
set_option maxRecDepth 8000 in
theorem e_X5_best_21 : tabF k_X5_best 21 = f_storeI 6 2 := rfl
set_option maxRecDepth 8000 in
theorem e_X5_best_23 : tabF k_X5_best 23 = f_loadI 6 2 := rfl
set_option maxRecDepth 8000 in
theorem e_X5_best_25 : tabF k_X5_best 25 = f_loadR 0 1 := rfl
set_option maxRecDepth 8000 in
theorem e_X5_best_26 : tabF k_X5_best 26 = f_getR 4 2 (fun i => 9) := rfl
set_option maxRecDepth 8000 in
theorem e_X5_best_29 : tabF k_X5_best 29 = f_callV 0 4 0 := rfl
set_option maxRecDepth 8000 in
theorem e_X5_best_32 : tabF k_X5_best 32 = f_icmp cGe cLt 110 := rfl
set_option maxRecDepth 8000 in
theorem e_X5_best_35 : tabF k_X5_best 35 = f_loadR 0 1 := rfl
set_option maxRecDepth 8000 in
theorem e_X5_best_36 : tabF k_X5_best 36 = f_getR 4 2 (fun i => 9) := rfl
set_option maxRecDepth 8000 in
theorem e_X5_best_39 : tabF k_X5_best 39 = f_loadI 6 2 := rfl
set_option maxRecDepth 8000 in
theorem e_X5_best_41 : tabF k_X5_best 41 = f_callV 0 5 1 := rfl
set_option maxRecDepth 8000 in
theorem e_X5_best_44 : tabF k_X5_best 44 = f_storeI 7 2 := rfl
set_option maxRecDepth 8000 in
theorem e_X5_best_46 : tabF k_X5_best 46 = f_loadI 7 2 := rfl
set_option maxRecDepth 8000 in
theorem e_X5_best_48 : tabF k_X5_best 48 = f_callS 30 1 := rfl
set_option maxRecDepth 8000 in
theorem e_X5_best_51 : tabF k_X5_best 51 = f_storeI 8 2 := rfl
set_option maxRecDepth 8000 in
theorem e_X5_best_53 : tabF k_X5_best 53 = f_loadI 8 2 := rfl
set_option maxRecDepth 8000 in
theorem e_X5_best_55 : tabF k_X5_best 55 = f_loadI 5 2 := rfl
set_option maxRecDepth 8000 in
theorem e_X5_best_57 : tabF k_X5_best 57 = f_icmp cEq cNe 73 := rfl
set_option maxRecDepth 8000 in
theorem e_X5_best_60 : tabF k_X5_best 60 = f_loadR 0 1 := rfl
set_option maxRecDepth 8000 in
theorem e_X5_best_61 : tabF k_X5_best 61 = f_loadI 8 2 := rfl
set_option maxRecDepth 8000 in
theorem e_X5_best_63 : tabF k_X5_best 63 = f_loadI 1 1 := rfl
set_option maxRecDepth 8000 in
theorem e_X5_best_64 : tabF k_X5_best 64 = f_loadI 2 1 := rfl
set_option maxRecDepth 8000 in
theorem e_X5_best_65 : tabF k_X5_best 65 = f_or := rfl
set_option maxRecDepth 8000 in
theorem e_X5_best_66 : tabF k_X5_best 66 = f_callV 4 71 2 := rfl
set_option maxRecDepth 8000 in
theorem e_X5_best_69 : tabF k_X5_best 69 = f_loadI 8 2 := rfl
set_option maxRecDepth 8000 in
theorem e_X5_best_71 : tabF k_X5_best 71 = f_storeI 5 2 := rfl
set_option maxRecDepth 8000 in
theorem e_X5_best_73 : tabF k_X5_best 73 = f_loadR 0 1 := rfl
set_option maxRecDepth 8000 in
theorem e_X5_best_74 : tabF k_X5_best 74 = f_getR 4 4 (fun i => 13) := rfl
set_option maxRecDepth 8000 in
theorem e_X5_best_77 : tabF k_X5_best 77 = f_loadI 7 2 := rfl
set_option maxRecDepth 8000 in
theorem e_X5_best_79 : tabF k_X5_best 79 = f_callS 29 1 := rfl
set_option maxRecDepth 8000 in
theorem e_X5_best_82 : tabF k_X5_best 82 = f_iald := rfl
set_option maxRecDepth 8000 in
theorem e_X5_best_83 : tabF k_X5_best 83 = f_loadI 1 1 := rfl
set_option maxRecDepth 8000 in
theorem e_X5_best_84 : tabF k_X5_best 84 = f_loadI 2 1 := rfl
set_option maxRecDepth 8000 in
theorem e_X5_best_85 : tabF k_X5_best 85 = f_callS 75 3 := rfl
set_option maxRecDepth 8000 in
theorem e_X5_best_88 : tabF k_X5_best 88 = f_storeI 9 2 := rfl
set_option maxRecDepth 8000 in
theorem e_X5_best_90 : tabF k_X5_best 90 = f_loadI 9 2 := rfl
set_option maxRecDepth 8000 in
theorem e_X5_best_92 : tabF k_X5_best 92 = f_loadI 4 2 := rfl
set_option maxRecDepth 8000 in
theorem e_X5_best_94 : tabF k_X5_best 94 = f_icmp cLe cGt 104 := rfl
set_option maxRecDepth 8000 in
theorem e_X5_best_97 : tabF k_X5_best 97 = f_loadI 9 2 := rfl
set_option maxRecDepth 8000 in
theorem e_X5_best_99 : tabF k_X5_best 99 = f_storeI 4 2 := rfl
set_option maxRecDepth 8000 in
theorem e_X5_best_101 : tabF k_X5_best 101 = f_loadI 6 2 := rfl
set_option maxRecDepth 8000 in
theorem e_X5_best_103 : tabF k_X5_best 103 = f_storeI 3 1 := rfl
set_option maxRecDepth 8000 in
theorem e_X5_best_104 : tabF k_X5_best 104 = f_iinc 6 1 := rfl
set_option maxRecDepth 8000 in
theorem e_X5_best_107 : tabF k_X5_best 107 = f_goto 23 := rfl
set_option maxRecDepth 8000 in
theorem e_X5_best_110 : tabF k_X5_best 110 = f_loadI 3 1 := rfl
set_option maxRecDepth 8000 in
theorem e_X5_best_111 : tabF k_X5_best 111 = f_iret := rfl
set_option maxRecDepth 8000 in
theorem e_X5_expected_0 : tabF k_X5_expected 0 = f_loadI 1 1 := rfl
set_option maxRecDepth 8000 in
theorem e_X5_expected_1 : tabF k_X5_expected 1 = f_callS 60 1 := rfl
set_option maxRecDepth 8000 in
theorem e_X5_expected_4 : tabF k_X5_expected 4 = f_if0 cEq cNe 38 := rfl
set_option maxRecDepth 8000 in
theorem e_X5_expected_7 : tabF k_X5_expected 7 = f_loadI 2 1 := rfl
set_option maxRecDepth 8000 in
theorem e_X5_expected_8 : tabF k_X5_expected 8 = f_callS 60 1 := rfl
set_option maxRecDepth 8000 in
theorem e_X5_expected_11 : tabF k_X5_expected 11 = f_if0 cEq cNe 38 := rfl
set_option maxRecDepth 8000 in
theorem e_X5_expected_14 : tabF k_X5_expected 14 = f_loadR 0 1 := rfl
set_option maxRecDepth 8000 in
theorem e_X5_expected_15 : tabF k_X5_expected 15 = f_getR 4 0 (fun i => 1) := rfl
set_option maxRecDepth 8000 in
theorem e_X5_expected_18 : tabF k_X5_expected 18 = f_loadI 1 1 := rfl
set_option maxRecDepth 8000 in
theorem e_X5_expected_19 : tabF k_X5_expected 19 = f_loadI 2 1 := rfl
set_option maxRecDepth 8000 in
theorem e_X5_expected_20 : tabF k_X5_expected 20 = f_callV 1 9 2 := rfl
set_option maxRecDepth 8000 in
theorem e_X5_expected_23 : tabF k_X5_expected 23 = f_if0 cNe cEq 38 := rfl
set_option maxRecDepth 8000 in
theorem e_X5_expected_26 : tabF k_X5_expected 26 = f_loadR 0 1 := rfl
set_option maxRecDepth 8000 in
theorem e_X5_expected_27 : tabF k_X5_expected 27 = f_getR 4 0 (fun i => 1) := rfl
set_option maxRecDepth 8000 in
theorem e_X5_expected_30 : tabF k_X5_expected 30 = f_loadI 2 1 := rfl
set_option maxRecDepth 8000 in
theorem e_X5_expected_31 : tabF k_X5_expected 31 = f_loadI 1 1 := rfl
set_option maxRecDepth 8000 in
theorem e_X5_expected_32 : tabF k_X5_expected 32 = f_callV 1 9 2 := rfl
set_option maxRecDepth 8000 in
theorem e_X5_expected_35 : tabF k_X5_expected 35 = f_if0 cEq cNe 42 := rfl
set_option maxRecDepth 8000 in
theorem e_X5_expected_38 : tabF k_X5_expected 38 = f_pushL (-1) 3 := rfl
set_option maxRecDepth 8000 in
theorem e_X5_expected_41 : tabF k_X5_expected 41 = f_lret := rfl
set_option maxRecDepth 8000 in
theorem e_X5_expected_42 : tabF k_X5_expected 42 = f_pushL 0 1 := rfl
set_option maxRecDepth 8000 in
theorem e_X5_expected_43 : tabF k_X5_expected 43 = f_storeL 3 1 := rfl
set_option maxRecDepth 8000 in
theorem e_X5_expected_44 : tabF k_X5_expected 44 = f_push 0 1 := rfl
set_option maxRecDepth 8000 in
theorem e_X5_expected_45 : tabF k_X5_expected 45 = f_storeI 5 2 := rfl
set_option maxRecDepth 8000 in
theorem e_X5_expected_47 : tabF k_X5_expected 47 = f_loadI 5 2 := rfl
set_option maxRecDepth 8000 in
theorem e_X5_expected_49 : tabF k_X5_expected 49 = f_loadR 0 1 := rfl
set_option maxRecDepth 8000 in
theorem e_X5_expected_50 : tabF k_X5_expected 50 = f_getI 4 5 := rfl
set_option maxRecDepth 8000 in
theorem e_X5_expected_53 : tabF k_X5_expected 53 = f_icmp cGe cLt 111 := rfl
set_option maxRecDepth 8000 in
theorem e_X5_expected_56 : tabF k_X5_expected 56 = f_loadR 0 1 := rfl
set_option maxRecDepth 8000 in
theorem e_X5_expected_57 : tabF k_X5_expected 57 = f_getR 4 3 (fun i => 12) := rfl
set_option maxRecDepth 8000 in
theorem e_X5_expected_60 : tabF k_X5_expected 60 = f_loadI 5 2 := rfl
set_option maxRecDepth 8000 in
theorem e_X5_expected_62 : tabF k_X5_expected 62 = f_aald := rfl
set_option maxRecDepth 8000 in
theorem e_X5_expected_63 : tabF k_X5_expected 63 = f_getI 3 1 := rfl
set_option maxRecDepth 8000 in
theorem e_X5_expected_66 : tabF k_X5_expected 66 = f_if0 cEq cNe 105 := rfl
set_option maxRecDepth 8000 in
theorem e_X5_expected_69 : tabF k_X5_expected 69 = f_loadL 3 1 := rfl
set_option maxRecDepth 8000 in
theorem e_X5_expected_70 : tabF k_X5_expected 70 = f_loadR 0 1 := rfl
set_option maxRecDepth 8000 in
theorem e_X5_expected_71 : tabF k_X5_expected 71 = f_getR 4 3 (fun i => 12) := rfl
set_option maxRecDepth 8000 in
theorem e_X5_expected_74 : tabF k_X5_expected 74 = f_loadI 5 2 := rfl
set_option maxRecDepth 8000 in
theorem e_X5_expected_76 : tabF k_X5_expected 76 = f_aald := rfl
set_option maxRecDepth 8000 in
theorem e_X5_expected_77 : tabF k_X5_expected 77 = f_loadR 0 1 := rfl
set_option maxRecDepth 8000 in
theorem e_X5_expected_78 : tabF k_X5_expected 78 = f_getR 4 0 (fun i => 1) := rfl
set_option maxRecDepth 8000 in
theorem e_X5_expected_81 : tabF k_X5_expected 81 = f_loadI 1 1 := rfl
set_option maxRecDepth 8000 in
theorem e_X5_expected_82 : tabF k_X5_expected 82 = f_callV 3 39 2 := rfl
set_option maxRecDepth 8000 in
theorem e_X5_expected_85 : tabF k_X5_expected 85 = f_loadR 0 1 := rfl
set_option maxRecDepth 8000 in
theorem e_X5_expected_86 : tabF k_X5_expected 86 = f_getR 4 3 (fun i => 12) := rfl
set_option maxRecDepth 8000 in
theorem e_X5_expected_89 : tabF k_X5_expected 89 = f_loadI 5 2 := rfl
set_option maxRecDepth 8000 in
theorem e_X5_expected_91 : tabF k_X5_expected 91 = f_aald := rfl
set_option maxRecDepth 8000 in
theorem e_X5_expected_92 : tabF k_X5_expected 92 = f_loadR 0 1 := rfl
set_option maxRecDepth 8000 in
theorem e_X5_expected_93 : tabF k_X5_expected 93 = f_getR 4 0 (fun i => 1) := rfl
set_option maxRecDepth 8000 in
theorem e_X5_expected_96 : tabF k_X5_expected 96 = f_loadI 2 1 := rfl
set_option maxRecDepth 8000 in
theorem e_X5_expected_97 : tabF k_X5_expected 97 = f_callV 3 39 2 := rfl
set_option maxRecDepth 8000 in
theorem e_X5_expected_100 : tabF k_X5_expected 100 = f_callS 76 2 := rfl
set_option maxRecDepth 8000 in
theorem e_X5_expected_103 : tabF k_X5_expected 103 = f_ladd := rfl
set_option maxRecDepth 8000 in
theorem e_X5_expected_104 : tabF k_X5_expected 104 = f_storeL 3 1 := rfl
set_option maxRecDepth 8000 in
theorem e_X5_expected_105 : tabF k_X5_expected 105 = f_iinc 5 1 := rfl
set_option maxRecDepth 8000 in
theorem e_X5_expected_108 : tabF k_X5_expected 108 = f_goto 47 := rfl
set_option maxRecDepth 8000 in
theorem e_X5_expected_111 : tabF k_X5_expected 111 = f_loadL 3 1 := rfl
set_option maxRecDepth 8000 in
theorem e_X5_expected_112 : tabF k_X5_expected 112 = f_lret := rfl
set_option maxRecDepth 8000 in
theorem e_X5_share_0 : tabF k_X5_share 0 = f_loadI 1 1 := rfl
set_option maxRecDepth 8000 in
theorem e_X5_share_1 : tabF k_X5_share 1 = f_loadI 2 1 := rfl
set_option maxRecDepth 8000 in
theorem e_X5_share_2 : tabF k_X5_share 2 = f_loadI 3 1 := rfl
set_option maxRecDepth 8000 in
theorem e_X5_share_3 : tabF k_X5_share 3 = f_loadI 4 2 := rfl
set_option maxRecDepth 8000 in
theorem e_X5_share_5 : tabF k_X5_share 5 = f_callS 24 4 := rfl
set_option maxRecDepth 8000 in
theorem e_X5_share_8 : tabF k_X5_share 8 = f_storeI 5 2 := rfl
set_option maxRecDepth 8000 in
theorem e_X5_share_10 : tabF k_X5_share 10 = f_loadI 5 2 := rfl
set_option maxRecDepth 8000 in
theorem e_X5_share_12 : tabF k_X5_share 12 = f_callS 27 1 := rfl
set_option maxRecDepth 8000 in
theorem e_X5_share_15 : tabF k_X5_share 15 = f_push 2 1 := rfl
set_option maxRecDepth 8000 in
theorem e_X5_share_16 : tabF k_X5_share 16 = f_icmp cGe cLt 21 := rfl
set_option maxRecDepth 8000 in
theorem e_X5_share_19 : tabF k_X5_share 19 = f_push (-1) 1 := rfl
set_option maxRecDepth 8000 in
theorem e_X5_share_20 : tabF k_X5_share 20 = f_iret := rfl
set_option maxRecDepth 8000 in
theorem e_X5_share_21 : tabF k_X5_share 21 = f_loadR 0 1 := rfl
set_option maxRecDepth 8000 in
theorem e_X5_share_22 : tabF k_X5_share 22 = f_loadI 5 2 := rfl
set_option maxRecDepth 8000 in
theorem e_X5_share_24 : tabF k_X5_share 24 = f_callS 30 1 := rfl
set_option maxRecDepth 8000 in
theorem e_X5_share_27 : tabF k_X5_share 27 = f_callV 4 69 1 := rfl
set_option maxRecDepth 8000 in
theorem e_X5_share_30 : tabF k_X5_share 30 = f_storeI 6 2 := rfl
set_option maxRecDepth 8000 in
theorem e_X5_share_32 : tabF k_X5_share 32 = f_loadI 6 2 := rfl
set_option maxRecDepth 8000 in
theorem e_X5_share_34 : tabF k_X5_share 34 = f_if0 cNe cEq 41 := rfl
set_option maxRecDepth 8000 in
theorem e_X5_share_37 : tabF k_X5_share 37 = f_push 0 1 := rfl
set_option maxRecDepth 8000 in
theorem e_X5_share_38 : tabF k_X5_share 38 = f_goto 54 := rfl
set_option maxRecDepth 8000 in
theorem e_X5_share_41 : tabF k_X5_share 41 = f_loadR 0 1 := rfl
set_option maxRecDepth 8000 in
theorem e_X5_share_42 : tabF k_X5_share 42 = f_loadI 5 2 := rfl
set_option maxRecDepth 8000 in
theorem e_X5_share_44 : tabF k_X5_share 44 = f_callV 4 69 1 := rfl
set_option maxRecDepth 8000 in
theorem e_X5_share_47 : tabF k_X5_share 47 = f_push 1000 3 := rfl
set_option maxRecDepth 8000 in
theorem e_X5_share_50 : tabF k_X5_share 50 = f_mul := rfl
set_option maxRecDepth 8000 in
theorem e_X5_share_51 : tabF k_X5_share 51 = f_loadI 6 2 := rfl
set_option maxRecDepth 8000 in
theorem e_X5_share_53 : tabF k_X5_share 53 = f_div := rfl
set_option maxRecDepth 8000 in
theorem e_X5_share_54 : tabF k_X5_share 54 = f_iret := rfl
set_option maxRecDepth 8000 in
theorem e_X5_lacking_0 : tabF k_X5_lacking 0 = f_loadR 0 1 := rfl
set_option maxRecDepth 8000 in
theorem e_X5_lacking_1 : tabF k_X5_lacking 1 = f_loadI 1 1 := rfl
set_option maxRecDepth 8000 in
theorem e_X5_lacking_2 : tabF k_X5_lacking 2 = f_loadI 2 1 := rfl
set_option maxRecDepth 8000 in
theorem e_X5_lacking_3 : tabF k_X5_lacking 3 = f_loadI 3 1 := rfl
set_option maxRecDepth 8000 in
theorem e_X5_lacking_4 : tabF k_X5_lacking 4 = f_loadI 4 2 := rfl
set_option maxRecDepth 8000 in
theorem e_X5_lacking_6 : tabF k_X5_lacking 6 = f_callS 24 4 := rfl
set_option maxRecDepth 8000 in
theorem e_X5_lacking_9 : tabF k_X5_lacking 9 = f_callV 4 70 1 := rfl
set_option maxRecDepth 8000 in
theorem e_X5_lacking_12 : tabF k_X5_lacking 12 = f_storeI 6 2 := rfl
set_option maxRecDepth 8000 in
theorem e_X5_lacking_14 : tabF k_X5_lacking 14 = f_push 0 1 := rfl
set_option maxRecDepth 8000 in
theorem e_X5_lacking_15 : tabF k_X5_lacking 15 = f_storeI 7 2 := rfl
set_option maxRecDepth 8000 in
theorem e_X5_lacking_17 : tabF k_X5_lacking 17 = f_push 0 1 := rfl
set_option maxRecDepth 8000 in
theorem e_X5_lacking_18 : tabF k_X5_lacking 18 = f_storeI 8 2 := rfl
set_option maxRecDepth 8000 in
theorem e_X5_lacking_20 : tabF k_X5_lacking 20 = f_loadI 8 2 := rfl
set_option maxRecDepth 8000 in
theorem e_X5_lacking_22 : tabF k_X5_lacking 22 = f_loadR 0 1 := rfl
set_option maxRecDepth 8000 in
theorem e_X5_lacking_23 : tabF k_X5_lacking 23 = f_getI 4 5 := rfl
set_option maxRecDepth 8000 in
theorem e_X5_lacking_26 : tabF k_X5_lacking 26 = f_icmp cGe cLt 58 := rfl
set_option maxRecDepth 8000 in
theorem e_X5_lacking_29 : tabF k_X5_lacking 29 = f_loadI 8 2 := rfl
set_option maxRecDepth 8000 in
theorem e_X5_lacking_31 : tabF k_X5_lacking 31 = f_loadI 6 2 := rfl
set_option maxRecDepth 8000 in
theorem e_X5_lacking_33 : tabF k_X5_lacking 33 = f_callS 62 2 := rfl
set_option maxRecDepth 8000 in
theorem e_X5_lacking_36 : tabF k_X5_lacking 36 = f_if0 cEq cNe 52 := rfl
set_option maxRecDepth 8000 in
theorem e_X5_lacking_39 : tabF k_X5_lacking 39 = f_loadI 7 2 := rfl
set_option maxRecDepth 8000 in
theorem e_X5_lacking_41 : tabF k_X5_lacking 41 = f_loadI 5 2 := rfl
set_option maxRecDepth 8000 in
theorem e_X5_lacking_43 : tabF k_X5_lacking 43 = f_icmp cNe cEq 49 := rfl
set_option maxRecDepth 8000 in
theorem e_X5_lacking_46 : tabF k_X5_lacking 46 = f_loadI 8 2 := rfl
set_option maxRecDepth 8000 in
theorem e_X5_lacking_48 : tabF k_X5_lacking 48 = f_iret := rfl
set_option maxRecDepth 8000 in
theorem e_X5_lacking_49 : tabF k_X5_lacking 49 = f_iinc 7 1 := rfl
set_option maxRecDepth 8000 in
theorem e_X5_lacking_52 : tabF k_X5_lacking 52 = f_iinc 8 1 := rfl
set_option maxRecDepth 8000 in
theorem e_X5_lacking_55 : tabF k_X5_lacking 55 = f_goto 20 := rfl
set_option maxRecDepth 8000 in
theorem e_X5_lacking_58 : tabF k_X5_lacking 58 = f_push (-1) 1 := rfl
set_option maxRecDepth 8000 in
theorem e_X5_lacking_59 : tabF k_X5_lacking 59 = f_iret := rfl
set_option maxRecDepth 8000 in
theorem e_X5_sure_0 : tabF k_X5_sure 0 = f_loadI 2 1 := rfl
set_option maxRecDepth 8000 in
theorem e_X5_sure_1 : tabF k_X5_sure 1 = f_loadI 3 1 := rfl
set_option maxRecDepth 8000 in
theorem e_X5_sure_2 : tabF k_X5_sure 2 = f_loadI 4 2 := rfl
set_option maxRecDepth 8000 in
theorem e_X5_sure_4 : tabF k_X5_sure 4 = f_loadI 5 2 := rfl
set_option maxRecDepth 8000 in
theorem e_X5_sure_6 : tabF k_X5_sure 6 = f_callS 24 4 := rfl
set_option maxRecDepth 8000 in
theorem e_X5_sure_9 : tabF k_X5_sure 9 = f_storeI 6 2 := rfl
set_option maxRecDepth 8000 in
theorem e_X5_sure_11 : tabF k_X5_sure 11 = f_loadR 0 1 := rfl
set_option maxRecDepth 8000 in
theorem e_X5_sure_12 : tabF k_X5_sure 12 = f_loadI 1 1 := rfl
set_option maxRecDepth 8000 in
theorem e_X5_sure_13 : tabF k_X5_sure 13 = f_callV 4 63 1 := rfl
set_option maxRecDepth 8000 in
theorem e_X5_sure_16 : tabF k_X5_sure 16 = f_if0 cEq cNe 32 := rfl
set_option maxRecDepth 8000 in
theorem e_X5_sure_19 : tabF k_X5_sure 19 = f_loadI 1 1 := rfl
set_option maxRecDepth 8000 in
theorem e_X5_sure_20 : tabF k_X5_sure 20 = f_loadR 0 1 := rfl
set_option maxRecDepth 8000 in
theorem e_X5_sure_21 : tabF k_X5_sure 21 = f_loadI 6 2 := rfl
set_option maxRecDepth 8000 in
theorem e_X5_sure_23 : tabF k_X5_sure 23 = f_callV 4 70 1 := rfl
set_option maxRecDepth 8000 in
theorem e_X5_sure_26 : tabF k_X5_sure 26 = f_callS 62 2 := rfl
set_option maxRecDepth 8000 in
theorem e_X5_sure_29 : tabF k_X5_sure 29 = f_if0 cNe cEq 34 := rfl
set_option maxRecDepth 8000 in
theorem e_X5_sure_32 : tabF k_X5_sure 32 = f_push (-1) 1 := rfl
set_option maxRecDepth 8000 in
theorem e_X5_sure_33 : tabF k_X5_sure 33 = f_iret := rfl
set_option maxRecDepth 8000 in
theorem e_X5_sure_34 : tabF k_X5_sure 34 = f_loadR 0 1 := rfl
set_option maxRecDepth 8000 in
theorem e_X5_sure_35 : tabF k_X5_sure 35 = f_getR 4 1 (fun i => 4) := rfl
set_option maxRecDepth 8000 in
theorem e_X5_sure_38 : tabF k_X5_sure 38 = f_loadI 6 2 := rfl
set_option maxRecDepth 8000 in
theorem e_X5_sure_40 : tabF k_X5_sure 40 = f_callS 30 1 := rfl
set_option maxRecDepth 8000 in
theorem e_X5_sure_43 : tabF k_X5_sure 43 = f_callV 2 11 1 := rfl
set_option maxRecDepth 8000 in
theorem e_X5_sure_46 : tabF k_X5_sure 46 = f_push 9999 3 := rfl
set_option maxRecDepth 8000 in
theorem e_X5_sure_49 : tabF k_X5_sure 49 = f_loadR 0 1 := rfl
set_option maxRecDepth 8000 in
theorem e_X5_sure_50 : tabF k_X5_sure 50 = f_getR 4 1 (fun i => 4) := rfl
set_option maxRecDepth 8000 in
theorem e_X5_sure_53 : tabF k_X5_sure 53 = f_loadR 0 1 := rfl
set_option maxRecDepth 8000 in
theorem e_X5_sure_54 : tabF k_X5_sure 54 = f_getR 4 3 (fun i => 12) := rfl
set_option maxRecDepth 8000 in
theorem e_X5_sure_57 : tabF k_X5_sure 57 = f_loadI 1 1 := rfl
set_option maxRecDepth 8000 in
theorem e_X5_sure_58 : tabF k_X5_sure 58 = f_aald := rfl
set_option maxRecDepth 8000 in
theorem e_X5_sure_59 : tabF k_X5_sure 59 = f_callV 2 13 1 := rfl
set_option maxRecDepth 8000 in
theorem e_X5_sure_62 : tabF k_X5_sure 62 = f_loadR 0 1 := rfl
set_option maxRecDepth 8000 in
theorem e_X5_sure_63 : tabF k_X5_sure 63 = f_getR 4 1 (fun i => 4) := rfl
set_option maxRecDepth 8000 in
theorem e_X5_sure_66 : tabF k_X5_sure 66 = f_getI 2 0 := rfl
set_option maxRecDepth 8000 in
theorem e_X5_sure_69 : tabF k_X5_sure 69 = f_add := rfl
set_option maxRecDepth 8000 in
theorem e_X5_sure_70 : tabF k_X5_sure 70 = f_min := rfl
set_option maxRecDepth 8000 in
theorem e_X5_sure_73 : tabF k_X5_sure 73 = f_iret := rfl
set_option maxRecDepth 8000 in
theorem e_X5_look_0 : tabF k_X5_look 0 = f_loadR 0 1 := rfl
set_option maxRecDepth 8000 in
theorem e_X5_look_1 : tabF k_X5_look 1 = f_loadI 1 1 := rfl
set_option maxRecDepth 8000 in
theorem e_X5_look_2 : tabF k_X5_look 2 = f_callV 4 63 1 := rfl
set_option maxRecDepth 8000 in
theorem e_X5_look_5 : tabF k_X5_look 5 = f_if0 cNe cEq 10 := rfl
set_option maxRecDepth 8000 in
theorem e_X5_look_8 : tabF k_X5_look 8 = f_push (-1) 1 := rfl
set_option maxRecDepth 8000 in
theorem e_X5_look_9 : tabF k_X5_look 9 = f_iret := rfl
set_option maxRecDepth 8000 in
theorem e_X5_look_10 : tabF k_X5_look 10 = f_loadI 2 1 := rfl
set_option maxRecDepth 8000 in
theorem e_X5_look_11 : tabF k_X5_look 11 = f_push (-1) 1 := rfl
set_option maxRecDepth 8000 in
theorem e_X5_look_12 : tabF k_X5_look 12 = f_icmp cNe cEq 26 := rfl
set_option maxRecDepth 8000 in
theorem e_X5_look_15 : tabF k_X5_look 15 = f_loadR 0 1 := rfl
set_option maxRecDepth 8000 in
theorem e_X5_look_16 : tabF k_X5_look 16 = f_getR 4 3 (fun i => 12) := rfl
set_option maxRecDepth 8000 in
theorem e_X5_look_19 : tabF k_X5_look 19 = f_loadI 1 1 := rfl
set_option maxRecDepth 8000 in
theorem e_X5_look_20 : tabF k_X5_look 20 = f_aald := rfl
set_option maxRecDepth 8000 in
theorem e_X5_look_21 : tabF k_X5_look 21 = f_loadI 3 1 := rfl
set_option maxRecDepth 8000 in
theorem e_X5_look_22 : tabF k_X5_look 22 = f_callS 64 2 := rfl
set_option maxRecDepth 8000 in
theorem e_X5_look_25 : tabF k_X5_look 25 = f_iret := rfl
set_option maxRecDepth 8000 in
theorem e_X5_look_26 : tabF k_X5_look 26 = f_loadI 3 1 := rfl
set_option maxRecDepth 8000 in
theorem e_X5_look_27 : tabF k_X5_look 27 = f_lsw2 0 1 52 63 74 := rfl
set_option maxRecDepth 8000 in
theorem e_X5_look_52 : tabF k_X5_look 52 = f_loadR 0 1 := rfl
set_option maxRecDepth 8000 in
theorem e_X5_look_53 : tabF k_X5_look 53 = f_getR 4 3 (fun i => 12) := rfl
set_option maxRecDepth 8000 in
theorem e_X5_look_56 : tabF k_X5_look 56 = f_loadI 1 1 := rfl
set_option maxRecDepth 8000 in
theorem e_X5_look_57 : tabF k_X5_look 57 = f_aald := rfl
set_option maxRecDepth 8000 in
theorem e_X5_look_58 : tabF k_X5_look 58 = f_loadI 2 1 := rfl
set_option maxRecDepth 8000 in
theorem e_X5_look_59 : tabF k_X5_look 59 = f_callV 3 36 1 := rfl
set_option maxRecDepth 8000 in
theorem e_X5_look_62 : tabF k_X5_look 62 = f_iret := rfl
set_option maxRecDepth 8000 in
theorem e_X5_look_63 : tabF k_X5_look 63 = f_loadR 0 1 := rfl
set_option maxRecDepth 8000 in
theorem e_X5_look_64 : tabF k_X5_look 64 = f_getR 4 3 (fun i => 12) := rfl
set_option maxRecDepth 8000 in
theorem e_X5_look_67 : tabF k_X5_look 67 = f_loadI 1 1 := rfl
set_option maxRecDepth 8000 in
theorem e_X5_look_68 : tabF k_X5_look 68 = f_aald := rfl
set_option maxRecDepth 8000 in
theorem e_X5_look_69 : tabF k_X5_look 69 = f_loadI 2 1 := rfl
set_option maxRecDepth 8000 in
theorem e_X5_look_70 : tabF k_X5_look 70 = f_callV 3 37 1 := rfl
set_option maxRecDepth 8000 in
theorem e_X5_look_73 : tabF k_X5_look 73 = f_iret := rfl
set_option maxRecDepth 8000 in
theorem e_X5_look_74 : tabF k_X5_look 74 = f_push (-1) 1 := rfl
set_option maxRecDepth 8000 in
theorem e_X5_look_75 : tabF k_X5_look 75 = f_iret := rfl
set_option maxRecDepth 8000 in
theorem e_X5_isUnder_0 : tabF k_X5_isUnder 0 = f_loadI 1 1 := rfl
set_option maxRecDepth 8000 in
theorem e_X5_isUnder_1 : tabF k_X5_isUnder 1 = f_callS 60 1 := rfl
set_option maxRecDepth 8000 in
theorem e_X5_isUnder_4 : tabF k_X5_isUnder 4 = f_if0 cEq cNe 14 := rfl
set_option maxRecDepth 8000 in
theorem e_X5_isUnder_7 : tabF k_X5_isUnder 7 = f_loadI 2 1 := rfl
set_option maxRecDepth 8000 in
theorem e_X5_isUnder_8 : tabF k_X5_isUnder 8 = f_callS 60 1 := rfl
set_option maxRecDepth 8000 in
theorem e_X5_isUnder_11 : tabF k_X5_isUnder 11 = f_if0 cNe cEq 16 := rfl
set_option maxRecDepth 8000 in
theorem e_X5_isUnder_14 : tabF k_X5_isUnder 14 = f_push (-1) 1 := rfl
set_option maxRecDepth 8000 in
theorem e_X5_isUnder_15 : tabF k_X5_isUnder 15 = f_iret := rfl
set_option maxRecDepth 8000 in
theorem e_X5_isUnder_16 : tabF k_X5_isUnder 16 = f_loadI 1 1 := rfl
set_option maxRecDepth 8000 in
theorem e_X5_isUnder_17 : tabF k_X5_isUnder 17 = f_loadI 2 1 := rfl
set_option maxRecDepth 8000 in
theorem e_X5_isUnder_18 : tabF k_X5_isUnder 18 = f_icmp cEq cNe 37 := rfl
set_option maxRecDepth 8000 in
theorem e_X5_isUnder_21 : tabF k_X5_isUnder 21 = f_loadR 0 1 := rfl
set_option maxRecDepth 8000 in
theorem e_X5_isUnder_22 : tabF k_X5_isUnder 22 = f_getR 4 0 (fun i => 1) := rfl
set_option maxRecDepth 8000 in
theorem e_X5_isUnder_25 : tabF k_X5_isUnder 25 = f_loadI 1 1 := rfl
set_option maxRecDepth 8000 in
theorem e_X5_isUnder_26 : tabF k_X5_isUnder 26 = f_loadI 2 1 := rfl
set_option maxRecDepth 8000 in
theorem e_X5_isUnder_27 : tabF k_X5_isUnder 27 = f_callV 1 9 2 := rfl
set_option maxRecDepth 8000 in
theorem e_X5_isUnder_30 : tabF k_X5_isUnder 30 = f_if0 cEq cNe 37 := rfl
set_option maxRecDepth 8000 in
theorem e_X5_isUnder_33 : tabF k_X5_isUnder 33 = f_push 1 1 := rfl
set_option maxRecDepth 8000 in
theorem e_X5_isUnder_34 : tabF k_X5_isUnder 34 = f_goto 38 := rfl
set_option maxRecDepth 8000 in
theorem e_X5_isUnder_37 : tabF k_X5_isUnder 37 = f_push 0 1 := rfl
set_option maxRecDepth 8000 in
theorem e_X5_isUnder_38 : tabF k_X5_isUnder 38 = f_iret := rfl
set_option maxRecDepth 8000 in
theorem e_X5_tell_0 : tabF k_X5_tell 0 = f_loadI 1 1 := rfl
set_option maxRecDepth 8000 in
theorem e_X5_tell_1 : tabF k_X5_tell 1 = f_tsw 0 5 [40, 45, 53, 61, 69, 77] 82 := rfl
set_option maxRecDepth 8000 in
theorem e_X5_tell_40 : tabF k_X5_tell 40 = f_loadR 0 1 := rfl
set_option maxRecDepth 8000 in
theorem e_X5_tell_41 : tabF k_X5_tell 41 = f_getI 4 5 := rfl
set_option maxRecDepth 8000 in
theorem e_X5_tell_44 : tabF k_X5_tell 44 = f_iret := rfl
set_option maxRecDepth 8000 in
theorem e_X5_tell_45 : tabF k_X5_tell 45 = f_loadR 0 1 := rfl
set_option maxRecDepth 8000 in
theorem e_X5_tell_46 : tabF k_X5_tell 46 = f_callV 4 67 0 := rfl
set_option maxRecDepth 8000 in
theorem e_X5_tell_49 : tabF k_X5_tell 49 = f_callS 119 1 := rfl
set_option maxRecDepth 8000 in
theorem e_X5_tell_52 : tabF k_X5_tell 52 = f_iret := rfl
set_option maxRecDepth 8000 in
theorem e_X5_tell_53 : tabF k_X5_tell 53 = f_loadR 0 1 := rfl
set_option maxRecDepth 8000 in
theorem e_X5_tell_54 : tabF k_X5_tell 54 = f_getR 4 1 (fun i => 4) := rfl
set_option maxRecDepth 8000 in
theorem e_X5_tell_57 : tabF k_X5_tell 57 = f_getI 2 0 := rfl
set_option maxRecDepth 8000 in
theorem e_X5_tell_60 : tabF k_X5_tell 60 = f_iret := rfl
set_option maxRecDepth 8000 in
theorem e_X5_tell_61 : tabF k_X5_tell 61 = f_loadR 0 1 := rfl
set_option maxRecDepth 8000 in
theorem e_X5_tell_62 : tabF k_X5_tell 62 = f_getR 4 1 (fun i => 4) := rfl
set_option maxRecDepth 8000 in
theorem e_X5_tell_65 : tabF k_X5_tell 65 = f_getI 2 1 := rfl
set_option maxRecDepth 8000 in
theorem e_X5_tell_68 : tabF k_X5_tell 68 = f_iret := rfl
set_option maxRecDepth 8000 in
theorem e_X5_tell_69 : tabF k_X5_tell 69 = f_loadR 0 1 := rfl
set_option maxRecDepth 8000 in
theorem e_X5_tell_70 : tabF k_X5_tell 70 = f_getR 4 2 (fun i => 9) := rfl
set_option maxRecDepth 8000 in
theorem e_X5_tell_73 : tabF k_X5_tell 73 = f_callV 0 4 0 := rfl
set_option maxRecDepth 8000 in
theorem e_X5_tell_76 : tabF k_X5_tell 76 = f_iret := rfl
set_option maxRecDepth 8000 in
theorem e_X5_tell_77 : tabF k_X5_tell 77 = f_loadR 0 1 := rfl
set_option maxRecDepth 8000 in
theorem e_X5_tell_78 : tabF k_X5_tell 78 = f_callV 4 65 0 := rfl
set_option maxRecDepth 8000 in
theorem e_X5_tell_81 : tabF k_X5_tell 81 = f_iret := rfl
set_option maxRecDepth 8000 in
theorem e_X5_tell_82 : tabF k_X5_tell 82 = f_push (-1) 1 := rfl
set_option maxRecDepth 8000 in
theorem e_X5_tell_83 : tabF k_X5_tell 83 = f_iret := rfl
set_option maxRecDepth 8000 in
theorem e_X5_isKind_0 : tabF k_X5_isKind 0 = f_loadI 0 1 := rfl
set_option maxRecDepth 8000 in
theorem e_X5_isKind_1 : tabF k_X5_isKind 1 = f_if0 cLt cGe 14 := rfl
set_option maxRecDepth 8000 in
theorem e_X5_isKind_4 : tabF k_X5_isKind 4 = f_loadI 0 1 := rfl
set_option maxRecDepth 8000 in
theorem e_X5_isKind_5 : tabF k_X5_isKind 5 = f_push 16 2 := rfl
set_option maxRecDepth 8000 in
theorem e_X5_isKind_7 : tabF k_X5_isKind 7 = f_icmp cGe cLt 14 := rfl
set_option maxRecDepth 8000 in
theorem e_X5_isKind_10 : tabF k_X5_isKind 10 = f_push 1 1 := rfl
set_option maxRecDepth 8000 in
theorem e_X5_isKind_11 : tabF k_X5_isKind 11 = f_goto 15 := rfl
set_option maxRecDepth 8000 in
theorem e_X5_isKind_14 : tabF k_X5_isKind 14 = f_push 0 1 := rfl
set_option maxRecDepth 8000 in
theorem e_X5_isKind_15 : tabF k_X5_isKind 15 = f_zret := rfl
set_option maxRecDepth 8000 in
theorem e_X5_isTick_0 : tabF k_X5_isTick 0 = f_loadI 0 1 := rfl
set_option maxRecDepth 8000 in
theorem e_X5_isTick_1 : tabF k_X5_isTick 1 = f_if0 cLt cGe 15 := rfl
set_option maxRecDepth 8000 in
theorem e_X5_isTick_4 : tabF k_X5_isTick 4 = f_loadI 0 1 := rfl
set_option maxRecDepth 8000 in
theorem e_X5_isTick_5 : tabF k_X5_isTick 5 = f_push 9999 3 := rfl
set_option maxRecDepth 8000 in
theorem e_X5_isTick_8 : tabF k_X5_isTick 8 = f_icmp cGt cLe 15 := rfl
set_option maxRecDepth 8000 in
theorem e_X5_isTick_11 : tabF k_X5_isTick 11 = f_push 1 1 := rfl
set_option maxRecDepth 8000 in
theorem e_X5_isTick_12 : tabF k_X5_isTick 12 = f_goto 16 := rfl
set_option maxRecDepth 8000 in
theorem e_X5_isTick_15 : tabF k_X5_isTick 15 = f_push 0 1 := rfl
set_option maxRecDepth 8000 in
theorem e_X5_isTick_16 : tabF k_X5_isTick 16 = f_zret := rfl
set_option maxRecDepth 8000 in
theorem e_X5_isAmong_0 : tabF k_X5_isAmong 0 = f_loadI 1 1 := rfl
set_option maxRecDepth 8000 in
theorem e_X5_isAmong_1 : tabF k_X5_isAmong 1 = f_loadI 0 1 := rfl
set_option maxRecDepth 8000 in
theorem e_X5_isAmong_2 : tabF k_X5_isAmong 2 = f_shr := rfl
set_option maxRecDepth 8000 in
theorem e_X5_isAmong_3 : tabF k_X5_isAmong 3 = f_push 1 1 := rfl
set_option maxRecDepth 8000 in
theorem e_X5_isAmong_4 : tabF k_X5_isAmong 4 = f_and := rfl
set_option maxRecDepth 8000 in
theorem e_X5_isAmong_5 : tabF k_X5_isAmong 5 = f_if0 cEq cNe 12 := rfl
set_option maxRecDepth 8000 in
theorem e_X5_isAmong_8 : tabF k_X5_isAmong 8 = f_push 1 1 := rfl
set_option maxRecDepth 8000 in
theorem e_X5_isAmong_9 : tabF k_X5_isAmong 9 = f_goto 13 := rfl
set_option maxRecDepth 8000 in
theorem e_X5_isAmong_12 : tabF k_X5_isAmong 12 = f_push 0 1 := rfl
set_option maxRecDepth 8000 in
theorem e_X5_isAmong_13 : tabF k_X5_isAmong 13 = f_zret := rfl
set_option maxRecDepth 8000 in
theorem e_X5_isRow_0 : tabF k_X5_isRow 0 = f_loadI 1 1 := rfl
set_option maxRecDepth 8000 in
theorem e_X5_isRow_1 : tabF k_X5_isRow 1 = f_if0 cLt cGe 16 := rfl
set_option maxRecDepth 8000 in
theorem e_X5_isRow_4 : tabF k_X5_isRow 4 = f_loadI 1 1 := rfl
set_option maxRecDepth 8000 in
theorem e_X5_isRow_5 : tabF k_X5_isRow 5 = f_loadR 0 1 := rfl
set_option maxRecDepth 8000 in
theorem e_X5_isRow_6 : tabF k_X5_isRow 6 = f_getI 4 5 := rfl
set_option maxRecDepth 8000 in
theorem e_X5_isRow_9 : tabF k_X5_isRow 9 = f_icmp cGe cLt 16 := rfl
set_option maxRecDepth 8000 in
theorem e_X5_isRow_12 : tabF k_X5_isRow 12 = f_push 1 1 := rfl
set_option maxRecDepth 8000 in
theorem e_X5_isRow_13 : tabF k_X5_isRow 13 = f_goto 17 := rfl
set_option maxRecDepth 8000 in
theorem e_X5_isRow_16 : tabF k_X5_isRow 16 = f_push 0 1 := rfl
set_option maxRecDepth 8000 in
theorem e_X5_isRow_17 : tabF k_X5_isRow 17 = f_zret := rfl
set_option maxRecDepth 8000 in
theorem e_X5_lookAtRow_0 : tabF k_X5_lookAtRow 0 = f_loadI 1 1 := rfl
set_option maxRecDepth 8000 in
theorem e_X5_lookAtRow_1 : tabF k_X5_lookAtRow 1 = f_tsw 0 2 [28, 33, 46] 51 := rfl
set_option maxRecDepth 8000 in
theorem e_X5_lookAtRow_28 : tabF k_X5_lookAtRow 28 = f_loadR 0 1 := rfl
set_option maxRecDepth 8000 in
theorem e_X5_lookAtRow_29 : tabF k_X5_lookAtRow 29 = f_getI 3 0 := rfl
set_option maxRecDepth 8000 in
theorem e_X5_lookAtRow_32 : tabF k_X5_lookAtRow 32 = f_iret := rfl
set_option maxRecDepth 8000 in
theorem e_X5_lookAtRow_33 : tabF k_X5_lookAtRow 33 = f_loadR 0 1 := rfl
set_option maxRecDepth 8000 in
theorem e_X5_lookAtRow_34 : tabF k_X5_lookAtRow 34 = f_getI 3 1 := rfl
set_option maxRecDepth 8000 in
theorem e_X5_lookAtRow_37 : tabF k_X5_lookAtRow 37 = f_if0 cEq cNe 44 := rfl
set_option maxRecDepth 8000 in
theorem e_X5_lookAtRow_40 : tabF k_X5_lookAtRow 40 = f_push 1 1 := rfl
set_option maxRecDepth 8000 in
theorem e_X5_lookAtRow_41 : tabF k_X5_lookAtRow 41 = f_goto 45 := rfl
set_option maxRecDepth 8000 in
theorem e_X5_lookAtRow_44 : tabF k_X5_lookAtRow 44 = f_push 0 1 := rfl
set_option maxRecDepth 8000 in
theorem e_X5_lookAtRow_45 : tabF k_X5_lookAtRow 45 = f_iret := rfl
set_option maxRecDepth 8000 in
theorem e_X5_lookAtRow_46 : tabF k_X5_lookAtRow 46 = f_loadR 0 1 := rfl
set_option maxRecDepth 8000 in
theorem e_X5_lookAtRow_47 : tabF k_X5_lookAtRow 47 = f_callV 3 35 0 := rfl
set_option maxRecDepth 8000 in
theorem e_X5_lookAtRow_50 : tabF k_X5_lookAtRow 50 = f_iret := rfl
set_option maxRecDepth 8000 in
theorem e_X5_lookAtRow_51 : tabF k_X5_lookAtRow 51 = f_push (-1) 1 := rfl
set_option maxRecDepth 8000 in
theorem e_X5_lookAtRow_52 : tabF k_X5_lookAtRow 52 = f_iret := rfl
set_option maxRecDepth 8000 in
theorem e_X5_happeningsInAll_0 : tabF k_X5_happeningsInAll 0 = f_push 0 1 := rfl
set_option maxRecDepth 8000 in
theorem e_X5_happeningsInAll_1 : tabF k_X5_happeningsInAll 1 = f_storeI 1 1 := rfl
set_option maxRecDepth 8000 in
theorem e_X5_happeningsInAll_2 : tabF k_X5_happeningsInAll 2 = f_push 0 1 := rfl
set_option maxRecDepth 8000 in
theorem e_X5_happeningsInAll_3 : tabF k_X5_happeningsInAll 3 = f_storeI 2 1 := rfl
set_option maxRecDepth 8000 in
theorem e_X5_happeningsInAll_4 : tabF k_X5_happeningsInAll 4 = f_loadI 2 1 := rfl
set_option maxRecDepth 8000 in
theorem e_X5_happeningsInAll_5 : tabF k_X5_happeningsInAll 5 = f_loadR 0 1 := rfl
set_option maxRecDepth 8000 in
theorem e_X5_happeningsInAll_6 : tabF k_X5_happeningsInAll 6 = f_getI 4 5 := rfl
set_option maxRecDepth 8000 in
theorem e_X5_happeningsInAll_9 : tabF k_X5_happeningsInAll 9 = f_icmp cGe cLt 30 := rfl
set_option maxRecDepth 8000 in
theorem e_X5_happeningsInAll_12 : tabF k_X5_happeningsInAll 12 = f_loadI 1 1 := rfl
set_option maxRecDepth 8000 in
theorem e_X5_happeningsInAll_13 : tabF k_X5_happeningsInAll 13 = f_loadR 0 1 := rfl
set_option maxRecDepth 8000 in
theorem e_X5_happeningsInAll_14 : tabF k_X5_happeningsInAll 14 = f_getR 4 3 (fun i => 12) := rfl
set_option maxRecDepth 8000 in
theorem e_X5_happeningsInAll_17 : tabF k_X5_happeningsInAll 17 = f_loadI 2 1 := rfl
set_option maxRecDepth 8000 in
theorem e_X5_happeningsInAll_18 : tabF k_X5_happeningsInAll 18 = f_aald := rfl
set_option maxRecDepth 8000 in
theorem e_X5_happeningsInAll_19 : tabF k_X5_happeningsInAll 19 = f_callV 3 35 0 := rfl
set_option maxRecDepth 8000 in
theorem e_X5_happeningsInAll_22 : tabF k_X5_happeningsInAll 22 = f_add := rfl
set_option maxRecDepth 8000 in
theorem e_X5_happeningsInAll_23 : tabF k_X5_happeningsInAll 23 = f_storeI 1 1 := rfl
set_option maxRecDepth 8000 in
theorem e_X5_happeningsInAll_24 : tabF k_X5_happeningsInAll 24 = f_iinc 2 1 := rfl
set_option maxRecDepth 8000 in
theorem e_X5_happeningsInAll_27 : tabF k_X5_happeningsInAll 27 = f_goto 4 := rfl
set_option maxRecDepth 8000 in
theorem e_X5_happeningsInAll_30 : tabF k_X5_happeningsInAll 30 = f_loadI 1 1 := rfl
set_option maxRecDepth 8000 in
theorem e_X5_happeningsInAll_31 : tabF k_X5_happeningsInAll 31 = f_iret := rfl
set_option maxRecDepth 8000 in
theorem e_X5_rowsInOf_0 : tabF k_X5_rowsInOf 0 = f_push 0 1 := rfl
set_option maxRecDepth 8000 in
theorem e_X5_rowsInOf_1 : tabF k_X5_rowsInOf 1 = f_storeI 2 1 := rfl
set_option maxRecDepth 8000 in
theorem e_X5_rowsInOf_2 : tabF k_X5_rowsInOf 2 = f_push 0 1 := rfl
set_option maxRecDepth 8000 in
theorem e_X5_rowsInOf_3 : tabF k_X5_rowsInOf 3 = f_storeI 3 1 := rfl
set_option maxRecDepth 8000 in
theorem e_X5_rowsInOf_4 : tabF k_X5_rowsInOf 4 = f_loadI 3 1 := rfl
set_option maxRecDepth 8000 in
theorem e_X5_rowsInOf_5 : tabF k_X5_rowsInOf 5 = f_loadR 0 1 := rfl
set_option maxRecDepth 8000 in
theorem e_X5_rowsInOf_6 : tabF k_X5_rowsInOf 6 = f_getI 4 5 := rfl
set_option maxRecDepth 8000 in
theorem e_X5_rowsInOf_9 : tabF k_X5_rowsInOf 9 = f_icmp cGe cLt 49 := rfl
set_option maxRecDepth 8000 in
theorem e_X5_rowsInOf_12 : tabF k_X5_rowsInOf 12 = f_loadR 0 1 := rfl
set_option maxRecDepth 8000 in
theorem e_X5_rowsInOf_13 : tabF k_X5_rowsInOf 13 = f_getR 4 3 (fun i => 12) := rfl
set_option maxRecDepth 8000 in
theorem e_X5_rowsInOf_16 : tabF k_X5_rowsInOf 16 = f_loadI 3 1 := rfl
set_option maxRecDepth 8000 in
theorem e_X5_rowsInOf_17 : tabF k_X5_rowsInOf 17 = f_aald := rfl
set_option maxRecDepth 8000 in
theorem e_X5_rowsInOf_18 : tabF k_X5_rowsInOf 18 = f_getI 3 1 := rfl
set_option maxRecDepth 8000 in
theorem e_X5_rowsInOf_21 : tabF k_X5_rowsInOf 21 = f_if0 cEq cNe 43 := rfl
set_option maxRecDepth 8000 in
theorem e_X5_rowsInOf_24 : tabF k_X5_rowsInOf 24 = f_loadR 0 1 := rfl
set_option maxRecDepth 8000 in
theorem e_X5_rowsInOf_25 : tabF k_X5_rowsInOf 25 = f_getR 4 3 (fun i => 12) := rfl
set_option maxRecDepth 8000 in
theorem e_X5_rowsInOf_28 : tabF k_X5_rowsInOf 28 = f_loadI 3 1 := rfl
set_option maxRecDepth 8000 in
theorem e_X5_rowsInOf_29 : tabF k_X5_rowsInOf 29 = f_aald := rfl
set_option maxRecDepth 8000 in
theorem e_X5_rowsInOf_30 : tabF k_X5_rowsInOf 30 = f_getI 3 0 := rfl
set_option maxRecDepth 8000 in
theorem e_X5_rowsInOf_33 : tabF k_X5_rowsInOf 33 = f_loadI 1 1 := rfl
set_option maxRecDepth 8000 in
theorem e_X5_rowsInOf_34 : tabF k_X5_rowsInOf 34 = f_icmp cNe cEq 43 := rfl
set_option maxRecDepth 8000 in
theorem e_X5_rowsInOf_37 : tabF k_X5_rowsInOf 37 = f_loadI 2 1 := rfl
set_option maxRecDepth 8000 in
theorem e_X5_rowsInOf_38 : tabF k_X5_rowsInOf 38 = f_push 1 1 := rfl
set_option maxRecDepth 8000 in
theorem e_X5_rowsInOf_39 : tabF k_X5_rowsInOf 39 = f_loadI 3 1 := rfl
set_option maxRecDepth 8000 in
theorem e_X5_rowsInOf_40 : tabF k_X5_rowsInOf 40 = f_shl := rfl
set_option maxRecDepth 8000 in
theorem e_X5_rowsInOf_41 : tabF k_X5_rowsInOf 41 = f_or := rfl
set_option maxRecDepth 8000 in
theorem e_X5_rowsInOf_42 : tabF k_X5_rowsInOf 42 = f_storeI 2 1 := rfl
set_option maxRecDepth 8000 in
theorem e_X5_rowsInOf_43 : tabF k_X5_rowsInOf 43 = f_iinc 3 1 := rfl
set_option maxRecDepth 8000 in
theorem e_X5_rowsInOf_46 : tabF k_X5_rowsInOf 46 = f_goto 4 := rfl
set_option maxRecDepth 8000 in
theorem e_X5_rowsInOf_49 : tabF k_X5_rowsInOf 49 = f_loadI 2 1 := rfl
set_option maxRecDepth 8000 in
theorem e_X5_rowsInOf_50 : tabF k_X5_rowsInOf 50 = f_iret := rfl
set_option maxRecDepth 8000 in
theorem e_X5_rowsIn_0 : tabF k_X5_rowsIn 0 = f_loadR 0 1 := rfl
set_option maxRecDepth 8000 in
theorem e_X5_rowsIn_1 : tabF k_X5_rowsIn 1 = f_push 0 1 := rfl
set_option maxRecDepth 8000 in
theorem e_X5_rowsIn_2 : tabF k_X5_rowsIn 2 = f_callV 4 66 1 := rfl
set_option maxRecDepth 8000 in
theorem e_X5_rowsIn_5 : tabF k_X5_rowsIn 5 = f_loadR 0 1 := rfl
set_option maxRecDepth 8000 in
theorem e_X5_rowsIn_6 : tabF k_X5_rowsIn 6 = f_push 1 1 := rfl
set_option maxRecDepth 8000 in
theorem e_X5_rowsIn_7 : tabF k_X5_rowsIn 7 = f_callV 4 66 1 := rfl
set_option maxRecDepth 8000 in
theorem e_X5_rowsIn_10 : tabF k_X5_rowsIn 10 = f_or := rfl
set_option maxRecDepth 8000 in
theorem e_X5_rowsIn_11 : tabF k_X5_rowsIn 11 = f_iret := rfl
set_option maxRecDepth 8000 in
theorem e_X5_rowsWith_0 : tabF k_X5_rowsWith 0 = f_loadR 0 1 := rfl
set_option maxRecDepth 8000 in
theorem e_X5_rowsWith_1 : tabF k_X5_rowsWith 1 = f_getR 4 1 (fun i => 4) := rfl
set_option maxRecDepth 8000 in
theorem e_X5_rowsWith_4 : tabF k_X5_rowsWith 4 = f_loadI 1 1 := rfl
set_option maxRecDepth 8000 in
theorem e_X5_rowsWith_5 : tabF k_X5_rowsWith 5 = f_callV 2 11 1 := rfl
set_option maxRecDepth 8000 in
theorem e_X5_rowsWith_8 : tabF k_X5_rowsWith 8 = f_push 0 1 := rfl
set_option maxRecDepth 8000 in
theorem e_X5_rowsWith_9 : tabF k_X5_rowsWith 9 = f_storeI 2 1 := rfl
set_option maxRecDepth 8000 in
theorem e_X5_rowsWith_10 : tabF k_X5_rowsWith 10 = f_push 0 1 := rfl
set_option maxRecDepth 8000 in
theorem e_X5_rowsWith_11 : tabF k_X5_rowsWith 11 = f_storeI 3 1 := rfl
set_option maxRecDepth 8000 in
theorem e_X5_rowsWith_12 : tabF k_X5_rowsWith 12 = f_loadI 3 1 := rfl
set_option maxRecDepth 8000 in
theorem e_X5_rowsWith_13 : tabF k_X5_rowsWith 13 = f_loadR 0 1 := rfl
set_option maxRecDepth 8000 in
theorem e_X5_rowsWith_14 : tabF k_X5_rowsWith 14 = f_getI 4 5 := rfl
set_option maxRecDepth 8000 in
theorem e_X5_rowsWith_17 : tabF k_X5_rowsWith 17 = f_icmp cGe cLt 60 := rfl
set_option maxRecDepth 8000 in
theorem e_X5_rowsWith_20 : tabF k_X5_rowsWith 20 = f_loadR 0 1 := rfl
set_option maxRecDepth 8000 in
theorem e_X5_rowsWith_21 : tabF k_X5_rowsWith 21 = f_getR 4 3 (fun i => 12) := rfl
set_option maxRecDepth 8000 in
theorem e_X5_rowsWith_24 : tabF k_X5_rowsWith 24 = f_loadI 3 1 := rfl
set_option maxRecDepth 8000 in
theorem e_X5_rowsWith_25 : tabF k_X5_rowsWith 25 = f_aald := rfl
set_option maxRecDepth 8000 in
theorem e_X5_rowsWith_26 : tabF k_X5_rowsWith 26 = f_getI 3 1 := rfl
set_option maxRecDepth 8000 in
theorem e_X5_rowsWith_29 : tabF k_X5_rowsWith 29 = f_if0 cEq cNe 54 := rfl
set_option maxRecDepth 8000 in
theorem e_X5_rowsWith_32 : tabF k_X5_rowsWith 32 = f_loadR 0 1 := rfl
set_option maxRecDepth 8000 in
theorem e_X5_rowsWith_33 : tabF k_X5_rowsWith 33 = f_getR 4 1 (fun i => 4) := rfl
set_option maxRecDepth 8000 in
theorem e_X5_rowsWith_36 : tabF k_X5_rowsWith 36 = f_loadR 0 1 := rfl
set_option maxRecDepth 8000 in
theorem e_X5_rowsWith_37 : tabF k_X5_rowsWith 37 = f_getR 4 3 (fun i => 12) := rfl
set_option maxRecDepth 8000 in
theorem e_X5_rowsWith_40 : tabF k_X5_rowsWith 40 = f_loadI 3 1 := rfl
set_option maxRecDepth 8000 in
theorem e_X5_rowsWith_41 : tabF k_X5_rowsWith 41 = f_aald := rfl
set_option maxRecDepth 8000 in
theorem e_X5_rowsWith_42 : tabF k_X5_rowsWith 42 = f_callV 2 12 1 := rfl
set_option maxRecDepth 8000 in
theorem e_X5_rowsWith_45 : tabF k_X5_rowsWith 45 = f_if0 cEq cNe 54 := rfl
set_option maxRecDepth 8000 in
theorem e_X5_rowsWith_48 : tabF k_X5_rowsWith 48 = f_loadI 2 1 := rfl
set_option maxRecDepth 8000 in
theorem e_X5_rowsWith_49 : tabF k_X5_rowsWith 49 = f_push 1 1 := rfl
set_option maxRecDepth 8000 in
theorem e_X5_rowsWith_50 : tabF k_X5_rowsWith 50 = f_loadI 3 1 := rfl
set_option maxRecDepth 8000 in
theorem e_X5_rowsWith_51 : tabF k_X5_rowsWith 51 = f_shl := rfl
set_option maxRecDepth 8000 in
theorem e_X5_rowsWith_52 : tabF k_X5_rowsWith 52 = f_or := rfl
set_option maxRecDepth 8000 in
theorem e_X5_rowsWith_53 : tabF k_X5_rowsWith 53 = f_storeI 2 1 := rfl
set_option maxRecDepth 8000 in
theorem e_X5_rowsWith_54 : tabF k_X5_rowsWith 54 = f_iinc 3 1 := rfl
set_option maxRecDepth 8000 in
theorem e_X5_rowsWith_57 : tabF k_X5_rowsWith 57 = f_goto 12 := rfl
set_option maxRecDepth 8000 in
theorem e_X5_rowsWith_60 : tabF k_X5_rowsWith 60 = f_loadI 2 1 := rfl
set_option maxRecDepth 8000 in
theorem e_X5_rowsWith_61 : tabF k_X5_rowsWith 61 = f_iret := rfl
set_option maxRecDepth 8000 in
theorem e_X5_countOf_0 : tabF k_X5_countOf 0 = f_loadR 0 1 := rfl
set_option maxRecDepth 8000 in
theorem e_X5_countOf_1 : tabF k_X5_countOf 1 = f_loadI 1 1 := rfl
set_option maxRecDepth 8000 in
theorem e_X5_countOf_2 : tabF k_X5_countOf 2 = f_callV 4 68 1 := rfl
set_option maxRecDepth 8000 in
theorem e_X5_countOf_5 : tabF k_X5_countOf 5 = f_callS 119 1 := rfl
set_option maxRecDepth 8000 in
theorem e_X5_countOf_8 : tabF k_X5_countOf 8 = f_iret := rfl
set_option maxRecDepth 8000 in
theorem e_X5_rowsLacking_0 : tabF k_X5_rowsLacking 0 = f_loadI 1 1 := rfl
set_option maxRecDepth 8000 in
theorem e_X5_rowsLacking_1 : tabF k_X5_rowsLacking 1 = f_callS 27 1 := rfl
set_option maxRecDepth 8000 in
theorem e_X5_rowsLacking_4 : tabF k_X5_rowsLacking 4 = f_push 2 1 := rfl
set_option maxRecDepth 8000 in
theorem e_X5_rowsLacking_5 : tabF k_X5_rowsLacking 5 = f_icmp cGe cLt 12 := rfl
set_option maxRecDepth 8000 in
theorem e_X5_rowsLacking_8 : tabF k_X5_rowsLacking 8 = f_push 0 1 := rfl
set_option maxRecDepth 8000 in
theorem e_X5_rowsLacking_9 : tabF k_X5_rowsLacking 9 = f_goto 28 := rfl
set_option maxRecDepth 8000 in
theorem e_X5_rowsLacking_12 : tabF k_X5_rowsLacking 12 = f_loadR 0 1 := rfl
set_option maxRecDepth 8000 in
theorem e_X5_rowsLacking_13 : tabF k_X5_rowsLacking 13 = f_loadI 1 1 := rfl
set_option maxRecDepth 8000 in
theorem e_X5_rowsLacking_14 : tabF k_X5_rowsLacking 14 = f_callS 30 1 := rfl
set_option maxRecDepth 8000 in
theorem e_X5_rowsLacking_17 : tabF k_X5_rowsLacking 17 = f_callV 4 68 1 := rfl
set_option maxRecDepth 8000 in
theorem e_X5_rowsLacking_20 : tabF k_X5_rowsLacking 20 = f_loadR 0 1 := rfl
set_option maxRecDepth 8000 in
theorem e_X5_rowsLacking_21 : tabF k_X5_rowsLacking 21 = f_loadI 1 1 := rfl
set_option maxRecDepth 8000 in
theorem e_X5_rowsLacking_22 : tabF k_X5_rowsLacking 22 = f_callV 4 68 1 := rfl
set_option maxRecDepth 8000 in
theorem e_X5_rowsLacking_25 : tabF k_X5_rowsLacking 25 = f_push (-1) 1 := rfl
set_option maxRecDepth 8000 in
theorem e_X5_rowsLacking_26 : tabF k_X5_rowsLacking 26 = f_xor := rfl
set_option maxRecDepth 8000 in
theorem e_X5_rowsLacking_27 : tabF k_X5_rowsLacking 27 = f_and := rfl
set_option maxRecDepth 8000 in
theorem e_X5_rowsLacking_28 : tabF k_X5_rowsLacking 28 = f_iret := rfl
set_option maxRecDepth 8000 in
theorem e_X5_gatherRowsBehind_0 : tabF k_X5_gatherRowsBehind 0 = f_loadR 0 1 := rfl
set_option maxRecDepth 8000 in
theorem e_X5_gatherRowsBehind_1 : tabF k_X5_gatherRowsBehind 1 = f_getR 4 1 (fun i => 4) := rfl
set_option maxRecDepth 8000 in
theorem e_X5_gatherRowsBehind_4 : tabF k_X5_gatherRowsBehind 4 = f_loadI 1 1 := rfl
set_option maxRecDepth 8000 in
theorem e_X5_gatherRowsBehind_5 : tabF k_X5_gatherRowsBehind 5 = f_callV 2 11 1 := rfl
set_option maxRecDepth 8000 in
theorem e_X5_gatherRowsBehind_8 : tabF k_X5_gatherRowsBehind 8 = f_push 0 1 := rfl
set_option maxRecDepth 8000 in
theorem e_X5_gatherRowsBehind_9 : tabF k_X5_gatherRowsBehind 9 = f_storeI 3 1 := rfl
set_option maxRecDepth 8000 in
theorem e_X5_gatherRowsBehind_10 : tabF k_X5_gatherRowsBehind 10 = f_loadI 3 1 := rfl
set_option maxRecDepth 8000 in
theorem e_X5_gatherRowsBehind_11 : tabF k_X5_gatherRowsBehind 11 = f_push 16 2 := rfl
set_option maxRecDepth 8000 in
theorem e_X5_gatherRowsBehind_13 : tabF k_X5_gatherRowsBehind 13 = f_icmp cGe cLt 29 := rfl
set_option maxRecDepth 8000 in
theorem e_X5_gatherRowsBehind_16 : tabF k_X5_gatherRowsBehind 16 = f_loadR 0 1 := rfl
set_option maxRecDepth 8000 in
theorem e_X5_gatherRowsBehind_17 : tabF k_X5_gatherRowsBehind 17 = f_getR 4 4 (fun i => 13) := rfl
set_option maxRecDepth 8000 in
theorem e_X5_gatherRowsBehind_20 : tabF k_X5_gatherRowsBehind 20 = f_loadI 3 1 := rfl
set_option maxRecDepth 8000 in
theorem e_X5_gatherRowsBehind_21 : tabF k_X5_gatherRowsBehind 21 = f_push 0 1 := rfl
set_option maxRecDepth 8000 in
theorem e_X5_gatherRowsBehind_22 : tabF k_X5_gatherRowsBehind 22 = f_iast := rfl
set_option maxRecDepth 8000 in
theorem e_X5_gatherRowsBehind_23 : tabF k_X5_gatherRowsBehind 23 = f_iinc 3 1 := rfl
set_option maxRecDepth 8000 in
theorem e_X5_gatherRowsBehind_26 : tabF k_X5_gatherRowsBehind 26 = f_goto 10 := rfl
set_option maxRecDepth 8000 in
theorem e_X5_gatherRowsBehind_29 : tabF k_X5_gatherRowsBehind 29 = f_push 0 1 := rfl
set_option maxRecDepth 8000 in
theorem e_X5_gatherRowsBehind_30 : tabF k_X5_gatherRowsBehind 30 = f_storeI 3 1 := rfl
set_option maxRecDepth 8000 in
theorem e_X5_gatherRowsBehind_31 : tabF k_X5_gatherRowsBehind 31 = f_loadI 3 1 := rfl
set_option maxRecDepth 8000 in
theorem e_X5_gatherRowsBehind_32 : tabF k_X5_gatherRowsBehind 32 = f_loadR 0 1 := rfl
set_option maxRecDepth 8000 in
theorem e_X5_gatherRowsBehind_33 : tabF k_X5_gatherRowsBehind 33 = f_getI 4 5 := rfl
set_option maxRecDepth 8000 in
theorem e_X5_gatherRowsBehind_36 : tabF k_X5_gatherRowsBehind 36 = f_icmp cGe cLt 107 := rfl
set_option maxRecDepth 8000 in
theorem e_X5_gatherRowsBehind_39 : tabF k_X5_gatherRowsBehind 39 = f_loadI 3 1 := rfl
set_option maxRecDepth 8000 in
theorem e_X5_gatherRowsBehind_40 : tabF k_X5_gatherRowsBehind 40 = f_loadI 2 1 := rfl
set_option maxRecDepth 8000 in
theorem e_X5_gatherRowsBehind_41 : tabF k_X5_gatherRowsBehind 41 = f_callS 62 2 := rfl
set_option maxRecDepth 8000 in
theorem e_X5_gatherRowsBehind_44 : tabF k_X5_gatherRowsBehind 44 = f_if0 cEq cNe 63 := rfl
set_option maxRecDepth 8000 in
theorem e_X5_gatherRowsBehind_47 : tabF k_X5_gatherRowsBehind 47 = f_loadR 0 1 := rfl
set_option maxRecDepth 8000 in
theorem e_X5_gatherRowsBehind_48 : tabF k_X5_gatherRowsBehind 48 = f_getR 4 1 (fun i => 4) := rfl
set_option maxRecDepth 8000 in
theorem e_X5_gatherRowsBehind_51 : tabF k_X5_gatherRowsBehind 51 = f_loadR 0 1 := rfl
set_option maxRecDepth 8000 in
theorem e_X5_gatherRowsBehind_52 : tabF k_X5_gatherRowsBehind 52 = f_getR 4 3 (fun i => 12) := rfl
set_option maxRecDepth 8000 in
theorem e_X5_gatherRowsBehind_55 : tabF k_X5_gatherRowsBehind 55 = f_loadI 3 1 := rfl
set_option maxRecDepth 8000 in
theorem e_X5_gatherRowsBehind_56 : tabF k_X5_gatherRowsBehind 56 = f_aald := rfl
set_option maxRecDepth 8000 in
theorem e_X5_gatherRowsBehind_57 : tabF k_X5_gatherRowsBehind 57 = f_callV 2 14 1 := rfl
set_option maxRecDepth 8000 in
theorem e_X5_gatherRowsBehind_60 : tabF k_X5_gatherRowsBehind 60 = f_goto 64 := rfl
set_option maxRecDepth 8000 in
theorem e_X5_gatherRowsBehind_63 : tabF k_X5_gatherRowsBehind 63 = f_push 0 1 := rfl
set_option maxRecDepth 8000 in
theorem e_X5_gatherRowsBehind_64 : tabF k_X5_gatherRowsBehind 64 = f_storeI 4 2 := rfl
set_option maxRecDepth 8000 in
theorem e_X5_gatherRowsBehind_66 : tabF k_X5_gatherRowsBehind 66 = f_push 0 1 := rfl
set_option maxRecDepth 8000 in
theorem e_X5_gatherRowsBehind_67 : tabF k_X5_gatherRowsBehind 67 = f_storeI 5 2 := rfl
set_option maxRecDepth 8000 in
theorem e_X5_gatherRowsBehind_69 : tabF k_X5_gatherRowsBehind 69 = f_loadI 5 2 := rfl
set_option maxRecDepth 8000 in
theorem e_X5_gatherRowsBehind_71 : tabF k_X5_gatherRowsBehind 71 = f_push 16 2 := rfl
set_option maxRecDepth 8000 in
theorem e_X5_gatherRowsBehind_73 : tabF k_X5_gatherRowsBehind 73 = f_icmp cGe cLt 101 := rfl
set_option maxRecDepth 8000 in
theorem e_X5_gatherRowsBehind_76 : tabF k_X5_gatherRowsBehind 76 = f_loadR 0 1 := rfl
set_option maxRecDepth 8000 in
theorem e_X5_gatherRowsBehind_77 : tabF k_X5_gatherRowsBehind 77 = f_getR 4 4 (fun i => 13) := rfl
set_option maxRecDepth 8000 in
theorem e_X5_gatherRowsBehind_80 : tabF k_X5_gatherRowsBehind 80 = f_loadI 5 2 := rfl
set_option maxRecDepth 8000 in
theorem e_X5_gatherRowsBehind_82 : tabF k_X5_gatherRowsBehind 82 = f_dup2 := rfl
set_option maxRecDepth 8000 in
theorem e_X5_gatherRowsBehind_83 : tabF k_X5_gatherRowsBehind 83 = f_iald := rfl
set_option maxRecDepth 8000 in
theorem e_X5_gatherRowsBehind_84 : tabF k_X5_gatherRowsBehind 84 = f_loadI 4 2 := rfl
set_option maxRecDepth 8000 in
theorem e_X5_gatherRowsBehind_86 : tabF k_X5_gatherRowsBehind 86 = f_loadI 5 2 := rfl
set_option maxRecDepth 8000 in
theorem e_X5_gatherRowsBehind_88 : tabF k_X5_gatherRowsBehind 88 = f_shr := rfl
set_option maxRecDepth 8000 in
theorem e_X5_gatherRowsBehind_89 : tabF k_X5_gatherRowsBehind 89 = f_push 1 1 := rfl
set_option maxRecDepth 8000 in
theorem e_X5_gatherRowsBehind_90 : tabF k_X5_gatherRowsBehind 90 = f_and := rfl
set_option maxRecDepth 8000 in
theorem e_X5_gatherRowsBehind_91 : tabF k_X5_gatherRowsBehind 91 = f_loadI 3 1 := rfl
set_option maxRecDepth 8000 in
theorem e_X5_gatherRowsBehind_92 : tabF k_X5_gatherRowsBehind 92 = f_shl := rfl
set_option maxRecDepth 8000 in
theorem e_X5_gatherRowsBehind_93 : tabF k_X5_gatherRowsBehind 93 = f_or := rfl
set_option maxRecDepth 8000 in
theorem e_X5_gatherRowsBehind_94 : tabF k_X5_gatherRowsBehind 94 = f_iast := rfl
set_option maxRecDepth 8000 in
theorem e_X5_gatherRowsBehind_95 : tabF k_X5_gatherRowsBehind 95 = f_iinc 5 1 := rfl
set_option maxRecDepth 8000 in
theorem e_X5_gatherRowsBehind_98 : tabF k_X5_gatherRowsBehind 98 = f_goto 69 := rfl
set_option maxRecDepth 8000 in
theorem e_X5_gatherRowsBehind_101 : tabF k_X5_gatherRowsBehind 101 = f_iinc 3 1 := rfl
set_option maxRecDepth 8000 in
theorem e_X5_gatherRowsBehind_104 : tabF k_X5_gatherRowsBehind 104 = f_goto 31 := rfl
set_option maxRecDepth 8000 in
theorem e_X5_gatherRowsBehind_107 : tabF k_X5_gatherRowsBehind 107 = f_vret := rfl
set_option maxRecDepth 8000 in
theorem e_X5_findLonger_0 : tabF k_X5_findLonger 0 = f_loadR 0 1 := rfl
set_option maxRecDepth 8000 in
theorem e_X5_findLonger_1 : tabF k_X5_findLonger 1 = f_loadI 1 1 := rfl
set_option maxRecDepth 8000 in
theorem e_X5_findLonger_2 : tabF k_X5_findLonger 2 = f_loadI 2 1 := rfl
set_option maxRecDepth 8000 in
theorem e_X5_findLonger_3 : tabF k_X5_findLonger 3 = f_callV 4 71 2 := rfl
set_option maxRecDepth 8000 in
theorem e_X5_findLonger_6 : tabF k_X5_findLonger 6 = f_push 0 1 := rfl
set_option maxRecDepth 8000 in
theorem e_X5_findLonger_7 : tabF k_X5_findLonger 7 = f_storeI 4 2 := rfl
set_option maxRecDepth 8000 in
theorem e_X5_findLonger_9 : tabF k_X5_findLonger 9 = f_loadI 4 2 := rfl
set_option maxRecDepth 8000 in
theorem e_X5_findLonger_11 : tabF k_X5_findLonger 11 = f_push 16 2 := rfl
set_option maxRecDepth 8000 in
theorem e_X5_findLonger_13 : tabF k_X5_findLonger 13 = f_icmp cGe cLt 57 := rfl
set_option maxRecDepth 8000 in
theorem e_X5_findLonger_16 : tabF k_X5_findLonger 16 = f_loadR 0 1 := rfl
set_option maxRecDepth 8000 in
theorem e_X5_findLonger_17 : tabF k_X5_findLonger 17 = f_getR 4 4 (fun i => 13) := rfl
set_option maxRecDepth 8000 in
theorem e_X5_findLonger_20 : tabF k_X5_findLonger 20 = f_loadI 4 2 := rfl
set_option maxRecDepth 8000 in
theorem e_X5_findLonger_22 : tabF k_X5_findLonger 22 = f_iald := rfl
set_option maxRecDepth 8000 in
theorem e_X5_findLonger_23 : tabF k_X5_findLonger 23 = f_callS 119 1 := rfl
set_option maxRecDepth 8000 in
theorem e_X5_findLonger_26 : tabF k_X5_findLonger 26 = f_loadI 3 1 := rfl
set_option maxRecDepth 8000 in
theorem e_X5_findLonger_27 : tabF k_X5_findLonger 27 = f_icmp cLt cGe 51 := rfl
set_option maxRecDepth 8000 in
theorem e_X5_findLonger_30 : tabF k_X5_findLonger 30 = f_loadR 0 1 := rfl
set_option maxRecDepth 8000 in
theorem e_X5_findLonger_31 : tabF k_X5_findLonger 31 = f_getR 4 2 (fun i => 9) := rfl
set_option maxRecDepth 8000 in
theorem e_X5_findLonger_34 : tabF k_X5_findLonger 34 = f_loadI 1 1 := rfl
set_option maxRecDepth 8000 in
theorem e_X5_findLonger_35 : tabF k_X5_findLonger 35 = f_push 0 1 := rfl
set_option maxRecDepth 8000 in
theorem e_X5_findLonger_36 : tabF k_X5_findLonger 36 = f_loadI 4 2 := rfl
set_option maxRecDepth 8000 in
theorem e_X5_findLonger_38 : tabF k_X5_findLonger 38 = f_callS 31 3 := rfl
set_option maxRecDepth 8000 in
theorem e_X5_findLonger_41 : tabF k_X5_findLonger 41 = f_loadR 0 1 := rfl
set_option maxRecDepth 8000 in
theorem e_X5_findLonger_42 : tabF k_X5_findLonger 42 = f_getR 4 4 (fun i => 13) := rfl
set_option maxRecDepth 8000 in
theorem e_X5_findLonger_45 : tabF k_X5_findLonger 45 = f_loadI 4 2 := rfl
set_option maxRecDepth 8000 in
theorem e_X5_findLonger_47 : tabF k_X5_findLonger 47 = f_iald := rfl
set_option maxRecDepth 8000 in
theorem e_X5_findLonger_48 : tabF k_X5_findLonger 48 = f_callV 0 1 2 := rfl
set_option maxRecDepth 8000 in
theorem e_X5_findLonger_51 : tabF k_X5_findLonger 51 = f_iinc 4 1 := rfl
set_option maxRecDepth 8000 in
theorem e_X5_findLonger_54 : tabF k_X5_findLonger 54 = f_goto 9 := rfl
set_option maxRecDepth 8000 in
theorem e_X5_findLonger_57 : tabF k_X5_findLonger 57 = f_vret := rfl
set_option maxRecDepth 8000 in
theorem e_X5_longerSays_0 : tabF k_X5_longerSays 0 = f_loadI 1 1 := rfl
set_option maxRecDepth 8000 in
theorem e_X5_longerSays_1 : tabF k_X5_longerSays 1 = f_callS 27 1 := rfl
set_option maxRecDepth 8000 in
theorem e_X5_longerSays_4 : tabF k_X5_longerSays 4 = f_storeI 3 1 := rfl
set_option maxRecDepth 8000 in
theorem e_X5_longerSays_5 : tabF k_X5_longerSays 5 = f_push 0 1 := rfl
set_option maxRecDepth 8000 in
theorem e_X5_longerSays_6 : tabF k_X5_longerSays 6 = f_storeI 4 2 := rfl
set_option maxRecDepth 8000 in
theorem e_X5_longerSays_8 : tabF k_X5_longerSays 8 = f_loadI 3 1 := rfl
set_option maxRecDepth 8000 in
theorem e_X5_longerSays_9 : tabF k_X5_longerSays 9 = f_push 4 1 := rfl
set_option maxRecDepth 8000 in
theorem e_X5_longerSays_10 : tabF k_X5_longerSays 10 = f_icmp cGe cLt 59 := rfl
set_option maxRecDepth 8000 in
theorem e_X5_longerSays_13 : tabF k_X5_longerSays 13 = f_loadI 4 2 := rfl
set_option maxRecDepth 8000 in
theorem e_X5_longerSays_15 : tabF k_X5_longerSays 15 = f_loadI 3 1 := rfl
set_option maxRecDepth 8000 in
theorem e_X5_longerSays_16 : tabF k_X5_longerSays 16 = f_icmp cGt cLe 59 := rfl
set_option maxRecDepth 8000 in
theorem e_X5_longerSays_19 : tabF k_X5_longerSays 19 = f_push 0 1 := rfl
set_option maxRecDepth 8000 in
theorem e_X5_longerSays_20 : tabF k_X5_longerSays 20 = f_storeI 5 2 := rfl
set_option maxRecDepth 8000 in
theorem e_X5_longerSays_22 : tabF k_X5_longerSays 22 = f_loadI 5 2 := rfl
set_option maxRecDepth 8000 in
theorem e_X5_longerSays_24 : tabF k_X5_longerSays 24 = f_push 16 2 := rfl
set_option maxRecDepth 8000 in
theorem e_X5_longerSays_26 : tabF k_X5_longerSays 26 = f_icmp cGe cLt 53 := rfl
set_option maxRecDepth 8000 in
theorem e_X5_longerSays_29 : tabF k_X5_longerSays 29 = f_loadR 0 1 := rfl
set_option maxRecDepth 8000 in
theorem e_X5_longerSays_30 : tabF k_X5_longerSays 30 = f_loadI 1 1 := rfl
set_option maxRecDepth 8000 in
theorem e_X5_longerSays_31 : tabF k_X5_longerSays 31 = f_loadI 4 2 := rfl
set_option maxRecDepth 8000 in
theorem e_X5_longerSays_33 : tabF k_X5_longerSays 33 = f_loadI 5 2 := rfl
set_option maxRecDepth 8000 in
theorem e_X5_longerSays_35 : tabF k_X5_longerSays 35 = f_callS 31 3 := rfl
set_option maxRecDepth 8000 in
theorem e_X5_longerSays_38 : tabF k_X5_longerSays 38 = f_callV 4 69 1 := rfl
set_option maxRecDepth 8000 in
theorem e_X5_longerSays_41 : tabF k_X5_longerSays 41 = f_loadI 2 1 := rfl
set_option maxRecDepth 8000 in
theorem e_X5_longerSays_42 : tabF k_X5_longerSays 42 = f_icmp cNe cEq 47 := rfl
set_option maxRecDepth 8000 in
theorem e_X5_longerSays_45 : tabF k_X5_longerSays 45 = f_push 1 1 := rfl
set_option maxRecDepth 8000 in
theorem e_X5_longerSays_46 : tabF k_X5_longerSays 46 = f_zret := rfl
set_option maxRecDepth 8000 in
theorem e_X5_longerSays_47 : tabF k_X5_longerSays 47 = f_iinc 5 1 := rfl
set_option maxRecDepth 8000 in
theorem e_X5_longerSays_50 : tabF k_X5_longerSays 50 = f_goto 22 := rfl
set_option maxRecDepth 8000 in
theorem e_X5_longerSays_53 : tabF k_X5_longerSays 53 = f_iinc 4 1 := rfl
set_option maxRecDepth 8000 in
theorem e_X5_longerSays_56 : tabF k_X5_longerSays 56 = f_goto 8 := rfl
set_option maxRecDepth 8000 in
theorem e_X5_longerSays_59 : tabF k_X5_longerSays 59 = f_push 0 1 := rfl
set_option maxRecDepth 8000 in
theorem e_X5_longerSays_60 : tabF k_X5_longerSays 60 = f_zret := rfl
set_option maxRecDepth 8000 in
theorem e_X5_narrowerSays_0 : tabF k_X5_narrowerSays 0 = f_loadI 1 1 := rfl
set_option maxRecDepth 8000 in
theorem e_X5_narrowerSays_1 : tabF k_X5_narrowerSays 1 = f_callS 27 1 := rfl
set_option maxRecDepth 8000 in
theorem e_X5_narrowerSays_4 : tabF k_X5_narrowerSays 4 = f_storeI 3 1 := rfl
set_option maxRecDepth 8000 in
theorem e_X5_narrowerSays_5 : tabF k_X5_narrowerSays 5 = f_push 0 1 := rfl
set_option maxRecDepth 8000 in
theorem e_X5_narrowerSays_6 : tabF k_X5_narrowerSays 6 = f_storeI 4 2 := rfl
set_option maxRecDepth 8000 in
theorem e_X5_narrowerSays_8 : tabF k_X5_narrowerSays 8 = f_loadI 4 2 := rfl
set_option maxRecDepth 8000 in
theorem e_X5_narrowerSays_10 : tabF k_X5_narrowerSays 10 = f_loadI 3 1 := rfl
set_option maxRecDepth 8000 in
theorem e_X5_narrowerSays_11 : tabF k_X5_narrowerSays 11 = f_icmp cGe cLt 76 := rfl
set_option maxRecDepth 8000 in
theorem e_X5_narrowerSays_14 : tabF k_X5_narrowerSays 14 = f_loadI 1 1 := rfl
set_option maxRecDepth 8000 in
theorem e_X5_narrowerSays_15 : tabF k_X5_narrowerSays 15 = f_loadI 4 2 := rfl
set_option maxRecDepth 8000 in
theorem e_X5_narrowerSays_17 : tabF k_X5_narrowerSays 17 = f_callS 28 2 := rfl
set_option maxRecDepth 8000 in
theorem e_X5_narrowerSays_20 : tabF k_X5_narrowerSays 20 = f_storeI 5 2 := rfl
set_option maxRecDepth 8000 in
theorem e_X5_narrowerSays_22 : tabF k_X5_narrowerSays 22 = f_push 0 1 := rfl
set_option maxRecDepth 8000 in
theorem e_X5_narrowerSays_23 : tabF k_X5_narrowerSays 23 = f_storeI 6 2 := rfl
set_option maxRecDepth 8000 in
theorem e_X5_narrowerSays_25 : tabF k_X5_narrowerSays 25 = f_loadI 6 2 := rfl
set_option maxRecDepth 8000 in
theorem e_X5_narrowerSays_27 : tabF k_X5_narrowerSays 27 = f_push 16 2 := rfl
set_option maxRecDepth 8000 in
theorem e_X5_narrowerSays_29 : tabF k_X5_narrowerSays 29 = f_icmp cGe cLt 70 := rfl
set_option maxRecDepth 8000 in
theorem e_X5_narrowerSays_32 : tabF k_X5_narrowerSays 32 = f_loadR 0 1 := rfl
set_option maxRecDepth 8000 in
theorem e_X5_narrowerSays_33 : tabF k_X5_narrowerSays 33 = f_getR 4 0 (fun i => 1) := rfl
set_option maxRecDepth 8000 in
theorem e_X5_narrowerSays_36 : tabF k_X5_narrowerSays 36 = f_loadI 6 2 := rfl
set_option maxRecDepth 8000 in
theorem e_X5_narrowerSays_38 : tabF k_X5_narrowerSays 38 = f_loadI 5 2 := rfl
set_option maxRecDepth 8000 in
theorem e_X5_narrowerSays_40 : tabF k_X5_narrowerSays 40 = f_callV 1 10 2 := rfl
set_option maxRecDepth 8000 in
theorem e_X5_narrowerSays_43 : tabF k_X5_narrowerSays 43 = f_if0 cEq cNe 64 := rfl
set_option maxRecDepth 8000 in
theorem e_X5_narrowerSays_46 : tabF k_X5_narrowerSays 46 = f_loadR 0 1 := rfl
set_option maxRecDepth 8000 in
theorem e_X5_narrowerSays_47 : tabF k_X5_narrowerSays 47 = f_loadI 1 1 := rfl
set_option maxRecDepth 8000 in
theorem e_X5_narrowerSays_48 : tabF k_X5_narrowerSays 48 = f_loadI 4 2 := rfl
set_option maxRecDepth 8000 in
theorem e_X5_narrowerSays_50 : tabF k_X5_narrowerSays 50 = f_loadI 6 2 := rfl
set_option maxRecDepth 8000 in
theorem e_X5_narrowerSays_52 : tabF k_X5_narrowerSays 52 = f_callS 32 3 := rfl
set_option maxRecDepth 8000 in
theorem e_X5_narrowerSays_55 : tabF k_X5_narrowerSays 55 = f_callV 4 69 1 := rfl
set_option maxRecDepth 8000 in
theorem e_X5_narrowerSays_58 : tabF k_X5_narrowerSays 58 = f_loadI 2 1 := rfl
set_option maxRecDepth 8000 in
theorem e_X5_narrowerSays_59 : tabF k_X5_narrowerSays 59 = f_icmp cNe cEq 64 := rfl
set_option maxRecDepth 8000 in
theorem e_X5_narrowerSays_62 : tabF k_X5_narrowerSays 62 = f_push 1 1 := rfl
set_option maxRecDepth 8000 in
theorem e_X5_narrowerSays_63 : tabF k_X5_narrowerSays 63 = f_zret := rfl
set_option maxRecDepth 8000 in
theorem e_X5_narrowerSays_64 : tabF k_X5_narrowerSays 64 = f_iinc 6 1 := rfl
set_option maxRecDepth 8000 in
theorem e_X5_narrowerSays_67 : tabF k_X5_narrowerSays 67 = f_goto 25 := rfl
set_option maxRecDepth 8000 in
theorem e_X5_narrowerSays_70 : tabF k_X5_narrowerSays 70 = f_iinc 4 1 := rfl
set_option maxRecDepth 8000 in
theorem e_X5_narrowerSays_73 : tabF k_X5_narrowerSays 73 = f_goto 8 := rfl
set_option maxRecDepth 8000 in
theorem e_X5_narrowerSays_76 : tabF k_X5_narrowerSays 76 = f_push 0 1 := rfl
set_option maxRecDepth 8000 in
theorem e_X5_narrowerSays_77 : tabF k_X5_narrowerSays 77 = f_zret := rfl
set_option maxRecDepth 8000 in
theorem e_X5_howFarApart_0 : tabF k_X5_howFarApart 0 = f_loadI 0 1 := rfl
set_option maxRecDepth 8000 in
theorem e_X5_howFarApart_1 : tabF k_X5_howFarApart 1 = f_loadI 1 1 := rfl
set_option maxRecDepth 8000 in
theorem e_X5_howFarApart_2 : tabF k_X5_howFarApart 2 = f_and := rfl
set_option maxRecDepth 8000 in
theorem e_X5_howFarApart_3 : tabF k_X5_howFarApart 3 = f_callS 119 1 := rfl
set_option maxRecDepth 8000 in
theorem e_X5_howFarApart_6 : tabF k_X5_howFarApart 6 = f_storeI 3 1 := rfl
set_option maxRecDepth 8000 in
theorem e_X5_howFarApart_7 : tabF k_X5_howFarApart 7 = f_loadI 0 1 := rfl
set_option maxRecDepth 8000 in
theorem e_X5_howFarApart_8 : tabF k_X5_howFarApart 8 = f_loadI 2 1 := rfl
set_option maxRecDepth 8000 in
theorem e_X5_howFarApart_9 : tabF k_X5_howFarApart 9 = f_and := rfl
set_option maxRecDepth 8000 in
theorem e_X5_howFarApart_10 : tabF k_X5_howFarApart 10 = f_callS 119 1 := rfl
set_option maxRecDepth 8000 in
theorem e_X5_howFarApart_13 : tabF k_X5_howFarApart 13 = f_storeI 4 2 := rfl
set_option maxRecDepth 8000 in
theorem e_X5_howFarApart_15 : tabF k_X5_howFarApart 15 = f_loadI 3 1 := rfl
set_option maxRecDepth 8000 in
theorem e_X5_howFarApart_16 : tabF k_X5_howFarApart 16 = f_loadI 2 1 := rfl
set_option maxRecDepth 8000 in
theorem e_X5_howFarApart_17 : tabF k_X5_howFarApart 17 = f_callS 119 1 := rfl
set_option maxRecDepth 8000 in
theorem e_X5_howFarApart_20 : tabF k_X5_howFarApart 20 = f_mul := rfl
set_option maxRecDepth 8000 in
theorem e_X5_howFarApart_21 : tabF k_X5_howFarApart 21 = f_loadI 4 2 := rfl
set_option maxRecDepth 8000 in
theorem e_X5_howFarApart_23 : tabF k_X5_howFarApart 23 = f_loadI 1 1 := rfl
set_option maxRecDepth 8000 in
theorem e_X5_howFarApart_24 : tabF k_X5_howFarApart 24 = f_callS 119 1 := rfl
set_option maxRecDepth 8000 in
theorem e_X5_howFarApart_27 : tabF k_X5_howFarApart 27 = f_mul := rfl
set_option maxRecDepth 8000 in
theorem e_X5_howFarApart_28 : tabF k_X5_howFarApart 28 = f_sub := rfl
set_option maxRecDepth 8000 in
theorem e_X5_howFarApart_29 : tabF k_X5_howFarApart 29 = f_abs := rfl
set_option maxRecDepth 8000 in
theorem e_X5_howFarApart_32 : tabF k_X5_howFarApart 32 = f_iret := rfl
set_option maxRecDepth 8000 in
theorem e_X5_chanceAhead_0 : tabF k_X5_chanceAhead 0 = f_loadI 0 1 := rfl
set_option maxRecDepth 8000 in
theorem e_X5_chanceAhead_1 : tabF k_X5_chanceAhead 1 = f_loadI 0 1 := rfl
set_option maxRecDepth 8000 in
theorem e_X5_chanceAhead_2 : tabF k_X5_chanceAhead 2 = f_loadI 1 1 := rfl
set_option maxRecDepth 8000 in
theorem e_X5_chanceAhead_3 : tabF k_X5_chanceAhead 3 = f_add := rfl
set_option maxRecDepth 8000 in
theorem e_X5_chanceAhead_4 : tabF k_X5_chanceAhead 4 = f_callS 77 2 := rfl
set_option maxRecDepth 8000 in
theorem e_X5_chanceAhead_7 : tabF k_X5_chanceAhead 7 = f_storeL 2 1 := rfl
set_option maxRecDepth 8000 in
theorem e_X5_chanceAhead_8 : tabF k_X5_chanceAhead 8 = f_loadL 2 1 := rfl
set_option maxRecDepth 8000 in
theorem e_X5_chanceAhead_9 : tabF k_X5_chanceAhead 9 = f_pushL 1 1 := rfl
set_option maxRecDepth 8000 in
theorem e_X5_chanceAhead_10 : tabF k_X5_chanceAhead 10 = f_lcmp := rfl
set_option maxRecDepth 8000 in
theorem e_X5_chanceAhead_11 : tabF k_X5_chanceAhead 11 = f_if0 cGt cLe 18 := rfl
set_option maxRecDepth 8000 in
theorem e_X5_chanceAhead_14 : tabF k_X5_chanceAhead 14 = f_pushL 0 1 := rfl
set_option maxRecDepth 8000 in
theorem e_X5_chanceAhead_15 : tabF k_X5_chanceAhead 15 = f_goto 27 := rfl
set_option maxRecDepth 8000 in
theorem e_X5_chanceAhead_18 : tabF k_X5_chanceAhead 18 = f_pushL (1000000) 3 := rfl
set_option maxRecDepth 8000 in
theorem e_X5_chanceAhead_21 : tabF k_X5_chanceAhead 21 = f_pushL (1000000) 3 := rfl
set_option maxRecDepth 8000 in
theorem e_X5_chanceAhead_24 : tabF k_X5_chanceAhead 24 = f_loadL 2 1 := rfl
set_option maxRecDepth 8000 in
theorem e_X5_chanceAhead_25 : tabF k_X5_chanceAhead 25 = f_ldiv := rfl
set_option maxRecDepth 8000 in
theorem e_X5_chanceAhead_26 : tabF k_X5_chanceAhead 26 = f_lsub := rfl
set_option maxRecDepth 8000 in
theorem e_X5_chanceAhead_27 : tabF k_X5_chanceAhead 27 = f_lret := rfl
set_option maxRecDepth 8000 in
theorem e_X5_waysToChoose_0 : tabF k_X5_waysToChoose 0 = f_pushL 1 1 := rfl
set_option maxRecDepth 8000 in
theorem e_X5_waysToChoose_1 : tabF k_X5_waysToChoose 1 = f_storeL 2 1 := rfl
set_option maxRecDepth 8000 in
theorem e_X5_waysToChoose_2 : tabF k_X5_waysToChoose 2 = f_push 1 1 := rfl
set_option maxRecDepth 8000 in
theorem e_X5_waysToChoose_3 : tabF k_X5_waysToChoose 3 = f_storeI 4 2 := rfl
set_option maxRecDepth 8000 in
theorem e_X5_waysToChoose_5 : tabF k_X5_waysToChoose 5 = f_loadI 4 2 := rfl
set_option maxRecDepth 8000 in
theorem e_X5_waysToChoose_7 : tabF k_X5_waysToChoose 7 = f_loadI 0 1 := rfl
set_option maxRecDepth 8000 in
theorem e_X5_waysToChoose_8 : tabF k_X5_waysToChoose 8 = f_icmp cGt cLe 31 := rfl
set_option maxRecDepth 8000 in
theorem e_X5_waysToChoose_11 : tabF k_X5_waysToChoose 11 = f_loadL 2 1 := rfl
set_option maxRecDepth 8000 in
theorem e_X5_waysToChoose_12 : tabF k_X5_waysToChoose 12 = f_loadI 1 1 := rfl
set_option maxRecDepth 8000 in
theorem e_X5_waysToChoose_13 : tabF k_X5_waysToChoose 13 = f_loadI 0 1 := rfl
set_option maxRecDepth 8000 in
theorem e_X5_waysToChoose_14 : tabF k_X5_waysToChoose 14 = f_sub := rfl
set_option maxRecDepth 8000 in
theorem e_X5_waysToChoose_15 : tabF k_X5_waysToChoose 15 = f_loadI 4 2 := rfl
set_option maxRecDepth 8000 in
theorem e_X5_waysToChoose_17 : tabF k_X5_waysToChoose 17 = f_add := rfl
set_option maxRecDepth 8000 in
theorem e_X5_waysToChoose_18 : tabF k_X5_waysToChoose 18 = f_i2l := rfl
set_option maxRecDepth 8000 in
theorem e_X5_waysToChoose_19 : tabF k_X5_waysToChoose 19 = f_lmul := rfl
set_option maxRecDepth 8000 in
theorem e_X5_waysToChoose_20 : tabF k_X5_waysToChoose 20 = f_loadI 4 2 := rfl
set_option maxRecDepth 8000 in
theorem e_X5_waysToChoose_22 : tabF k_X5_waysToChoose 22 = f_i2l := rfl
set_option maxRecDepth 8000 in
theorem e_X5_waysToChoose_23 : tabF k_X5_waysToChoose 23 = f_ldiv := rfl
set_option maxRecDepth 8000 in
theorem e_X5_waysToChoose_24 : tabF k_X5_waysToChoose 24 = f_storeL 2 1 := rfl
set_option maxRecDepth 8000 in
theorem e_X5_waysToChoose_25 : tabF k_X5_waysToChoose 25 = f_iinc 4 1 := rfl
set_option maxRecDepth 8000 in
theorem e_X5_waysToChoose_28 : tabF k_X5_waysToChoose 28 = f_goto 5 := rfl
set_option maxRecDepth 8000 in
theorem e_X5_waysToChoose_31 : tabF k_X5_waysToChoose 31 = f_loadL 2 1 := rfl
set_option maxRecDepth 8000 in
theorem e_X5_waysToChoose_32 : tabF k_X5_waysToChoose 32 = f_lret := rfl
set_option maxRecDepth 8000 in
theorem e_X6_lies_0 : tabF k_X6_lies 0 = f_loadI 0 1 := rfl
set_option maxRecDepth 8000 in
theorem e_X6_lies_1 : tabF k_X6_lies 1 = f_loadI 1 1 := rfl
set_option maxRecDepth 8000 in
theorem e_X6_lies_2 : tabF k_X6_lies 2 = f_icmp cLt cGe 14 := rfl
set_option maxRecDepth 8000 in
theorem e_X6_lies_5 : tabF k_X6_lies 5 = f_loadI 0 1 := rfl
set_option maxRecDepth 8000 in
theorem e_X6_lies_6 : tabF k_X6_lies 6 = f_loadI 2 1 := rfl
set_option maxRecDepth 8000 in
theorem e_X6_lies_7 : tabF k_X6_lies 7 = f_icmp cGt cLe 14 := rfl
set_option maxRecDepth 8000 in
theorem e_X6_lies_10 : tabF k_X6_lies 10 = f_push 1 1 := rfl
set_option maxRecDepth 8000 in
theorem e_X6_lies_11 : tabF k_X6_lies 11 = f_goto 15 := rfl
set_option maxRecDepth 8000 in
theorem e_X6_lies_14 : tabF k_X6_lies 14 = f_push 0 1 := rfl
set_option maxRecDepth 8000 in
theorem e_X6_lies_15 : tabF k_X6_lies 15 = f_zret := rfl
set_option maxRecDepth 8000 in
theorem e_X6_isKind_0 : tabF k_X6_isKind 0 = f_loadI 0 1 := rfl
set_option maxRecDepth 8000 in
theorem e_X6_isKind_1 : tabF k_X6_isKind 1 = f_push 0 1 := rfl
set_option maxRecDepth 8000 in
theorem e_X6_isKind_2 : tabF k_X6_isKind 2 = f_push 15 2 := rfl
set_option maxRecDepth 8000 in
theorem e_X6_isKind_4 : tabF k_X6_isKind 4 = f_callS 78 3 := rfl
set_option maxRecDepth 8000 in
theorem e_X6_isKind_7 : tabF k_X6_isKind 7 = f_zret := rfl
set_option maxRecDepth 8000 in
theorem e_X6_isRow_0 : tabF k_X6_isRow 0 = f_loadI 1 1 := rfl
set_option maxRecDepth 8000 in
theorem e_X6_isRow_1 : tabF k_X6_isRow 1 = f_push 0 1 := rfl
set_option maxRecDepth 8000 in
theorem e_X6_isRow_2 : tabF k_X6_isRow 2 = f_loadR 0 1 := rfl
set_option maxRecDepth 8000 in
theorem e_X6_isRow_3 : tabF k_X6_isRow 3 = f_getI 5 0 := rfl
set_option maxRecDepth 8000 in
theorem e_X6_isRow_6 : tabF k_X6_isRow 6 = f_push 1 1 := rfl
set_option maxRecDepth 8000 in
theorem e_X6_isRow_7 : tabF k_X6_isRow 7 = f_sub := rfl
set_option maxRecDepth 8000 in
theorem e_X6_isRow_8 : tabF k_X6_isRow 8 = f_callS 78 3 := rfl
set_option maxRecDepth 8000 in
theorem e_X6_isRow_11 : tabF k_X6_isRow 11 = f_zret := rfl
set_option maxRecDepth 8000 in
theorem e_X6_isOf_0 : tabF k_X6_isOf 0 = f_loadI 1 1 := rfl
set_option maxRecDepth 8000 in
theorem e_X6_isOf_1 : tabF k_X6_isOf 1 = f_storeI 3 1 := rfl
set_option maxRecDepth 8000 in
theorem e_X6_isOf_2 : tabF k_X6_isOf 2 = f_loadI 3 1 := rfl
set_option maxRecDepth 8000 in
theorem e_X6_isOf_3 : tabF k_X6_isOf 3 = f_push (-1) 1 := rfl
set_option maxRecDepth 8000 in
theorem e_X6_isOf_4 : tabF k_X6_isOf 4 = f_icmp cEq cNe 22 := rfl
set_option maxRecDepth 8000 in
theorem e_X6_isOf_7 : tabF k_X6_isOf 7 = f_loadI 3 1 := rfl
set_option maxRecDepth 8000 in
theorem e_X6_isOf_8 : tabF k_X6_isOf 8 = f_loadI 2 1 := rfl
set_option maxRecDepth 8000 in
theorem e_X6_isOf_9 : tabF k_X6_isOf 9 = f_icmp cEq cNe 22 := rfl
set_option maxRecDepth 8000 in
theorem e_X6_isOf_12 : tabF k_X6_isOf 12 = f_loadR 0 1 := rfl
set_option maxRecDepth 8000 in
theorem e_X6_isOf_13 : tabF k_X6_isOf 13 = f_getR 5 4 (fun i => 87) := rfl
set_option maxRecDepth 8000 in
theorem e_X6_isOf_16 : tabF k_X6_isOf 16 = f_loadI 3 1 := rfl
set_option maxRecDepth 8000 in
theorem e_X6_isOf_17 : tabF k_X6_isOf 17 = f_iald := rfl
set_option maxRecDepth 8000 in
theorem e_X6_isOf_18 : tabF k_X6_isOf 18 = f_storeI 3 1 := rfl
set_option maxRecDepth 8000 in
theorem e_X6_isOf_19 : tabF k_X6_isOf 19 = f_goto 2 := rfl
set_option maxRecDepth 8000 in
theorem e_X6_isOf_22 : tabF k_X6_isOf 22 = f_loadI 3 1 := rfl
set_option maxRecDepth 8000 in
theorem e_X6_isOf_23 : tabF k_X6_isOf 23 = f_loadI 2 1 := rfl
set_option maxRecDepth 8000 in
theorem e_X6_isOf_24 : tabF k_X6_isOf 24 = f_icmp cNe cEq 31 := rfl
set_option maxRecDepth 8000 in
theorem e_X6_isOf_27 : tabF k_X6_isOf 27 = f_push 1 1 := rfl
set_option maxRecDepth 8000 in
theorem e_X6_isOf_28 : tabF k_X6_isOf 28 = f_goto 32 := rfl
set_option maxRecDepth 8000 in
theorem e_X6_isOf_31 : tabF k_X6_isOf 31 = f_push 0 1 := rfl
set_option maxRecDepth 8000 in
theorem e_X6_isOf_32 : tabF k_X6_isOf 32 = f_zret := rfl
set_option maxRecDepth 8000 in
theorem e_X6_under_0 : tabF k_X6_under 0 = f_loadI 1 1 := rfl
set_option maxRecDepth 8000 in
theorem e_X6_under_1 : tabF k_X6_under 1 = f_callS 79 1 := rfl
set_option maxRecDepth 8000 in
theorem e_X6_under_4 : tabF k_X6_under 4 = f_if0 cEq cNe 28 := rfl
set_option maxRecDepth 8000 in
theorem e_X6_under_7 : tabF k_X6_under 7 = f_loadI 2 1 := rfl
set_option maxRecDepth 8000 in
theorem e_X6_under_8 : tabF k_X6_under 8 = f_push (-1) 1 := rfl
set_option maxRecDepth 8000 in
theorem e_X6_under_9 : tabF k_X6_under 9 = f_icmp cEq cNe 30 := rfl
set_option maxRecDepth 8000 in
theorem e_X6_under_12 : tabF k_X6_under 12 = f_loadI 2 1 := rfl
set_option maxRecDepth 8000 in
theorem e_X6_under_13 : tabF k_X6_under 13 = f_callS 79 1 := rfl
set_option maxRecDepth 8000 in
theorem e_X6_under_16 : tabF k_X6_under 16 = f_if0 cEq cNe 28 := rfl
set_option maxRecDepth 8000 in
theorem e_X6_under_19 : tabF k_X6_under 19 = f_loadR 0 1 := rfl
set_option maxRecDepth 8000 in
theorem e_X6_under_20 : tabF k_X6_under 20 = f_loadI 2 1 := rfl
set_option maxRecDepth 8000 in
theorem e_X6_under_21 : tabF k_X6_under 21 = f_loadI 1 1 := rfl
set_option maxRecDepth 8000 in
theorem e_X6_under_22 : tabF k_X6_under 22 = f_callV 5 81 2 := rfl
set_option maxRecDepth 8000 in
theorem e_X6_under_25 : tabF k_X6_under 25 = f_if0 cEq cNe 30 := rfl
set_option maxRecDepth 8000 in
theorem e_X6_under_28 : tabF k_X6_under 28 = f_push 0 1 := rfl
set_option maxRecDepth 8000 in
theorem e_X6_under_29 : tabF k_X6_under 29 = f_zret := rfl
set_option maxRecDepth 8000 in
theorem e_X6_under_30 : tabF k_X6_under 30 = f_loadR 0 1 := rfl
set_option maxRecDepth 8000 in
theorem e_X6_under_31 : tabF k_X6_under 31 = f_getR 5 4 (fun i => 87) := rfl
set_option maxRecDepth 8000 in
theorem e_X6_under_34 : tabF k_X6_under 34 = f_loadI 1 1 := rfl
set_option maxRecDepth 8000 in
theorem e_X6_under_35 : tabF k_X6_under 35 = f_loadI 2 1 := rfl
set_option maxRecDepth 8000 in
theorem e_X6_under_36 : tabF k_X6_under 36 = f_iast := rfl
set_option maxRecDepth 8000 in
theorem e_X6_under_37 : tabF k_X6_under 37 = f_push 1 1 := rfl
set_option maxRecDepth 8000 in
theorem e_X6_under_38 : tabF k_X6_under 38 = f_zret := rfl
set_option maxRecDepth 8000 in
theorem e_X6_isUnder_0 : tabF k_X6_isUnder 0 = f_loadI 1 1 := rfl
set_option maxRecDepth 8000 in
theorem e_X6_isUnder_1 : tabF k_X6_isUnder 1 = f_callS 79 1 := rfl
set_option maxRecDepth 8000 in
theorem e_X6_isUnder_4 : tabF k_X6_isUnder 4 = f_if0 cEq cNe 14 := rfl
set_option maxRecDepth 8000 in
theorem e_X6_isUnder_7 : tabF k_X6_isUnder 7 = f_loadI 2 1 := rfl
set_option maxRecDepth 8000 in
theorem e_X6_isUnder_8 : tabF k_X6_isUnder 8 = f_callS 79 1 := rfl
set_option maxRecDepth 8000 in
theorem e_X6_isUnder_11 : tabF k_X6_isUnder 11 = f_if0 cNe cEq 18 := rfl
set_option maxRecDepth 8000 in
theorem e_X6_isUnder_14 : tabF k_X6_isUnder 14 = f_push (-1) 1 := rfl
set_option maxRecDepth 8000 in
theorem e_X6_isUnder_15 : tabF k_X6_isUnder 15 = f_goto 37 := rfl
set_option maxRecDepth 8000 in
theorem e_X6_isUnder_18 : tabF k_X6_isUnder 18 = f_loadI 1 1 := rfl
set_option maxRecDepth 8000 in
theorem e_X6_isUnder_19 : tabF k_X6_isUnder 19 = f_loadI 2 1 := rfl
set_option maxRecDepth 8000 in
theorem e_X6_isUnder_20 : tabF k_X6_isUnder 20 = f_icmp cEq cNe 36 := rfl
set_option maxRecDepth 8000 in
theorem e_X6_isUnder_23 : tabF k_X6_isUnder 23 = f_loadR 0 1 := rfl
set_option maxRecDepth 8000 in
theorem e_X6_isUnder_24 : tabF k_X6_isUnder 24 = f_loadI 1 1 := rfl
set_option maxRecDepth 8000 in
theorem e_X6_isUnder_25 : tabF k_X6_isUnder 25 = f_loadI 2 1 := rfl
set_option maxRecDepth 8000 in
theorem e_X6_isUnder_26 : tabF k_X6_isUnder 26 = f_callV 5 81 2 := rfl
set_option maxRecDepth 8000 in
theorem e_X6_isUnder_29 : tabF k_X6_isUnder 29 = f_if0 cEq cNe 36 := rfl
set_option maxRecDepth 8000 in
theorem e_X6_isUnder_32 : tabF k_X6_isUnder 32 = f_push 1 1 := rfl
set_option maxRecDepth 8000 in
theorem e_X6_isUnder_33 : tabF k_X6_isUnder 33 = f_goto 37 := rfl
set_option maxRecDepth 8000 in
theorem e_X6_isUnder_36 : tabF k_X6_isUnder 36 = f_push 0 1 := rfl
set_option maxRecDepth 8000 in
theorem e_X6_isUnder_37 : tabF k_X6_isUnder 37 = f_iret := rfl
set_option maxRecDepth 8000 in
theorem e_X6_row_0 : tabF k_X6_row 0 = f_loadI 1 1 := rfl
set_option maxRecDepth 8000 in
theorem e_X6_row_1 : tabF k_X6_row 1 = f_push 0 1 := rfl
set_option maxRecDepth 8000 in
theorem e_X6_row_2 : tabF k_X6_row 2 = f_push 1 1 := rfl
set_option maxRecDepth 8000 in
theorem e_X6_row_3 : tabF k_X6_row 3 = f_callS 78 3 := rfl
set_option maxRecDepth 8000 in
theorem e_X6_row_6 : tabF k_X6_row 6 = f_if0 cEq cNe 18 := rfl
set_option maxRecDepth 8000 in
theorem e_X6_row_9 : tabF k_X6_row 9 = f_loadR 0 1 := rfl
set_option maxRecDepth 8000 in
theorem e_X6_row_10 : tabF k_X6_row 10 = f_getI 5 0 := rfl
set_option maxRecDepth 8000 in
theorem e_X6_row_13 : tabF k_X6_row 13 = f_push 24 2 := rfl
set_option maxRecDepth 8000 in
theorem e_X6_row_15 : tabF k_X6_row 15 = f_icmp cNe cEq 20 := rfl
set_option maxRecDepth 8000 in
theorem e_X6_row_18 : tabF k_X6_row 18 = f_push (-1) 1 := rfl
set_option maxRecDepth 8000 in
theorem e_X6_row_19 : tabF k_X6_row 19 = f_iret := rfl
set_option maxRecDepth 8000 in
theorem e_X6_row_20 : tabF k_X6_row 20 = f_loadR 0 1 := rfl
set_option maxRecDepth 8000 in
theorem e_X6_row_21 : tabF k_X6_row 21 = f_getR 5 5 (fun i => 88) := rfl
set_option maxRecDepth 8000 in
theorem e_X6_row_24 : tabF k_X6_row 24 = f_loadR 0 1 := rfl
set_option maxRecDepth 8000 in
theorem e_X6_row_25 : tabF k_X6_row 25 = f_getI 5 0 := rfl
set_option maxRecDepth 8000 in
theorem e_X6_row_28 : tabF k_X6_row 28 = f_loadI 1 1 := rfl
set_option maxRecDepth 8000 in
theorem e_X6_row_29 : tabF k_X6_row 29 = f_iast := rfl
set_option maxRecDepth 8000 in
theorem e_X6_row_30 : tabF k_X6_row 30 = f_loadR 0 1 := rfl
set_option maxRecDepth 8000 in
theorem e_X6_row_31 : tabF k_X6_row 31 = f_dup := rfl
set_option maxRecDepth 8000 in
theorem e_X6_row_32 : tabF k_X6_row 32 = f_getI 5 0 := rfl
set_option maxRecDepth 8000 in
theorem e_X6_row_35 : tabF k_X6_row 35 = f_push 1 1 := rfl
set_option maxRecDepth 8000 in
theorem e_X6_row_36 : tabF k_X6_row 36 = f_add := rfl
set_option maxRecDepth 8000 in
theorem e_X6_row_37 : tabF k_X6_row 37 = f_putI 5 0 := rfl
set_option maxRecDepth 8000 in
theorem e_X6_row_40 : tabF k_X6_row 40 = f_loadR 0 1 := rfl
set_option maxRecDepth 8000 in
theorem e_X6_row_41 : tabF k_X6_row 41 = f_getI 5 0 := rfl
set_option maxRecDepth 8000 in
theorem e_X6_row_44 : tabF k_X6_row 44 = f_push 1 1 := rfl
set_option maxRecDepth 8000 in
theorem e_X6_row_45 : tabF k_X6_row 45 = f_sub := rfl
set_option maxRecDepth 8000 in
theorem e_X6_row_46 : tabF k_X6_row 46 = f_iret := rfl
set_option maxRecDepth 8000 in
theorem e_X6_put_0 : tabF k_X6_put 0 = f_loadR 0 1 := rfl
set_option maxRecDepth 8000 in
theorem e_X6_put_1 : tabF k_X6_put 1 = f_loadI 1 1 := rfl
set_option maxRecDepth 8000 in
theorem e_X6_put_2 : tabF k_X6_put 2 = f_callV 5 80 1 := rfl
set_option maxRecDepth 8000 in
theorem e_X6_put_5 : tabF k_X6_put 5 = f_if0 cEq cNe 37 := rfl
set_option maxRecDepth 8000 in
theorem e_X6_put_8 : tabF k_X6_put 8 = f_loadI 2 1 := rfl
set_option maxRecDepth 8000 in
theorem e_X6_put_9 : tabF k_X6_put 9 = f_push 0 1 := rfl
set_option maxRecDepth 8000 in
theorem e_X6_put_10 : tabF k_X6_put 10 = f_push 9999 3 := rfl
set_option maxRecDepth 8000 in
theorem e_X6_put_13 : tabF k_X6_put 13 = f_callS 78 3 := rfl
set_option maxRecDepth 8000 in
theorem e_X6_put_16 : tabF k_X6_put 16 = f_if0 cEq cNe 37 := rfl
set_option maxRecDepth 8000 in
theorem e_X6_put_19 : tabF k_X6_put 19 = f_loadI 3 1 := rfl
set_option maxRecDepth 8000 in
theorem e_X6_put_20 : tabF k_X6_put 20 = f_callS 79 1 := rfl
set_option maxRecDepth 8000 in
theorem e_X6_put_23 : tabF k_X6_put 23 = f_if0 cEq cNe 37 := rfl
set_option maxRecDepth 8000 in
theorem e_X6_put_26 : tabF k_X6_put 26 = f_loadR 0 1 := rfl
set_option maxRecDepth 8000 in
theorem e_X6_put_27 : tabF k_X6_put 27 = f_getR 5 7 (fun i => 90) := rfl
set_option maxRecDepth 8000 in
theorem e_X6_put_30 : tabF k_X6_put 30 = f_loadI 1 1 := rfl
set_option maxRecDepth 8000 in
theorem e_X6_put_31 : tabF k_X6_put 31 = f_iald := rfl
set_option maxRecDepth 8000 in
theorem e_X6_put_32 : tabF k_X6_put 32 = f_push 30 2 := rfl
set_option maxRecDepth 8000 in
theorem e_X6_put_34 : tabF k_X6_put 34 = f_icmp cNe cEq 39 := rfl
set_option maxRecDepth 8000 in
theorem e_X6_put_37 : tabF k_X6_put 37 = f_push (-1) 1 := rfl
set_option maxRecDepth 8000 in
theorem e_X6_put_38 : tabF k_X6_put 38 = f_iret := rfl
set_option maxRecDepth 8000 in
theorem e_X6_put_39 : tabF k_X6_put 39 = f_push 30 2 := rfl
set_option maxRecDepth 8000 in
theorem e_X6_put_41 : tabF k_X6_put 41 = f_loadI 1 1 := rfl
set_option maxRecDepth 8000 in
theorem e_X6_put_42 : tabF k_X6_put 42 = f_mul := rfl
set_option maxRecDepth 8000 in
theorem e_X6_put_43 : tabF k_X6_put 43 = f_loadR 0 1 := rfl
set_option maxRecDepth 8000 in
theorem e_X6_put_44 : tabF k_X6_put 44 = f_getR 5 7 (fun i => 90) := rfl
set_option maxRecDepth 8000 in
theorem e_X6_put_47 : tabF k_X6_put 47 = f_loadI 1 1 := rfl
set_option maxRecDepth 8000 in
theorem e_X6_put_48 : tabF k_X6_put 48 = f_iald := rfl
set_option maxRecDepth 8000 in
theorem e_X6_put_49 : tabF k_X6_put 49 = f_add := rfl
set_option maxRecDepth 8000 in
theorem e_X6_put_50 : tabF k_X6_put 50 = f_storeI 4 2 := rfl
set_option maxRecDepth 8000 in
theorem e_X6_put_52 : tabF k_X6_put 52 = f_loadR 0 1 := rfl
set_option maxRecDepth 8000 in
theorem e_X6_put_53 : tabF k_X6_put 53 = f_getR 5 7 (fun i => 90) := rfl
set_option maxRecDepth 8000 in
theorem e_X6_put_56 : tabF k_X6_put 56 = f_loadI 1 1 := rfl
set_option maxRecDepth 8000 in
theorem e_X6_put_57 : tabF k_X6_put 57 = f_iald := rfl
set_option maxRecDepth 8000 in
theorem e_X6_put_58 : tabF k_X6_put 58 = f_if0 cLe cGt 76 := rfl
set_option maxRecDepth 8000 in
theorem e_X6_put_61 : tabF k_X6_put 61 = f_loadI 2 1 := rfl
set_option maxRecDepth 8000 in
theorem e_X6_put_62 : tabF k_X6_put 62 = f_loadR 0 1 := rfl
set_option maxRecDepth 8000 in
theorem e_X6_put_63 : tabF k_X6_put 63 = f_getR 5 8 (fun i => 91) := rfl
set_option maxRecDepth 8000 in
theorem e_X6_put_66 : tabF k_X6_put 66 = f_loadI 4 2 := rfl
set_option maxRecDepth 8000 in
theorem e_X6_put_68 : tabF k_X6_put 68 = f_push 1 1 := rfl
set_option maxRecDepth 8000 in
theorem e_X6_put_69 : tabF k_X6_put 69 = f_sub := rfl
set_option maxRecDepth 8000 in
theorem e_X6_put_70 : tabF k_X6_put 70 = f_iald := rfl
set_option maxRecDepth 8000 in
theorem e_X6_put_71 : tabF k_X6_put 71 = f_icmp cGe cLt 76 := rfl
set_option maxRecDepth 8000 in
theorem e_X6_put_74 : tabF k_X6_put 74 = f_push (-1) 1 := rfl
set_option maxRecDepth 8000 in
theorem e_X6_put_75 : tabF k_X6_put 75 = f_iret := rfl
set_option maxRecDepth 8000 in
theorem e_X6_put_76 : tabF k_X6_put 76 = f_loadR 0 1 := rfl
set_option maxRecDepth 8000 in
theorem e_X6_put_77 : tabF k_X6_put 77 = f_getR 5 8 (fun i => 91) := rfl
set_option maxRecDepth 8000 in
theorem e_X6_put_80 : tabF k_X6_put 80 = f_loadI 4 2 := rfl
set_option maxRecDepth 8000 in
theorem e_X6_put_82 : tabF k_X6_put 82 = f_loadI 2 1 := rfl
set_option maxRecDepth 8000 in
theorem e_X6_put_83 : tabF k_X6_put 83 = f_iast := rfl
set_option maxRecDepth 8000 in
theorem e_X6_put_84 : tabF k_X6_put 84 = f_loadR 0 1 := rfl
set_option maxRecDepth 8000 in
theorem e_X6_put_85 : tabF k_X6_put 85 = f_getR 5 9 (fun i => 92) := rfl
set_option maxRecDepth 8000 in
theorem e_X6_put_88 : tabF k_X6_put 88 = f_loadI 4 2 := rfl
set_option maxRecDepth 8000 in
theorem e_X6_put_90 : tabF k_X6_put 90 = f_loadI 3 1 := rfl
set_option maxRecDepth 8000 in
theorem e_X6_put_91 : tabF k_X6_put 91 = f_iast := rfl
set_option maxRecDepth 8000 in
theorem e_X6_put_92 : tabF k_X6_put 92 = f_loadR 0 1 := rfl
set_option maxRecDepth 8000 in
theorem e_X6_put_93 : tabF k_X6_put 93 = f_getR 5 7 (fun i => 90) := rfl
set_option maxRecDepth 8000 in
theorem e_X6_put_96 : tabF k_X6_put 96 = f_loadI 1 1 := rfl
set_option maxRecDepth 8000 in
theorem e_X6_put_97 : tabF k_X6_put 97 = f_dup2 := rfl
set_option maxRecDepth 8000 in
theorem e_X6_put_98 : tabF k_X6_put 98 = f_iald := rfl
set_option maxRecDepth 8000 in
theorem e_X6_put_99 : tabF k_X6_put 99 = f_push 1 1 := rfl
set_option maxRecDepth 8000 in
theorem e_X6_put_100 : tabF k_X6_put 100 = f_add := rfl
set_option maxRecDepth 8000 in
theorem e_X6_put_101 : tabF k_X6_put 101 = f_iast := rfl
set_option maxRecDepth 8000 in
theorem e_X6_put_102 : tabF k_X6_put 102 = f_loadR 0 1 := rfl
set_option maxRecDepth 8000 in
theorem e_X6_put_103 : tabF k_X6_put 103 = f_dup := rfl
set_option maxRecDepth 8000 in
theorem e_X6_put_104 : tabF k_X6_put 104 = f_getI 5 1 := rfl
set_option maxRecDepth 8000 in
theorem e_X6_put_107 : tabF k_X6_put 107 = f_push 1 1 := rfl
set_option maxRecDepth 8000 in
theorem e_X6_put_108 : tabF k_X6_put 108 = f_add := rfl
set_option maxRecDepth 8000 in
theorem e_X6_put_109 : tabF k_X6_put 109 = f_putI 5 1 := rfl
set_option maxRecDepth 8000 in
theorem e_X6_put_112 : tabF k_X6_put 112 = f_loadR 0 1 := rfl
set_option maxRecDepth 8000 in
theorem e_X6_put_113 : tabF k_X6_put 113 = f_getR 5 7 (fun i => 90) := rfl
set_option maxRecDepth 8000 in
theorem e_X6_put_116 : tabF k_X6_put 116 = f_loadI 1 1 := rfl
set_option maxRecDepth 8000 in
theorem e_X6_put_117 : tabF k_X6_put 117 = f_iald := rfl
set_option maxRecDepth 8000 in
theorem e_X6_put_118 : tabF k_X6_put 118 = f_push 1 1 := rfl
set_option maxRecDepth 8000 in
theorem e_X6_put_119 : tabF k_X6_put 119 = f_sub := rfl
set_option maxRecDepth 8000 in
theorem e_X6_put_120 : tabF k_X6_put 120 = f_iret := rfl
set_option maxRecDepth 8000 in
theorem e_X6_take_0 : tabF k_X6_take 0 = f_loadR 0 1 := rfl
set_option maxRecDepth 8000 in
theorem e_X6_take_1 : tabF k_X6_take 1 = f_loadI 1 1 := rfl
set_option maxRecDepth 8000 in
theorem e_X6_take_2 : tabF k_X6_take 2 = f_callV 5 80 1 := rfl
set_option maxRecDepth 8000 in
theorem e_X6_take_5 : tabF k_X6_take 5 = f_if0 cEq cNe 18 := rfl
set_option maxRecDepth 8000 in
theorem e_X6_take_8 : tabF k_X6_take 8 = f_loadR 0 1 := rfl
set_option maxRecDepth 8000 in
theorem e_X6_take_9 : tabF k_X6_take 9 = f_getR 5 6 (fun i => 89) := rfl
set_option maxRecDepth 8000 in
theorem e_X6_take_12 : tabF k_X6_take 12 = f_loadI 1 1 := rfl
set_option maxRecDepth 8000 in
theorem e_X6_take_13 : tabF k_X6_take 13 = f_zald := rfl
set_option maxRecDepth 8000 in
theorem e_X6_take_14 : tabF k_X6_take 14 = f_loadI 2 1 := rfl
set_option maxRecDepth 8000 in
theorem e_X6_take_15 : tabF k_X6_take 15 = f_icmp cEq cNe 20 := rfl
set_option maxRecDepth 8000 in
theorem e_X6_take_18 : tabF k_X6_take 18 = f_push 0 1 := rfl
set_option maxRecDepth 8000 in
theorem e_X6_take_19 : tabF k_X6_take 19 = f_zret := rfl
set_option maxRecDepth 8000 in
theorem e_X6_take_20 : tabF k_X6_take 20 = f_loadR 0 1 := rfl
set_option maxRecDepth 8000 in
theorem e_X6_take_21 : tabF k_X6_take 21 = f_getR 5 6 (fun i => 89) := rfl
set_option maxRecDepth 8000 in
theorem e_X6_take_24 : tabF k_X6_take 24 = f_loadI 1 1 := rfl
set_option maxRecDepth 8000 in
theorem e_X6_take_25 : tabF k_X6_take 25 = f_loadI 2 1 := rfl
set_option maxRecDepth 8000 in
theorem e_X6_take_26 : tabF k_X6_take 26 = f_if0 cNe cEq 33 := rfl
set_option maxRecDepth 8000 in
theorem e_X6_take_29 : tabF k_X6_take 29 = f_push 1 1 := rfl
set_option maxRecDepth 8000 in
theorem e_X6_take_30 : tabF k_X6_take 30 = f_goto 34 := rfl
set_option maxRecDepth 8000 in
theorem e_X6_take_33 : tabF k_X6_take 33 = f_push 0 1 := rfl
set_option maxRecDepth 8000 in
theorem e_X6_take_34 : tabF k_X6_take 34 = f_zast := rfl
set_option maxRecDepth 8000 in
theorem e_X6_take_35 : tabF k_X6_take 35 = f_push 1 1 := rfl
set_option maxRecDepth 8000 in
theorem e_X6_take_36 : tabF k_X6_take 36 = f_zret := rfl
set_option maxRecDepth 8000 in
theorem e_X6_gap_0 : tabF k_X6_gap 0 = f_loadI 1 1 := rfl
set_option maxRecDepth 8000 in
theorem e_X6_gap_1 : tabF k_X6_gap 1 = f_push 0 1 := rfl
set_option maxRecDepth 8000 in
theorem e_X6_gap_2 : tabF k_X6_gap 2 = f_push 9999 3 := rfl
set_option maxRecDepth 8000 in
theorem e_X6_gap_5 : tabF k_X6_gap 5 = f_callS 78 3 := rfl
set_option maxRecDepth 8000 in
theorem e_X6_gap_8 : tabF k_X6_gap 8 = f_if0 cNe cEq 13 := rfl
set_option maxRecDepth 8000 in
theorem e_X6_gap_11 : tabF k_X6_gap 11 = f_push 0 1 := rfl
set_option maxRecDepth 8000 in
theorem e_X6_gap_12 : tabF k_X6_gap 12 = f_zret := rfl
set_option maxRecDepth 8000 in
theorem e_X6_gap_13 : tabF k_X6_gap 13 = f_loadR 0 1 := rfl
set_option maxRecDepth 8000 in
theorem e_X6_gap_14 : tabF k_X6_gap 14 = f_loadI 1 1 := rfl
set_option maxRecDepth 8000 in
theorem e_X6_gap_15 : tabF k_X6_gap 15 = f_putI 5 2 := rfl
set_option maxRecDepth 8000 in
theorem e_X6_gap_18 : tabF k_X6_gap 18 = f_push 1 1 := rfl
set_option maxRecDepth 8000 in
theorem e_X6_gap_19 : tabF k_X6_gap 19 = f_zret := rfl
set_option maxRecDepth 8000 in
theorem e_X6_span_0 : tabF k_X6_span 0 = f_loadI 1 1 := rfl
set_option maxRecDepth 8000 in
theorem e_X6_span_1 : tabF k_X6_span 1 = f_push 0 1 := rfl
set_option maxRecDepth 8000 in
theorem e_X6_span_2 : tabF k_X6_span 2 = f_push 9999 3 := rfl
set_option maxRecDepth 8000 in
theorem e_X6_span_5 : tabF k_X6_span 5 = f_callS 78 3 := rfl
set_option maxRecDepth 8000 in
theorem e_X6_span_8 : tabF k_X6_span 8 = f_if0 cNe cEq 13 := rfl
set_option maxRecDepth 8000 in
theorem e_X6_span_11 : tabF k_X6_span 11 = f_push 0 1 := rfl
set_option maxRecDepth 8000 in
theorem e_X6_span_12 : tabF k_X6_span 12 = f_zret := rfl
set_option maxRecDepth 8000 in
theorem e_X6_span_13 : tabF k_X6_span 13 = f_loadR 0 1 := rfl
set_option maxRecDepth 8000 in
theorem e_X6_span_14 : tabF k_X6_span 14 = f_loadI 1 1 := rfl
set_option maxRecDepth 8000 in
theorem e_X6_span_15 : tabF k_X6_span 15 = f_putI 5 3 := rfl
set_option maxRecDepth 8000 in
theorem e_X6_span_18 : tabF k_X6_span 18 = f_push 1 1 := rfl
set_option maxRecDepth 8000 in
theorem e_X6_span_19 : tabF k_X6_span 19 = f_zret := rfl
set_option maxRecDepth 8000 in
theorem e_X6_takes_0 : tabF k_X6_takes 0 = f_loadR 0 1 := rfl
set_option maxRecDepth 8000 in
theorem e_X6_takes_1 : tabF k_X6_takes 1 = f_getR 5 15 (fun i => 96) := rfl
set_option maxRecDepth 8000 in
theorem e_X6_takes_4 : tabF k_X6_takes 4 = f_push 0 1 := rfl
set_option maxRecDepth 8000 in
theorem e_X6_takes_5 : tabF k_X6_takes 5 = f_loadI 1 1 := rfl
set_option maxRecDepth 8000 in
theorem e_X6_takes_6 : tabF k_X6_takes 6 = f_iast := rfl
set_option maxRecDepth 8000 in
theorem e_X6_takes_7 : tabF k_X6_takes 7 = f_loadR 0 1 := rfl
set_option maxRecDepth 8000 in
theorem e_X6_takes_8 : tabF k_X6_takes 8 = f_getR 5 15 (fun i => 96) := rfl
set_option maxRecDepth 8000 in
theorem e_X6_takes_11 : tabF k_X6_takes 11 = f_push 1 1 := rfl
set_option maxRecDepth 8000 in
theorem e_X6_takes_12 : tabF k_X6_takes 12 = f_loadI 2 1 := rfl
set_option maxRecDepth 8000 in
theorem e_X6_takes_13 : tabF k_X6_takes 13 = f_iast := rfl
set_option maxRecDepth 8000 in
theorem e_X6_takes_14 : tabF k_X6_takes 14 = f_loadR 0 1 := rfl
set_option maxRecDepth 8000 in
theorem e_X6_takes_15 : tabF k_X6_takes 15 = f_getR 5 15 (fun i => 96) := rfl
set_option maxRecDepth 8000 in
theorem e_X6_takes_18 : tabF k_X6_takes 18 = f_push 2 1 := rfl
set_option maxRecDepth 8000 in
theorem e_X6_takes_19 : tabF k_X6_takes 19 = f_loadI 3 1 := rfl
set_option maxRecDepth 8000 in
theorem e_X6_takes_20 : tabF k_X6_takes 20 = f_iast := rfl
set_option maxRecDepth 8000 in
theorem e_X6_takes_21 : tabF k_X6_takes 21 = f_loadR 0 1 := rfl
set_option maxRecDepth 8000 in
theorem e_X6_takes_22 : tabF k_X6_takes 22 = f_getR 5 15 (fun i => 96) := rfl
set_option maxRecDepth 8000 in
theorem e_X6_takes_25 : tabF k_X6_takes 25 = f_push 3 1 := rfl
set_option maxRecDepth 8000 in
theorem e_X6_takes_26 : tabF k_X6_takes 26 = f_loadI 4 2 := rfl
set_option maxRecDepth 8000 in
theorem e_X6_takes_28 : tabF k_X6_takes 28 = f_iast := rfl
set_option maxRecDepth 8000 in
theorem e_X6_takes_29 : tabF k_X6_takes 29 = f_loadR 0 1 := rfl
set_option maxRecDepth 8000 in
theorem e_X6_takes_30 : tabF k_X6_takes 30 = f_push 0 1 := rfl
set_option maxRecDepth 8000 in
theorem e_X6_takes_31 : tabF k_X6_takes 31 = f_putI 5 14 := rfl
set_option maxRecDepth 8000 in
theorem e_X6_takes_34 : tabF k_X6_takes 34 = f_loadR 0 1 := rfl
set_option maxRecDepth 8000 in
theorem e_X6_takes_35 : tabF k_X6_takes 35 = f_getI 5 14 := rfl
set_option maxRecDepth 8000 in
theorem e_X6_takes_38 : tabF k_X6_takes 38 = f_push 4 1 := rfl
set_option maxRecDepth 8000 in
theorem e_X6_takes_39 : tabF k_X6_takes 39 = f_icmp cGe cLt 85 := rfl
set_option maxRecDepth 8000 in
theorem e_X6_takes_42 : tabF k_X6_takes 42 = f_loadR 0 1 := rfl
set_option maxRecDepth 8000 in
theorem e_X6_takes_43 : tabF k_X6_takes 43 = f_getR 5 15 (fun i => 96) := rfl
set_option maxRecDepth 8000 in
theorem e_X6_takes_46 : tabF k_X6_takes 46 = f_loadR 0 1 := rfl
set_option maxRecDepth 8000 in
theorem e_X6_takes_47 : tabF k_X6_takes 47 = f_getI 5 14 := rfl
set_option maxRecDepth 8000 in
theorem e_X6_takes_50 : tabF k_X6_takes 50 = f_iald := rfl
set_option maxRecDepth 8000 in
theorem e_X6_takes_51 : tabF k_X6_takes 51 = f_push (-1) 1 := rfl
set_option maxRecDepth 8000 in
theorem e_X6_takes_52 : tabF k_X6_takes 52 = f_icmp cEq cNe 85 := rfl
set_option maxRecDepth 8000 in
theorem e_X6_takes_55 : tabF k_X6_takes 55 = f_loadR 0 1 := rfl
set_option maxRecDepth 8000 in
theorem e_X6_takes_56 : tabF k_X6_takes 56 = f_getR 5 15 (fun i => 96) := rfl
set_option maxRecDepth 8000 in
theorem e_X6_takes_59 : tabF k_X6_takes 59 = f_loadR 0 1 := rfl
set_option maxRecDepth 8000 in
theorem e_X6_takes_60 : tabF k_X6_takes 60 = f_getI 5 14 := rfl
set_option maxRecDepth 8000 in
theorem e_X6_takes_63 : tabF k_X6_takes 63 = f_iald := rfl
set_option maxRecDepth 8000 in
theorem e_X6_takes_64 : tabF k_X6_takes 64 = f_callS 79 1 := rfl
set_option maxRecDepth 8000 in
theorem e_X6_takes_67 : tabF k_X6_takes 67 = f_if0 cNe cEq 72 := rfl
set_option maxRecDepth 8000 in
theorem e_X6_takes_70 : tabF k_X6_takes 70 = f_push 0 1 := rfl
set_option maxRecDepth 8000 in
theorem e_X6_takes_71 : tabF k_X6_takes 71 = f_zret := rfl
set_option maxRecDepth 8000 in
theorem e_X6_takes_72 : tabF k_X6_takes 72 = f_loadR 0 1 := rfl
set_option maxRecDepth 8000 in
theorem e_X6_takes_73 : tabF k_X6_takes 73 = f_dup := rfl
set_option maxRecDepth 8000 in
theorem e_X6_takes_74 : tabF k_X6_takes 74 = f_getI 5 14 := rfl
set_option maxRecDepth 8000 in
theorem e_X6_takes_77 : tabF k_X6_takes 77 = f_push 1 1 := rfl
set_option maxRecDepth 8000 in
theorem e_X6_takes_78 : tabF k_X6_takes 78 = f_add := rfl
set_option maxRecDepth 8000 in
theorem e_X6_takes_79 : tabF k_X6_takes 79 = f_putI 5 14 := rfl
set_option maxRecDepth 8000 in
theorem e_X6_takes_82 : tabF k_X6_takes 82 = f_goto 34 := rfl
set_option maxRecDepth 8000 in
theorem e_X6_takes_85 : tabF k_X6_takes 85 = f_loadR 0 1 := rfl
set_option maxRecDepth 8000 in
theorem e_X6_takes_86 : tabF k_X6_takes 86 = f_getI 5 14 := rfl
set_option maxRecDepth 8000 in
theorem e_X6_takes_89 : tabF k_X6_takes 89 = f_storeI 5 2 := rfl
set_option maxRecDepth 8000 in
theorem e_X6_takes_91 : tabF k_X6_takes 91 = f_loadI 5 2 := rfl
set_option maxRecDepth 8000 in
theorem e_X6_takes_93 : tabF k_X6_takes 93 = f_push 4 1 := rfl
set_option maxRecDepth 8000 in
theorem e_X6_takes_94 : tabF k_X6_takes 94 = f_icmp cGe cLt 116 := rfl
set_option maxRecDepth 8000 in
theorem e_X6_takes_97 : tabF k_X6_takes 97 = f_loadR 0 1 := rfl
set_option maxRecDepth 8000 in
theorem e_X6_takes_98 : tabF k_X6_takes 98 = f_getR 5 15 (fun i => 96) := rfl
set_option maxRecDepth 8000 in
theorem e_X6_takes_101 : tabF k_X6_takes 101 = f_loadI 5 2 := rfl
set_option maxRecDepth 8000 in
theorem e_X6_takes_103 : tabF k_X6_takes 103 = f_iald := rfl
set_option maxRecDepth 8000 in
theorem e_X6_takes_104 : tabF k_X6_takes 104 = f_push (-1) 1 := rfl
set_option maxRecDepth 8000 in
theorem e_X6_takes_105 : tabF k_X6_takes 105 = f_icmp cEq cNe 110 := rfl
set_option maxRecDepth 8000 in
theorem e_X6_takes_108 : tabF k_X6_takes 108 = f_push 0 1 := rfl
set_option maxRecDepth 8000 in
theorem e_X6_takes_109 : tabF k_X6_takes 109 = f_zret := rfl
set_option maxRecDepth 8000 in
theorem e_X6_takes_110 : tabF k_X6_takes 110 = f_iinc 5 1 := rfl
set_option maxRecDepth 8000 in
theorem e_X6_takes_113 : tabF k_X6_takes 113 = f_goto 91 := rfl
set_option maxRecDepth 8000 in
theorem e_X6_takes_116 : tabF k_X6_takes 116 = f_loadR 0 1 := rfl
set_option maxRecDepth 8000 in
theorem e_X6_takes_117 : tabF k_X6_takes 117 = f_getI 5 14 := rfl
set_option maxRecDepth 8000 in
theorem e_X6_takes_120 : tabF k_X6_takes 120 = f_if0 cLe cGt 127 := rfl
set_option maxRecDepth 8000 in
theorem e_X6_takes_123 : tabF k_X6_takes 123 = f_push 1 1 := rfl
set_option maxRecDepth 8000 in
theorem e_X6_takes_124 : tabF k_X6_takes 124 = f_goto 128 := rfl
set_option maxRecDepth 8000 in
theorem e_X6_takes_127 : tabF k_X6_takes 127 = f_push 0 1 := rfl
set_option maxRecDepth 8000 in
theorem e_X6_takes_128 : tabF k_X6_takes 128 = f_zret := rfl
set_option maxRecDepth 8000 in
theorem e_X6_isAt_0 : tabF k_X6_isAt 0 = f_loadR 0 1 := rfl
set_option maxRecDepth 8000 in
theorem e_X6_isAt_1 : tabF k_X6_isAt 1 = f_loadR 0 1 := rfl
set_option maxRecDepth 8000 in
theorem e_X6_isAt_2 : tabF k_X6_isAt 2 = f_getR 5 9 (fun i => 92) := rfl
set_option maxRecDepth 8000 in
theorem e_X6_isAt_5 : tabF k_X6_isAt 5 = f_push 30 2 := rfl
set_option maxRecDepth 8000 in
theorem e_X6_isAt_7 : tabF k_X6_isAt 7 = f_loadI 1 1 := rfl
set_option maxRecDepth 8000 in
theorem e_X6_isAt_8 : tabF k_X6_isAt 8 = f_mul := rfl
set_option maxRecDepth 8000 in
theorem e_X6_isAt_9 : tabF k_X6_isAt 9 = f_loadI 2 1 := rfl
set_option maxRecDepth 8000 in
theorem e_X6_isAt_10 : tabF k_X6_isAt 10 = f_add := rfl
set_option maxRecDepth 8000 in
theorem e_X6_isAt_11 : tabF k_X6_isAt 11 = f_iald := rfl
set_option maxRecDepth 8000 in
theorem e_X6_isAt_12 : tabF k_X6_isAt 12 = f_loadR 0 1 := rfl
set_option maxRecDepth 8000 in
theorem e_X6_isAt_13 : tabF k_X6_isAt 13 = f_getR 5 15 (fun i => 96) := rfl
set_option maxRecDepth 8000 in
theorem e_X6_isAt_16 : tabF k_X6_isAt 16 = f_loadI 3 1 := rfl
set_option maxRecDepth 8000 in
theorem e_X6_isAt_17 : tabF k_X6_isAt 17 = f_iald := rfl
set_option maxRecDepth 8000 in
theorem e_X6_isAt_18 : tabF k_X6_isAt 18 = f_callV 5 81 2 := rfl
set_option maxRecDepth 8000 in
theorem e_X6_isAt_21 : tabF k_X6_isAt 21 = f_zret := rfl
set_option maxRecDepth 8000 in
theorem e_X6_leads_0 : tabF k_X6_leads 0 = f_loadR 0 1 := rfl
set_option maxRecDepth 8000 in
theorem e_X6_leads_1 : tabF k_X6_leads 1 = f_getR 5 8 (fun i => 91) := rfl
set_option maxRecDepth 8000 in
theorem e_X6_leads_4 : tabF k_X6_leads 4 = f_push 30 2 := rfl
set_option maxRecDepth 8000 in
theorem e_X6_leads_6 : tabF k_X6_leads 6 = f_loadI 1 1 := rfl
set_option maxRecDepth 8000 in
theorem e_X6_leads_7 : tabF k_X6_leads 7 = f_mul := rfl
set_option maxRecDepth 8000 in
theorem e_X6_leads_8 : tabF k_X6_leads 8 = f_loadI 3 1 := rfl
set_option maxRecDepth 8000 in
theorem e_X6_leads_9 : tabF k_X6_leads 9 = f_add := rfl
set_option maxRecDepth 8000 in
theorem e_X6_leads_10 : tabF k_X6_leads 10 = f_iald := rfl
set_option maxRecDepth 8000 in
theorem e_X6_leads_11 : tabF k_X6_leads 11 = f_loadR 0 1 := rfl
set_option maxRecDepth 8000 in
theorem e_X6_leads_12 : tabF k_X6_leads 12 = f_getR 5 8 (fun i => 91) := rfl
set_option maxRecDepth 8000 in
theorem e_X6_leads_15 : tabF k_X6_leads 15 = f_push 30 2 := rfl
set_option maxRecDepth 8000 in
theorem e_X6_leads_17 : tabF k_X6_leads 17 = f_loadI 1 1 := rfl
set_option maxRecDepth 8000 in
theorem e_X6_leads_18 : tabF k_X6_leads 18 = f_mul := rfl
set_option maxRecDepth 8000 in
theorem e_X6_leads_19 : tabF k_X6_leads 19 = f_loadI 2 1 := rfl
set_option maxRecDepth 8000 in
theorem e_X6_leads_20 : tabF k_X6_leads 20 = f_add := rfl
set_option maxRecDepth 8000 in
theorem e_X6_leads_21 : tabF k_X6_leads 21 = f_iald := rfl
set_option maxRecDepth 8000 in
theorem e_X6_leads_22 : tabF k_X6_leads 22 = f_sub := rfl
set_option maxRecDepth 8000 in
theorem e_X6_leads_23 : tabF k_X6_leads 23 = f_loadR 0 1 := rfl
set_option maxRecDepth 8000 in
theorem e_X6_leads_24 : tabF k_X6_leads 24 = f_getI 5 2 := rfl
set_option maxRecDepth 8000 in
theorem e_X6_leads_27 : tabF k_X6_leads 27 = f_icmp cGt cLe 34 := rfl
set_option maxRecDepth 8000 in
theorem e_X6_leads_30 : tabF k_X6_leads 30 = f_push 1 1 := rfl
set_option maxRecDepth 8000 in
theorem e_X6_leads_31 : tabF k_X6_leads 31 = f_goto 35 := rfl
set_option maxRecDepth 8000 in
theorem e_X6_leads_34 : tabF k_X6_leads 34 = f_push 0 1 := rfl
set_option maxRecDepth 8000 in
theorem e_X6_leads_35 : tabF k_X6_leads 35 = f_zret := rfl
set_option maxRecDepth 8000 in
theorem e_X6_spans_0 : tabF k_X6_spans 0 = f_loadR 0 1 := rfl
set_option maxRecDepth 8000 in
theorem e_X6_spans_1 : tabF k_X6_spans 1 = f_getR 5 8 (fun i => 91) := rfl
set_option maxRecDepth 8000 in
theorem e_X6_spans_4 : tabF k_X6_spans 4 = f_push 30 2 := rfl
set_option maxRecDepth 8000 in
theorem e_X6_spans_6 : tabF k_X6_spans 6 = f_loadI 1 1 := rfl
set_option maxRecDepth 8000 in
theorem e_X6_spans_7 : tabF k_X6_spans 7 = f_mul := rfl
set_option maxRecDepth 8000 in
theorem e_X6_spans_8 : tabF k_X6_spans 8 = f_loadI 3 1 := rfl
set_option maxRecDepth 8000 in
theorem e_X6_spans_9 : tabF k_X6_spans 9 = f_add := rfl
set_option maxRecDepth 8000 in
theorem e_X6_spans_10 : tabF k_X6_spans 10 = f_iald := rfl
set_option maxRecDepth 8000 in
theorem e_X6_spans_11 : tabF k_X6_spans 11 = f_loadR 0 1 := rfl
set_option maxRecDepth 8000 in
theorem e_X6_spans_12 : tabF k_X6_spans 12 = f_getR 5 8 (fun i => 91) := rfl
set_option maxRecDepth 8000 in
theorem e_X6_spans_15 : tabF k_X6_spans 15 = f_push 30 2 := rfl
set_option maxRecDepth 8000 in
theorem e_X6_spans_17 : tabF k_X6_spans 17 = f_loadI 1 1 := rfl
set_option maxRecDepth 8000 in
theorem e_X6_spans_18 : tabF k_X6_spans 18 = f_mul := rfl
set_option maxRecDepth 8000 in
theorem e_X6_spans_19 : tabF k_X6_spans 19 = f_loadI 2 1 := rfl
set_option maxRecDepth 8000 in
theorem e_X6_spans_20 : tabF k_X6_spans 20 = f_add := rfl
set_option maxRecDepth 8000 in
theorem e_X6_spans_21 : tabF k_X6_spans 21 = f_iald := rfl
set_option maxRecDepth 8000 in
theorem e_X6_spans_22 : tabF k_X6_spans 22 = f_sub := rfl
set_option maxRecDepth 8000 in
theorem e_X6_spans_23 : tabF k_X6_spans 23 = f_loadR 0 1 := rfl
set_option maxRecDepth 8000 in
theorem e_X6_spans_24 : tabF k_X6_spans 24 = f_getI 5 3 := rfl
set_option maxRecDepth 8000 in
theorem e_X6_spans_27 : tabF k_X6_spans 27 = f_icmp cGt cLe 34 := rfl
set_option maxRecDepth 8000 in
theorem e_X6_spans_30 : tabF k_X6_spans 30 = f_push 1 1 := rfl
set_option maxRecDepth 8000 in
theorem e_X6_spans_31 : tabF k_X6_spans 31 = f_goto 35 := rfl
set_option maxRecDepth 8000 in
theorem e_X6_spans_34 : tabF k_X6_spans 34 = f_push 0 1 := rfl
set_option maxRecDepth 8000 in
theorem e_X6_spans_35 : tabF k_X6_spans 35 = f_zret := rfl
set_option maxRecDepth 8000 in
theorem e_X6_maps_0 : tabF k_X6_maps 0 = f_push 0 1 := rfl
set_option maxRecDepth 8000 in
theorem e_X6_maps_1 : tabF k_X6_maps 1 = f_storeI 2 1 := rfl
set_option maxRecDepth 8000 in
theorem e_X6_maps_2 : tabF k_X6_maps 2 = f_loadI 2 1 := rfl
set_option maxRecDepth 8000 in
theorem e_X6_maps_3 : tabF k_X6_maps 3 = f_push 16 2 := rfl
set_option maxRecDepth 8000 in
theorem e_X6_maps_5 : tabF k_X6_maps 5 = f_icmp cGe cLt 26 := rfl
set_option maxRecDepth 8000 in
theorem e_X6_maps_8 : tabF k_X6_maps 8 = f_loadR 0 1 := rfl
set_option maxRecDepth 8000 in
theorem e_X6_maps_9 : tabF k_X6_maps 9 = f_getR 5 16 (fun i => 97) := rfl
set_option maxRecDepth 8000 in
theorem e_X6_maps_12 : tabF k_X6_maps 12 = f_push 16 2 := rfl
set_option maxRecDepth 8000 in
theorem e_X6_maps_14 : tabF k_X6_maps 14 = f_loadI 1 1 := rfl
set_option maxRecDepth 8000 in
theorem e_X6_maps_15 : tabF k_X6_maps 15 = f_mul := rfl
set_option maxRecDepth 8000 in
theorem e_X6_maps_16 : tabF k_X6_maps 16 = f_loadI 2 1 := rfl
set_option maxRecDepth 8000 in
theorem e_X6_maps_17 : tabF k_X6_maps 17 = f_add := rfl
set_option maxRecDepth 8000 in
theorem e_X6_maps_18 : tabF k_X6_maps 18 = f_push 0 1 := rfl
set_option maxRecDepth 8000 in
theorem e_X6_maps_19 : tabF k_X6_maps 19 = f_iast := rfl
set_option maxRecDepth 8000 in
theorem e_X6_maps_20 : tabF k_X6_maps 20 = f_iinc 2 1 := rfl
set_option maxRecDepth 8000 in
theorem e_X6_maps_23 : tabF k_X6_maps 23 = f_goto 2 := rfl
set_option maxRecDepth 8000 in
theorem e_X6_maps_26 : tabF k_X6_maps 26 = f_push 0 1 := rfl
set_option maxRecDepth 8000 in
theorem e_X6_maps_27 : tabF k_X6_maps 27 = f_storeI 2 1 := rfl
set_option maxRecDepth 8000 in
theorem e_X6_maps_28 : tabF k_X6_maps 28 = f_loadI 2 1 := rfl
set_option maxRecDepth 8000 in
theorem e_X6_maps_29 : tabF k_X6_maps 29 = f_loadR 0 1 := rfl
set_option maxRecDepth 8000 in
theorem e_X6_maps_30 : tabF k_X6_maps 30 = f_getR 5 7 (fun i => 90) := rfl
set_option maxRecDepth 8000 in
theorem e_X6_maps_33 : tabF k_X6_maps 33 = f_loadI 1 1 := rfl
set_option maxRecDepth 8000 in
theorem e_X6_maps_34 : tabF k_X6_maps 34 = f_iald := rfl
set_option maxRecDepth 8000 in
theorem e_X6_maps_35 : tabF k_X6_maps 35 = f_icmp cGe cLt 192 := rfl
set_option maxRecDepth 8000 in
theorem e_X6_maps_38 : tabF k_X6_maps 38 = f_push 0 1 := rfl
set_option maxRecDepth 8000 in
theorem e_X6_maps_39 : tabF k_X6_maps 39 = f_storeI 3 1 := rfl
set_option maxRecDepth 8000 in
theorem e_X6_maps_40 : tabF k_X6_maps 40 = f_loadI 3 1 := rfl
set_option maxRecDepth 8000 in
theorem e_X6_maps_41 : tabF k_X6_maps 41 = f_push 16 2 := rfl
set_option maxRecDepth 8000 in
theorem e_X6_maps_43 : tabF k_X6_maps 43 = f_icmp cGe cLt 88 := rfl
set_option maxRecDepth 8000 in
theorem e_X6_maps_46 : tabF k_X6_maps 46 = f_loadR 0 1 := rfl
set_option maxRecDepth 8000 in
theorem e_X6_maps_47 : tabF k_X6_maps 47 = f_loadR 0 1 := rfl
set_option maxRecDepth 8000 in
theorem e_X6_maps_48 : tabF k_X6_maps 48 = f_getR 5 9 (fun i => 92) := rfl
set_option maxRecDepth 8000 in
theorem e_X6_maps_51 : tabF k_X6_maps 51 = f_push 30 2 := rfl
set_option maxRecDepth 8000 in
theorem e_X6_maps_53 : tabF k_X6_maps 53 = f_loadI 1 1 := rfl
set_option maxRecDepth 8000 in
theorem e_X6_maps_54 : tabF k_X6_maps 54 = f_mul := rfl
set_option maxRecDepth 8000 in
theorem e_X6_maps_55 : tabF k_X6_maps 55 = f_loadI 2 1 := rfl
set_option maxRecDepth 8000 in
theorem e_X6_maps_56 : tabF k_X6_maps 56 = f_add := rfl
set_option maxRecDepth 8000 in
theorem e_X6_maps_57 : tabF k_X6_maps 57 = f_iald := rfl
set_option maxRecDepth 8000 in
theorem e_X6_maps_58 : tabF k_X6_maps 58 = f_loadI 3 1 := rfl
set_option maxRecDepth 8000 in
theorem e_X6_maps_59 : tabF k_X6_maps 59 = f_callV 5 81 2 := rfl
set_option maxRecDepth 8000 in
theorem e_X6_maps_62 : tabF k_X6_maps 62 = f_if0 cEq cNe 82 := rfl
set_option maxRecDepth 8000 in
theorem e_X6_maps_65 : tabF k_X6_maps 65 = f_loadR 0 1 := rfl
set_option maxRecDepth 8000 in
theorem e_X6_maps_66 : tabF k_X6_maps 66 = f_getR 5 16 (fun i => 97) := rfl
set_option maxRecDepth 8000 in
theorem e_X6_maps_69 : tabF k_X6_maps 69 = f_push 16 2 := rfl
set_option maxRecDepth 8000 in
theorem e_X6_maps_71 : tabF k_X6_maps 71 = f_loadI 1 1 := rfl
set_option maxRecDepth 8000 in
theorem e_X6_maps_72 : tabF k_X6_maps 72 = f_mul := rfl
set_option maxRecDepth 8000 in
theorem e_X6_maps_73 : tabF k_X6_maps 73 = f_loadI 3 1 := rfl
set_option maxRecDepth 8000 in
theorem e_X6_maps_74 : tabF k_X6_maps 74 = f_add := rfl
set_option maxRecDepth 8000 in
theorem e_X6_maps_75 : tabF k_X6_maps 75 = f_dup2 := rfl
set_option maxRecDepth 8000 in
theorem e_X6_maps_76 : tabF k_X6_maps 76 = f_iald := rfl
set_option maxRecDepth 8000 in
theorem e_X6_maps_77 : tabF k_X6_maps 77 = f_push 1 1 := rfl
set_option maxRecDepth 8000 in
theorem e_X6_maps_78 : tabF k_X6_maps 78 = f_loadI 2 1 := rfl
set_option maxRecDepth 8000 in
theorem e_X6_maps_79 : tabF k_X6_maps 79 = f_shl := rfl
set_option maxRecDepth 8000 in
theorem e_X6_maps_80 : tabF k_X6_maps 80 = f_or := rfl
set_option maxRecDepth 8000 in
theorem e_X6_maps_81 : tabF k_X6_maps 81 = f_iast := rfl
set_option maxRecDepth 8000 in
theorem e_X6_maps_82 : tabF k_X6_maps 82 = f_iinc 3 1 := rfl
set_option maxRecDepth 8000 in
theorem e_X6_maps_85 : tabF k_X6_maps 85 = f_goto 40 := rfl
set_option maxRecDepth 8000 in
theorem e_X6_maps_88 : tabF k_X6_maps 88 = f_push 0 1 := rfl
set_option maxRecDepth 8000 in
theorem e_X6_maps_89 : tabF k_X6_maps 89 = f_storeI 3 1 := rfl
set_option maxRecDepth 8000 in
theorem e_X6_maps_90 : tabF k_X6_maps 90 = f_push 0 1 := rfl
set_option maxRecDepth 8000 in
theorem e_X6_maps_91 : tabF k_X6_maps 91 = f_storeI 4 2 := rfl
set_option maxRecDepth 8000 in
theorem e_X6_maps_93 : tabF k_X6_maps 93 = f_loadI 2 1 := rfl
set_option maxRecDepth 8000 in
theorem e_X6_maps_94 : tabF k_X6_maps 94 = f_push 1 1 := rfl
set_option maxRecDepth 8000 in
theorem e_X6_maps_95 : tabF k_X6_maps 95 = f_add := rfl
set_option maxRecDepth 8000 in
theorem e_X6_maps_96 : tabF k_X6_maps 96 = f_storeI 5 2 := rfl
set_option maxRecDepth 8000 in
theorem e_X6_maps_98 : tabF k_X6_maps 98 = f_loadI 5 2 := rfl
set_option maxRecDepth 8000 in
theorem e_X6_maps_100 : tabF k_X6_maps 100 = f_loadR 0 1 := rfl
set_option maxRecDepth 8000 in
theorem e_X6_maps_101 : tabF k_X6_maps 101 = f_getR 5 7 (fun i => 90) := rfl
set_option maxRecDepth 8000 in
theorem e_X6_maps_104 : tabF k_X6_maps 104 = f_loadI 1 1 := rfl
set_option maxRecDepth 8000 in
theorem e_X6_maps_105 : tabF k_X6_maps 105 = f_iald := rfl
set_option maxRecDepth 8000 in
theorem e_X6_maps_106 : tabF k_X6_maps 106 = f_icmp cGe cLt 161 := rfl
set_option maxRecDepth 8000 in
theorem e_X6_maps_109 : tabF k_X6_maps 109 = f_loadI 3 1 := rfl
set_option maxRecDepth 8000 in
theorem e_X6_maps_110 : tabF k_X6_maps 110 = f_loadR 0 1 := rfl
set_option maxRecDepth 8000 in
theorem e_X6_maps_111 : tabF k_X6_maps 111 = f_loadI 1 1 := rfl
set_option maxRecDepth 8000 in
theorem e_X6_maps_112 : tabF k_X6_maps 112 = f_loadI 2 1 := rfl
set_option maxRecDepth 8000 in
theorem e_X6_maps_113 : tabF k_X6_maps 113 = f_loadI 5 2 := rfl
set_option maxRecDepth 8000 in
theorem e_X6_maps_115 : tabF k_X6_maps 115 = f_callV 5 91 3 := rfl
set_option maxRecDepth 8000 in
theorem e_X6_maps_118 : tabF k_X6_maps 118 = f_if0 cEq cNe 128 := rfl
set_option maxRecDepth 8000 in
theorem e_X6_maps_121 : tabF k_X6_maps 121 = f_push 1 1 := rfl
set_option maxRecDepth 8000 in
theorem e_X6_maps_122 : tabF k_X6_maps 122 = f_loadI 5 2 := rfl
set_option maxRecDepth 8000 in
theorem e_X6_maps_124 : tabF k_X6_maps 124 = f_shl := rfl
set_option maxRecDepth 8000 in
theorem e_X6_maps_125 : tabF k_X6_maps 125 = f_goto 129 := rfl
set_option maxRecDepth 8000 in
theorem e_X6_maps_128 : tabF k_X6_maps 128 = f_push 0 1 := rfl
set_option maxRecDepth 8000 in
theorem e_X6_maps_129 : tabF k_X6_maps 129 = f_or := rfl
set_option maxRecDepth 8000 in
theorem e_X6_maps_130 : tabF k_X6_maps 130 = f_storeI 3 1 := rfl
set_option maxRecDepth 8000 in
theorem e_X6_maps_131 : tabF k_X6_maps 131 = f_loadI 4 2 := rfl
set_option maxRecDepth 8000 in
theorem e_X6_maps_133 : tabF k_X6_maps 133 = f_loadR 0 1 := rfl
set_option maxRecDepth 8000 in
theorem e_X6_maps_134 : tabF k_X6_maps 134 = f_loadI 1 1 := rfl
set_option maxRecDepth 8000 in
theorem e_X6_maps_135 : tabF k_X6_maps 135 = f_loadI 2 1 := rfl
set_option maxRecDepth 8000 in
theorem e_X6_maps_136 : tabF k_X6_maps 136 = f_loadI 5 2 := rfl
set_option maxRecDepth 8000 in
theorem e_X6_maps_138 : tabF k_X6_maps 138 = f_callV 5 92 3 := rfl
set_option maxRecDepth 8000 in
theorem e_X6_maps_141 : tabF k_X6_maps 141 = f_if0 cEq cNe 151 := rfl
set_option maxRecDepth 8000 in
theorem e_X6_maps_144 : tabF k_X6_maps 144 = f_push 1 1 := rfl
set_option maxRecDepth 8000 in
theorem e_X6_maps_145 : tabF k_X6_maps 145 = f_loadI 5 2 := rfl
set_option maxRecDepth 8000 in
theorem e_X6_maps_147 : tabF k_X6_maps 147 = f_shl := rfl
set_option maxRecDepth 8000 in
theorem e_X6_maps_148 : tabF k_X6_maps 148 = f_goto 152 := rfl
set_option maxRecDepth 8000 in
theorem e_X6_maps_151 : tabF k_X6_maps 151 = f_push 0 1 := rfl
set_option maxRecDepth 8000 in
theorem e_X6_maps_152 : tabF k_X6_maps 152 = f_or := rfl
set_option maxRecDepth 8000 in
theorem e_X6_maps_153 : tabF k_X6_maps 153 = f_storeI 4 2 := rfl
set_option maxRecDepth 8000 in
theorem e_X6_maps_155 : tabF k_X6_maps 155 = f_iinc 5 1 := rfl
set_option maxRecDepth 8000 in
theorem e_X6_maps_158 : tabF k_X6_maps 158 = f_goto 98 := rfl
set_option maxRecDepth 8000 in
theorem e_X6_maps_161 : tabF k_X6_maps 161 = f_loadR 0 1 := rfl
set_option maxRecDepth 8000 in
theorem e_X6_maps_162 : tabF k_X6_maps 162 = f_getR 5 17 (fun i => 98) := rfl
set_option maxRecDepth 8000 in
theorem e_X6_maps_165 : tabF k_X6_maps 165 = f_push 30 2 := rfl
set_option maxRecDepth 8000 in
theorem e_X6_maps_167 : tabF k_X6_maps 167 = f_loadI 1 1 := rfl
set_option maxRecDepth 8000 in
theorem e_X6_maps_168 : tabF k_X6_maps 168 = f_mul := rfl
set_option maxRecDepth 8000 in
theorem e_X6_maps_169 : tabF k_X6_maps 169 = f_loadI 2 1 := rfl
set_option maxRecDepth 8000 in
theorem e_X6_maps_170 : tabF k_X6_maps 170 = f_add := rfl
set_option maxRecDepth 8000 in
theorem e_X6_maps_171 : tabF k_X6_maps 171 = f_loadI 3 1 := rfl
set_option maxRecDepth 8000 in
theorem e_X6_maps_172 : tabF k_X6_maps 172 = f_iast := rfl
set_option maxRecDepth 8000 in
theorem e_X6_maps_173 : tabF k_X6_maps 173 = f_loadR 0 1 := rfl
set_option maxRecDepth 8000 in
theorem e_X6_maps_174 : tabF k_X6_maps 174 = f_getR 5 18 (fun i => 99) := rfl
set_option maxRecDepth 8000 in
theorem e_X6_maps_177 : tabF k_X6_maps 177 = f_push 30 2 := rfl
set_option maxRecDepth 8000 in
theorem e_X6_maps_179 : tabF k_X6_maps 179 = f_loadI 1 1 := rfl
set_option maxRecDepth 8000 in
theorem e_X6_maps_180 : tabF k_X6_maps 180 = f_mul := rfl
set_option maxRecDepth 8000 in
theorem e_X6_maps_181 : tabF k_X6_maps 181 = f_loadI 2 1 := rfl
set_option maxRecDepth 8000 in
theorem e_X6_maps_182 : tabF k_X6_maps 182 = f_add := rfl
set_option maxRecDepth 8000 in
theorem e_X6_maps_183 : tabF k_X6_maps 183 = f_loadI 4 2 := rfl
set_option maxRecDepth 8000 in
theorem e_X6_maps_185 : tabF k_X6_maps 185 = f_iast := rfl
set_option maxRecDepth 8000 in
theorem e_X6_maps_186 : tabF k_X6_maps 186 = f_iinc 2 1 := rfl
set_option maxRecDepth 8000 in
theorem e_X6_maps_189 : tabF k_X6_maps 189 = f_goto 28 := rfl
set_option maxRecDepth 8000 in
theorem e_X6_maps_192 : tabF k_X6_maps 192 = f_vret := rfl
set_option maxRecDepth 8000 in
theorem e_X6_mapsAll_0 : tabF k_X6_mapsAll 0 = f_push 0 1 := rfl
set_option maxRecDepth 8000 in
theorem e_X6_mapsAll_1 : tabF k_X6_mapsAll 1 = f_storeI 1 1 := rfl
set_option maxRecDepth 8000 in
theorem e_X6_mapsAll_2 : tabF k_X6_mapsAll 2 = f_loadI 1 1 := rfl
set_option maxRecDepth 8000 in
theorem e_X6_mapsAll_3 : tabF k_X6_mapsAll 3 = f_loadR 0 1 := rfl
set_option maxRecDepth 8000 in
theorem e_X6_mapsAll_4 : tabF k_X6_mapsAll 4 = f_getI 5 0 := rfl
set_option maxRecDepth 8000 in
theorem e_X6_mapsAll_7 : tabF k_X6_mapsAll 7 = f_icmp cGe cLt 30 := rfl
set_option maxRecDepth 8000 in
theorem e_X6_mapsAll_10 : tabF k_X6_mapsAll 10 = f_loadR 0 1 := rfl
set_option maxRecDepth 8000 in
theorem e_X6_mapsAll_11 : tabF k_X6_mapsAll 11 = f_getR 5 6 (fun i => 89) := rfl
set_option maxRecDepth 8000 in
theorem e_X6_mapsAll_14 : tabF k_X6_mapsAll 14 = f_loadI 1 1 := rfl
set_option maxRecDepth 8000 in
theorem e_X6_mapsAll_15 : tabF k_X6_mapsAll 15 = f_zald := rfl
set_option maxRecDepth 8000 in
theorem e_X6_mapsAll_16 : tabF k_X6_mapsAll 16 = f_if0 cNe cEq 24 := rfl
set_option maxRecDepth 8000 in
theorem e_X6_mapsAll_19 : tabF k_X6_mapsAll 19 = f_loadR 0 1 := rfl
set_option maxRecDepth 8000 in
theorem e_X6_mapsAll_20 : tabF k_X6_mapsAll 20 = f_loadI 1 1 := rfl
set_option maxRecDepth 8000 in
theorem e_X6_mapsAll_21 : tabF k_X6_mapsAll 21 = f_callV 5 93 1 := rfl
set_option maxRecDepth 8000 in
theorem e_X6_mapsAll_24 : tabF k_X6_mapsAll 24 = f_iinc 1 1 := rfl
set_option maxRecDepth 8000 in
theorem e_X6_mapsAll_27 : tabF k_X6_mapsAll 27 = f_goto 2 := rfl
set_option maxRecDepth 8000 in
theorem e_X6_mapsAll_30 : tabF k_X6_mapsAll 30 = f_vret := rfl
set_option maxRecDepth 8000 in
theorem e_X6_ends_0 : tabF k_X6_ends 0 = f_push 1 1 := rfl
set_option maxRecDepth 8000 in
theorem e_X6_ends_1 : tabF k_X6_ends 1 = f_loadI 2 1 := rfl
set_option maxRecDepth 8000 in
theorem e_X6_ends_2 : tabF k_X6_ends 2 = f_shl := rfl
set_option maxRecDepth 8000 in
theorem e_X6_ends_3 : tabF k_X6_ends 3 = f_loadR 0 1 := rfl
set_option maxRecDepth 8000 in
theorem e_X6_ends_4 : tabF k_X6_ends 4 = f_getR 5 16 (fun i => 97) := rfl
set_option maxRecDepth 8000 in
theorem e_X6_ends_7 : tabF k_X6_ends 7 = f_push 16 2 := rfl
set_option maxRecDepth 8000 in
theorem e_X6_ends_9 : tabF k_X6_ends 9 = f_loadI 1 1 := rfl
set_option maxRecDepth 8000 in
theorem e_X6_ends_10 : tabF k_X6_ends 10 = f_mul := rfl
set_option maxRecDepth 8000 in
theorem e_X6_ends_11 : tabF k_X6_ends 11 = f_loadR 0 1 := rfl
set_option maxRecDepth 8000 in
theorem e_X6_ends_12 : tabF k_X6_ends 12 = f_getR 5 15 (fun i => 96) := rfl
set_option maxRecDepth 8000 in
theorem e_X6_ends_15 : tabF k_X6_ends 15 = f_push 0 1 := rfl
set_option maxRecDepth 8000 in
theorem e_X6_ends_16 : tabF k_X6_ends 16 = f_iald := rfl
set_option maxRecDepth 8000 in
theorem e_X6_ends_17 : tabF k_X6_ends 17 = f_add := rfl
set_option maxRecDepth 8000 in
theorem e_X6_ends_18 : tabF k_X6_ends 18 = f_iald := rfl
set_option maxRecDepth 8000 in
theorem e_X6_ends_19 : tabF k_X6_ends 19 = f_and := rfl
set_option maxRecDepth 8000 in
theorem e_X6_ends_20 : tabF k_X6_ends 20 = f_storeI 4 2 := rfl
set_option maxRecDepth 8000 in
theorem e_X6_ends_22 : tabF k_X6_ends 22 = f_push 1 1 := rfl
set_option maxRecDepth 8000 in
theorem e_X6_ends_23 : tabF k_X6_ends 23 = f_storeI 5 2 := rfl
set_option maxRecDepth 8000 in
theorem e_X6_ends_25 : tabF k_X6_ends 25 = f_loadI 5 2 := rfl
set_option maxRecDepth 8000 in
theorem e_X6_ends_27 : tabF k_X6_ends 27 = f_loadI 3 1 := rfl
set_option maxRecDepth 8000 in
theorem e_X6_ends_28 : tabF k_X6_ends 28 = f_icmp cGe cLt 127 := rfl
set_option maxRecDepth 8000 in
theorem e_X6_ends_31 : tabF k_X6_ends 31 = f_loadI 4 2 := rfl
set_option maxRecDepth 8000 in
theorem e_X6_ends_33 : tabF k_X6_ends 33 = f_if0 cEq cNe 127 := rfl
set_option maxRecDepth 8000 in
theorem e_X6_ends_36 : tabF k_X6_ends 36 = f_push 0 1 := rfl
set_option maxRecDepth 8000 in
theorem e_X6_ends_37 : tabF k_X6_ends 37 = f_storeI 6 2 := rfl
set_option maxRecDepth 8000 in
theorem e_X6_ends_39 : tabF k_X6_ends 39 = f_push 0 1 := rfl
set_option maxRecDepth 8000 in
theorem e_X6_ends_40 : tabF k_X6_ends 40 = f_storeI 7 2 := rfl
set_option maxRecDepth 8000 in
theorem e_X6_ends_42 : tabF k_X6_ends 42 = f_loadI 7 2 := rfl
set_option maxRecDepth 8000 in
theorem e_X6_ends_44 : tabF k_X6_ends 44 = f_loadR 0 1 := rfl
set_option maxRecDepth 8000 in
theorem e_X6_ends_45 : tabF k_X6_ends 45 = f_getR 5 7 (fun i => 90) := rfl
set_option maxRecDepth 8000 in
theorem e_X6_ends_48 : tabF k_X6_ends 48 = f_loadI 1 1 := rfl
set_option maxRecDepth 8000 in
theorem e_X6_ends_49 : tabF k_X6_ends 49 = f_iald := rfl
set_option maxRecDepth 8000 in
theorem e_X6_ends_50 : tabF k_X6_ends 50 = f_icmp cGe cLt 87 := rfl
set_option maxRecDepth 8000 in
theorem e_X6_ends_53 : tabF k_X6_ends 53 = f_loadI 4 2 := rfl
set_option maxRecDepth 8000 in
theorem e_X6_ends_55 : tabF k_X6_ends 55 = f_loadI 7 2 := rfl
set_option maxRecDepth 8000 in
theorem e_X6_ends_57 : tabF k_X6_ends 57 = f_shr := rfl
set_option maxRecDepth 8000 in
theorem e_X6_ends_58 : tabF k_X6_ends 58 = f_push 1 1 := rfl
set_option maxRecDepth 8000 in
theorem e_X6_ends_59 : tabF k_X6_ends 59 = f_and := rfl
set_option maxRecDepth 8000 in
theorem e_X6_ends_60 : tabF k_X6_ends 60 = f_push 1 1 := rfl
set_option maxRecDepth 8000 in
theorem e_X6_ends_61 : tabF k_X6_ends 61 = f_icmp cNe cEq 81 := rfl
set_option maxRecDepth 8000 in
theorem e_X6_ends_64 : tabF k_X6_ends 64 = f_loadI 6 2 := rfl
set_option maxRecDepth 8000 in
theorem e_X6_ends_66 : tabF k_X6_ends 66 = f_loadR 0 1 := rfl
set_option maxRecDepth 8000 in
theorem e_X6_ends_67 : tabF k_X6_ends 67 = f_getR 5 17 (fun i => 98) := rfl
set_option maxRecDepth 8000 in
theorem e_X6_ends_70 : tabF k_X6_ends 70 = f_push 30 2 := rfl
set_option maxRecDepth 8000 in
theorem e_X6_ends_72 : tabF k_X6_ends 72 = f_loadI 1 1 := rfl
set_option maxRecDepth 8000 in
theorem e_X6_ends_73 : tabF k_X6_ends 73 = f_mul := rfl
set_option maxRecDepth 8000 in
theorem e_X6_ends_74 : tabF k_X6_ends 74 = f_loadI 7 2 := rfl
set_option maxRecDepth 8000 in
theorem e_X6_ends_76 : tabF k_X6_ends 76 = f_add := rfl
set_option maxRecDepth 8000 in
theorem e_X6_ends_77 : tabF k_X6_ends 77 = f_iald := rfl
set_option maxRecDepth 8000 in
theorem e_X6_ends_78 : tabF k_X6_ends 78 = f_or := rfl
set_option maxRecDepth 8000 in
theorem e_X6_ends_79 : tabF k_X6_ends 79 = f_storeI 6 2 := rfl
set_option maxRecDepth 8000 in
theorem e_X6_ends_81 : tabF k_X6_ends 81 = f_iinc 7 1 := rfl
set_option maxRecDepth 8000 in
theorem e_X6_ends_84 : tabF k_X6_ends 84 = f_goto 42 := rfl
set_option maxRecDepth 8000 in
theorem e_X6_ends_87 : tabF k_X6_ends 87 = f_loadI 6 2 := rfl
set_option maxRecDepth 8000 in
theorem e_X6_ends_89 : tabF k_X6_ends 89 = f_loadR 0 1 := rfl
set_option maxRecDepth 8000 in
theorem e_X6_ends_90 : tabF k_X6_ends 90 = f_getR 5 18 (fun i => 99) := rfl
set_option maxRecDepth 8000 in
theorem e_X6_ends_93 : tabF k_X6_ends 93 = f_push 30 2 := rfl
set_option maxRecDepth 8000 in
theorem e_X6_ends_95 : tabF k_X6_ends 95 = f_loadI 1 1 := rfl
set_option maxRecDepth 8000 in
theorem e_X6_ends_96 : tabF k_X6_ends 96 = f_mul := rfl
set_option maxRecDepth 8000 in
theorem e_X6_ends_97 : tabF k_X6_ends 97 = f_loadI 2 1 := rfl
set_option maxRecDepth 8000 in
theorem e_X6_ends_98 : tabF k_X6_ends 98 = f_add := rfl
set_option maxRecDepth 8000 in
theorem e_X6_ends_99 : tabF k_X6_ends 99 = f_iald := rfl
set_option maxRecDepth 8000 in
theorem e_X6_ends_100 : tabF k_X6_ends 100 = f_and := rfl
set_option maxRecDepth 8000 in
theorem e_X6_ends_101 : tabF k_X6_ends 101 = f_loadR 0 1 := rfl
set_option maxRecDepth 8000 in
theorem e_X6_ends_102 : tabF k_X6_ends 102 = f_getR 5 16 (fun i => 97) := rfl
set_option maxRecDepth 8000 in
theorem e_X6_ends_105 : tabF k_X6_ends 105 = f_push 16 2 := rfl
set_option maxRecDepth 8000 in
theorem e_X6_ends_107 : tabF k_X6_ends 107 = f_loadI 1 1 := rfl
set_option maxRecDepth 8000 in
theorem e_X6_ends_108 : tabF k_X6_ends 108 = f_mul := rfl
set_option maxRecDepth 8000 in
theorem e_X6_ends_109 : tabF k_X6_ends 109 = f_loadR 0 1 := rfl
set_option maxRecDepth 8000 in
theorem e_X6_ends_110 : tabF k_X6_ends 110 = f_getR 5 15 (fun i => 96) := rfl
set_option maxRecDepth 8000 in
theorem e_X6_ends_113 : tabF k_X6_ends 113 = f_loadI 5 2 := rfl
set_option maxRecDepth 8000 in
theorem e_X6_ends_115 : tabF k_X6_ends 115 = f_iald := rfl
set_option maxRecDepth 8000 in
theorem e_X6_ends_116 : tabF k_X6_ends 116 = f_add := rfl
set_option maxRecDepth 8000 in
theorem e_X6_ends_117 : tabF k_X6_ends 117 = f_iald := rfl
set_option maxRecDepth 8000 in
theorem e_X6_ends_118 : tabF k_X6_ends 118 = f_and := rfl
set_option maxRecDepth 8000 in
theorem e_X6_ends_119 : tabF k_X6_ends 119 = f_storeI 4 2 := rfl
set_option maxRecDepth 8000 in
theorem e_X6_ends_121 : tabF k_X6_ends 121 = f_iinc 5 1 := rfl
set_option maxRecDepth 8000 in
theorem e_X6_ends_124 : tabF k_X6_ends 124 = f_goto 25 := rfl
set_option maxRecDepth 8000 in
theorem e_X6_ends_127 : tabF k_X6_ends 127 = f_loadI 4 2 := rfl
set_option maxRecDepth 8000 in
theorem e_X6_ends_129 : tabF k_X6_ends 129 = f_iret := rfl
set_option maxRecDepth 8000 in
theorem e_X6_has_0 : tabF k_X6_has 0 = f_push 0 1 := rfl
set_option maxRecDepth 8000 in
theorem e_X6_has_1 : tabF k_X6_has 1 = f_storeI 3 1 := rfl
set_option maxRecDepth 8000 in
theorem e_X6_has_2 : tabF k_X6_has 2 = f_loadI 3 1 := rfl
set_option maxRecDepth 8000 in
theorem e_X6_has_3 : tabF k_X6_has 3 = f_loadR 0 1 := rfl
set_option maxRecDepth 8000 in
theorem e_X6_has_4 : tabF k_X6_has 4 = f_getR 5 7 (fun i => 90) := rfl
set_option maxRecDepth 8000 in
theorem e_X6_has_7 : tabF k_X6_has 7 = f_loadI 1 1 := rfl
set_option maxRecDepth 8000 in
theorem e_X6_has_8 : tabF k_X6_has 8 = f_iald := rfl
set_option maxRecDepth 8000 in
theorem e_X6_has_9 : tabF k_X6_has 9 = f_icmp cGe cLt 30 := rfl
set_option maxRecDepth 8000 in
theorem e_X6_has_12 : tabF k_X6_has 12 = f_loadR 0 1 := rfl
set_option maxRecDepth 8000 in
theorem e_X6_has_13 : tabF k_X6_has 13 = f_loadI 1 1 := rfl
set_option maxRecDepth 8000 in
theorem e_X6_has_14 : tabF k_X6_has 14 = f_loadI 3 1 := rfl
set_option maxRecDepth 8000 in
theorem e_X6_has_15 : tabF k_X6_has 15 = f_loadI 2 1 := rfl
set_option maxRecDepth 8000 in
theorem e_X6_has_16 : tabF k_X6_has 16 = f_callV 5 95 3 := rfl
set_option maxRecDepth 8000 in
theorem e_X6_has_19 : tabF k_X6_has 19 = f_if0 cEq cNe 24 := rfl
set_option maxRecDepth 8000 in
theorem e_X6_has_22 : tabF k_X6_has 22 = f_push 1 1 := rfl
set_option maxRecDepth 8000 in
theorem e_X6_has_23 : tabF k_X6_has 23 = f_zret := rfl
set_option maxRecDepth 8000 in
theorem e_X6_has_24 : tabF k_X6_has 24 = f_iinc 3 1 := rfl
set_option maxRecDepth 8000 in
theorem e_X6_has_27 : tabF k_X6_has 27 = f_goto 2 := rfl
set_option maxRecDepth 8000 in
theorem e_X6_has_30 : tabF k_X6_has 30 = f_push 0 1 := rfl
set_option maxRecDepth 8000 in
theorem e_X6_has_31 : tabF k_X6_has 31 = f_zret := rfl
set_option maxRecDepth 8000 in
theorem e_X6_countOf_0 : tabF k_X6_countOf 0 = f_push 0 1 := rfl
set_option maxRecDepth 8000 in
theorem e_X6_countOf_1 : tabF k_X6_countOf 1 = f_storeI 2 1 := rfl
set_option maxRecDepth 8000 in
theorem e_X6_countOf_2 : tabF k_X6_countOf 2 = f_push 0 1 := rfl
set_option maxRecDepth 8000 in
theorem e_X6_countOf_3 : tabF k_X6_countOf 3 = f_storeI 3 1 := rfl
set_option maxRecDepth 8000 in
theorem e_X6_countOf_4 : tabF k_X6_countOf 4 = f_loadI 3 1 := rfl
set_option maxRecDepth 8000 in
theorem e_X6_countOf_5 : tabF k_X6_countOf 5 = f_loadR 0 1 := rfl
set_option maxRecDepth 8000 in
theorem e_X6_countOf_6 : tabF k_X6_countOf 6 = f_getI 5 0 := rfl
set_option maxRecDepth 8000 in
theorem e_X6_countOf_9 : tabF k_X6_countOf 9 = f_icmp cGe cLt 44 := rfl
set_option maxRecDepth 8000 in
theorem e_X6_countOf_12 : tabF k_X6_countOf 12 = f_loadI 2 1 := rfl
set_option maxRecDepth 8000 in
theorem e_X6_countOf_13 : tabF k_X6_countOf 13 = f_loadR 0 1 := rfl
set_option maxRecDepth 8000 in
theorem e_X6_countOf_14 : tabF k_X6_countOf 14 = f_getR 5 6 (fun i => 89) := rfl
set_option maxRecDepth 8000 in
theorem e_X6_countOf_17 : tabF k_X6_countOf 17 = f_loadI 3 1 := rfl
set_option maxRecDepth 8000 in
theorem e_X6_countOf_18 : tabF k_X6_countOf 18 = f_zald := rfl
set_option maxRecDepth 8000 in
theorem e_X6_countOf_19 : tabF k_X6_countOf 19 = f_if0 cNe cEq 35 := rfl
set_option maxRecDepth 8000 in
theorem e_X6_countOf_22 : tabF k_X6_countOf 22 = f_loadR 0 1 := rfl
set_option maxRecDepth 8000 in
theorem e_X6_countOf_23 : tabF k_X6_countOf 23 = f_loadI 3 1 := rfl
set_option maxRecDepth 8000 in
theorem e_X6_countOf_24 : tabF k_X6_countOf 24 = f_loadI 1 1 := rfl
set_option maxRecDepth 8000 in
theorem e_X6_countOf_25 : tabF k_X6_countOf 25 = f_callV 5 96 2 := rfl
set_option maxRecDepth 8000 in
theorem e_X6_countOf_28 : tabF k_X6_countOf 28 = f_if0 cEq cNe 35 := rfl
set_option maxRecDepth 8000 in
theorem e_X6_countOf_31 : tabF k_X6_countOf 31 = f_push 1 1 := rfl
set_option maxRecDepth 8000 in
theorem e_X6_countOf_32 : tabF k_X6_countOf 32 = f_goto 36 := rfl
set_option maxRecDepth 8000 in
theorem e_X6_countOf_35 : tabF k_X6_countOf 35 = f_push 0 1 := rfl
set_option maxRecDepth 8000 in
theorem e_X6_countOf_36 : tabF k_X6_countOf 36 = f_add := rfl
set_option maxRecDepth 8000 in
theorem e_X6_countOf_37 : tabF k_X6_countOf 37 = f_storeI 2 1 := rfl
set_option maxRecDepth 8000 in
theorem e_X6_countOf_38 : tabF k_X6_countOf 38 = f_iinc 3 1 := rfl
set_option maxRecDepth 8000 in
theorem e_X6_countOf_41 : tabF k_X6_countOf 41 = f_goto 4 := rfl
set_option maxRecDepth 8000 in
theorem e_X6_countOf_44 : tabF k_X6_countOf 44 = f_loadI 2 1 := rfl
set_option maxRecDepth 8000 in
theorem e_X6_countOf_45 : tabF k_X6_countOf 45 = f_iret := rfl
set_option maxRecDepth 8000 in
theorem e_X6_count_0 : tabF k_X6_count 0 = f_loadR 0 1 := rfl
set_option maxRecDepth 8000 in
theorem e_X6_count_1 : tabF k_X6_count 1 = f_loadI 1 1 := rfl
set_option maxRecDepth 8000 in
theorem e_X6_count_2 : tabF k_X6_count 2 = f_loadI 2 1 := rfl
set_option maxRecDepth 8000 in
theorem e_X6_count_3 : tabF k_X6_count 3 = f_loadI 3 1 := rfl
set_option maxRecDepth 8000 in
theorem e_X6_count_4 : tabF k_X6_count 4 = f_loadI 4 2 := rfl
set_option maxRecDepth 8000 in
theorem e_X6_count_6 : tabF k_X6_count 6 = f_callV 5 89 4 := rfl
set_option maxRecDepth 8000 in
theorem e_X6_count_9 : tabF k_X6_count 9 = f_if0 cNe cEq 14 := rfl
set_option maxRecDepth 8000 in
theorem e_X6_count_12 : tabF k_X6_count 12 = f_push (-1) 1 := rfl
set_option maxRecDepth 8000 in
theorem e_X6_count_13 : tabF k_X6_count 13 = f_iret := rfl
set_option maxRecDepth 8000 in
theorem e_X6_count_14 : tabF k_X6_count 14 = f_loadR 0 1 := rfl
set_option maxRecDepth 8000 in
theorem e_X6_count_15 : tabF k_X6_count 15 = f_callV 5 94 0 := rfl
set_option maxRecDepth 8000 in
theorem e_X6_count_18 : tabF k_X6_count 18 = f_loadR 0 1 := rfl
set_option maxRecDepth 8000 in
theorem e_X6_count_19 : tabF k_X6_count 19 = f_loadR 0 1 := rfl
set_option maxRecDepth 8000 in
theorem e_X6_count_20 : tabF k_X6_count 20 = f_getI 5 14 := rfl
set_option maxRecDepth 8000 in
theorem e_X6_count_23 : tabF k_X6_count 23 = f_callV 5 97 1 := rfl
set_option maxRecDepth 8000 in
theorem e_X6_count_26 : tabF k_X6_count 26 = f_iret := rfl
set_option maxRecDepth 8000 in
theorem e_X6_next_0 : tabF k_X6_next 0 = f_loadI 2 1 := rfl
set_option maxRecDepth 8000 in
theorem e_X6_next_1 : tabF k_X6_next 1 = f_if0 cEq cNe 8 := rfl
set_option maxRecDepth 8000 in
theorem e_X6_next_4 : tabF k_X6_next 4 = f_push 0 1 := rfl
set_option maxRecDepth 8000 in
theorem e_X6_next_5 : tabF k_X6_next 5 = f_goto 14 := rfl
set_option maxRecDepth 8000 in
theorem e_X6_next_8 : tabF k_X6_next 8 = f_loadR 0 1 := rfl
set_option maxRecDepth 8000 in
theorem e_X6_next_9 : tabF k_X6_next 9 = f_getI 5 14 := rfl
set_option maxRecDepth 8000 in
theorem e_X6_next_12 : tabF k_X6_next 12 = f_push 1 1 := rfl
set_option maxRecDepth 8000 in
theorem e_X6_next_13 : tabF k_X6_next 13 = f_sub := rfl
set_option maxRecDepth 8000 in
theorem e_X6_next_14 : tabF k_X6_next 14 = f_storeI 3 1 := rfl
set_option maxRecDepth 8000 in
theorem e_X6_next_15 : tabF k_X6_next 15 = f_loadR 0 1 := rfl
set_option maxRecDepth 8000 in
theorem e_X6_next_16 : tabF k_X6_next 16 = f_getR 5 19 (fun i => 100) := rfl
set_option maxRecDepth 8000 in
theorem e_X6_next_19 : tabF k_X6_next 19 = f_push 0 1 := rfl
set_option maxRecDepth 8000 in
theorem e_X6_next_20 : tabF k_X6_next 20 = f_loadI 2 1 := rfl
set_option maxRecDepth 8000 in
theorem e_X6_next_21 : tabF k_X6_next 21 = f_if0 cEq cNe 28 := rfl
set_option maxRecDepth 8000 in
theorem e_X6_next_24 : tabF k_X6_next 24 = f_push (-1) 1 := rfl
set_option maxRecDepth 8000 in
theorem e_X6_next_25 : tabF k_X6_next 25 = f_goto 34 := rfl
set_option maxRecDepth 8000 in
theorem e_X6_next_28 : tabF k_X6_next 28 = f_loadR 0 1 := rfl
set_option maxRecDepth 8000 in
theorem e_X6_next_29 : tabF k_X6_next 29 = f_getR 5 19 (fun i => 100) := rfl
set_option maxRecDepth 8000 in
theorem e_X6_next_32 : tabF k_X6_next 32 = f_push 0 1 := rfl
set_option maxRecDepth 8000 in
theorem e_X6_next_33 : tabF k_X6_next 33 = f_iald := rfl
set_option maxRecDepth 8000 in
theorem e_X6_next_34 : tabF k_X6_next 34 = f_iast := rfl
set_option maxRecDepth 8000 in
theorem e_X6_next_35 : tabF k_X6_next 35 = f_loadI 3 1 := rfl
set_option maxRecDepth 8000 in
theorem e_X6_next_36 : tabF k_X6_next 36 = f_if0 cLt cGe 166 := rfl
set_option maxRecDepth 8000 in
theorem e_X6_next_39 : tabF k_X6_next 39 = f_loadR 0 1 := rfl
set_option maxRecDepth 8000 in
theorem e_X6_next_40 : tabF k_X6_next 40 = f_getR 5 19 (fun i => 100) := rfl
set_option maxRecDepth 8000 in
theorem e_X6_next_43 : tabF k_X6_next 43 = f_loadI 3 1 := rfl
set_option maxRecDepth 8000 in
theorem e_X6_next_44 : tabF k_X6_next 44 = f_dup2 := rfl
set_option maxRecDepth 8000 in
theorem e_X6_next_45 : tabF k_X6_next 45 = f_iald := rfl
set_option maxRecDepth 8000 in
theorem e_X6_next_46 : tabF k_X6_next 46 = f_push 1 1 := rfl
set_option maxRecDepth 8000 in
theorem e_X6_next_47 : tabF k_X6_next 47 = f_add := rfl
set_option maxRecDepth 8000 in
theorem e_X6_next_48 : tabF k_X6_next 48 = f_iast := rfl
set_option maxRecDepth 8000 in
theorem e_X6_next_49 : tabF k_X6_next 49 = f_loadR 0 1 := rfl
set_option maxRecDepth 8000 in
theorem e_X6_next_50 : tabF k_X6_next 50 = f_getR 5 19 (fun i => 100) := rfl
set_option maxRecDepth 8000 in
theorem e_X6_next_53 : tabF k_X6_next 53 = f_loadI 3 1 := rfl
set_option maxRecDepth 8000 in
theorem e_X6_next_54 : tabF k_X6_next 54 = f_iald := rfl
set_option maxRecDepth 8000 in
theorem e_X6_next_55 : tabF k_X6_next 55 = f_loadR 0 1 := rfl
set_option maxRecDepth 8000 in
theorem e_X6_next_56 : tabF k_X6_next 56 = f_getR 5 7 (fun i => 90) := rfl
set_option maxRecDepth 8000 in
theorem e_X6_next_59 : tabF k_X6_next 59 = f_loadI 1 1 := rfl
set_option maxRecDepth 8000 in
theorem e_X6_next_60 : tabF k_X6_next 60 = f_iald := rfl
set_option maxRecDepth 8000 in
theorem e_X6_next_61 : tabF k_X6_next 61 = f_icmp cLt cGe 70 := rfl
set_option maxRecDepth 8000 in
theorem e_X6_next_64 : tabF k_X6_next 64 = f_iinc 3 (-1) := rfl
set_option maxRecDepth 8000 in
theorem e_X6_next_67 : tabF k_X6_next 67 = f_goto 35 := rfl
set_option maxRecDepth 8000 in
theorem e_X6_next_70 : tabF k_X6_next 70 = f_loadR 0 1 := rfl
set_option maxRecDepth 8000 in
theorem e_X6_next_71 : tabF k_X6_next 71 = f_loadI 1 1 := rfl
set_option maxRecDepth 8000 in
theorem e_X6_next_72 : tabF k_X6_next 72 = f_loadR 0 1 := rfl
set_option maxRecDepth 8000 in
theorem e_X6_next_73 : tabF k_X6_next 73 = f_getR 5 19 (fun i => 100) := rfl
set_option maxRecDepth 8000 in
theorem e_X6_next_76 : tabF k_X6_next 76 = f_loadI 3 1 := rfl
set_option maxRecDepth 8000 in
theorem e_X6_next_77 : tabF k_X6_next 77 = f_iald := rfl
set_option maxRecDepth 8000 in
theorem e_X6_next_78 : tabF k_X6_next 78 = f_loadI 3 1 := rfl
set_option maxRecDepth 8000 in
theorem e_X6_next_79 : tabF k_X6_next 79 = f_callV 5 90 3 := rfl
set_option maxRecDepth 8000 in
theorem e_X6_next_82 : tabF k_X6_next 82 = f_if0 cEq cNe 35 := rfl
set_option maxRecDepth 8000 in
theorem e_X6_next_85 : tabF k_X6_next 85 = f_loadI 3 1 := rfl
set_option maxRecDepth 8000 in
theorem e_X6_next_86 : tabF k_X6_next 86 = f_if0 cLe cGt 134 := rfl
set_option maxRecDepth 8000 in
theorem e_X6_next_89 : tabF k_X6_next 89 = f_loadR 0 1 := rfl
set_option maxRecDepth 8000 in
theorem e_X6_next_90 : tabF k_X6_next 90 = f_loadI 1 1 := rfl
set_option maxRecDepth 8000 in
theorem e_X6_next_91 : tabF k_X6_next 91 = f_loadR 0 1 := rfl
set_option maxRecDepth 8000 in
theorem e_X6_next_92 : tabF k_X6_next 92 = f_getR 5 19 (fun i => 100) := rfl
set_option maxRecDepth 8000 in
theorem e_X6_next_95 : tabF k_X6_next 95 = f_loadI 3 1 := rfl
set_option maxRecDepth 8000 in
theorem e_X6_next_96 : tabF k_X6_next 96 = f_push 1 1 := rfl
set_option maxRecDepth 8000 in
theorem e_X6_next_97 : tabF k_X6_next 97 = f_sub := rfl
set_option maxRecDepth 8000 in
theorem e_X6_next_98 : tabF k_X6_next 98 = f_iald := rfl
set_option maxRecDepth 8000 in
theorem e_X6_next_99 : tabF k_X6_next 99 = f_loadR 0 1 := rfl
set_option maxRecDepth 8000 in
theorem e_X6_next_100 : tabF k_X6_next 100 = f_getR 5 19 (fun i => 100) := rfl
set_option maxRecDepth 8000 in
theorem e_X6_next_103 : tabF k_X6_next 103 = f_loadI 3 1 := rfl
set_option maxRecDepth 8000 in
theorem e_X6_next_104 : tabF k_X6_next 104 = f_iald := rfl
set_option maxRecDepth 8000 in
theorem e_X6_next_105 : tabF k_X6_next 105 = f_callV 5 91 3 := rfl
set_option maxRecDepth 8000 in
theorem e_X6_next_108 : tabF k_X6_next 108 = f_if0 cEq cNe 35 := rfl
set_option maxRecDepth 8000 in
theorem e_X6_next_111 : tabF k_X6_next 111 = f_loadR 0 1 := rfl
set_option maxRecDepth 8000 in
theorem e_X6_next_112 : tabF k_X6_next 112 = f_loadI 1 1 := rfl
set_option maxRecDepth 8000 in
theorem e_X6_next_113 : tabF k_X6_next 113 = f_loadR 0 1 := rfl
set_option maxRecDepth 8000 in
theorem e_X6_next_114 : tabF k_X6_next 114 = f_getR 5 19 (fun i => 100) := rfl
set_option maxRecDepth 8000 in
theorem e_X6_next_117 : tabF k_X6_next 117 = f_push 0 1 := rfl
set_option maxRecDepth 8000 in
theorem e_X6_next_118 : tabF k_X6_next 118 = f_iald := rfl
set_option maxRecDepth 8000 in
theorem e_X6_next_119 : tabF k_X6_next 119 = f_loadR 0 1 := rfl
set_option maxRecDepth 8000 in
theorem e_X6_next_120 : tabF k_X6_next 120 = f_getR 5 19 (fun i => 100) := rfl
set_option maxRecDepth 8000 in
theorem e_X6_next_123 : tabF k_X6_next 123 = f_loadI 3 1 := rfl
set_option maxRecDepth 8000 in
theorem e_X6_next_124 : tabF k_X6_next 124 = f_iald := rfl
set_option maxRecDepth 8000 in
theorem e_X6_next_125 : tabF k_X6_next 125 = f_callV 5 92 3 := rfl
set_option maxRecDepth 8000 in
theorem e_X6_next_128 : tabF k_X6_next 128 = f_if0 cNe cEq 134 := rfl
set_option maxRecDepth 8000 in
theorem e_X6_next_131 : tabF k_X6_next 131 = f_goto 35 := rfl
set_option maxRecDepth 8000 in
theorem e_X6_next_134 : tabF k_X6_next 134 = f_loadI 3 1 := rfl
set_option maxRecDepth 8000 in
theorem e_X6_next_135 : tabF k_X6_next 135 = f_loadR 0 1 := rfl
set_option maxRecDepth 8000 in
theorem e_X6_next_136 : tabF k_X6_next 136 = f_getI 5 14 := rfl
set_option maxRecDepth 8000 in
theorem e_X6_next_139 : tabF k_X6_next 139 = f_push 1 1 := rfl
set_option maxRecDepth 8000 in
theorem e_X6_next_140 : tabF k_X6_next 140 = f_sub := rfl
set_option maxRecDepth 8000 in
theorem e_X6_next_141 : tabF k_X6_next 141 = f_icmp cNe cEq 146 := rfl
set_option maxRecDepth 8000 in
theorem e_X6_next_144 : tabF k_X6_next 144 = f_push 1 1 := rfl
set_option maxRecDepth 8000 in
theorem e_X6_next_145 : tabF k_X6_next 145 = f_zret := rfl
set_option maxRecDepth 8000 in
theorem e_X6_next_146 : tabF k_X6_next 146 = f_loadR 0 1 := rfl
set_option maxRecDepth 8000 in
theorem e_X6_next_147 : tabF k_X6_next 147 = f_getR 5 19 (fun i => 100) := rfl
set_option maxRecDepth 8000 in
theorem e_X6_next_150 : tabF k_X6_next 150 = f_loadI 3 1 := rfl
set_option maxRecDepth 8000 in
theorem e_X6_next_151 : tabF k_X6_next 151 = f_push 1 1 := rfl
set_option maxRecDepth 8000 in
theorem e_X6_next_152 : tabF k_X6_next 152 = f_add := rfl
set_option maxRecDepth 8000 in
theorem e_X6_next_153 : tabF k_X6_next 153 = f_loadR 0 1 := rfl
set_option maxRecDepth 8000 in
theorem e_X6_next_154 : tabF k_X6_next 154 = f_getR 5 19 (fun i => 100) := rfl
set_option maxRecDepth 8000 in
theorem e_X6_next_157 : tabF k_X6_next 157 = f_loadI 3 1 := rfl
set_option maxRecDepth 8000 in
theorem e_X6_next_158 : tabF k_X6_next 158 = f_iald := rfl
set_option maxRecDepth 8000 in
theorem e_X6_next_159 : tabF k_X6_next 159 = f_iast := rfl
set_option maxRecDepth 8000 in
theorem e_X6_next_160 : tabF k_X6_next 160 = f_iinc 3 1 := rfl
set_option maxRecDepth 8000 in
theorem e_X6_next_163 : tabF k_X6_next 163 = f_goto 35 := rfl
set_option maxRecDepth 8000 in
theorem e_X6_next_166 : tabF k_X6_next 166 = f_push 0 1 := rfl
set_option maxRecDepth 8000 in
theorem e_X6_next_167 : tabF k_X6_next 167 = f_zret := rfl
set_option maxRecDepth 8000 in
theorem e_X6_matches_0 : tabF k_X6_matches 0 = f_loadR 0 1 := rfl
set_option maxRecDepth 8000 in
theorem e_X6_matches_1 : tabF k_X6_matches 1 = f_loadI 1 1 := rfl
set_option maxRecDepth 8000 in
theorem e_X6_matches_2 : tabF k_X6_matches 2 = f_callV 5 80 1 := rfl
set_option maxRecDepth 8000 in
theorem e_X6_matches_5 : tabF k_X6_matches 5 = f_if0 cEq cNe 21 := rfl
set_option maxRecDepth 8000 in
theorem e_X6_matches_8 : tabF k_X6_matches 8 = f_loadR 0 1 := rfl
set_option maxRecDepth 8000 in
theorem e_X6_matches_9 : tabF k_X6_matches 9 = f_loadI 2 1 := rfl
set_option maxRecDepth 8000 in
theorem e_X6_matches_10 : tabF k_X6_matches 10 = f_loadI 3 1 := rfl
set_option maxRecDepth 8000 in
theorem e_X6_matches_11 : tabF k_X6_matches 11 = f_loadI 4 2 := rfl
set_option maxRecDepth 8000 in
theorem e_X6_matches_13 : tabF k_X6_matches 13 = f_loadI 5 2 := rfl
set_option maxRecDepth 8000 in
theorem e_X6_matches_15 : tabF k_X6_matches 15 = f_callV 5 89 4 := rfl
set_option maxRecDepth 8000 in
theorem e_X6_matches_18 : tabF k_X6_matches 18 = f_if0 cNe cEq 25 := rfl
set_option maxRecDepth 8000 in
theorem e_X6_matches_21 : tabF k_X6_matches 21 = f_pushL (-1) 3 := rfl
set_option maxRecDepth 8000 in
theorem e_X6_matches_24 : tabF k_X6_matches 24 = f_lret := rfl
set_option maxRecDepth 8000 in
theorem e_X6_matches_25 : tabF k_X6_matches 25 = f_pushL 0 1 := rfl
set_option maxRecDepth 8000 in
theorem e_X6_matches_26 : tabF k_X6_matches 26 = f_storeL 6 2 := rfl
set_option maxRecDepth 8000 in
theorem e_X6_matches_28 : tabF k_X6_matches 28 = f_loadR 0 1 := rfl
set_option maxRecDepth 8000 in
theorem e_X6_matches_29 : tabF k_X6_matches 29 = f_loadI 1 1 := rfl
set_option maxRecDepth 8000 in
theorem e_X6_matches_30 : tabF k_X6_matches 30 = f_push 1 1 := rfl
set_option maxRecDepth 8000 in
theorem e_X6_matches_31 : tabF k_X6_matches 31 = f_callV 5 99 2 := rfl
set_option maxRecDepth 8000 in
theorem e_X6_matches_34 : tabF k_X6_matches 34 = f_storeI 8 2 := rfl
set_option maxRecDepth 8000 in
theorem e_X6_matches_36 : tabF k_X6_matches 36 = f_loadI 8 2 := rfl
set_option maxRecDepth 8000 in
theorem e_X6_matches_38 : tabF k_X6_matches 38 = f_if0 cEq cNe 58 := rfl
set_option maxRecDepth 8000 in
theorem e_X6_matches_41 : tabF k_X6_matches 41 = f_loadL 6 2 := rfl
set_option maxRecDepth 8000 in
theorem e_X6_matches_43 : tabF k_X6_matches 43 = f_pushL 1 1 := rfl
set_option maxRecDepth 8000 in
theorem e_X6_matches_44 : tabF k_X6_matches 44 = f_ladd := rfl
set_option maxRecDepth 8000 in
theorem e_X6_matches_45 : tabF k_X6_matches 45 = f_storeL 6 2 := rfl
set_option maxRecDepth 8000 in
theorem e_X6_matches_47 : tabF k_X6_matches 47 = f_loadR 0 1 := rfl
set_option maxRecDepth 8000 in
theorem e_X6_matches_48 : tabF k_X6_matches 48 = f_loadI 1 1 := rfl
set_option maxRecDepth 8000 in
theorem e_X6_matches_49 : tabF k_X6_matches 49 = f_push 0 1 := rfl
set_option maxRecDepth 8000 in
theorem e_X6_matches_50 : tabF k_X6_matches 50 = f_callV 5 99 2 := rfl
set_option maxRecDepth 8000 in
theorem e_X6_matches_53 : tabF k_X6_matches 53 = f_storeI 8 2 := rfl
set_option maxRecDepth 8000 in
theorem e_X6_matches_55 : tabF k_X6_matches 55 = f_goto 36 := rfl
set_option maxRecDepth 8000 in
theorem e_X6_matches_58 : tabF k_X6_matches 58 = f_loadL 6 2 := rfl
set_option maxRecDepth 8000 in
theorem e_X6_matches_60 : tabF k_X6_matches 60 = f_lret := rfl
set_option maxRecDepth 8000 in
theorem e_X6_match_0 : tabF k_X6_match 0 = f_loadR 0 1 := rfl
set_option maxRecDepth 8000 in
theorem e_X6_match_1 : tabF k_X6_match 1 = f_loadI 1 1 := rfl
set_option maxRecDepth 8000 in
theorem e_X6_match_2 : tabF k_X6_match 2 = f_callV 5 80 1 := rfl
set_option maxRecDepth 8000 in
theorem e_X6_match_5 : tabF k_X6_match 5 = f_if0 cEq cNe 45 := rfl
set_option maxRecDepth 8000 in
theorem e_X6_match_8 : tabF k_X6_match 8 = f_loadR 0 1 := rfl
set_option maxRecDepth 8000 in
theorem e_X6_match_9 : tabF k_X6_match 9 = f_loadI 2 1 := rfl
set_option maxRecDepth 8000 in
theorem e_X6_match_10 : tabF k_X6_match 10 = f_loadI 3 1 := rfl
set_option maxRecDepth 8000 in
theorem e_X6_match_11 : tabF k_X6_match 11 = f_loadI 4 2 := rfl
set_option maxRecDepth 8000 in
theorem e_X6_match_13 : tabF k_X6_match 13 = f_loadI 5 2 := rfl
set_option maxRecDepth 8000 in
theorem e_X6_match_15 : tabF k_X6_match 15 = f_callV 5 89 4 := rfl
set_option maxRecDepth 8000 in
theorem e_X6_match_18 : tabF k_X6_match 18 = f_if0 cEq cNe 45 := rfl
set_option maxRecDepth 8000 in
theorem e_X6_match_21 : tabF k_X6_match 21 = f_loadI 6 2 := rfl
set_option maxRecDepth 8000 in
theorem e_X6_match_23 : tabF k_X6_match 23 = f_push 0 1 := rfl
set_option maxRecDepth 8000 in
theorem e_X6_match_24 : tabF k_X6_match 24 = f_loadR 0 1 := rfl
set_option maxRecDepth 8000 in
theorem e_X6_match_25 : tabF k_X6_match 25 = f_getI 5 14 := rfl
set_option maxRecDepth 8000 in
theorem e_X6_match_28 : tabF k_X6_match 28 = f_push 1 1 := rfl
set_option maxRecDepth 8000 in
theorem e_X6_match_29 : tabF k_X6_match 29 = f_sub := rfl
set_option maxRecDepth 8000 in
theorem e_X6_match_30 : tabF k_X6_match 30 = f_callS 78 3 := rfl
set_option maxRecDepth 8000 in
theorem e_X6_match_33 : tabF k_X6_match 33 = f_if0 cEq cNe 45 := rfl
set_option maxRecDepth 8000 in
theorem e_X6_match_36 : tabF k_X6_match 36 = f_loadR 0 1 := rfl
set_option maxRecDepth 8000 in
theorem e_X6_match_37 : tabF k_X6_match 37 = f_loadI 1 1 := rfl
set_option maxRecDepth 8000 in
theorem e_X6_match_38 : tabF k_X6_match 38 = f_push 1 1 := rfl
set_option maxRecDepth 8000 in
theorem e_X6_match_39 : tabF k_X6_match 39 = f_callV 5 99 2 := rfl
set_option maxRecDepth 8000 in
theorem e_X6_match_42 : tabF k_X6_match 42 = f_if0 cNe cEq 47 := rfl
set_option maxRecDepth 8000 in
theorem e_X6_match_45 : tabF k_X6_match 45 = f_push (-1) 1 := rfl
set_option maxRecDepth 8000 in
theorem e_X6_match_46 : tabF k_X6_match 46 = f_iret := rfl
set_option maxRecDepth 8000 in
theorem e_X6_match_47 : tabF k_X6_match 47 = f_loadR 0 1 := rfl
set_option maxRecDepth 8000 in
theorem e_X6_match_48 : tabF k_X6_match 48 = f_getR 5 19 (fun i => 100) := rfl
set_option maxRecDepth 8000 in
theorem e_X6_match_51 : tabF k_X6_match 51 = f_loadI 6 2 := rfl
set_option maxRecDepth 8000 in
theorem e_X6_match_53 : tabF k_X6_match 53 = f_iald := rfl
set_option maxRecDepth 8000 in
theorem e_X6_match_54 : tabF k_X6_match 54 = f_iret := rfl
set_option maxRecDepth 8000 in
theorem e_X6_isThere_0 : tabF k_X6_isThere 0 = f_push 0 1 := rfl
set_option maxRecDepth 8000 in
theorem e_X6_isThere_1 : tabF k_X6_isThere 1 = f_storeI 2 1 := rfl
set_option maxRecDepth 8000 in
theorem e_X6_isThere_2 : tabF k_X6_isThere 2 = f_loadI 2 1 := rfl
set_option maxRecDepth 8000 in
theorem e_X6_isThere_3 : tabF k_X6_isThere 3 = f_loadR 0 1 := rfl
set_option maxRecDepth 8000 in
theorem e_X6_isThere_4 : tabF k_X6_isThere 4 = f_getI 5 0 := rfl
set_option maxRecDepth 8000 in
theorem e_X6_isThere_7 : tabF k_X6_isThere 7 = f_icmp cGe cLt 41 := rfl
set_option maxRecDepth 8000 in
theorem e_X6_isThere_10 : tabF k_X6_isThere 10 = f_loadR 0 1 := rfl
set_option maxRecDepth 8000 in
theorem e_X6_isThere_11 : tabF k_X6_isThere 11 = f_getR 5 6 (fun i => 89) := rfl
set_option maxRecDepth 8000 in
theorem e_X6_isThere_14 : tabF k_X6_isThere 14 = f_loadI 2 1 := rfl
set_option maxRecDepth 8000 in
theorem e_X6_isThere_15 : tabF k_X6_isThere 15 = f_zald := rfl
set_option maxRecDepth 8000 in
theorem e_X6_isThere_16 : tabF k_X6_isThere 16 = f_if0 cNe cEq 35 := rfl
set_option maxRecDepth 8000 in
theorem e_X6_isThere_19 : tabF k_X6_isThere 19 = f_loadR 0 1 := rfl
set_option maxRecDepth 8000 in
theorem e_X6_isThere_20 : tabF k_X6_isThere 20 = f_getR 5 16 (fun i => 97) := rfl
set_option maxRecDepth 8000 in
theorem e_X6_isThere_23 : tabF k_X6_isThere 23 = f_push 16 2 := rfl
set_option maxRecDepth 8000 in
theorem e_X6_isThere_25 : tabF k_X6_isThere 25 = f_loadI 2 1 := rfl
set_option maxRecDepth 8000 in
theorem e_X6_isThere_26 : tabF k_X6_isThere 26 = f_mul := rfl
set_option maxRecDepth 8000 in
theorem e_X6_isThere_27 : tabF k_X6_isThere 27 = f_loadI 1 1 := rfl
set_option maxRecDepth 8000 in
theorem e_X6_isThere_28 : tabF k_X6_isThere 28 = f_add := rfl
set_option maxRecDepth 8000 in
theorem e_X6_isThere_29 : tabF k_X6_isThere 29 = f_iald := rfl
set_option maxRecDepth 8000 in
theorem e_X6_isThere_30 : tabF k_X6_isThere 30 = f_if0 cEq cNe 35 := rfl
set_option maxRecDepth 8000 in
theorem e_X6_isThere_33 : tabF k_X6_isThere 33 = f_push 1 1 := rfl
set_option maxRecDepth 8000 in
theorem e_X6_isThere_34 : tabF k_X6_isThere 34 = f_zret := rfl
set_option maxRecDepth 8000 in
theorem e_X6_isThere_35 : tabF k_X6_isThere 35 = f_iinc 2 1 := rfl
set_option maxRecDepth 8000 in
theorem e_X6_isThere_38 : tabF k_X6_isThere 38 = f_goto 2 := rfl
set_option maxRecDepth 8000 in
theorem e_X6_isThere_41 : tabF k_X6_isThere 41 = f_push 0 1 := rfl
set_option maxRecDepth 8000 in
theorem e_X6_isThere_42 : tabF k_X6_isThere 42 = f_zret := rfl
set_option maxRecDepth 8000 in
theorem e_X6_keeps_0 : tabF k_X6_keeps 0 = f_push 0 1 := rfl
set_option maxRecDepth 8000 in
theorem e_X6_keeps_1 : tabF k_X6_keeps 1 = f_storeI 3 1 := rfl
set_option maxRecDepth 8000 in
theorem e_X6_keeps_2 : tabF k_X6_keeps 2 = f_loadI 3 1 := rfl
set_option maxRecDepth 8000 in
theorem e_X6_keeps_3 : tabF k_X6_keeps 3 = f_push 4 1 := rfl
set_option maxRecDepth 8000 in
theorem e_X6_keeps_4 : tabF k_X6_keeps 4 = f_icmp cGe cLt 41 := rfl
set_option maxRecDepth 8000 in
theorem e_X6_keeps_7 : tabF k_X6_keeps 7 = f_loadR 0 1 := rfl
set_option maxRecDepth 8000 in
theorem e_X6_keeps_8 : tabF k_X6_keeps 8 = f_getR 5 11 (fun i => 93) := rfl
set_option maxRecDepth 8000 in
theorem e_X6_keeps_11 : tabF k_X6_keeps 11 = f_push 4 1 := rfl
set_option maxRecDepth 8000 in
theorem e_X6_keeps_12 : tabF k_X6_keeps 12 = f_loadR 0 1 := rfl
set_option maxRecDepth 8000 in
theorem e_X6_keeps_13 : tabF k_X6_keeps 13 = f_getI 5 10 := rfl
set_option maxRecDepth 8000 in
theorem e_X6_keeps_16 : tabF k_X6_keeps 16 = f_mul := rfl
set_option maxRecDepth 8000 in
theorem e_X6_keeps_17 : tabF k_X6_keeps 17 = f_loadI 3 1 := rfl
set_option maxRecDepth 8000 in
theorem e_X6_keeps_18 : tabF k_X6_keeps 18 = f_add := rfl
set_option maxRecDepth 8000 in
theorem e_X6_keeps_19 : tabF k_X6_keeps 19 = f_loadI 3 1 := rfl
set_option maxRecDepth 8000 in
theorem e_X6_keeps_20 : tabF k_X6_keeps 20 = f_loadI 1 1 := rfl
set_option maxRecDepth 8000 in
theorem e_X6_keeps_21 : tabF k_X6_keeps 21 = f_icmp cGe cLt 33 := rfl
set_option maxRecDepth 8000 in
theorem e_X6_keeps_24 : tabF k_X6_keeps 24 = f_loadR 0 1 := rfl
set_option maxRecDepth 8000 in
theorem e_X6_keeps_25 : tabF k_X6_keeps 25 = f_getR 5 15 (fun i => 96) := rfl
set_option maxRecDepth 8000 in
theorem e_X6_keeps_28 : tabF k_X6_keeps 28 = f_loadI 3 1 := rfl
set_option maxRecDepth 8000 in
theorem e_X6_keeps_29 : tabF k_X6_keeps 29 = f_iald := rfl
set_option maxRecDepth 8000 in
theorem e_X6_keeps_30 : tabF k_X6_keeps 30 = f_goto 34 := rfl
set_option maxRecDepth 8000 in
theorem e_X6_keeps_33 : tabF k_X6_keeps 33 = f_push (-1) 1 := rfl
set_option maxRecDepth 8000 in
theorem e_X6_keeps_34 : tabF k_X6_keeps 34 = f_iast := rfl
set_option maxRecDepth 8000 in
theorem e_X6_keeps_35 : tabF k_X6_keeps 35 = f_iinc 3 1 := rfl
set_option maxRecDepth 8000 in
theorem e_X6_keeps_38 : tabF k_X6_keeps 38 = f_goto 2 := rfl
set_option maxRecDepth 8000 in
theorem e_X6_keeps_41 : tabF k_X6_keeps 41 = f_loadR 0 1 := rfl
set_option maxRecDepth 8000 in
theorem e_X6_keeps_42 : tabF k_X6_keeps 42 = f_getR 5 12 (fun i => 94) := rfl
set_option maxRecDepth 8000 in
theorem e_X6_keeps_45 : tabF k_X6_keeps 45 = f_loadR 0 1 := rfl
set_option maxRecDepth 8000 in
theorem e_X6_keeps_46 : tabF k_X6_keeps 46 = f_getI 5 10 := rfl
set_option maxRecDepth 8000 in
theorem e_X6_keeps_49 : tabF k_X6_keeps 49 = f_loadI 2 1 := rfl
set_option maxRecDepth 8000 in
theorem e_X6_keeps_50 : tabF k_X6_keeps 50 = f_iast := rfl
set_option maxRecDepth 8000 in
theorem e_X6_keeps_51 : tabF k_X6_keeps 51 = f_loadR 0 1 := rfl
set_option maxRecDepth 8000 in
theorem e_X6_keeps_52 : tabF k_X6_keeps 52 = f_getR 5 13 (fun i => 95) := rfl
set_option maxRecDepth 8000 in
theorem e_X6_keeps_55 : tabF k_X6_keeps 55 = f_loadR 0 1 := rfl
set_option maxRecDepth 8000 in
theorem e_X6_keeps_56 : tabF k_X6_keeps 56 = f_getI 5 10 := rfl
set_option maxRecDepth 8000 in
theorem e_X6_keeps_59 : tabF k_X6_keeps 59 = f_loadI 1 1 := rfl
set_option maxRecDepth 8000 in
theorem e_X6_keeps_60 : tabF k_X6_keeps 60 = f_iast := rfl
set_option maxRecDepth 8000 in
theorem e_X6_keeps_61 : tabF k_X6_keeps 61 = f_loadR 0 1 := rfl
set_option maxRecDepth 8000 in
theorem e_X6_keeps_62 : tabF k_X6_keeps 62 = f_dup := rfl
set_option maxRecDepth 8000 in
theorem e_X6_keeps_63 : tabF k_X6_keeps 63 = f_getI 5 10 := rfl
set_option maxRecDepth 8000 in
theorem e_X6_keeps_66 : tabF k_X6_keeps 66 = f_push 1 1 := rfl
set_option maxRecDepth 8000 in
theorem e_X6_keeps_67 : tabF k_X6_keeps 67 = f_add := rfl
set_option maxRecDepth 8000 in
theorem e_X6_keeps_68 : tabF k_X6_keeps 68 = f_putI 5 10 := rfl
set_option maxRecDepth 8000 in
theorem e_X6_keeps_71 : tabF k_X6_keeps 71 = f_vret := rfl
set_option maxRecDepth 8000 in
theorem e_X6_find_0 : tabF k_X6_find 0 = f_loadI 1 1 := rfl
set_option maxRecDepth 8000 in
theorem e_X6_find_1 : tabF k_X6_find 1 = f_push 1 1 := rfl
set_option maxRecDepth 8000 in
theorem e_X6_find_2 : tabF k_X6_find 2 = f_push 24 2 := rfl
set_option maxRecDepth 8000 in
theorem e_X6_find_4 : tabF k_X6_find 4 = f_callS 78 3 := rfl
set_option maxRecDepth 8000 in
theorem e_X6_find_7 : tabF k_X6_find 7 = f_if0 cEq cNe 19 := rfl
set_option maxRecDepth 8000 in
theorem e_X6_find_10 : tabF k_X6_find 10 = f_loadI 2 1 := rfl
set_option maxRecDepth 8000 in
theorem e_X6_find_11 : tabF k_X6_find 11 = f_push 1 1 := rfl
set_option maxRecDepth 8000 in
theorem e_X6_find_12 : tabF k_X6_find 12 = f_push 4 1 := rfl
set_option maxRecDepth 8000 in
theorem e_X6_find_13 : tabF k_X6_find 13 = f_callS 78 3 := rfl
set_option maxRecDepth 8000 in
theorem e_X6_find_16 : tabF k_X6_find 16 = f_if0 cNe cEq 21 := rfl
set_option maxRecDepth 8000 in
theorem e_X6_find_19 : tabF k_X6_find 19 = f_push (-1) 1 := rfl
set_option maxRecDepth 8000 in
theorem e_X6_find_20 : tabF k_X6_find 20 = f_iret := rfl
set_option maxRecDepth 8000 in
theorem e_X6_find_21 : tabF k_X6_find 21 = f_loadR 0 1 := rfl
set_option maxRecDepth 8000 in
theorem e_X6_find_22 : tabF k_X6_find 22 = f_callV 5 94 0 := rfl
set_option maxRecDepth 8000 in
theorem e_X6_find_25 : tabF k_X6_find 25 = f_loadR 0 1 := rfl
set_option maxRecDepth 8000 in
theorem e_X6_find_26 : tabF k_X6_find 26 = f_push 0 1 := rfl
set_option maxRecDepth 8000 in
theorem e_X6_find_27 : tabF k_X6_find 27 = f_putI 5 10 := rfl
set_option maxRecDepth 8000 in
theorem e_X6_find_30 : tabF k_X6_find 30 = f_push 0 1 := rfl
set_option maxRecDepth 8000 in
theorem e_X6_find_31 : tabF k_X6_find 31 = f_storeI 3 1 := rfl
set_option maxRecDepth 8000 in
theorem e_X6_find_32 : tabF k_X6_find 32 = f_push 1 1 := rfl
set_option maxRecDepth 8000 in
theorem e_X6_find_33 : tabF k_X6_find 33 = f_storeI 4 2 := rfl
set_option maxRecDepth 8000 in
theorem e_X6_find_35 : tabF k_X6_find 35 = f_push 1 1 := rfl
set_option maxRecDepth 8000 in
theorem e_X6_find_36 : tabF k_X6_find 36 = f_storeI 5 2 := rfl
set_option maxRecDepth 8000 in
theorem e_X6_find_38 : tabF k_X6_find 38 = f_loadI 5 2 := rfl
set_option maxRecDepth 8000 in
theorem e_X6_find_40 : tabF k_X6_find 40 = f_loadI 2 1 := rfl
set_option maxRecDepth 8000 in
theorem e_X6_find_41 : tabF k_X6_find 41 = f_icmp cGt cLe 199 := rfl
set_option maxRecDepth 8000 in
theorem e_X6_find_44 : tabF k_X6_find 44 = f_loadR 0 1 := rfl
set_option maxRecDepth 8000 in
theorem e_X6_find_45 : tabF k_X6_find 45 = f_getI 5 10 := rfl
set_option maxRecDepth 8000 in
theorem e_X6_find_48 : tabF k_X6_find 48 = f_storeI 6 2 := rfl
set_option maxRecDepth 8000 in
theorem e_X6_find_50 : tabF k_X6_find 50 = f_loadI 3 1 := rfl
set_option maxRecDepth 8000 in
theorem e_X6_find_51 : tabF k_X6_find 51 = f_storeI 7 2 := rfl
set_option maxRecDepth 8000 in
theorem e_X6_find_53 : tabF k_X6_find 53 = f_loadI 7 2 := rfl
set_option maxRecDepth 8000 in
theorem e_X6_find_55 : tabF k_X6_find 55 = f_loadI 4 2 := rfl
set_option maxRecDepth 8000 in
theorem e_X6_find_57 : tabF k_X6_find 57 = f_icmp cGe cLt 184 := rfl
set_option maxRecDepth 8000 in
theorem e_X6_find_60 : tabF k_X6_find 60 = f_loadR 0 1 := rfl
set_option maxRecDepth 8000 in
theorem e_X6_find_61 : tabF k_X6_find 61 = f_getI 5 10 := rfl
set_option maxRecDepth 8000 in
theorem e_X6_find_64 : tabF k_X6_find 64 = f_push 2000 3 := rfl
set_option maxRecDepth 8000 in
theorem e_X6_find_67 : tabF k_X6_find 67 = f_icmp cGe cLt 184 := rfl
set_option maxRecDepth 8000 in
theorem e_X6_find_70 : tabF k_X6_find 70 = f_push 0 1 := rfl
set_option maxRecDepth 8000 in
theorem e_X6_find_71 : tabF k_X6_find 71 = f_storeI 8 2 := rfl
set_option maxRecDepth 8000 in
theorem e_X6_find_73 : tabF k_X6_find 73 = f_loadI 8 2 := rfl
set_option maxRecDepth 8000 in
theorem e_X6_find_75 : tabF k_X6_find 75 = f_loadI 5 2 := rfl
set_option maxRecDepth 8000 in
theorem e_X6_find_77 : tabF k_X6_find 77 = f_push 1 1 := rfl
set_option maxRecDepth 8000 in
theorem e_X6_find_78 : tabF k_X6_find 78 = f_sub := rfl
set_option maxRecDepth 8000 in
theorem e_X6_find_79 : tabF k_X6_find 79 = f_icmp cGe cLt 107 := rfl
set_option maxRecDepth 8000 in
theorem e_X6_find_82 : tabF k_X6_find 82 = f_loadR 0 1 := rfl
set_option maxRecDepth 8000 in
theorem e_X6_find_83 : tabF k_X6_find 83 = f_getR 5 15 (fun i => 96) := rfl
set_option maxRecDepth 8000 in
theorem e_X6_find_86 : tabF k_X6_find 86 = f_loadI 8 2 := rfl
set_option maxRecDepth 8000 in
theorem e_X6_find_88 : tabF k_X6_find 88 = f_loadR 0 1 := rfl
set_option maxRecDepth 8000 in
theorem e_X6_find_89 : tabF k_X6_find 89 = f_getR 5 11 (fun i => 93) := rfl
set_option maxRecDepth 8000 in
theorem e_X6_find_92 : tabF k_X6_find 92 = f_push 4 1 := rfl
set_option maxRecDepth 8000 in
theorem e_X6_find_93 : tabF k_X6_find 93 = f_loadI 7 2 := rfl
set_option maxRecDepth 8000 in
theorem e_X6_find_95 : tabF k_X6_find 95 = f_mul := rfl
set_option maxRecDepth 8000 in
theorem e_X6_find_96 : tabF k_X6_find 96 = f_loadI 8 2 := rfl
set_option maxRecDepth 8000 in
theorem e_X6_find_98 : tabF k_X6_find 98 = f_add := rfl
set_option maxRecDepth 8000 in
theorem e_X6_find_99 : tabF k_X6_find 99 = f_iald := rfl
set_option maxRecDepth 8000 in
theorem e_X6_find_100 : tabF k_X6_find 100 = f_iast := rfl
set_option maxRecDepth 8000 in
theorem e_X6_find_101 : tabF k_X6_find 101 = f_iinc 8 1 := rfl
set_option maxRecDepth 8000 in
theorem e_X6_find_104 : tabF k_X6_find 104 = f_goto 73 := rfl
set_option maxRecDepth 8000 in
theorem e_X6_find_107 : tabF k_X6_find 107 = f_push 0 1 := rfl
set_option maxRecDepth 8000 in
theorem e_X6_find_108 : tabF k_X6_find 108 = f_storeI 8 2 := rfl
set_option maxRecDepth 8000 in
theorem e_X6_find_110 : tabF k_X6_find 110 = f_loadI 8 2 := rfl
set_option maxRecDepth 8000 in
theorem e_X6_find_112 : tabF k_X6_find 112 = f_push 16 2 := rfl
set_option maxRecDepth 8000 in
theorem e_X6_find_114 : tabF k_X6_find 114 = f_icmp cGe cLt 178 := rfl
set_option maxRecDepth 8000 in
theorem e_X6_find_117 : tabF k_X6_find 117 = f_loadR 0 1 := rfl
set_option maxRecDepth 8000 in
theorem e_X6_find_118 : tabF k_X6_find 118 = f_getI 5 10 := rfl
set_option maxRecDepth 8000 in
theorem e_X6_find_121 : tabF k_X6_find 121 = f_push 2000 3 := rfl
set_option maxRecDepth 8000 in
theorem e_X6_find_124 : tabF k_X6_find 124 = f_icmp cGe cLt 178 := rfl
set_option maxRecDepth 8000 in
theorem e_X6_find_127 : tabF k_X6_find 127 = f_loadR 0 1 := rfl
set_option maxRecDepth 8000 in
theorem e_X6_find_128 : tabF k_X6_find 128 = f_loadI 8 2 := rfl
set_option maxRecDepth 8000 in
theorem e_X6_find_130 : tabF k_X6_find 130 = f_callV 5 102 1 := rfl
set_option maxRecDepth 8000 in
theorem e_X6_find_133 : tabF k_X6_find 133 = f_if0 cNe cEq 139 := rfl
set_option maxRecDepth 8000 in
theorem e_X6_find_136 : tabF k_X6_find 136 = f_goto 172 := rfl
set_option maxRecDepth 8000 in
theorem e_X6_find_139 : tabF k_X6_find 139 = f_loadR 0 1 := rfl
set_option maxRecDepth 8000 in
theorem e_X6_find_140 : tabF k_X6_find 140 = f_getR 5 15 (fun i => 96) := rfl
set_option maxRecDepth 8000 in
theorem e_X6_find_143 : tabF k_X6_find 143 = f_loadI 5 2 := rfl
set_option maxRecDepth 8000 in
theorem e_X6_find_145 : tabF k_X6_find 145 = f_push 1 1 := rfl
set_option maxRecDepth 8000 in
theorem e_X6_find_146 : tabF k_X6_find 146 = f_sub := rfl
set_option maxRecDepth 8000 in
theorem e_X6_find_147 : tabF k_X6_find 147 = f_loadI 8 2 := rfl
set_option maxRecDepth 8000 in
theorem e_X6_find_149 : tabF k_X6_find 149 = f_iast := rfl
set_option maxRecDepth 8000 in
theorem e_X6_find_150 : tabF k_X6_find 150 = f_loadR 0 1 := rfl
set_option maxRecDepth 8000 in
theorem e_X6_find_151 : tabF k_X6_find 151 = f_loadI 5 2 := rfl
set_option maxRecDepth 8000 in
theorem e_X6_find_153 : tabF k_X6_find 153 = f_callV 5 97 1 := rfl
set_option maxRecDepth 8000 in
theorem e_X6_find_156 : tabF k_X6_find 156 = f_storeI 9 2 := rfl
set_option maxRecDepth 8000 in
theorem e_X6_find_158 : tabF k_X6_find 158 = f_loadI 9 2 := rfl
set_option maxRecDepth 8000 in
theorem e_X6_find_160 : tabF k_X6_find 160 = f_loadI 1 1 := rfl
set_option maxRecDepth 8000 in
theorem e_X6_find_161 : tabF k_X6_find 161 = f_icmp cLt cGe 172 := rfl
set_option maxRecDepth 8000 in
theorem e_X6_find_164 : tabF k_X6_find 164 = f_loadR 0 1 := rfl
set_option maxRecDepth 8000 in
theorem e_X6_find_165 : tabF k_X6_find 165 = f_loadI 5 2 := rfl
set_option maxRecDepth 8000 in
theorem e_X6_find_167 : tabF k_X6_find 167 = f_loadI 9 2 := rfl
set_option maxRecDepth 8000 in
theorem e_X6_find_169 : tabF k_X6_find 169 = f_callV 5 103 2 := rfl
set_option maxRecDepth 8000 in
theorem e_X6_find_172 : tabF k_X6_find 172 = f_iinc 8 1 := rfl
set_option maxRecDepth 8000 in
theorem e_X6_find_175 : tabF k_X6_find 175 = f_goto 110 := rfl
set_option maxRecDepth 8000 in
theorem e_X6_find_178 : tabF k_X6_find 178 = f_iinc 7 1 := rfl
set_option maxRecDepth 8000 in
theorem e_X6_find_181 : tabF k_X6_find 181 = f_goto 53 := rfl
set_option maxRecDepth 8000 in
theorem e_X6_find_184 : tabF k_X6_find 184 = f_loadI 6 2 := rfl
set_option maxRecDepth 8000 in
theorem e_X6_find_186 : tabF k_X6_find 186 = f_storeI 3 1 := rfl
set_option maxRecDepth 8000 in
theorem e_X6_find_187 : tabF k_X6_find 187 = f_loadR 0 1 := rfl
set_option maxRecDepth 8000 in
theorem e_X6_find_188 : tabF k_X6_find 188 = f_getI 5 10 := rfl
set_option maxRecDepth 8000 in
theorem e_X6_find_191 : tabF k_X6_find 191 = f_storeI 4 2 := rfl
set_option maxRecDepth 8000 in
theorem e_X6_find_193 : tabF k_X6_find 193 = f_iinc 5 1 := rfl
set_option maxRecDepth 8000 in
theorem e_X6_find_196 : tabF k_X6_find 196 = f_goto 38 := rfl
set_option maxRecDepth 8000 in
theorem e_X6_find_199 : tabF k_X6_find 199 = f_loadR 0 1 := rfl
set_option maxRecDepth 8000 in
theorem e_X6_find_200 : tabF k_X6_find 200 = f_getI 5 10 := rfl
set_option maxRecDepth 8000 in
theorem e_X6_find_203 : tabF k_X6_find 203 = f_iret := rfl
set_option maxRecDepth 8000 in
theorem e_X6_found_0 : tabF k_X6_found 0 = f_loadI 1 1 := rfl
set_option maxRecDepth 8000 in
theorem e_X6_found_1 : tabF k_X6_found 1 = f_push 0 1 := rfl
set_option maxRecDepth 8000 in
theorem e_X6_found_2 : tabF k_X6_found 2 = f_loadR 0 1 := rfl
set_option maxRecDepth 8000 in
theorem e_X6_found_3 : tabF k_X6_found 3 = f_getI 5 10 := rfl
set_option maxRecDepth 8000 in
theorem e_X6_found_6 : tabF k_X6_found 6 = f_push 1 1 := rfl
set_option maxRecDepth 8000 in
theorem e_X6_found_7 : tabF k_X6_found 7 = f_sub := rfl
set_option maxRecDepth 8000 in
theorem e_X6_found_8 : tabF k_X6_found 8 = f_callS 78 3 := rfl
set_option maxRecDepth 8000 in
theorem e_X6_found_11 : tabF k_X6_found 11 = f_if0 cNe cEq 16 := rfl
set_option maxRecDepth 8000 in
theorem e_X6_found_14 : tabF k_X6_found 14 = f_push (-1) 1 := rfl
set_option maxRecDepth 8000 in
theorem e_X6_found_15 : tabF k_X6_found 15 = f_iret := rfl
set_option maxRecDepth 8000 in
theorem e_X6_found_16 : tabF k_X6_found 16 = f_loadI 2 1 := rfl
set_option maxRecDepth 8000 in
theorem e_X6_found_17 : tabF k_X6_found 17 = f_push 0 1 := rfl
set_option maxRecDepth 8000 in
theorem e_X6_found_18 : tabF k_X6_found 18 = f_push 3 1 := rfl
set_option maxRecDepth 8000 in
theorem e_X6_found_19 : tabF k_X6_found 19 = f_callS 78 3 := rfl
set_option maxRecDepth 8000 in
theorem e_X6_found_22 : tabF k_X6_found 22 = f_if0 cEq cNe 38 := rfl
set_option maxRecDepth 8000 in
theorem e_X6_found_25 : tabF k_X6_found 25 = f_loadR 0 1 := rfl
set_option maxRecDepth 8000 in
theorem e_X6_found_26 : tabF k_X6_found 26 = f_getR 5 11 (fun i => 93) := rfl
set_option maxRecDepth 8000 in
theorem e_X6_found_29 : tabF k_X6_found 29 = f_push 4 1 := rfl
set_option maxRecDepth 8000 in
theorem e_X6_found_30 : tabF k_X6_found 30 = f_loadI 1 1 := rfl
set_option maxRecDepth 8000 in
theorem e_X6_found_31 : tabF k_X6_found 31 = f_mul := rfl
set_option maxRecDepth 8000 in
theorem e_X6_found_32 : tabF k_X6_found 32 = f_loadI 2 1 := rfl
set_option maxRecDepth 8000 in
theorem e_X6_found_33 : tabF k_X6_found 33 = f_add := rfl
set_option maxRecDepth 8000 in
theorem e_X6_found_34 : tabF k_X6_found 34 = f_iald := rfl
set_option maxRecDepth 8000 in
theorem e_X6_found_35 : tabF k_X6_found 35 = f_goto 67 := rfl
set_option maxRecDepth 8000 in
theorem e_X6_found_38 : tabF k_X6_found 38 = f_loadI 2 1 := rfl
set_option maxRecDepth 8000 in
theorem e_X6_found_39 : tabF k_X6_found 39 = f_push 4 1 := rfl
set_option maxRecDepth 8000 in
theorem e_X6_found_40 : tabF k_X6_found 40 = f_icmp cNe cEq 52 := rfl
set_option maxRecDepth 8000 in
theorem e_X6_found_43 : tabF k_X6_found 43 = f_loadR 0 1 := rfl
set_option maxRecDepth 8000 in
theorem e_X6_found_44 : tabF k_X6_found 44 = f_getR 5 12 (fun i => 94) := rfl
set_option maxRecDepth 8000 in
theorem e_X6_found_47 : tabF k_X6_found 47 = f_loadI 1 1 := rfl
set_option maxRecDepth 8000 in
theorem e_X6_found_48 : tabF k_X6_found 48 = f_iald := rfl
set_option maxRecDepth 8000 in
theorem e_X6_found_49 : tabF k_X6_found 49 = f_goto 67 := rfl
set_option maxRecDepth 8000 in
theorem e_X6_found_52 : tabF k_X6_found 52 = f_loadI 2 1 := rfl
set_option maxRecDepth 8000 in
theorem e_X6_found_53 : tabF k_X6_found 53 = f_push 5 1 := rfl
set_option maxRecDepth 8000 in
theorem e_X6_found_54 : tabF k_X6_found 54 = f_icmp cNe cEq 66 := rfl
set_option maxRecDepth 8000 in
theorem e_X6_found_57 : tabF k_X6_found 57 = f_loadR 0 1 := rfl
set_option maxRecDepth 8000 in
theorem e_X6_found_58 : tabF k_X6_found 58 = f_getR 5 13 (fun i => 95) := rfl
set_option maxRecDepth 8000 in
theorem e_X6_found_61 : tabF k_X6_found 61 = f_loadI 1 1 := rfl
set_option maxRecDepth 8000 in
theorem e_X6_found_62 : tabF k_X6_found 62 = f_iald := rfl
set_option maxRecDepth 8000 in
theorem e_X6_found_63 : tabF k_X6_found 63 = f_goto 67 := rfl
set_option maxRecDepth 8000 in
theorem e_X6_found_66 : tabF k_X6_found 66 = f_push (-1) 1 := rfl
set_option maxRecDepth 8000 in
theorem e_X6_found_67 : tabF k_X6_found 67 = f_iret := rfl
set_option maxRecDepth 8000 in
theorem e_X6_takesFound_0 : tabF k_X6_takesFound 0 = f_loadR 0 1 := rfl
set_option maxRecDepth 8000 in
theorem e_X6_takesFound_1 : tabF k_X6_takesFound 1 = f_loadR 0 1 := rfl
set_option maxRecDepth 8000 in
theorem e_X6_takesFound_2 : tabF k_X6_takesFound 2 = f_getR 5 11 (fun i => 93) := rfl
set_option maxRecDepth 8000 in
theorem e_X6_takesFound_5 : tabF k_X6_takesFound 5 = f_push 4 1 := rfl
set_option maxRecDepth 8000 in
theorem e_X6_takesFound_6 : tabF k_X6_takesFound 6 = f_loadI 1 1 := rfl
set_option maxRecDepth 8000 in
theorem e_X6_takesFound_7 : tabF k_X6_takesFound 7 = f_mul := rfl
set_option maxRecDepth 8000 in
theorem e_X6_takesFound_8 : tabF k_X6_takesFound 8 = f_iald := rfl
set_option maxRecDepth 8000 in
theorem e_X6_takesFound_9 : tabF k_X6_takesFound 9 = f_loadR 0 1 := rfl
set_option maxRecDepth 8000 in
theorem e_X6_takesFound_10 : tabF k_X6_takesFound 10 = f_getR 5 11 (fun i => 93) := rfl
set_option maxRecDepth 8000 in
theorem e_X6_takesFound_13 : tabF k_X6_takesFound 13 = f_push 4 1 := rfl
set_option maxRecDepth 8000 in
theorem e_X6_takesFound_14 : tabF k_X6_takesFound 14 = f_loadI 1 1 := rfl
set_option maxRecDepth 8000 in
theorem e_X6_takesFound_15 : tabF k_X6_takesFound 15 = f_mul := rfl
set_option maxRecDepth 8000 in
theorem e_X6_takesFound_16 : tabF k_X6_takesFound 16 = f_push 1 1 := rfl
set_option maxRecDepth 8000 in
theorem e_X6_takesFound_17 : tabF k_X6_takesFound 17 = f_add := rfl
set_option maxRecDepth 8000 in
theorem e_X6_takesFound_18 : tabF k_X6_takesFound 18 = f_iald := rfl
set_option maxRecDepth 8000 in
theorem e_X6_takesFound_19 : tabF k_X6_takesFound 19 = f_loadR 0 1 := rfl
set_option maxRecDepth 8000 in
theorem e_X6_takesFound_20 : tabF k_X6_takesFound 20 = f_getR 5 11 (fun i => 93) := rfl
set_option maxRecDepth 8000 in
theorem e_X6_takesFound_23 : tabF k_X6_takesFound 23 = f_push 4 1 := rfl
set_option maxRecDepth 8000 in
theorem e_X6_takesFound_24 : tabF k_X6_takesFound 24 = f_loadI 1 1 := rfl
set_option maxRecDepth 8000 in
theorem e_X6_takesFound_25 : tabF k_X6_takesFound 25 = f_mul := rfl
set_option maxRecDepth 8000 in
theorem e_X6_takesFound_26 : tabF k_X6_takesFound 26 = f_push 2 1 := rfl
set_option maxRecDepth 8000 in
theorem e_X6_takesFound_27 : tabF k_X6_takesFound 27 = f_add := rfl
set_option maxRecDepth 8000 in
theorem e_X6_takesFound_28 : tabF k_X6_takesFound 28 = f_iald := rfl
set_option maxRecDepth 8000 in
theorem e_X6_takesFound_29 : tabF k_X6_takesFound 29 = f_loadR 0 1 := rfl
set_option maxRecDepth 8000 in
theorem e_X6_takesFound_30 : tabF k_X6_takesFound 30 = f_getR 5 11 (fun i => 93) := rfl
set_option maxRecDepth 8000 in
theorem e_X6_takesFound_33 : tabF k_X6_takesFound 33 = f_push 4 1 := rfl
set_option maxRecDepth 8000 in
theorem e_X6_takesFound_34 : tabF k_X6_takesFound 34 = f_loadI 1 1 := rfl
set_option maxRecDepth 8000 in
theorem e_X6_takesFound_35 : tabF k_X6_takesFound 35 = f_mul := rfl
set_option maxRecDepth 8000 in
theorem e_X6_takesFound_36 : tabF k_X6_takesFound 36 = f_push 3 1 := rfl
set_option maxRecDepth 8000 in
theorem e_X6_takesFound_37 : tabF k_X6_takesFound 37 = f_add := rfl
set_option maxRecDepth 8000 in
theorem e_X6_takesFound_38 : tabF k_X6_takesFound 38 = f_iald := rfl
set_option maxRecDepth 8000 in
theorem e_X6_takesFound_39 : tabF k_X6_takesFound 39 = f_callV 5 89 4 := rfl
set_option maxRecDepth 8000 in
theorem e_X6_takesFound_42 : tabF k_X6_takesFound 42 = f_zret := rfl
set_option maxRecDepth 8000 in
theorem e_X6_closed_0 : tabF k_X6_closed 0 = f_loadI 1 1 := rfl
set_option maxRecDepth 8000 in
theorem e_X6_closed_1 : tabF k_X6_closed 1 = f_push 0 1 := rfl
set_option maxRecDepth 8000 in
theorem e_X6_closed_2 : tabF k_X6_closed 2 = f_loadR 0 1 := rfl
set_option maxRecDepth 8000 in
theorem e_X6_closed_3 : tabF k_X6_closed 3 = f_getI 5 10 := rfl
set_option maxRecDepth 8000 in
theorem e_X6_closed_6 : tabF k_X6_closed 6 = f_push 1 1 := rfl
set_option maxRecDepth 8000 in
theorem e_X6_closed_7 : tabF k_X6_closed 7 = f_sub := rfl
set_option maxRecDepth 8000 in
theorem e_X6_closed_8 : tabF k_X6_closed 8 = f_callS 78 3 := rfl
set_option maxRecDepth 8000 in
theorem e_X6_closed_11 : tabF k_X6_closed 11 = f_if0 cNe cEq 16 := rfl
set_option maxRecDepth 8000 in
theorem e_X6_closed_14 : tabF k_X6_closed 14 = f_push (-1) 1 := rfl
set_option maxRecDepth 8000 in
theorem e_X6_closed_15 : tabF k_X6_closed 15 = f_iret := rfl
set_option maxRecDepth 8000 in
theorem e_X6_closed_16 : tabF k_X6_closed 16 = f_loadR 0 1 := rfl
set_option maxRecDepth 8000 in
theorem e_X6_closed_17 : tabF k_X6_closed 17 = f_callV 5 94 0 := rfl
set_option maxRecDepth 8000 in
theorem e_X6_closed_20 : tabF k_X6_closed 20 = f_loadR 0 1 := rfl
set_option maxRecDepth 8000 in
theorem e_X6_closed_21 : tabF k_X6_closed 21 = f_loadI 1 1 := rfl
set_option maxRecDepth 8000 in
theorem e_X6_closed_22 : tabF k_X6_closed 22 = f_callV 5 106 1 := rfl
set_option maxRecDepth 8000 in
theorem e_X6_closed_25 : tabF k_X6_closed 25 = f_storeI 2 1 := rfl
set_option maxRecDepth 8000 in
theorem e_X6_closed_26 : tabF k_X6_closed 26 = f_loadR 0 1 := rfl
set_option maxRecDepth 8000 in
theorem e_X6_closed_27 : tabF k_X6_closed 27 = f_getI 5 14 := rfl
set_option maxRecDepth 8000 in
theorem e_X6_closed_30 : tabF k_X6_closed 30 = f_storeI 3 1 := rfl
set_option maxRecDepth 8000 in
theorem e_X6_closed_31 : tabF k_X6_closed 31 = f_loadR 0 1 := rfl
set_option maxRecDepth 8000 in
theorem e_X6_closed_32 : tabF k_X6_closed 32 = f_loadI 3 1 := rfl
set_option maxRecDepth 8000 in
theorem e_X6_closed_33 : tabF k_X6_closed 33 = f_callV 5 97 1 := rfl
set_option maxRecDepth 8000 in
theorem e_X6_closed_36 : tabF k_X6_closed 36 = f_storeI 4 2 := rfl
set_option maxRecDepth 8000 in
theorem e_X6_closed_38 : tabF k_X6_closed 38 = f_push 0 1 := rfl
set_option maxRecDepth 8000 in
theorem e_X6_closed_39 : tabF k_X6_closed 39 = f_storeI 5 2 := rfl
set_option maxRecDepth 8000 in
theorem e_X6_closed_41 : tabF k_X6_closed 41 = f_loadI 5 2 := rfl
set_option maxRecDepth 8000 in
theorem e_X6_closed_43 : tabF k_X6_closed 43 = f_loadI 3 1 := rfl
set_option maxRecDepth 8000 in
theorem e_X6_closed_44 : tabF k_X6_closed 44 = f_icmp cGt cLe 147 := rfl
set_option maxRecDepth 8000 in
theorem e_X6_closed_47 : tabF k_X6_closed 47 = f_loadI 3 1 := rfl
set_option maxRecDepth 8000 in
theorem e_X6_closed_48 : tabF k_X6_closed 48 = f_push 4 1 := rfl
set_option maxRecDepth 8000 in
theorem e_X6_closed_49 : tabF k_X6_closed 49 = f_icmp cGe cLt 147 := rfl
set_option maxRecDepth 8000 in
theorem e_X6_closed_52 : tabF k_X6_closed 52 = f_push 0 1 := rfl
set_option maxRecDepth 8000 in
theorem e_X6_closed_53 : tabF k_X6_closed 53 = f_storeI 6 2 := rfl
set_option maxRecDepth 8000 in
theorem e_X6_closed_55 : tabF k_X6_closed 55 = f_loadI 6 2 := rfl
set_option maxRecDepth 8000 in
theorem e_X6_closed_57 : tabF k_X6_closed 57 = f_push 16 2 := rfl
set_option maxRecDepth 8000 in
theorem e_X6_closed_59 : tabF k_X6_closed 59 = f_icmp cGe cLt 141 := rfl
set_option maxRecDepth 8000 in
theorem e_X6_closed_62 : tabF k_X6_closed 62 = f_push 0 1 := rfl
set_option maxRecDepth 8000 in
theorem e_X6_closed_63 : tabF k_X6_closed 63 = f_storeI 7 2 := rfl
set_option maxRecDepth 8000 in
theorem e_X6_closed_65 : tabF k_X6_closed 65 = f_loadI 7 2 := rfl
set_option maxRecDepth 8000 in
theorem e_X6_closed_67 : tabF k_X6_closed 67 = f_loadI 3 1 := rfl
set_option maxRecDepth 8000 in
theorem e_X6_closed_68 : tabF k_X6_closed 68 = f_icmp cGt cLe 121 := rfl
set_option maxRecDepth 8000 in
theorem e_X6_closed_71 : tabF k_X6_closed 71 = f_loadR 0 1 := rfl
set_option maxRecDepth 8000 in
theorem e_X6_closed_72 : tabF k_X6_closed 72 = f_getR 5 15 (fun i => 96) := rfl
set_option maxRecDepth 8000 in
theorem e_X6_closed_75 : tabF k_X6_closed 75 = f_loadI 7 2 := rfl
set_option maxRecDepth 8000 in
theorem e_X6_closed_77 : tabF k_X6_closed 77 = f_loadI 7 2 := rfl
set_option maxRecDepth 8000 in
theorem e_X6_closed_79 : tabF k_X6_closed 79 = f_loadI 5 2 := rfl
set_option maxRecDepth 8000 in
theorem e_X6_closed_81 : tabF k_X6_closed 81 = f_icmp cNe cEq 89 := rfl
set_option maxRecDepth 8000 in
theorem e_X6_closed_84 : tabF k_X6_closed 84 = f_loadI 6 2 := rfl
set_option maxRecDepth 8000 in
theorem e_X6_closed_86 : tabF k_X6_closed 86 = f_goto 114 := rfl
set_option maxRecDepth 8000 in
theorem e_X6_closed_89 : tabF k_X6_closed 89 = f_loadR 0 1 := rfl
set_option maxRecDepth 8000 in
theorem e_X6_closed_90 : tabF k_X6_closed 90 = f_getR 5 11 (fun i => 93) := rfl
set_option maxRecDepth 8000 in
theorem e_X6_closed_93 : tabF k_X6_closed 93 = f_push 4 1 := rfl
set_option maxRecDepth 8000 in
theorem e_X6_closed_94 : tabF k_X6_closed 94 = f_loadI 1 1 := rfl
set_option maxRecDepth 8000 in
theorem e_X6_closed_95 : tabF k_X6_closed 95 = f_mul := rfl
set_option maxRecDepth 8000 in
theorem e_X6_closed_96 : tabF k_X6_closed 96 = f_loadI 7 2 := rfl
set_option maxRecDepth 8000 in
theorem e_X6_closed_98 : tabF k_X6_closed 98 = f_loadI 5 2 := rfl
set_option maxRecDepth 8000 in
theorem e_X6_closed_100 : tabF k_X6_closed 100 = f_icmp cGe cLt 108 := rfl
set_option maxRecDepth 8000 in
theorem e_X6_closed_103 : tabF k_X6_closed 103 = f_loadI 7 2 := rfl
set_option maxRecDepth 8000 in
theorem e_X6_closed_105 : tabF k_X6_closed 105 = f_goto 112 := rfl
set_option maxRecDepth 8000 in
theorem e_X6_closed_108 : tabF k_X6_closed 108 = f_loadI 7 2 := rfl
set_option maxRecDepth 8000 in
theorem e_X6_closed_110 : tabF k_X6_closed 110 = f_push 1 1 := rfl
set_option maxRecDepth 8000 in
theorem e_X6_closed_111 : tabF k_X6_closed 111 = f_sub := rfl
set_option maxRecDepth 8000 in
theorem e_X6_closed_112 : tabF k_X6_closed 112 = f_add := rfl
set_option maxRecDepth 8000 in
theorem e_X6_closed_113 : tabF k_X6_closed 113 = f_iald := rfl
set_option maxRecDepth 8000 in
theorem e_X6_closed_114 : tabF k_X6_closed 114 = f_iast := rfl
set_option maxRecDepth 8000 in
theorem e_X6_closed_115 : tabF k_X6_closed 115 = f_iinc 7 1 := rfl
set_option maxRecDepth 8000 in
theorem e_X6_closed_118 : tabF k_X6_closed 118 = f_goto 65 := rfl
set_option maxRecDepth 8000 in
theorem e_X6_closed_121 : tabF k_X6_closed 121 = f_loadR 0 1 := rfl
set_option maxRecDepth 8000 in
theorem e_X6_closed_122 : tabF k_X6_closed 122 = f_loadI 3 1 := rfl
set_option maxRecDepth 8000 in
theorem e_X6_closed_123 : tabF k_X6_closed 123 = f_push 1 1 := rfl
set_option maxRecDepth 8000 in
theorem e_X6_closed_124 : tabF k_X6_closed 124 = f_add := rfl
set_option maxRecDepth 8000 in
theorem e_X6_closed_125 : tabF k_X6_closed 125 = f_callV 5 97 1 := rfl
set_option maxRecDepth 8000 in
theorem e_X6_closed_128 : tabF k_X6_closed 128 = f_loadI 4 2 := rfl
set_option maxRecDepth 8000 in
theorem e_X6_closed_130 : tabF k_X6_closed 130 = f_icmp cNe cEq 135 := rfl
set_option maxRecDepth 8000 in
theorem e_X6_closed_133 : tabF k_X6_closed 133 = f_push 0 1 := rfl
set_option maxRecDepth 8000 in
theorem e_X6_closed_134 : tabF k_X6_closed 134 = f_iret := rfl
set_option maxRecDepth 8000 in
theorem e_X6_closed_135 : tabF k_X6_closed 135 = f_iinc 6 1 := rfl
set_option maxRecDepth 8000 in
theorem e_X6_closed_138 : tabF k_X6_closed 138 = f_goto 55 := rfl
set_option maxRecDepth 8000 in
theorem e_X6_closed_141 : tabF k_X6_closed 141 = f_iinc 5 1 := rfl
set_option maxRecDepth 8000 in
theorem e_X6_closed_144 : tabF k_X6_closed 144 = f_goto 41 := rfl
set_option maxRecDepth 8000 in
theorem e_X6_closed_147 : tabF k_X6_closed 147 = f_push 0 1 := rfl
set_option maxRecDepth 8000 in
theorem e_X6_closed_148 : tabF k_X6_closed 148 = f_storeI 5 2 := rfl
set_option maxRecDepth 8000 in
theorem e_X6_closed_150 : tabF k_X6_closed 150 = f_loadI 5 2 := rfl
set_option maxRecDepth 8000 in
theorem e_X6_closed_152 : tabF k_X6_closed 152 = f_loadI 3 1 := rfl
set_option maxRecDepth 8000 in
theorem e_X6_closed_153 : tabF k_X6_closed 153 = f_icmp cGe cLt 259 := rfl
set_option maxRecDepth 8000 in
theorem e_X6_closed_156 : tabF k_X6_closed 156 = f_push 0 1 := rfl
set_option maxRecDepth 8000 in
theorem e_X6_closed_157 : tabF k_X6_closed 157 = f_storeI 6 2 := rfl
set_option maxRecDepth 8000 in
theorem e_X6_closed_159 : tabF k_X6_closed 159 = f_loadI 6 2 := rfl
set_option maxRecDepth 8000 in
theorem e_X6_closed_161 : tabF k_X6_closed 161 = f_push 16 2 := rfl
set_option maxRecDepth 8000 in
theorem e_X6_closed_163 : tabF k_X6_closed 163 = f_icmp cGe cLt 253 := rfl
set_option maxRecDepth 8000 in
theorem e_X6_closed_166 : tabF k_X6_closed 166 = f_loadR 0 1 := rfl
set_option maxRecDepth 8000 in
theorem e_X6_closed_167 : tabF k_X6_closed 167 = f_getR 5 4 (fun i => 87) := rfl
set_option maxRecDepth 8000 in
theorem e_X6_closed_170 : tabF k_X6_closed 170 = f_loadI 6 2 := rfl
set_option maxRecDepth 8000 in
theorem e_X6_closed_172 : tabF k_X6_closed 172 = f_iald := rfl
set_option maxRecDepth 8000 in
theorem e_X6_closed_173 : tabF k_X6_closed 173 = f_loadR 0 1 := rfl
set_option maxRecDepth 8000 in
theorem e_X6_closed_174 : tabF k_X6_closed 174 = f_getR 5 11 (fun i => 93) := rfl
set_option maxRecDepth 8000 in
theorem e_X6_closed_177 : tabF k_X6_closed 177 = f_push 4 1 := rfl
set_option maxRecDepth 8000 in
theorem e_X6_closed_178 : tabF k_X6_closed 178 = f_loadI 1 1 := rfl
set_option maxRecDepth 8000 in
theorem e_X6_closed_179 : tabF k_X6_closed 179 = f_mul := rfl
set_option maxRecDepth 8000 in
theorem e_X6_closed_180 : tabF k_X6_closed 180 = f_loadI 5 2 := rfl
set_option maxRecDepth 8000 in
theorem e_X6_closed_182 : tabF k_X6_closed 182 = f_add := rfl
set_option maxRecDepth 8000 in
theorem e_X6_closed_183 : tabF k_X6_closed 183 = f_iald := rfl
set_option maxRecDepth 8000 in
theorem e_X6_closed_184 : tabF k_X6_closed 184 = f_icmp cEq cNe 190 := rfl
set_option maxRecDepth 8000 in
theorem e_X6_closed_187 : tabF k_X6_closed 187 = f_goto 247 := rfl
set_option maxRecDepth 8000 in
theorem e_X6_closed_190 : tabF k_X6_closed 190 = f_push 0 1 := rfl
set_option maxRecDepth 8000 in
theorem e_X6_closed_191 : tabF k_X6_closed 191 = f_storeI 7 2 := rfl
set_option maxRecDepth 8000 in
theorem e_X6_closed_193 : tabF k_X6_closed 193 = f_loadI 7 2 := rfl
set_option maxRecDepth 8000 in
theorem e_X6_closed_195 : tabF k_X6_closed 195 = f_loadI 3 1 := rfl
set_option maxRecDepth 8000 in
theorem e_X6_closed_196 : tabF k_X6_closed 196 = f_icmp cGe cLt 235 := rfl
set_option maxRecDepth 8000 in
theorem e_X6_closed_199 : tabF k_X6_closed 199 = f_loadR 0 1 := rfl
set_option maxRecDepth 8000 in
theorem e_X6_closed_200 : tabF k_X6_closed 200 = f_getR 5 15 (fun i => 96) := rfl
set_option maxRecDepth 8000 in
theorem e_X6_closed_203 : tabF k_X6_closed 203 = f_loadI 7 2 := rfl
set_option maxRecDepth 8000 in
theorem e_X6_closed_205 : tabF k_X6_closed 205 = f_loadI 7 2 := rfl
set_option maxRecDepth 8000 in
theorem e_X6_closed_207 : tabF k_X6_closed 207 = f_loadI 5 2 := rfl
set_option maxRecDepth 8000 in
theorem e_X6_closed_209 : tabF k_X6_closed 209 = f_icmp cNe cEq 217 := rfl
set_option maxRecDepth 8000 in
theorem e_X6_closed_212 : tabF k_X6_closed 212 = f_loadI 6 2 := rfl
set_option maxRecDepth 8000 in
theorem e_X6_closed_214 : tabF k_X6_closed 214 = f_goto 228 := rfl
set_option maxRecDepth 8000 in
theorem e_X6_closed_217 : tabF k_X6_closed 217 = f_loadR 0 1 := rfl
set_option maxRecDepth 8000 in
theorem e_X6_closed_218 : tabF k_X6_closed 218 = f_getR 5 11 (fun i => 93) := rfl
set_option maxRecDepth 8000 in
theorem e_X6_closed_221 : tabF k_X6_closed 221 = f_push 4 1 := rfl
set_option maxRecDepth 8000 in
theorem e_X6_closed_222 : tabF k_X6_closed 222 = f_loadI 1 1 := rfl
set_option maxRecDepth 8000 in
theorem e_X6_closed_223 : tabF k_X6_closed 223 = f_mul := rfl
set_option maxRecDepth 8000 in
theorem e_X6_closed_224 : tabF k_X6_closed 224 = f_loadI 7 2 := rfl
set_option maxRecDepth 8000 in
theorem e_X6_closed_226 : tabF k_X6_closed 226 = f_add := rfl
set_option maxRecDepth 8000 in
theorem e_X6_closed_227 : tabF k_X6_closed 227 = f_iald := rfl
set_option maxRecDepth 8000 in
theorem e_X6_closed_228 : tabF k_X6_closed 228 = f_iast := rfl
set_option maxRecDepth 8000 in
theorem e_X6_closed_229 : tabF k_X6_closed 229 = f_iinc 7 1 := rfl
set_option maxRecDepth 8000 in
theorem e_X6_closed_232 : tabF k_X6_closed 232 = f_goto 193 := rfl
set_option maxRecDepth 8000 in
theorem e_X6_closed_235 : tabF k_X6_closed 235 = f_loadR 0 1 := rfl
set_option maxRecDepth 8000 in
theorem e_X6_closed_236 : tabF k_X6_closed 236 = f_loadI 3 1 := rfl
set_option maxRecDepth 8000 in
theorem e_X6_closed_237 : tabF k_X6_closed 237 = f_callV 5 97 1 := rfl
set_option maxRecDepth 8000 in
theorem e_X6_closed_240 : tabF k_X6_closed 240 = f_loadI 4 2 := rfl
set_option maxRecDepth 8000 in
theorem e_X6_closed_242 : tabF k_X6_closed 242 = f_icmp cNe cEq 247 := rfl
set_option maxRecDepth 8000 in
theorem e_X6_closed_245 : tabF k_X6_closed 245 = f_push 0 1 := rfl
set_option maxRecDepth 8000 in
theorem e_X6_closed_246 : tabF k_X6_closed 246 = f_iret := rfl
set_option maxRecDepth 8000 in
theorem e_X6_closed_247 : tabF k_X6_closed 247 = f_iinc 6 1 := rfl
set_option maxRecDepth 8000 in
theorem e_X6_closed_250 : tabF k_X6_closed 250 = f_goto 159 := rfl
set_option maxRecDepth 8000 in
theorem e_X6_closed_253 : tabF k_X6_closed 253 = f_iinc 5 1 := rfl
set_option maxRecDepth 8000 in
theorem e_X6_closed_256 : tabF k_X6_closed 256 = f_goto 150 := rfl
set_option maxRecDepth 8000 in
theorem e_X6_closed_259 : tabF k_X6_closed 259 = f_push 1 1 := rfl
set_option maxRecDepth 8000 in
theorem e_X6_closed_260 : tabF k_X6_closed 260 = f_iret := rfl
set_option maxRecDepth 8000 in
theorem e_X6_inHeap_0 : tabF k_X6_inHeap 0 = f_push 0 1 := rfl
set_option maxRecDepth 8000 in
theorem e_X6_inHeap_1 : tabF k_X6_inHeap 1 = f_storeI 3 1 := rfl
set_option maxRecDepth 8000 in
theorem e_X6_inHeap_2 : tabF k_X6_inHeap 2 = f_push 0 1 := rfl
set_option maxRecDepth 8000 in
theorem e_X6_inHeap_3 : tabF k_X6_inHeap 3 = f_storeI 4 2 := rfl
set_option maxRecDepth 8000 in
theorem e_X6_inHeap_5 : tabF k_X6_inHeap 5 = f_loadI 4 2 := rfl
set_option maxRecDepth 8000 in
theorem e_X6_inHeap_7 : tabF k_X6_inHeap 7 = f_loadR 0 1 := rfl
set_option maxRecDepth 8000 in
theorem e_X6_inHeap_8 : tabF k_X6_inHeap 8 = f_getI 5 0 := rfl
set_option maxRecDepth 8000 in
theorem e_X6_inHeap_11 : tabF k_X6_inHeap 11 = f_icmp cGe cLt 66 := rfl
set_option maxRecDepth 8000 in
theorem e_X6_inHeap_14 : tabF k_X6_inHeap 14 = f_loadI 3 1 := rfl
set_option maxRecDepth 8000 in
theorem e_X6_inHeap_15 : tabF k_X6_inHeap 15 = f_loadR 0 1 := rfl
set_option maxRecDepth 8000 in
theorem e_X6_inHeap_16 : tabF k_X6_inHeap 16 = f_getR 5 6 (fun i => 89) := rfl
set_option maxRecDepth 8000 in
theorem e_X6_inHeap_19 : tabF k_X6_inHeap 19 = f_loadI 4 2 := rfl
set_option maxRecDepth 8000 in
theorem e_X6_inHeap_21 : tabF k_X6_inHeap 21 = f_zald := rfl
set_option maxRecDepth 8000 in
theorem e_X6_inHeap_22 : tabF k_X6_inHeap 22 = f_if0 cNe cEq 57 := rfl
set_option maxRecDepth 8000 in
theorem e_X6_inHeap_25 : tabF k_X6_inHeap 25 = f_loadR 0 1 := rfl
set_option maxRecDepth 8000 in
theorem e_X6_inHeap_26 : tabF k_X6_inHeap 26 = f_getR 5 5 (fun i => 88) := rfl
set_option maxRecDepth 8000 in
theorem e_X6_inHeap_29 : tabF k_X6_inHeap 29 = f_loadI 4 2 := rfl
set_option maxRecDepth 8000 in
theorem e_X6_inHeap_31 : tabF k_X6_inHeap 31 = f_iald := rfl
set_option maxRecDepth 8000 in
theorem e_X6_inHeap_32 : tabF k_X6_inHeap 32 = f_loadI 1 1 := rfl
set_option maxRecDepth 8000 in
theorem e_X6_inHeap_33 : tabF k_X6_inHeap 33 = f_icmp cNe cEq 57 := rfl
set_option maxRecDepth 8000 in
theorem e_X6_inHeap_36 : tabF k_X6_inHeap 36 = f_loadI 2 1 := rfl
set_option maxRecDepth 8000 in
theorem e_X6_inHeap_37 : tabF k_X6_inHeap 37 = f_if0 cNe cEq 53 := rfl
set_option maxRecDepth 8000 in
theorem e_X6_inHeap_40 : tabF k_X6_inHeap 40 = f_loadR 0 1 := rfl
set_option maxRecDepth 8000 in
theorem e_X6_inHeap_41 : tabF k_X6_inHeap 41 = f_loadI 4 2 := rfl
set_option maxRecDepth 8000 in
theorem e_X6_inHeap_43 : tabF k_X6_inHeap 43 = f_loadR 0 1 := rfl
set_option maxRecDepth 8000 in
theorem e_X6_inHeap_44 : tabF k_X6_inHeap 44 = f_getI 5 14 := rfl
set_option maxRecDepth 8000 in
theorem e_X6_inHeap_47 : tabF k_X6_inHeap 47 = f_callV 5 96 2 := rfl
set_option maxRecDepth 8000 in
theorem e_X6_inHeap_50 : tabF k_X6_inHeap 50 = f_if0 cEq cNe 57 := rfl
set_option maxRecDepth 8000 in
theorem e_X6_inHeap_53 : tabF k_X6_inHeap 53 = f_push 1 1 := rfl
set_option maxRecDepth 8000 in
theorem e_X6_inHeap_54 : tabF k_X6_inHeap 54 = f_goto 58 := rfl
set_option maxRecDepth 8000 in
theorem e_X6_inHeap_57 : tabF k_X6_inHeap 57 = f_push 0 1 := rfl
set_option maxRecDepth 8000 in
theorem e_X6_inHeap_58 : tabF k_X6_inHeap 58 = f_add := rfl
set_option maxRecDepth 8000 in
theorem e_X6_inHeap_59 : tabF k_X6_inHeap 59 = f_storeI 3 1 := rfl
set_option maxRecDepth 8000 in
theorem e_X6_inHeap_60 : tabF k_X6_inHeap 60 = f_iinc 4 1 := rfl
set_option maxRecDepth 8000 in
theorem e_X6_inHeap_63 : tabF k_X6_inHeap 63 = f_goto 5 := rfl
set_option maxRecDepth 8000 in
theorem e_X6_inHeap_66 : tabF k_X6_inHeap 66 = f_loadI 3 1 := rfl
set_option maxRecDepth 8000 in
theorem e_X6_inHeap_67 : tabF k_X6_inHeap 67 = f_iret := rfl
set_option maxRecDepth 8000 in
theorem e_X6_best_0 : tabF k_X6_best 0 = f_loadR 0 1 := rfl
set_option maxRecDepth 8000 in
theorem e_X6_best_1 : tabF k_X6_best 1 = f_getI 5 10 := rfl
set_option maxRecDepth 8000 in
theorem e_X6_best_4 : tabF k_X6_best 4 = f_if0 cNe cEq 9 := rfl
set_option maxRecDepth 8000 in
theorem e_X6_best_7 : tabF k_X6_best 7 = f_push (-1) 1 := rfl
set_option maxRecDepth 8000 in
theorem e_X6_best_8 : tabF k_X6_best 8 = f_iret := rfl
set_option maxRecDepth 8000 in
theorem e_X6_best_9 : tabF k_X6_best 9 = f_loadR 0 1 := rfl
set_option maxRecDepth 8000 in
theorem e_X6_best_10 : tabF k_X6_best 10 = f_callV 5 94 0 := rfl
set_option maxRecDepth 8000 in
theorem e_X6_best_13 : tabF k_X6_best 13 = f_push (-1) 1 := rfl
set_option maxRecDepth 8000 in
theorem e_X6_best_14 : tabF k_X6_best 14 = f_storeI 1 1 := rfl
set_option maxRecDepth 8000 in
theorem e_X6_best_15 : tabF k_X6_best 15 = f_push 0 1 := rfl
set_option maxRecDepth 8000 in
theorem e_X6_best_16 : tabF k_X6_best 16 = f_storeI 2 1 := rfl
set_option maxRecDepth 8000 in
theorem e_X6_best_17 : tabF k_X6_best 17 = f_push 0 1 := rfl
set_option maxRecDepth 8000 in
theorem e_X6_best_18 : tabF k_X6_best 18 = f_storeI 3 1 := rfl
set_option maxRecDepth 8000 in
theorem e_X6_best_19 : tabF k_X6_best 19 = f_loadI 3 1 := rfl
set_option maxRecDepth 8000 in
theorem e_X6_best_20 : tabF k_X6_best 20 = f_loadR 0 1 := rfl
set_option maxRecDepth 8000 in
theorem e_X6_best_21 : tabF k_X6_best 21 = f_getI 5 10 := rfl
set_option maxRecDepth 8000 in
theorem e_X6_best_24 : tabF k_X6_best 24 = f_icmp cGe cLt 103 := rfl
set_option maxRecDepth 8000 in
theorem e_X6_best_27 : tabF k_X6_best 27 = f_loadR 0 1 := rfl
set_option maxRecDepth 8000 in
theorem e_X6_best_28 : tabF k_X6_best 28 = f_loadI 3 1 := rfl
set_option maxRecDepth 8000 in
theorem e_X6_best_29 : tabF k_X6_best 29 = f_callV 5 106 1 := rfl
set_option maxRecDepth 8000 in
theorem e_X6_best_32 : tabF k_X6_best 32 = f_storeI 4 2 := rfl
set_option maxRecDepth 8000 in
theorem e_X6_best_34 : tabF k_X6_best 34 = f_loadR 0 1 := rfl
set_option maxRecDepth 8000 in
theorem e_X6_best_35 : tabF k_X6_best 35 = f_push 0 1 := rfl
set_option maxRecDepth 8000 in
theorem e_X6_best_36 : tabF k_X6_best 36 = f_push 0 1 := rfl
set_option maxRecDepth 8000 in
theorem e_X6_best_37 : tabF k_X6_best 37 = f_callV 5 108 2 := rfl
set_option maxRecDepth 8000 in
theorem e_X6_best_40 : tabF k_X6_best 40 = f_loadR 0 1 := rfl
set_option maxRecDepth 8000 in
theorem e_X6_best_41 : tabF k_X6_best 41 = f_push 1 1 := rfl
set_option maxRecDepth 8000 in
theorem e_X6_best_42 : tabF k_X6_best 42 = f_push 1 1 := rfl
set_option maxRecDepth 8000 in
theorem e_X6_best_43 : tabF k_X6_best 43 = f_callV 5 108 2 := rfl
set_option maxRecDepth 8000 in
theorem e_X6_best_46 : tabF k_X6_best 46 = f_mul := rfl
set_option maxRecDepth 8000 in
theorem e_X6_best_47 : tabF k_X6_best 47 = f_loadR 0 1 := rfl
set_option maxRecDepth 8000 in
theorem e_X6_best_48 : tabF k_X6_best 48 = f_push 1 1 := rfl
set_option maxRecDepth 8000 in
theorem e_X6_best_49 : tabF k_X6_best 49 = f_push 0 1 := rfl
set_option maxRecDepth 8000 in
theorem e_X6_best_50 : tabF k_X6_best 50 = f_callV 5 108 2 := rfl
set_option maxRecDepth 8000 in
theorem e_X6_best_53 : tabF k_X6_best 53 = f_loadR 0 1 := rfl
set_option maxRecDepth 8000 in
theorem e_X6_best_54 : tabF k_X6_best 54 = f_push 0 1 := rfl
set_option maxRecDepth 8000 in
theorem e_X6_best_55 : tabF k_X6_best 55 = f_push 1 1 := rfl
set_option maxRecDepth 8000 in
theorem e_X6_best_56 : tabF k_X6_best 56 = f_callV 5 108 2 := rfl
set_option maxRecDepth 8000 in
theorem e_X6_best_59 : tabF k_X6_best 59 = f_mul := rfl
set_option maxRecDepth 8000 in
theorem e_X6_best_60 : tabF k_X6_best 60 = f_sub := rfl
set_option maxRecDepth 8000 in
theorem e_X6_best_61 : tabF k_X6_best 61 = f_storeI 5 2 := rfl
set_option maxRecDepth 8000 in
theorem e_X6_best_63 : tabF k_X6_best 63 = f_loadI 5 2 := rfl
set_option maxRecDepth 8000 in
theorem e_X6_best_65 : tabF k_X6_best 65 = f_if0 cGe cLt 74 := rfl
set_option maxRecDepth 8000 in
theorem e_X6_best_68 : tabF k_X6_best 68 = f_loadI 5 2 := rfl
set_option maxRecDepth 8000 in
theorem e_X6_best_70 : tabF k_X6_best 70 = f_neg := rfl
set_option maxRecDepth 8000 in
theorem e_X6_best_71 : tabF k_X6_best 71 = f_goto 76 := rfl
set_option maxRecDepth 8000 in
theorem e_X6_best_74 : tabF k_X6_best 74 = f_loadI 5 2 := rfl
set_option maxRecDepth 8000 in
theorem e_X6_best_76 : tabF k_X6_best 76 = f_storeI 5 2 := rfl
set_option maxRecDepth 8000 in
theorem e_X6_best_78 : tabF k_X6_best 78 = f_loadI 1 1 := rfl
set_option maxRecDepth 8000 in
theorem e_X6_best_79 : tabF k_X6_best 79 = f_push (-1) 1 := rfl
set_option maxRecDepth 8000 in
theorem e_X6_best_80 : tabF k_X6_best 80 = f_icmp cEq cNe 92 := rfl
set_option maxRecDepth 8000 in
theorem e_X6_best_83 : tabF k_X6_best 83 = f_loadI 5 2 := rfl
set_option maxRecDepth 8000 in
theorem e_X6_best_85 : tabF k_X6_best 85 = f_loadI 2 1 := rfl
set_option maxRecDepth 8000 in
theorem e_X6_best_86 : tabF k_X6_best 86 = f_icmp cGt cLe 92 := rfl
set_option maxRecDepth 8000 in
theorem e_X6_best_89 : tabF k_X6_best 89 = f_goto 97 := rfl
set_option maxRecDepth 8000 in
theorem e_X6_best_92 : tabF k_X6_best 92 = f_loadI 3 1 := rfl
set_option maxRecDepth 8000 in
theorem e_X6_best_93 : tabF k_X6_best 93 = f_storeI 1 1 := rfl
set_option maxRecDepth 8000 in
theorem e_X6_best_94 : tabF k_X6_best 94 = f_loadI 5 2 := rfl
set_option maxRecDepth 8000 in
theorem e_X6_best_96 : tabF k_X6_best 96 = f_storeI 2 1 := rfl
set_option maxRecDepth 8000 in
theorem e_X6_best_97 : tabF k_X6_best 97 = f_iinc 3 1 := rfl
set_option maxRecDepth 8000 in
theorem e_X6_best_100 : tabF k_X6_best 100 = f_goto 19 := rfl
set_option maxRecDepth 8000 in
theorem e_X6_best_103 : tabF k_X6_best 103 = f_loadI 1 1 := rfl
set_option maxRecDepth 8000 in
theorem e_X6_best_104 : tabF k_X6_best 104 = f_iret := rfl
set_option maxRecDepth 8000 in
theorem e_X6_those_0 : tabF k_X6_those 0 = f_push 0 1 := rfl
set_option maxRecDepth 8000 in
theorem e_X6_those_1 : tabF k_X6_those 1 = f_storeI 3 1 := rfl
set_option maxRecDepth 8000 in
theorem e_X6_those_2 : tabF k_X6_those 2 = f_push 0 1 := rfl
set_option maxRecDepth 8000 in
theorem e_X6_those_3 : tabF k_X6_those 3 = f_storeI 4 2 := rfl
set_option maxRecDepth 8000 in
theorem e_X6_those_5 : tabF k_X6_those 5 = f_loadI 4 2 := rfl
set_option maxRecDepth 8000 in
theorem e_X6_those_7 : tabF k_X6_those 7 = f_loadR 0 1 := rfl
set_option maxRecDepth 8000 in
theorem e_X6_those_8 : tabF k_X6_those 8 = f_getR 5 7 (fun i => 90) := rfl
set_option maxRecDepth 8000 in
theorem e_X6_those_11 : tabF k_X6_those 11 = f_loadI 1 1 := rfl
set_option maxRecDepth 8000 in
theorem e_X6_those_12 : tabF k_X6_those 12 = f_iald := rfl
set_option maxRecDepth 8000 in
theorem e_X6_those_13 : tabF k_X6_those 13 = f_icmp cGe cLt 50 := rfl
set_option maxRecDepth 8000 in
theorem e_X6_those_16 : tabF k_X6_those 16 = f_loadI 3 1 := rfl
set_option maxRecDepth 8000 in
theorem e_X6_those_17 : tabF k_X6_those 17 = f_loadR 0 1 := rfl
set_option maxRecDepth 8000 in
theorem e_X6_those_18 : tabF k_X6_those 18 = f_loadR 0 1 := rfl
set_option maxRecDepth 8000 in
theorem e_X6_those_19 : tabF k_X6_those 19 = f_getR 5 9 (fun i => 92) := rfl
set_option maxRecDepth 8000 in
theorem e_X6_those_22 : tabF k_X6_those 22 = f_push 30 2 := rfl
set_option maxRecDepth 8000 in
theorem e_X6_those_24 : tabF k_X6_those 24 = f_loadI 1 1 := rfl
set_option maxRecDepth 8000 in
theorem e_X6_those_25 : tabF k_X6_those 25 = f_mul := rfl
set_option maxRecDepth 8000 in
theorem e_X6_those_26 : tabF k_X6_those 26 = f_loadI 4 2 := rfl
set_option maxRecDepth 8000 in
theorem e_X6_those_28 : tabF k_X6_those 28 = f_add := rfl
set_option maxRecDepth 8000 in
theorem e_X6_those_29 : tabF k_X6_those 29 = f_iald := rfl
set_option maxRecDepth 8000 in
theorem e_X6_those_30 : tabF k_X6_those 30 = f_loadI 2 1 := rfl
set_option maxRecDepth 8000 in
theorem e_X6_those_31 : tabF k_X6_those 31 = f_callV 5 81 2 := rfl
set_option maxRecDepth 8000 in
theorem e_X6_those_34 : tabF k_X6_those 34 = f_if0 cEq cNe 41 := rfl
set_option maxRecDepth 8000 in
theorem e_X6_those_37 : tabF k_X6_those 37 = f_push 1 1 := rfl
set_option maxRecDepth 8000 in
theorem e_X6_those_38 : tabF k_X6_those 38 = f_goto 42 := rfl
set_option maxRecDepth 8000 in
theorem e_X6_those_41 : tabF k_X6_those 41 = f_push 0 1 := rfl
set_option maxRecDepth 8000 in
theorem e_X6_those_42 : tabF k_X6_those 42 = f_add := rfl
set_option maxRecDepth 8000 in
theorem e_X6_those_43 : tabF k_X6_those 43 = f_storeI 3 1 := rfl
set_option maxRecDepth 8000 in
theorem e_X6_those_44 : tabF k_X6_those 44 = f_iinc 4 1 := rfl
set_option maxRecDepth 8000 in
theorem e_X6_those_47 : tabF k_X6_those 47 = f_goto 5 := rfl
set_option maxRecDepth 8000 in
theorem e_X6_those_50 : tabF k_X6_those 50 = f_loadI 3 1 := rfl
set_option maxRecDepth 8000 in
theorem e_X6_those_51 : tabF k_X6_those 51 = f_iret := rfl
set_option maxRecDepth 8000 in
theorem e_X6_ways_0 : tabF k_X6_ways 0 = f_pushL 1 1 := rfl
set_option maxRecDepth 8000 in
theorem e_X6_ways_1 : tabF k_X6_ways 1 = f_storeL 2 1 := rfl
set_option maxRecDepth 8000 in
theorem e_X6_ways_2 : tabF k_X6_ways 2 = f_push 1 1 := rfl
set_option maxRecDepth 8000 in
theorem e_X6_ways_3 : tabF k_X6_ways 3 = f_storeI 4 2 := rfl
set_option maxRecDepth 8000 in
theorem e_X6_ways_5 : tabF k_X6_ways 5 = f_loadI 4 2 := rfl
set_option maxRecDepth 8000 in
theorem e_X6_ways_7 : tabF k_X6_ways 7 = f_loadI 0 1 := rfl
set_option maxRecDepth 8000 in
theorem e_X6_ways_8 : tabF k_X6_ways 8 = f_icmp cGt cLe 29 := rfl
set_option maxRecDepth 8000 in
theorem e_X6_ways_11 : tabF k_X6_ways 11 = f_loadL 2 1 := rfl
set_option maxRecDepth 8000 in
theorem e_X6_ways_12 : tabF k_X6_ways 12 = f_loadI 1 1 := rfl
set_option maxRecDepth 8000 in
theorem e_X6_ways_13 : tabF k_X6_ways 13 = f_loadI 4 2 := rfl
set_option maxRecDepth 8000 in
theorem e_X6_ways_15 : tabF k_X6_ways 15 = f_add := rfl
set_option maxRecDepth 8000 in
theorem e_X6_ways_16 : tabF k_X6_ways 16 = f_i2l := rfl
set_option maxRecDepth 8000 in
theorem e_X6_ways_17 : tabF k_X6_ways 17 = f_lmul := rfl
set_option maxRecDepth 8000 in
theorem e_X6_ways_18 : tabF k_X6_ways 18 = f_loadI 4 2 := rfl
set_option maxRecDepth 8000 in
theorem e_X6_ways_20 : tabF k_X6_ways 20 = f_i2l := rfl
set_option maxRecDepth 8000 in
theorem e_X6_ways_21 : tabF k_X6_ways 21 = f_ldiv := rfl
set_option maxRecDepth 8000 in
theorem e_X6_ways_22 : tabF k_X6_ways 22 = f_storeL 2 1 := rfl
set_option maxRecDepth 8000 in
theorem e_X6_ways_23 : tabF k_X6_ways 23 = f_iinc 4 1 := rfl
set_option maxRecDepth 8000 in
theorem e_X6_ways_26 : tabF k_X6_ways 26 = f_goto 5 := rfl
set_option maxRecDepth 8000 in
theorem e_X6_ways_29 : tabF k_X6_ways 29 = f_loadL 2 1 := rfl
set_option maxRecDepth 8000 in
theorem e_X6_ways_30 : tabF k_X6_ways 30 = f_lret := rfl
set_option maxRecDepth 8000 in
theorem e_X6_expected_0 : tabF k_X6_expected 0 = f_loadI 1 1 := rfl
set_option maxRecDepth 8000 in
theorem e_X6_expected_1 : tabF k_X6_expected 1 = f_callS 79 1 := rfl
set_option maxRecDepth 8000 in
theorem e_X6_expected_4 : tabF k_X6_expected 4 = f_if0 cEq cNe 32 := rfl
set_option maxRecDepth 8000 in
theorem e_X6_expected_7 : tabF k_X6_expected 7 = f_loadI 2 1 := rfl
set_option maxRecDepth 8000 in
theorem e_X6_expected_8 : tabF k_X6_expected 8 = f_callS 79 1 := rfl
set_option maxRecDepth 8000 in
theorem e_X6_expected_11 : tabF k_X6_expected 11 = f_if0 cEq cNe 32 := rfl
set_option maxRecDepth 8000 in
theorem e_X6_expected_14 : tabF k_X6_expected 14 = f_loadR 0 1 := rfl
set_option maxRecDepth 8000 in
theorem e_X6_expected_15 : tabF k_X6_expected 15 = f_loadI 1 1 := rfl
set_option maxRecDepth 8000 in
theorem e_X6_expected_16 : tabF k_X6_expected 16 = f_loadI 2 1 := rfl
set_option maxRecDepth 8000 in
theorem e_X6_expected_17 : tabF k_X6_expected 17 = f_callV 5 81 2 := rfl
set_option maxRecDepth 8000 in
theorem e_X6_expected_20 : tabF k_X6_expected 20 = f_if0 cNe cEq 32 := rfl
set_option maxRecDepth 8000 in
theorem e_X6_expected_23 : tabF k_X6_expected 23 = f_loadR 0 1 := rfl
set_option maxRecDepth 8000 in
theorem e_X6_expected_24 : tabF k_X6_expected 24 = f_loadI 2 1 := rfl
set_option maxRecDepth 8000 in
theorem e_X6_expected_25 : tabF k_X6_expected 25 = f_loadI 1 1 := rfl
set_option maxRecDepth 8000 in
theorem e_X6_expected_26 : tabF k_X6_expected 26 = f_callV 5 81 2 := rfl
set_option maxRecDepth 8000 in
theorem e_X6_expected_29 : tabF k_X6_expected 29 = f_if0 cEq cNe 36 := rfl
set_option maxRecDepth 8000 in
theorem e_X6_expected_32 : tabF k_X6_expected 32 = f_pushL (-1) 3 := rfl
set_option maxRecDepth 8000 in
theorem e_X6_expected_35 : tabF k_X6_expected 35 = f_lret := rfl
set_option maxRecDepth 8000 in
theorem e_X6_expected_36 : tabF k_X6_expected 36 = f_pushL 0 1 := rfl
set_option maxRecDepth 8000 in
theorem e_X6_expected_37 : tabF k_X6_expected 37 = f_storeL 3 1 := rfl
set_option maxRecDepth 8000 in
theorem e_X6_expected_38 : tabF k_X6_expected 38 = f_push 0 1 := rfl
set_option maxRecDepth 8000 in
theorem e_X6_expected_39 : tabF k_X6_expected 39 = f_storeI 5 2 := rfl
set_option maxRecDepth 8000 in
theorem e_X6_expected_41 : tabF k_X6_expected 41 = f_loadI 5 2 := rfl
set_option maxRecDepth 8000 in
theorem e_X6_expected_43 : tabF k_X6_expected 43 = f_loadR 0 1 := rfl
set_option maxRecDepth 8000 in
theorem e_X6_expected_44 : tabF k_X6_expected 44 = f_getI 5 0 := rfl
set_option maxRecDepth 8000 in
theorem e_X6_expected_47 : tabF k_X6_expected 47 = f_icmp cGe cLt 116 := rfl
set_option maxRecDepth 8000 in
theorem e_X6_expected_50 : tabF k_X6_expected 50 = f_loadR 0 1 := rfl
set_option maxRecDepth 8000 in
theorem e_X6_expected_51 : tabF k_X6_expected 51 = f_getR 5 6 (fun i => 89) := rfl
set_option maxRecDepth 8000 in
theorem e_X6_expected_54 : tabF k_X6_expected 54 = f_loadI 5 2 := rfl
set_option maxRecDepth 8000 in
theorem e_X6_expected_56 : tabF k_X6_expected 56 = f_zald := rfl
set_option maxRecDepth 8000 in
theorem e_X6_expected_57 : tabF k_X6_expected 57 = f_if0 cEq cNe 64 := rfl
set_option maxRecDepth 8000 in
theorem e_X6_expected_60 : tabF k_X6_expected 60 = f_push 0 1 := rfl
set_option maxRecDepth 8000 in
theorem e_X6_expected_61 : tabF k_X6_expected 61 = f_goto 71 := rfl
set_option maxRecDepth 8000 in
theorem e_X6_expected_64 : tabF k_X6_expected 64 = f_loadR 0 1 := rfl
set_option maxRecDepth 8000 in
theorem e_X6_expected_65 : tabF k_X6_expected 65 = f_loadI 5 2 := rfl
set_option maxRecDepth 8000 in
theorem e_X6_expected_67 : tabF k_X6_expected 67 = f_loadI 1 1 := rfl
set_option maxRecDepth 8000 in
theorem e_X6_expected_68 : tabF k_X6_expected 68 = f_callV 5 110 2 := rfl
set_option maxRecDepth 8000 in
theorem e_X6_expected_71 : tabF k_X6_expected 71 = f_storeI 6 2 := rfl
set_option maxRecDepth 8000 in
theorem e_X6_expected_73 : tabF k_X6_expected 73 = f_loadR 0 1 := rfl
set_option maxRecDepth 8000 in
theorem e_X6_expected_74 : tabF k_X6_expected 74 = f_loadI 5 2 := rfl
set_option maxRecDepth 8000 in
theorem e_X6_expected_76 : tabF k_X6_expected 76 = f_loadI 2 1 := rfl
set_option maxRecDepth 8000 in
theorem e_X6_expected_77 : tabF k_X6_expected 77 = f_callV 5 110 2 := rfl
set_option maxRecDepth 8000 in
theorem e_X6_expected_80 : tabF k_X6_expected 80 = f_storeI 7 2 := rfl
set_option maxRecDepth 8000 in
theorem e_X6_expected_82 : tabF k_X6_expected 82 = f_loadI 6 2 := rfl
set_option maxRecDepth 8000 in
theorem e_X6_expected_84 : tabF k_X6_expected 84 = f_if0 cLe cGt 110 := rfl
set_option maxRecDepth 8000 in
theorem e_X6_expected_87 : tabF k_X6_expected 87 = f_loadI 7 2 := rfl
set_option maxRecDepth 8000 in
theorem e_X6_expected_89 : tabF k_X6_expected 89 = f_if0 cLe cGt 110 := rfl
set_option maxRecDepth 8000 in
theorem e_X6_expected_92 : tabF k_X6_expected 92 = f_loadL 3 1 := rfl
set_option maxRecDepth 8000 in
theorem e_X6_expected_93 : tabF k_X6_expected 93 = f_pushL (1000000) 3 := rfl
set_option maxRecDepth 8000 in
theorem e_X6_expected_96 : tabF k_X6_expected 96 = f_pushL (1000000) 3 := rfl
set_option maxRecDepth 8000 in
theorem e_X6_expected_99 : tabF k_X6_expected 99 = f_loadI 6 2 := rfl
set_option maxRecDepth 8000 in
theorem e_X6_expected_101 : tabF k_X6_expected 101 = f_loadI 7 2 := rfl
set_option maxRecDepth 8000 in
theorem e_X6_expected_103 : tabF k_X6_expected 103 = f_callS 111 2 := rfl
set_option maxRecDepth 8000 in
theorem e_X6_expected_106 : tabF k_X6_expected 106 = f_ldiv := rfl
set_option maxRecDepth 8000 in
theorem e_X6_expected_107 : tabF k_X6_expected 107 = f_lsub := rfl
set_option maxRecDepth 8000 in
theorem e_X6_expected_108 : tabF k_X6_expected 108 = f_ladd := rfl
set_option maxRecDepth 8000 in
theorem e_X6_expected_109 : tabF k_X6_expected 109 = f_storeL 3 1 := rfl
set_option maxRecDepth 8000 in
theorem e_X6_expected_110 : tabF k_X6_expected 110 = f_iinc 5 1 := rfl
set_option maxRecDepth 8000 in
theorem e_X6_expected_113 : tabF k_X6_expected 113 = f_goto 41 := rfl
set_option maxRecDepth 8000 in
theorem e_X6_expected_116 : tabF k_X6_expected 116 = f_loadL 3 1 := rfl
set_option maxRecDepth 8000 in
theorem e_X6_expected_117 : tabF k_X6_expected 117 = f_lret := rfl
set_option maxRecDepth 8000 in
theorem e_X6_share_0 : tabF k_X6_share 0 = f_loadR 0 1 := rfl
set_option maxRecDepth 8000 in
theorem e_X6_share_1 : tabF k_X6_share 1 = f_loadI 1 1 := rfl
set_option maxRecDepth 8000 in
theorem e_X6_share_2 : tabF k_X6_share 2 = f_loadI 2 1 := rfl
set_option maxRecDepth 8000 in
theorem e_X6_share_3 : tabF k_X6_share 3 = f_loadI 3 1 := rfl
set_option maxRecDepth 8000 in
theorem e_X6_share_4 : tabF k_X6_share 4 = f_loadI 4 2 := rfl
set_option maxRecDepth 8000 in
theorem e_X6_share_6 : tabF k_X6_share 6 = f_callV 5 89 4 := rfl
set_option maxRecDepth 8000 in
theorem e_X6_share_9 : tabF k_X6_share 9 = f_if0 cEq cNe 20 := rfl
set_option maxRecDepth 8000 in
theorem e_X6_share_12 : tabF k_X6_share 12 = f_loadR 0 1 := rfl
set_option maxRecDepth 8000 in
theorem e_X6_share_13 : tabF k_X6_share 13 = f_getI 5 14 := rfl
set_option maxRecDepth 8000 in
theorem e_X6_share_16 : tabF k_X6_share 16 = f_push 1 1 := rfl
set_option maxRecDepth 8000 in
theorem e_X6_share_17 : tabF k_X6_share 17 = f_icmp cNe cEq 22 := rfl
set_option maxRecDepth 8000 in
theorem e_X6_share_20 : tabF k_X6_share 20 = f_push (-1) 1 := rfl
set_option maxRecDepth 8000 in
theorem e_X6_share_21 : tabF k_X6_share 21 = f_iret := rfl
set_option maxRecDepth 8000 in
theorem e_X6_share_22 : tabF k_X6_share 22 = f_loadR 0 1 := rfl
set_option maxRecDepth 8000 in
theorem e_X6_share_23 : tabF k_X6_share 23 = f_callV 5 94 0 := rfl
set_option maxRecDepth 8000 in
theorem e_X6_share_26 : tabF k_X6_share 26 = f_loadR 0 1 := rfl
set_option maxRecDepth 8000 in
theorem e_X6_share_27 : tabF k_X6_share 27 = f_loadR 0 1 := rfl
set_option maxRecDepth 8000 in
theorem e_X6_share_28 : tabF k_X6_share 28 = f_getI 5 14 := rfl
set_option maxRecDepth 8000 in
theorem e_X6_share_31 : tabF k_X6_share 31 = f_push 1 1 := rfl
set_option maxRecDepth 8000 in
theorem e_X6_share_32 : tabF k_X6_share 32 = f_sub := rfl
set_option maxRecDepth 8000 in
theorem e_X6_share_33 : tabF k_X6_share 33 = f_callV 5 97 1 := rfl
set_option maxRecDepth 8000 in
theorem e_X6_share_36 : tabF k_X6_share 36 = f_storeI 5 2 := rfl
set_option maxRecDepth 8000 in
theorem e_X6_share_38 : tabF k_X6_share 38 = f_loadI 5 2 := rfl
set_option maxRecDepth 8000 in
theorem e_X6_share_40 : tabF k_X6_share 40 = f_if0 cNe cEq 47 := rfl
set_option maxRecDepth 8000 in
theorem e_X6_share_43 : tabF k_X6_share 43 = f_push 0 1 := rfl
set_option maxRecDepth 8000 in
theorem e_X6_share_44 : tabF k_X6_share 44 = f_goto 62 := rfl
set_option maxRecDepth 8000 in
theorem e_X6_share_47 : tabF k_X6_share 47 = f_push 1000 3 := rfl
set_option maxRecDepth 8000 in
theorem e_X6_share_50 : tabF k_X6_share 50 = f_loadR 0 1 := rfl
set_option maxRecDepth 8000 in
theorem e_X6_share_51 : tabF k_X6_share 51 = f_loadR 0 1 := rfl
set_option maxRecDepth 8000 in
theorem e_X6_share_52 : tabF k_X6_share 52 = f_getI 5 14 := rfl
set_option maxRecDepth 8000 in
theorem e_X6_share_55 : tabF k_X6_share 55 = f_callV 5 97 1 := rfl
set_option maxRecDepth 8000 in
theorem e_X6_share_58 : tabF k_X6_share 58 = f_mul := rfl
set_option maxRecDepth 8000 in
theorem e_X6_share_59 : tabF k_X6_share 59 = f_loadI 5 2 := rfl
set_option maxRecDepth 8000 in
theorem e_X6_share_61 : tabF k_X6_share 61 = f_div := rfl
set_option maxRecDepth 8000 in
theorem e_X6_share_62 : tabF k_X6_share 62 = f_iret := rfl
set_option maxRecDepth 8000 in
theorem e_X6_isLacking_0 : tabF k_X6_isLacking 0 = f_loadR 0 1 := rfl
set_option maxRecDepth 8000 in
theorem e_X6_isLacking_1 : tabF k_X6_isLacking 1 = f_getR 5 6 (fun i => 89) := rfl
set_option maxRecDepth 8000 in
theorem e_X6_isLacking_4 : tabF k_X6_isLacking 4 = f_loadI 1 1 := rfl
set_option maxRecDepth 8000 in
theorem e_X6_isLacking_5 : tabF k_X6_isLacking 5 = f_zald := rfl
set_option maxRecDepth 8000 in
theorem e_X6_isLacking_6 : tabF k_X6_isLacking 6 = f_if0 cNe cEq 39 := rfl
set_option maxRecDepth 8000 in
theorem e_X6_isLacking_9 : tabF k_X6_isLacking 9 = f_loadR 0 1 := rfl
set_option maxRecDepth 8000 in
theorem e_X6_isLacking_10 : tabF k_X6_isLacking 10 = f_loadI 1 1 := rfl
set_option maxRecDepth 8000 in
theorem e_X6_isLacking_11 : tabF k_X6_isLacking 11 = f_loadR 0 1 := rfl
set_option maxRecDepth 8000 in
theorem e_X6_isLacking_12 : tabF k_X6_isLacking 12 = f_getI 5 14 := rfl
set_option maxRecDepth 8000 in
theorem e_X6_isLacking_15 : tabF k_X6_isLacking 15 = f_push 1 1 := rfl
set_option maxRecDepth 8000 in
theorem e_X6_isLacking_16 : tabF k_X6_isLacking 16 = f_sub := rfl
set_option maxRecDepth 8000 in
theorem e_X6_isLacking_17 : tabF k_X6_isLacking 17 = f_callV 5 96 2 := rfl
set_option maxRecDepth 8000 in
theorem e_X6_isLacking_20 : tabF k_X6_isLacking 20 = f_if0 cEq cNe 39 := rfl
set_option maxRecDepth 8000 in
theorem e_X6_isLacking_23 : tabF k_X6_isLacking 23 = f_loadR 0 1 := rfl
set_option maxRecDepth 8000 in
theorem e_X6_isLacking_24 : tabF k_X6_isLacking 24 = f_loadI 1 1 := rfl
set_option maxRecDepth 8000 in
theorem e_X6_isLacking_25 : tabF k_X6_isLacking 25 = f_loadR 0 1 := rfl
set_option maxRecDepth 8000 in
theorem e_X6_isLacking_26 : tabF k_X6_isLacking 26 = f_getI 5 14 := rfl
set_option maxRecDepth 8000 in
theorem e_X6_isLacking_29 : tabF k_X6_isLacking 29 = f_callV 5 96 2 := rfl
set_option maxRecDepth 8000 in
theorem e_X6_isLacking_32 : tabF k_X6_isLacking 32 = f_if0 cNe cEq 39 := rfl
set_option maxRecDepth 8000 in
theorem e_X6_isLacking_35 : tabF k_X6_isLacking 35 = f_push 1 1 := rfl
set_option maxRecDepth 8000 in
theorem e_X6_isLacking_36 : tabF k_X6_isLacking 36 = f_goto 40 := rfl
set_option maxRecDepth 8000 in
theorem e_X6_isLacking_39 : tabF k_X6_isLacking 39 = f_push 0 1 := rfl
set_option maxRecDepth 8000 in
theorem e_X6_isLacking_40 : tabF k_X6_isLacking 40 = f_zret := rfl
set_option maxRecDepth 8000 in
theorem e_X6_lacking_0 : tabF k_X6_lacking 0 = f_loadR 0 1 := rfl
set_option maxRecDepth 8000 in
theorem e_X6_lacking_1 : tabF k_X6_lacking 1 = f_loadI 1 1 := rfl
set_option maxRecDepth 8000 in
theorem e_X6_lacking_2 : tabF k_X6_lacking 2 = f_loadI 2 1 := rfl
set_option maxRecDepth 8000 in
theorem e_X6_lacking_3 : tabF k_X6_lacking 3 = f_loadI 3 1 := rfl
set_option maxRecDepth 8000 in
theorem e_X6_lacking_4 : tabF k_X6_lacking 4 = f_loadI 4 2 := rfl
set_option maxRecDepth 8000 in
theorem e_X6_lacking_6 : tabF k_X6_lacking 6 = f_callV 5 89 4 := rfl
set_option maxRecDepth 8000 in
theorem e_X6_lacking_9 : tabF k_X6_lacking 9 = f_if0 cEq cNe 25 := rfl
set_option maxRecDepth 8000 in
theorem e_X6_lacking_12 : tabF k_X6_lacking 12 = f_loadR 0 1 := rfl
set_option maxRecDepth 8000 in
theorem e_X6_lacking_13 : tabF k_X6_lacking 13 = f_getI 5 14 := rfl
set_option maxRecDepth 8000 in
theorem e_X6_lacking_16 : tabF k_X6_lacking 16 = f_push 1 1 := rfl
set_option maxRecDepth 8000 in
theorem e_X6_lacking_17 : tabF k_X6_lacking 17 = f_icmp cEq cNe 25 := rfl
set_option maxRecDepth 8000 in
theorem e_X6_lacking_20 : tabF k_X6_lacking 20 = f_loadI 5 2 := rfl
set_option maxRecDepth 8000 in
theorem e_X6_lacking_22 : tabF k_X6_lacking 22 = f_if0 cGe cLt 27 := rfl
set_option maxRecDepth 8000 in
theorem e_X6_lacking_25 : tabF k_X6_lacking 25 = f_push (-1) 1 := rfl
set_option maxRecDepth 8000 in
theorem e_X6_lacking_26 : tabF k_X6_lacking 26 = f_iret := rfl
set_option maxRecDepth 8000 in
theorem e_X6_lacking_27 : tabF k_X6_lacking 27 = f_loadR 0 1 := rfl
set_option maxRecDepth 8000 in
theorem e_X6_lacking_28 : tabF k_X6_lacking 28 = f_callV 5 94 0 := rfl
set_option maxRecDepth 8000 in
theorem e_X6_lacking_31 : tabF k_X6_lacking 31 = f_push 0 1 := rfl
set_option maxRecDepth 8000 in
theorem e_X6_lacking_32 : tabF k_X6_lacking 32 = f_storeI 6 2 := rfl
set_option maxRecDepth 8000 in
theorem e_X6_lacking_34 : tabF k_X6_lacking 34 = f_push 0 1 := rfl
set_option maxRecDepth 8000 in
theorem e_X6_lacking_35 : tabF k_X6_lacking 35 = f_storeI 7 2 := rfl
set_option maxRecDepth 8000 in
theorem e_X6_lacking_37 : tabF k_X6_lacking 37 = f_loadI 7 2 := rfl
set_option maxRecDepth 8000 in
theorem e_X6_lacking_39 : tabF k_X6_lacking 39 = f_loadR 0 1 := rfl
set_option maxRecDepth 8000 in
theorem e_X6_lacking_40 : tabF k_X6_lacking 40 = f_getI 5 0 := rfl
set_option maxRecDepth 8000 in
theorem e_X6_lacking_43 : tabF k_X6_lacking 43 = f_icmp cGe cLt 77 := rfl
set_option maxRecDepth 8000 in
theorem e_X6_lacking_46 : tabF k_X6_lacking 46 = f_loadR 0 1 := rfl
set_option maxRecDepth 8000 in
theorem e_X6_lacking_47 : tabF k_X6_lacking 47 = f_loadI 7 2 := rfl
set_option maxRecDepth 8000 in
theorem e_X6_lacking_49 : tabF k_X6_lacking 49 = f_callV 5 114 1 := rfl
set_option maxRecDepth 8000 in
theorem e_X6_lacking_52 : tabF k_X6_lacking 52 = f_if0 cNe cEq 58 := rfl
set_option maxRecDepth 8000 in
theorem e_X6_lacking_55 : tabF k_X6_lacking 55 = f_goto 71 := rfl
set_option maxRecDepth 8000 in
theorem e_X6_lacking_58 : tabF k_X6_lacking 58 = f_loadI 6 2 := rfl
set_option maxRecDepth 8000 in
theorem e_X6_lacking_60 : tabF k_X6_lacking 60 = f_loadI 5 2 := rfl
set_option maxRecDepth 8000 in
theorem e_X6_lacking_62 : tabF k_X6_lacking 62 = f_icmp cNe cEq 68 := rfl
set_option maxRecDepth 8000 in
theorem e_X6_lacking_65 : tabF k_X6_lacking 65 = f_loadI 7 2 := rfl
set_option maxRecDepth 8000 in
theorem e_X6_lacking_67 : tabF k_X6_lacking 67 = f_iret := rfl
set_option maxRecDepth 8000 in
theorem e_X6_lacking_68 : tabF k_X6_lacking 68 = f_iinc 6 1 := rfl
set_option maxRecDepth 8000 in
theorem e_X6_lacking_71 : tabF k_X6_lacking 71 = f_iinc 7 1 := rfl
set_option maxRecDepth 8000 in
theorem e_X6_lacking_74 : tabF k_X6_lacking 74 = f_goto 37 := rfl
set_option maxRecDepth 8000 in
theorem e_X6_lacking_77 : tabF k_X6_lacking 77 = f_push (-1) 1 := rfl
set_option maxRecDepth 8000 in
theorem e_X6_lacking_78 : tabF k_X6_lacking 78 = f_iret := rfl
set_option maxRecDepth 8000 in
theorem e_X6_sure_0 : tabF k_X6_sure 0 = f_loadR 0 1 := rfl
set_option maxRecDepth 8000 in
theorem e_X6_sure_1 : tabF k_X6_sure 1 = f_loadI 1 1 := rfl
set_option maxRecDepth 8000 in
theorem e_X6_sure_2 : tabF k_X6_sure 2 = f_callV 5 80 1 := rfl
set_option maxRecDepth 8000 in
theorem e_X6_sure_5 : tabF k_X6_sure 5 = f_if0 cEq cNe 29 := rfl
set_option maxRecDepth 8000 in
theorem e_X6_sure_8 : tabF k_X6_sure 8 = f_loadR 0 1 := rfl
set_option maxRecDepth 8000 in
theorem e_X6_sure_9 : tabF k_X6_sure 9 = f_loadI 2 1 := rfl
set_option maxRecDepth 8000 in
theorem e_X6_sure_10 : tabF k_X6_sure 10 = f_loadI 3 1 := rfl
set_option maxRecDepth 8000 in
theorem e_X6_sure_11 : tabF k_X6_sure 11 = f_loadI 4 2 := rfl
set_option maxRecDepth 8000 in
theorem e_X6_sure_13 : tabF k_X6_sure 13 = f_loadI 5 2 := rfl
set_option maxRecDepth 8000 in
theorem e_X6_sure_15 : tabF k_X6_sure 15 = f_callV 5 89 4 := rfl
set_option maxRecDepth 8000 in
theorem e_X6_sure_18 : tabF k_X6_sure 18 = f_if0 cEq cNe 29 := rfl
set_option maxRecDepth 8000 in
theorem e_X6_sure_21 : tabF k_X6_sure 21 = f_loadR 0 1 := rfl
set_option maxRecDepth 8000 in
theorem e_X6_sure_22 : tabF k_X6_sure 22 = f_getI 5 14 := rfl
set_option maxRecDepth 8000 in
theorem e_X6_sure_25 : tabF k_X6_sure 25 = f_push 1 1 := rfl
set_option maxRecDepth 8000 in
theorem e_X6_sure_26 : tabF k_X6_sure 26 = f_icmp cNe cEq 31 := rfl
set_option maxRecDepth 8000 in
theorem e_X6_sure_29 : tabF k_X6_sure 29 = f_push (-1) 1 := rfl
set_option maxRecDepth 8000 in
theorem e_X6_sure_30 : tabF k_X6_sure 30 = f_iret := rfl
set_option maxRecDepth 8000 in
theorem e_X6_sure_31 : tabF k_X6_sure 31 = f_loadR 0 1 := rfl
set_option maxRecDepth 8000 in
theorem e_X6_sure_32 : tabF k_X6_sure 32 = f_callV 5 94 0 := rfl
set_option maxRecDepth 8000 in
theorem e_X6_sure_35 : tabF k_X6_sure 35 = f_loadR 0 1 := rfl
set_option maxRecDepth 8000 in
theorem e_X6_sure_36 : tabF k_X6_sure 36 = f_loadI 1 1 := rfl
set_option maxRecDepth 8000 in
theorem e_X6_sure_37 : tabF k_X6_sure 37 = f_callV 5 114 1 := rfl
set_option maxRecDepth 8000 in
theorem e_X6_sure_40 : tabF k_X6_sure 40 = f_if0 cNe cEq 45 := rfl
set_option maxRecDepth 8000 in
theorem e_X6_sure_43 : tabF k_X6_sure 43 = f_push (-1) 1 := rfl
set_option maxRecDepth 8000 in
theorem e_X6_sure_44 : tabF k_X6_sure 44 = f_iret := rfl
set_option maxRecDepth 8000 in
theorem e_X6_sure_45 : tabF k_X6_sure 45 = f_push 0 1 := rfl
set_option maxRecDepth 8000 in
theorem e_X6_sure_46 : tabF k_X6_sure 46 = f_storeI 6 2 := rfl
set_option maxRecDepth 8000 in
theorem e_X6_sure_48 : tabF k_X6_sure 48 = f_push 0 1 := rfl
set_option maxRecDepth 8000 in
theorem e_X6_sure_49 : tabF k_X6_sure 49 = f_storeI 7 2 := rfl
set_option maxRecDepth 8000 in
theorem e_X6_sure_51 : tabF k_X6_sure 51 = f_loadI 7 2 := rfl
set_option maxRecDepth 8000 in
theorem e_X6_sure_53 : tabF k_X6_sure 53 = f_loadR 0 1 := rfl
set_option maxRecDepth 8000 in
theorem e_X6_sure_54 : tabF k_X6_sure 54 = f_getR 5 7 (fun i => 90) := rfl
set_option maxRecDepth 8000 in
theorem e_X6_sure_57 : tabF k_X6_sure 57 = f_loadI 1 1 := rfl
set_option maxRecDepth 8000 in
theorem e_X6_sure_58 : tabF k_X6_sure 58 = f_iald := rfl
set_option maxRecDepth 8000 in
theorem e_X6_sure_59 : tabF k_X6_sure 59 = f_icmp cGe cLt 86 := rfl
set_option maxRecDepth 8000 in
theorem e_X6_sure_62 : tabF k_X6_sure 62 = f_loadI 6 2 := rfl
set_option maxRecDepth 8000 in
theorem e_X6_sure_64 : tabF k_X6_sure 64 = f_loadR 0 1 := rfl
set_option maxRecDepth 8000 in
theorem e_X6_sure_65 : tabF k_X6_sure 65 = f_loadI 1 1 := rfl
set_option maxRecDepth 8000 in
theorem e_X6_sure_66 : tabF k_X6_sure 66 = f_loadI 7 2 := rfl
set_option maxRecDepth 8000 in
theorem e_X6_sure_68 : tabF k_X6_sure 68 = f_loadR 0 1 := rfl
set_option maxRecDepth 8000 in
theorem e_X6_sure_69 : tabF k_X6_sure 69 = f_getI 5 14 := rfl
set_option maxRecDepth 8000 in
theorem e_X6_sure_72 : tabF k_X6_sure 72 = f_push 1 1 := rfl
set_option maxRecDepth 8000 in
theorem e_X6_sure_73 : tabF k_X6_sure 73 = f_sub := rfl
set_option maxRecDepth 8000 in
theorem e_X6_sure_74 : tabF k_X6_sure 74 = f_callV 5 95 3 := rfl
set_option maxRecDepth 8000 in
theorem e_X6_sure_77 : tabF k_X6_sure 77 = f_or := rfl
set_option maxRecDepth 8000 in
theorem e_X6_sure_78 : tabF k_X6_sure 78 = f_storeI 6 2 := rfl
set_option maxRecDepth 8000 in
theorem e_X6_sure_80 : tabF k_X6_sure 80 = f_iinc 7 1 := rfl
set_option maxRecDepth 8000 in
theorem e_X6_sure_83 : tabF k_X6_sure 83 = f_goto 51 := rfl
set_option maxRecDepth 8000 in
theorem e_X6_sure_86 : tabF k_X6_sure 86 = f_push 0 1 := rfl
set_option maxRecDepth 8000 in
theorem e_X6_sure_87 : tabF k_X6_sure 87 = f_storeI 7 2 := rfl
set_option maxRecDepth 8000 in
theorem e_X6_sure_89 : tabF k_X6_sure 89 = f_push 0 1 := rfl
set_option maxRecDepth 8000 in
theorem e_X6_sure_90 : tabF k_X6_sure 90 = f_storeI 8 2 := rfl
set_option maxRecDepth 8000 in
theorem e_X6_sure_92 : tabF k_X6_sure 92 = f_loadI 8 2 := rfl
set_option maxRecDepth 8000 in
theorem e_X6_sure_94 : tabF k_X6_sure 94 = f_loadR 0 1 := rfl
set_option maxRecDepth 8000 in
theorem e_X6_sure_95 : tabF k_X6_sure 95 = f_getR 5 7 (fun i => 90) := rfl
set_option maxRecDepth 8000 in
theorem e_X6_sure_98 : tabF k_X6_sure 98 = f_loadI 1 1 := rfl
set_option maxRecDepth 8000 in
theorem e_X6_sure_99 : tabF k_X6_sure 99 = f_iald := rfl
set_option maxRecDepth 8000 in
theorem e_X6_sure_100 : tabF k_X6_sure 100 = f_icmp cGe cLt 129 := rfl
set_option maxRecDepth 8000 in
theorem e_X6_sure_103 : tabF k_X6_sure 103 = f_loadI 6 2 := rfl
set_option maxRecDepth 8000 in
theorem e_X6_sure_105 : tabF k_X6_sure 105 = f_loadI 8 2 := rfl
set_option maxRecDepth 8000 in
theorem e_X6_sure_107 : tabF k_X6_sure 107 = f_shr := rfl
set_option maxRecDepth 8000 in
theorem e_X6_sure_108 : tabF k_X6_sure 108 = f_push 1 1 := rfl
set_option maxRecDepth 8000 in
theorem e_X6_sure_109 : tabF k_X6_sure 109 = f_and := rfl
set_option maxRecDepth 8000 in
theorem e_X6_sure_110 : tabF k_X6_sure 110 = f_push 1 1 := rfl
set_option maxRecDepth 8000 in
theorem e_X6_sure_111 : tabF k_X6_sure 111 = f_icmp cNe cEq 119 := rfl
set_option maxRecDepth 8000 in
theorem e_X6_sure_114 : tabF k_X6_sure 114 = f_loadI 8 2 := rfl
set_option maxRecDepth 8000 in
theorem e_X6_sure_116 : tabF k_X6_sure 116 = f_goto 121 := rfl
set_option maxRecDepth 8000 in
theorem e_X6_sure_119 : tabF k_X6_sure 119 = f_loadI 7 2 := rfl
set_option maxRecDepth 8000 in
theorem e_X6_sure_121 : tabF k_X6_sure 121 = f_storeI 7 2 := rfl
set_option maxRecDepth 8000 in
theorem e_X6_sure_123 : tabF k_X6_sure 123 = f_iinc 8 1 := rfl
set_option maxRecDepth 8000 in
theorem e_X6_sure_126 : tabF k_X6_sure 126 = f_goto 92 := rfl
set_option maxRecDepth 8000 in
theorem e_X6_sure_129 : tabF k_X6_sure 129 = f_loadR 0 1 := rfl
set_option maxRecDepth 8000 in
theorem e_X6_sure_130 : tabF k_X6_sure 130 = f_getR 5 8 (fun i => 91) := rfl
set_option maxRecDepth 8000 in
theorem e_X6_sure_133 : tabF k_X6_sure 133 = f_push 30 2 := rfl
set_option maxRecDepth 8000 in
theorem e_X6_sure_135 : tabF k_X6_sure 135 = f_loadI 1 1 := rfl
set_option maxRecDepth 8000 in
theorem e_X6_sure_136 : tabF k_X6_sure 136 = f_mul := rfl
set_option maxRecDepth 8000 in
theorem e_X6_sure_137 : tabF k_X6_sure 137 = f_loadI 7 2 := rfl
set_option maxRecDepth 8000 in
theorem e_X6_sure_139 : tabF k_X6_sure 139 = f_add := rfl
set_option maxRecDepth 8000 in
theorem e_X6_sure_140 : tabF k_X6_sure 140 = f_iald := rfl
set_option maxRecDepth 8000 in
theorem e_X6_sure_141 : tabF k_X6_sure 141 = f_loadR 0 1 := rfl
set_option maxRecDepth 8000 in
theorem e_X6_sure_142 : tabF k_X6_sure 142 = f_getI 5 2 := rfl
set_option maxRecDepth 8000 in
theorem e_X6_sure_145 : tabF k_X6_sure 145 = f_add := rfl
set_option maxRecDepth 8000 in
theorem e_X6_sure_146 : tabF k_X6_sure 146 = f_storeI 8 2 := rfl
set_option maxRecDepth 8000 in
theorem e_X6_sure_148 : tabF k_X6_sure 148 = f_loadI 8 2 := rfl
set_option maxRecDepth 8000 in
theorem e_X6_sure_150 : tabF k_X6_sure 150 = f_push 9999 3 := rfl
set_option maxRecDepth 8000 in
theorem e_X6_sure_153 : tabF k_X6_sure 153 = f_icmp cGe cLt 161 := rfl
set_option maxRecDepth 8000 in
theorem e_X6_sure_156 : tabF k_X6_sure 156 = f_loadI 8 2 := rfl
set_option maxRecDepth 8000 in
theorem e_X6_sure_158 : tabF k_X6_sure 158 = f_goto 164 := rfl
set_option maxRecDepth 8000 in
theorem e_X6_sure_161 : tabF k_X6_sure 161 = f_push 9999 3 := rfl
set_option maxRecDepth 8000 in
theorem e_X6_sure_164 : tabF k_X6_sure 164 = f_iret := rfl
set_option maxRecDepth 8000 in
theorem e_X6_look_0 : tabF k_X6_look 0 = f_loadR 0 1 := rfl
set_option maxRecDepth 8000 in
theorem e_X6_look_1 : tabF k_X6_look 1 = f_loadI 1 1 := rfl
set_option maxRecDepth 8000 in
theorem e_X6_look_2 : tabF k_X6_look 2 = f_callV 5 80 1 := rfl
set_option maxRecDepth 8000 in
theorem e_X6_look_5 : tabF k_X6_look 5 = f_if0 cNe cEq 10 := rfl
set_option maxRecDepth 8000 in
theorem e_X6_look_8 : tabF k_X6_look 8 = f_push (-1) 1 := rfl
set_option maxRecDepth 8000 in
theorem e_X6_look_9 : tabF k_X6_look 9 = f_iret := rfl
set_option maxRecDepth 8000 in
theorem e_X6_look_10 : tabF k_X6_look 10 = f_loadI 2 1 := rfl
set_option maxRecDepth 8000 in
theorem e_X6_look_11 : tabF k_X6_look 11 = f_push (-1) 1 := rfl
set_option maxRecDepth 8000 in
theorem e_X6_look_12 : tabF k_X6_look 12 = f_icmp cNe cEq 66 := rfl
set_option maxRecDepth 8000 in
theorem e_X6_look_15 : tabF k_X6_look 15 = f_loadI 3 1 := rfl
set_option maxRecDepth 8000 in
theorem e_X6_look_16 : tabF k_X6_look 16 = f_if0 cNe cEq 28 := rfl
set_option maxRecDepth 8000 in
theorem e_X6_look_19 : tabF k_X6_look 19 = f_loadR 0 1 := rfl
set_option maxRecDepth 8000 in
theorem e_X6_look_20 : tabF k_X6_look 20 = f_getR 5 5 (fun i => 88) := rfl
set_option maxRecDepth 8000 in
theorem e_X6_look_23 : tabF k_X6_look 23 = f_loadI 1 1 := rfl
set_option maxRecDepth 8000 in
theorem e_X6_look_24 : tabF k_X6_look 24 = f_iald := rfl
set_option maxRecDepth 8000 in
theorem e_X6_look_25 : tabF k_X6_look 25 = f_goto 65 := rfl
set_option maxRecDepth 8000 in
theorem e_X6_look_28 : tabF k_X6_look 28 = f_loadI 3 1 := rfl
set_option maxRecDepth 8000 in
theorem e_X6_look_29 : tabF k_X6_look 29 = f_push 1 1 := rfl
set_option maxRecDepth 8000 in
theorem e_X6_look_30 : tabF k_X6_look 30 = f_icmp cNe cEq 50 := rfl
set_option maxRecDepth 8000 in
theorem e_X6_look_33 : tabF k_X6_look 33 = f_loadR 0 1 := rfl
set_option maxRecDepth 8000 in
theorem e_X6_look_34 : tabF k_X6_look 34 = f_getR 5 6 (fun i => 89) := rfl
set_option maxRecDepth 8000 in
theorem e_X6_look_37 : tabF k_X6_look 37 = f_loadI 1 1 := rfl
set_option maxRecDepth 8000 in
theorem e_X6_look_38 : tabF k_X6_look 38 = f_zald := rfl
set_option maxRecDepth 8000 in
theorem e_X6_look_39 : tabF k_X6_look 39 = f_if0 cEq cNe 46 := rfl
set_option maxRecDepth 8000 in
theorem e_X6_look_42 : tabF k_X6_look 42 = f_push 0 1 := rfl
set_option maxRecDepth 8000 in
theorem e_X6_look_43 : tabF k_X6_look 43 = f_goto 65 := rfl
set_option maxRecDepth 8000 in
theorem e_X6_look_46 : tabF k_X6_look 46 = f_push 1 1 := rfl
set_option maxRecDepth 8000 in
theorem e_X6_look_47 : tabF k_X6_look 47 = f_goto 65 := rfl
set_option maxRecDepth 8000 in
theorem e_X6_look_50 : tabF k_X6_look 50 = f_loadI 3 1 := rfl
set_option maxRecDepth 8000 in
theorem e_X6_look_51 : tabF k_X6_look 51 = f_push 2 1 := rfl
set_option maxRecDepth 8000 in
theorem e_X6_look_52 : tabF k_X6_look 52 = f_icmp cNe cEq 64 := rfl
set_option maxRecDepth 8000 in
theorem e_X6_look_55 : tabF k_X6_look 55 = f_loadR 0 1 := rfl
set_option maxRecDepth 8000 in
theorem e_X6_look_56 : tabF k_X6_look 56 = f_getR 5 7 (fun i => 90) := rfl
set_option maxRecDepth 8000 in
theorem e_X6_look_59 : tabF k_X6_look 59 = f_loadI 1 1 := rfl
set_option maxRecDepth 8000 in
theorem e_X6_look_60 : tabF k_X6_look 60 = f_iald := rfl
set_option maxRecDepth 8000 in
theorem e_X6_look_61 : tabF k_X6_look 61 = f_goto 65 := rfl
set_option maxRecDepth 8000 in
theorem e_X6_look_64 : tabF k_X6_look 64 = f_push (-1) 1 := rfl
set_option maxRecDepth 8000 in
theorem e_X6_look_65 : tabF k_X6_look 65 = f_iret := rfl
set_option maxRecDepth 8000 in
theorem e_X6_look_66 : tabF k_X6_look 66 = f_loadI 2 1 := rfl
set_option maxRecDepth 8000 in
theorem e_X6_look_67 : tabF k_X6_look 67 = f_push 0 1 := rfl
set_option maxRecDepth 8000 in
theorem e_X6_look_68 : tabF k_X6_look 68 = f_loadR 0 1 := rfl
set_option maxRecDepth 8000 in
theorem e_X6_look_69 : tabF k_X6_look 69 = f_getR 5 7 (fun i => 90) := rfl
set_option maxRecDepth 8000 in
theorem e_X6_look_72 : tabF k_X6_look 72 = f_loadI 1 1 := rfl
set_option maxRecDepth 8000 in
theorem e_X6_look_73 : tabF k_X6_look 73 = f_iald := rfl
set_option maxRecDepth 8000 in
theorem e_X6_look_74 : tabF k_X6_look 74 = f_push 1 1 := rfl
set_option maxRecDepth 8000 in
theorem e_X6_look_75 : tabF k_X6_look 75 = f_sub := rfl
set_option maxRecDepth 8000 in
theorem e_X6_look_76 : tabF k_X6_look 76 = f_callS 78 3 := rfl
set_option maxRecDepth 8000 in
theorem e_X6_look_79 : tabF k_X6_look 79 = f_if0 cNe cEq 84 := rfl
set_option maxRecDepth 8000 in
theorem e_X6_look_82 : tabF k_X6_look 82 = f_push (-1) 1 := rfl
set_option maxRecDepth 8000 in
theorem e_X6_look_83 : tabF k_X6_look 83 = f_iret := rfl
set_option maxRecDepth 8000 in
theorem e_X6_look_84 : tabF k_X6_look 84 = f_loadI 3 1 := rfl
set_option maxRecDepth 8000 in
theorem e_X6_look_85 : tabF k_X6_look 85 = f_if0 cNe cEq 102 := rfl
set_option maxRecDepth 8000 in
theorem e_X6_look_88 : tabF k_X6_look 88 = f_loadR 0 1 := rfl
set_option maxRecDepth 8000 in
theorem e_X6_look_89 : tabF k_X6_look 89 = f_getR 5 8 (fun i => 91) := rfl
set_option maxRecDepth 8000 in
theorem e_X6_look_92 : tabF k_X6_look 92 = f_push 30 2 := rfl
set_option maxRecDepth 8000 in
theorem e_X6_look_94 : tabF k_X6_look 94 = f_loadI 1 1 := rfl
set_option maxRecDepth 8000 in
theorem e_X6_look_95 : tabF k_X6_look 95 = f_mul := rfl
set_option maxRecDepth 8000 in
theorem e_X6_look_96 : tabF k_X6_look 96 = f_loadI 2 1 := rfl
set_option maxRecDepth 8000 in
theorem e_X6_look_97 : tabF k_X6_look 97 = f_add := rfl
set_option maxRecDepth 8000 in
theorem e_X6_look_98 : tabF k_X6_look 98 = f_iald := rfl
set_option maxRecDepth 8000 in
theorem e_X6_look_99 : tabF k_X6_look 99 = f_goto 122 := rfl
set_option maxRecDepth 8000 in
theorem e_X6_look_102 : tabF k_X6_look 102 = f_loadI 3 1 := rfl
set_option maxRecDepth 8000 in
theorem e_X6_look_103 : tabF k_X6_look 103 = f_push 1 1 := rfl
set_option maxRecDepth 8000 in
theorem e_X6_look_104 : tabF k_X6_look 104 = f_icmp cNe cEq 121 := rfl
set_option maxRecDepth 8000 in
theorem e_X6_look_107 : tabF k_X6_look 107 = f_loadR 0 1 := rfl
set_option maxRecDepth 8000 in
theorem e_X6_look_108 : tabF k_X6_look 108 = f_getR 5 9 (fun i => 92) := rfl
set_option maxRecDepth 8000 in
theorem e_X6_look_111 : tabF k_X6_look 111 = f_push 30 2 := rfl
set_option maxRecDepth 8000 in
theorem e_X6_look_113 : tabF k_X6_look 113 = f_loadI 1 1 := rfl
set_option maxRecDepth 8000 in
theorem e_X6_look_114 : tabF k_X6_look 114 = f_mul := rfl
set_option maxRecDepth 8000 in
theorem e_X6_look_115 : tabF k_X6_look 115 = f_loadI 2 1 := rfl
set_option maxRecDepth 8000 in
theorem e_X6_look_116 : tabF k_X6_look 116 = f_add := rfl
set_option maxRecDepth 8000 in
theorem e_X6_look_117 : tabF k_X6_look 117 = f_iald := rfl
set_option maxRecDepth 8000 in
theorem e_X6_look_118 : tabF k_X6_look 118 = f_goto 122 := rfl
set_option maxRecDepth 8000 in
theorem e_X6_look_121 : tabF k_X6_look 121 = f_push (-1) 1 := rfl
set_option maxRecDepth 8000 in
theorem e_X6_look_122 : tabF k_X6_look 122 = f_iret := rfl
set_option maxRecDepth 8000 in
theorem e_X6_tell_0 : tabF k_X6_tell 0 = f_push 0 1 := rfl
set_option maxRecDepth 8000 in
theorem e_X6_tell_1 : tabF k_X6_tell 1 = f_storeI 2 1 := rfl
set_option maxRecDepth 8000 in
theorem e_X6_tell_2 : tabF k_X6_tell 2 = f_loadI 1 1 := rfl
set_option maxRecDepth 8000 in
theorem e_X6_tell_3 : tabF k_X6_tell 3 = f_tsw 0 5 [40, 45, 80, 85, 90, 95] 100 := rfl
set_option maxRecDepth 8000 in
theorem e_X6_tell_40 : tabF k_X6_tell 40 = f_loadR 0 1 := rfl
set_option maxRecDepth 8000 in
theorem e_X6_tell_41 : tabF k_X6_tell 41 = f_getI 5 0 := rfl
set_option maxRecDepth 8000 in
theorem e_X6_tell_44 : tabF k_X6_tell 44 = f_iret := rfl
set_option maxRecDepth 8000 in
theorem e_X6_tell_45 : tabF k_X6_tell 45 = f_push 0 1 := rfl
set_option maxRecDepth 8000 in
theorem e_X6_tell_46 : tabF k_X6_tell 46 = f_storeI 3 1 := rfl
set_option maxRecDepth 8000 in
theorem e_X6_tell_47 : tabF k_X6_tell 47 = f_loadI 3 1 := rfl
set_option maxRecDepth 8000 in
theorem e_X6_tell_48 : tabF k_X6_tell 48 = f_loadR 0 1 := rfl
set_option maxRecDepth 8000 in
theorem e_X6_tell_49 : tabF k_X6_tell 49 = f_getI 5 0 := rfl
set_option maxRecDepth 8000 in
theorem e_X6_tell_52 : tabF k_X6_tell 52 = f_icmp cGe cLt 78 := rfl
set_option maxRecDepth 8000 in
theorem e_X6_tell_55 : tabF k_X6_tell 55 = f_loadI 2 1 := rfl
set_option maxRecDepth 8000 in
theorem e_X6_tell_56 : tabF k_X6_tell 56 = f_loadR 0 1 := rfl
set_option maxRecDepth 8000 in
theorem e_X6_tell_57 : tabF k_X6_tell 57 = f_getR 5 6 (fun i => 89) := rfl
set_option maxRecDepth 8000 in
theorem e_X6_tell_60 : tabF k_X6_tell 60 = f_loadI 3 1 := rfl
set_option maxRecDepth 8000 in
theorem e_X6_tell_61 : tabF k_X6_tell 61 = f_zald := rfl
set_option maxRecDepth 8000 in
theorem e_X6_tell_62 : tabF k_X6_tell 62 = f_if0 cEq cNe 69 := rfl
set_option maxRecDepth 8000 in
theorem e_X6_tell_65 : tabF k_X6_tell 65 = f_push 0 1 := rfl
set_option maxRecDepth 8000 in
theorem e_X6_tell_66 : tabF k_X6_tell 66 = f_goto 70 := rfl
set_option maxRecDepth 8000 in
theorem e_X6_tell_69 : tabF k_X6_tell 69 = f_push 1 1 := rfl
set_option maxRecDepth 8000 in
theorem e_X6_tell_70 : tabF k_X6_tell 70 = f_add := rfl
set_option maxRecDepth 8000 in
theorem e_X6_tell_71 : tabF k_X6_tell 71 = f_storeI 2 1 := rfl
set_option maxRecDepth 8000 in
theorem e_X6_tell_72 : tabF k_X6_tell 72 = f_iinc 3 1 := rfl
set_option maxRecDepth 8000 in
theorem e_X6_tell_75 : tabF k_X6_tell 75 = f_goto 47 := rfl
set_option maxRecDepth 8000 in
theorem e_X6_tell_78 : tabF k_X6_tell 78 = f_loadI 2 1 := rfl
set_option maxRecDepth 8000 in
theorem e_X6_tell_79 : tabF k_X6_tell 79 = f_iret := rfl
set_option maxRecDepth 8000 in
theorem e_X6_tell_80 : tabF k_X6_tell 80 = f_loadR 0 1 := rfl
set_option maxRecDepth 8000 in
theorem e_X6_tell_81 : tabF k_X6_tell 81 = f_getI 5 2 := rfl
set_option maxRecDepth 8000 in
theorem e_X6_tell_84 : tabF k_X6_tell 84 = f_iret := rfl
set_option maxRecDepth 8000 in
theorem e_X6_tell_85 : tabF k_X6_tell 85 = f_loadR 0 1 := rfl
set_option maxRecDepth 8000 in
theorem e_X6_tell_86 : tabF k_X6_tell 86 = f_getI 5 3 := rfl
set_option maxRecDepth 8000 in
theorem e_X6_tell_89 : tabF k_X6_tell 89 = f_iret := rfl
set_option maxRecDepth 8000 in
theorem e_X6_tell_90 : tabF k_X6_tell 90 = f_loadR 0 1 := rfl
set_option maxRecDepth 8000 in
theorem e_X6_tell_91 : tabF k_X6_tell 91 = f_getI 5 10 := rfl
set_option maxRecDepth 8000 in
theorem e_X6_tell_94 : tabF k_X6_tell 94 = f_iret := rfl
set_option maxRecDepth 8000 in
theorem e_X6_tell_95 : tabF k_X6_tell 95 = f_loadR 0 1 := rfl
set_option maxRecDepth 8000 in
theorem e_X6_tell_96 : tabF k_X6_tell 96 = f_getI 5 1 := rfl
set_option maxRecDepth 8000 in
theorem e_X6_tell_99 : tabF k_X6_tell 99 = f_iret := rfl
set_option maxRecDepth 8000 in
theorem e_X6_tell_100 : tabF k_X6_tell 100 = f_push (-1) 1 := rfl
set_option maxRecDepth 8000 in
theorem e_X6_tell_101 : tabF k_X6_tell 101 = f_iret := rfl
set_option maxRecDepth 8000 in
theorem e_J6_bitCount_0f7a4_0 : tabF k_J6_bitCount_0f7a4 0 = f_loadI 0 1 := rfl
set_option maxRecDepth 8000 in
theorem e_J6_bitCount_0f7a4_1 : tabF k_J6_bitCount_0f7a4 1 = f_loadI 0 1 := rfl
set_option maxRecDepth 8000 in
theorem e_J6_bitCount_0f7a4_2 : tabF k_J6_bitCount_0f7a4 2 = f_push 1 1 := rfl
set_option maxRecDepth 8000 in
theorem e_J6_bitCount_0f7a4_3 : tabF k_J6_bitCount_0f7a4 3 = f_ushr := rfl
set_option maxRecDepth 8000 in
theorem e_J6_bitCount_0f7a4_4 : tabF k_J6_bitCount_0f7a4 4 = f_push 1431655765 3 := rfl
set_option maxRecDepth 8000 in
theorem e_J6_bitCount_0f7a4_7 : tabF k_J6_bitCount_0f7a4 7 = f_and := rfl
set_option maxRecDepth 8000 in
theorem e_J6_bitCount_0f7a4_8 : tabF k_J6_bitCount_0f7a4 8 = f_sub := rfl
set_option maxRecDepth 8000 in
theorem e_J6_bitCount_0f7a4_9 : tabF k_J6_bitCount_0f7a4 9 = f_storeI 0 1 := rfl
set_option maxRecDepth 8000 in
theorem e_J6_bitCount_0f7a4_10 : tabF k_J6_bitCount_0f7a4 10 = f_loadI 0 1 := rfl
set_option maxRecDepth 8000 in
theorem e_J6_bitCount_0f7a4_11 : tabF k_J6_bitCount_0f7a4 11 = f_push 858993459 3 := rfl
set_option maxRecDepth 8000 in
theorem e_J6_bitCount_0f7a4_14 : tabF k_J6_bitCount_0f7a4 14 = f_and := rfl
set_option maxRecDepth 8000 in
theorem e_J6_bitCount_0f7a4_15 : tabF k_J6_bitCount_0f7a4 15 = f_loadI 0 1 := rfl
set_option maxRecDepth 8000 in
theorem e_J6_bitCount_0f7a4_16 : tabF k_J6_bitCount_0f7a4 16 = f_push 2 1 := rfl
set_option maxRecDepth 8000 in
theorem e_J6_bitCount_0f7a4_17 : tabF k_J6_bitCount_0f7a4 17 = f_ushr := rfl
set_option maxRecDepth 8000 in
theorem e_J6_bitCount_0f7a4_18 : tabF k_J6_bitCount_0f7a4 18 = f_push 858993459 3 := rfl
set_option maxRecDepth 8000 in
theorem e_J6_bitCount_0f7a4_21 : tabF k_J6_bitCount_0f7a4 21 = f_and := rfl
set_option maxRecDepth 8000 in
theorem e_J6_bitCount_0f7a4_22 : tabF k_J6_bitCount_0f7a4 22 = f_add := rfl
set_option maxRecDepth 8000 in
theorem e_J6_bitCount_0f7a4_23 : tabF k_J6_bitCount_0f7a4 23 = f_storeI 0 1 := rfl
set_option maxRecDepth 8000 in
theorem e_J6_bitCount_0f7a4_24 : tabF k_J6_bitCount_0f7a4 24 = f_loadI 0 1 := rfl
set_option maxRecDepth 8000 in
theorem e_J6_bitCount_0f7a4_25 : tabF k_J6_bitCount_0f7a4 25 = f_loadI 0 1 := rfl
set_option maxRecDepth 8000 in
theorem e_J6_bitCount_0f7a4_26 : tabF k_J6_bitCount_0f7a4 26 = f_push 4 1 := rfl
set_option maxRecDepth 8000 in
theorem e_J6_bitCount_0f7a4_27 : tabF k_J6_bitCount_0f7a4 27 = f_ushr := rfl
set_option maxRecDepth 8000 in
theorem e_J6_bitCount_0f7a4_28 : tabF k_J6_bitCount_0f7a4 28 = f_add := rfl
set_option maxRecDepth 8000 in
theorem e_J6_bitCount_0f7a4_29 : tabF k_J6_bitCount_0f7a4 29 = f_push 252645135 3 := rfl
set_option maxRecDepth 8000 in
theorem e_J6_bitCount_0f7a4_32 : tabF k_J6_bitCount_0f7a4 32 = f_and := rfl
set_option maxRecDepth 8000 in
theorem e_J6_bitCount_0f7a4_33 : tabF k_J6_bitCount_0f7a4 33 = f_storeI 0 1 := rfl
set_option maxRecDepth 8000 in
theorem e_J6_bitCount_0f7a4_34 : tabF k_J6_bitCount_0f7a4 34 = f_loadI 0 1 := rfl
set_option maxRecDepth 8000 in
theorem e_J6_bitCount_0f7a4_35 : tabF k_J6_bitCount_0f7a4 35 = f_loadI 0 1 := rfl
set_option maxRecDepth 8000 in
theorem e_J6_bitCount_0f7a4_36 : tabF k_J6_bitCount_0f7a4 36 = f_push 8 2 := rfl
set_option maxRecDepth 8000 in
theorem e_J6_bitCount_0f7a4_38 : tabF k_J6_bitCount_0f7a4 38 = f_ushr := rfl
set_option maxRecDepth 8000 in
theorem e_J6_bitCount_0f7a4_39 : tabF k_J6_bitCount_0f7a4 39 = f_add := rfl
set_option maxRecDepth 8000 in
theorem e_J6_bitCount_0f7a4_40 : tabF k_J6_bitCount_0f7a4 40 = f_storeI 0 1 := rfl
set_option maxRecDepth 8000 in
theorem e_J6_bitCount_0f7a4_41 : tabF k_J6_bitCount_0f7a4 41 = f_loadI 0 1 := rfl
set_option maxRecDepth 8000 in
theorem e_J6_bitCount_0f7a4_42 : tabF k_J6_bitCount_0f7a4 42 = f_loadI 0 1 := rfl
set_option maxRecDepth 8000 in
theorem e_J6_bitCount_0f7a4_43 : tabF k_J6_bitCount_0f7a4 43 = f_push 16 2 := rfl
set_option maxRecDepth 8000 in
theorem e_J6_bitCount_0f7a4_45 : tabF k_J6_bitCount_0f7a4 45 = f_ushr := rfl
set_option maxRecDepth 8000 in
theorem e_J6_bitCount_0f7a4_46 : tabF k_J6_bitCount_0f7a4 46 = f_add := rfl
set_option maxRecDepth 8000 in
theorem e_J6_bitCount_0f7a4_47 : tabF k_J6_bitCount_0f7a4 47 = f_storeI 0 1 := rfl
set_option maxRecDepth 8000 in
theorem e_J6_bitCount_0f7a4_48 : tabF k_J6_bitCount_0f7a4 48 = f_loadI 0 1 := rfl
set_option maxRecDepth 8000 in
theorem e_J6_bitCount_0f7a4_49 : tabF k_J6_bitCount_0f7a4 49 = f_push 63 2 := rfl
set_option maxRecDepth 8000 in
theorem e_J6_bitCount_0f7a4_51 : tabF k_J6_bitCount_0f7a4 51 = f_and := rfl
set_option maxRecDepth 8000 in
theorem e_J6_bitCount_0f7a4_52 : tabF k_J6_bitCount_0f7a4 52 = f_iret := rfl

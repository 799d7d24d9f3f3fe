/-! Finds: the small methods. Kinds: chains of 'just over' -/
section
variable {C : tC} {Q : tQ} {d : Nat} {M : tM}
set_option maxRecDepth 40000 in
set_option maxHeartbeats 4000000 in
theorem c_X0_forget (S : Snd C) (k : Q none (upM M 9 2 0)) : C d 0 [vR 9] M Q := by
  refine en_X0_forget S ?_
  refine Runs.go S.1 mo_X0_forget [] 6 ?_
  simp only [e_X0_forget_0, e_X0_forget_1, e_X0_forget_2, e_X0_forget_5, f_loadR, f_push, f_putI, f_vret, stN, lget, lput, clrL, lputL, lenLe, lenGe, noL, swL, List.elem_cons, List.elem_nil, List.take_succ_cons, List.take_zero, List.take_nil, List.drop_succ_cons, List.drop_zero, List.reverse_cons, List.reverse_nil, List.nil_append, List.cons_append, Option.toList_some, Option.toList_none, Bool.and_true, Bool.or_false, Bool.false_or, Bool.true_or, Bool.and_self, true_and, and_true, Nat.reduceAdd, Nat.reduceBEq, Int.reduceAdd, Int.reduceNeg, Int.reduceLE, Int.reduceLT, Int.reduceSub, Int.reduceMul, Int.reduceToNat, cEq, cNe, cLt, cGe, cGt, cLe, iR, lR, cl_0, cl_1, cl_4, cl_9, cl_86, al_2, al_3, al_5, al_13, al_6, al_7, al_8, al_10, al_11, al_87, al_88, al_90, al_91, al_92, al_93, al_94, al_95, al_96, al_97, al_98, al_99, al_100, ne_eq, not_true_eq_false, not_false_eq_true, upM_eq, upM_ni, upM_nj, upM_24, upM_48, upM_i24, upM_i48, upM_2448, upM_4824, Nat.reduceEqDiff, reduceCtorEq, or_true, true_or, Int.reduceEq, true_implies, false_implies, Int.reducePow, Int.toNat_natCast]
  exact k
set_option maxRecDepth 40000 in
set_option maxHeartbeats 4000000 in
theorem c_X0_add (S : Snd C) {x y : Int} (h : 0 ≤ M 9 2 ∧ M 9 2 ≤ 2000) (k1 : 2000 ≤ M 9 2 → Q none M) (k2 : M 9 2 < 2000 → Q none (upM (upM (upM M 10 (M 9 2).toNat x) 11 (M 9 2).toNat y) 9 2 (M 9 2 + 1))) : C d 1 [vR 9, vI x, vI y] M Q := by
  refine en_X0_add S ?_
  refine Runs.go S.1 mo_X0_add [] 25 ?_
  simp only [e_X0_add_0, e_X0_add_1, e_X0_add_4, e_X0_add_7, e_X0_add_10, e_X0_add_11, e_X0_add_14, e_X0_add_15, e_X0_add_18, e_X0_add_19, e_X0_add_20, e_X0_add_21, e_X0_add_24, e_X0_add_25, e_X0_add_28, e_X0_add_29, e_X0_add_30, e_X0_add_31, e_X0_add_32, e_X0_add_35, e_X0_add_36, e_X0_add_37, e_X0_add_40, f_add, f_dup, f_getI, f_getR, f_iast, f_icmp, f_loadI, f_loadR, f_push, f_putI, f_vret, stN, lget, lput, clrL, lputL, lenLe, lenGe, noL, swL, List.elem_cons, List.elem_nil, List.take_succ_cons, List.take_zero, List.take_nil, List.drop_succ_cons, List.drop_zero, List.reverse_cons, List.reverse_nil, List.nil_append, List.cons_append, Option.toList_some, Option.toList_none, Bool.and_true, Bool.or_false, Bool.false_or, Bool.true_or, Bool.and_self, true_and, and_true, Nat.reduceAdd, Nat.reduceBEq, Int.reduceAdd, Int.reduceNeg, Int.reduceLE, Int.reduceLT, Int.reduceSub, Int.reduceMul, Int.reduceToNat, cEq, cNe, cLt, cGe, cGt, cLe, iR, lR, cl_0, cl_1, cl_4, cl_9, cl_86, al_2, al_3, al_5, al_13, al_6, al_7, al_8, al_10, al_11, al_87, al_88, al_90, al_91, al_92, al_93, al_94, al_95, al_96, al_97, al_98, al_99, al_100, ne_eq, not_true_eq_false, not_false_eq_true, upM_eq, upM_ni, upM_nj, upM_24, upM_48, upM_i24, upM_i48, upM_2448, upM_4824, Nat.reduceEqDiff, reduceCtorEq, or_true, true_or, Int.reduceEq, true_implies, false_implies, Int.reducePow, Int.toNat_natCast]
  exact ⟨by omega, k1, fun q => ⟨by omega, by omega, k2 q⟩⟩
set_option maxRecDepth 40000 in
set_option maxHeartbeats 4000000 in
theorem c_X0_isFull (S : Snd C) (h : 0 ≤ M 9 2 ∧ M 9 2 ≤ 2000) (k : Q (some (vI (if 2000 ≤ M 9 2 then 1 else 0))) M) : C d 2 [vR 9] M Q := by
  refine en_X0_isFull S ?_
  refine Runs.go S.1 mo_X0_isFull [] 10 ?_
  simp only [e_X0_isFull_0, e_X0_isFull_1, e_X0_isFull_4, e_X0_isFull_7, e_X0_isFull_10, e_X0_isFull_11, e_X0_isFull_14, e_X0_isFull_15, f_getI, f_goto, f_icmp, f_loadR, f_push, f_zret, stN, lget, lput, clrL, lputL, lenLe, lenGe, noL, swL, List.elem_cons, List.elem_nil, List.take_succ_cons, List.take_zero, List.take_nil, List.drop_succ_cons, List.drop_zero, List.reverse_cons, List.reverse_nil, List.nil_append, List.cons_append, Option.toList_some, Option.toList_none, Bool.and_true, Bool.or_false, Bool.false_or, Bool.true_or, Bool.and_self, true_and, and_true, Nat.reduceAdd, Nat.reduceBEq, Int.reduceAdd, Int.reduceNeg, Int.reduceLE, Int.reduceLT, Int.reduceSub, Int.reduceMul, Int.reduceToNat, cEq, cNe, cLt, cGe, cGt, cLe, iR, lR, cl_0, cl_1, cl_4, cl_9, cl_86, al_2, al_3, al_5, al_13, al_6, al_7, al_8, al_10, al_11, al_87, al_88, al_90, al_91, al_92, al_93, al_94, al_95, al_96, al_97, al_98, al_99, al_100, ne_eq, not_true_eq_false, not_false_eq_true, upM_eq, upM_ni, upM_nj, upM_24, upM_48, upM_i24, upM_i48, upM_2448, upM_4824, Nat.reduceEqDiff, reduceCtorEq, or_true, true_or, Int.reduceEq, true_implies, false_implies, Int.reducePow, Int.toNat_natCast]
  refine ⟨by omega, fun q => ?_, fun q => ?_⟩
  · rw [if_neg (by omega)] at k; exact k
  · rw [if_pos (by omega)] at k; exact k
set_option maxRecDepth 40000 in
set_option maxHeartbeats 4000000 in
theorem c_X0_holds (S : Snd C) {x : Int} (hx : iR x) (h : 0 ≤ M 9 2 ∧ M 9 2 ≤ 2000) (k : Q (some (vI (if 0 ≤ x ∧ x < M 9 2 then 1 else 0))) M) : C d 3 [vR 9, vI x] M Q := by
  unfold iR at hx
  refine en_X0_holds S ?_
  refine Runs.go S.1 mo_X0_holds [] 12 ?_
  simp only [e_X0_holds_0, e_X0_holds_1, e_X0_holds_4, e_X0_holds_5, e_X0_holds_6, e_X0_holds_9, e_X0_holds_12, e_X0_holds_13, e_X0_holds_16, e_X0_holds_17, f_getI, f_goto, f_icmp, f_if0, f_loadI, f_loadR, f_push, f_zret, stN, lget, lput, clrL, lputL, lenLe, lenGe, noL, swL, List.elem_cons, List.elem_nil, List.take_succ_cons, List.take_zero, List.take_nil, List.drop_succ_cons, List.drop_zero, List.reverse_cons, List.reverse_nil, List.nil_append, List.cons_append, Option.toList_some, Option.toList_none, Bool.and_true, Bool.or_false, Bool.false_or, Bool.true_or, Bool.and_self, true_and, and_true, Nat.reduceAdd, Nat.reduceBEq, Int.reduceAdd, Int.reduceNeg, Int.reduceLE, Int.reduceLT, Int.reduceSub, Int.reduceMul, Int.reduceToNat, cEq, cNe, cLt, cGe, cGt, cLe, iR, lR, cl_0, cl_1, cl_4, cl_9, cl_86, al_2, al_3, al_5, al_13, al_6, al_7, al_8, al_10, al_11, al_87, al_88, al_90, al_91, al_92, al_93, al_94, al_95, al_96, al_97, al_98, al_99, al_100, ne_eq, not_true_eq_false, not_false_eq_true, upM_eq, upM_ni, upM_nj, upM_24, upM_48, upM_i24, upM_i48, upM_2448, upM_4824, Nat.reduceEqDiff, reduceCtorEq, or_true, true_or, Int.reduceEq, true_implies, false_implies, Int.reducePow, Int.toNat_natCast]
  repeat' (first | refine And.intro ?_ ?_ | intro _)
  all_goals first | omega | (rw [if_neg (by omega)] at k; exact k) | (rw [if_pos (by omega)] at k; exact k)
set_option maxRecDepth 40000 in
set_option maxHeartbeats 4000000 in
theorem c_X0_size (S : Snd C) (k : Q (some (vI (M 9 2))) M) : C d 4 [vR 9] M Q := by
  refine en_X0_size S ?_
  refine Runs.go S.1 mo_X0_size [] 5 ?_
  simp only [e_X0_size_0, e_X0_size_1, e_X0_size_4, f_getI, f_iret, f_loadR, stN, lget, lput, clrL, lputL, lenLe, lenGe, noL, swL, List.elem_cons, List.elem_nil, List.take_succ_cons, List.take_zero, List.take_nil, List.drop_succ_cons, List.drop_zero, List.reverse_cons, List.reverse_nil, List.nil_append, List.cons_append, Option.toList_some, Option.toList_none, Bool.and_true, Bool.or_false, Bool.false_or, Bool.true_or, Bool.and_self, true_and, and_true, Nat.reduceAdd, Nat.reduceBEq, Int.reduceAdd, Int.reduceNeg, Int.reduceLE, Int.reduceLT, Int.reduceSub, Int.reduceMul, Int.reduceToNat, cEq, cNe, cLt, cGe, cGt, cLe, iR, lR, cl_0, cl_1, cl_4, cl_9, cl_86, al_2, al_3, al_5, al_13, al_6, al_7, al_8, al_10, al_11, al_87, al_88, al_90, al_91, al_92, al_93, al_94, al_95, al_96, al_97, al_98, al_99, al_100, ne_eq, not_true_eq_false, not_false_eq_true, upM_eq, upM_ni, upM_nj, upM_24, upM_48, upM_i24, upM_i48, upM_2448, upM_4824, Nat.reduceEqDiff, reduceCtorEq, or_true, true_or, Int.reduceEq, true_implies, false_implies, Int.reducePow, Int.toNat_natCast]
  exact k
set_option maxRecDepth 40000 in
set_option maxHeartbeats 4000000 in
theorem c_X0_patternAt (S : Snd C) {x : Int} (hx : iR x) (h : 0 ≤ M 9 2 ∧ M 9 2 ≤ 2000) (k : Q (some (vI (if 0 ≤ x ∧ x < M 9 2 then M 10 x.toNat else -1))) M) : C (d + 1) 5 [vR 9, vI x] M Q := by
  refine en_X0_patternAt S ?_
  refine Runs.go S.1 mo_X0_patternAt [5] 13 ?_
  simp only [e_X0_patternAt_0, e_X0_patternAt_1, e_X0_patternAt_2, e_X0_patternAt_5, e_X0_patternAt_8, e_X0_patternAt_9, e_X0_patternAt_12, e_X0_patternAt_13, e_X0_patternAt_14, e_X0_patternAt_17, e_X0_patternAt_18, f_callV, f_getR, f_goto, f_iald, f_if0, f_iret, f_loadI, f_loadR, f_push, stN, lget, lput, clrL, lputL, lenLe, lenGe, noL, swL, List.elem_cons, List.elem_nil, List.take_succ_cons, List.take_zero, List.take_nil, List.drop_succ_cons, List.drop_zero, List.reverse_cons, List.reverse_nil, List.nil_append, List.cons_append, Option.toList_some, Option.toList_none, Bool.and_true, Bool.or_false, Bool.false_or, Bool.true_or, Bool.and_self, true_and, and_true, Nat.reduceAdd, Nat.reduceBEq, Int.reduceAdd, Int.reduceNeg, Int.reduceLE, Int.reduceLT, Int.reduceSub, Int.reduceMul, Int.reduceToNat, cEq, cNe, cLt, cGe, cGt, cLe, iR, lR, cl_0, cl_1, cl_4, cl_9, cl_86, al_2, al_3, al_5, al_13, al_6, al_7, al_8, al_10, al_11, al_87, al_88, al_90, al_91, al_92, al_93, al_94, al_95, al_96, al_97, al_98, al_99, al_100, ne_eq, not_true_eq_false, not_false_eq_true, upM_eq, upM_ni, upM_nj, upM_24, upM_48, upM_i24, upM_i48, upM_2448, upM_4824, Nat.reduceEqDiff, reduceCtorEq, or_true, true_or, Int.reduceEq, true_implies, false_implies, Int.reducePow, Int.toNat_natCast]
  refine c_X0_holds S hx h ?_
  by_cases q : 0 ≤ x ∧ x < M 9 2
  · rw [if_pos q] at k ⊢
    refine Runs.go S.1 mo_X0_patternAt [5] 13 ?_
    simp only [e_X0_patternAt_0, e_X0_patternAt_1, e_X0_patternAt_2, e_X0_patternAt_5, e_X0_patternAt_8, e_X0_patternAt_9, e_X0_patternAt_12, e_X0_patternAt_13, e_X0_patternAt_14, e_X0_patternAt_17, e_X0_patternAt_18, f_callV, f_getR, f_goto, f_iald, f_if0, f_iret, f_loadI, f_loadR, f_push, stN, lget, lput, clrL, lputL, lenLe, lenGe, noL, swL, List.elem_cons, List.elem_nil, List.take_succ_cons, List.take_zero, List.take_nil, List.drop_succ_cons, List.drop_zero, List.reverse_cons, List.reverse_nil, List.nil_append, List.cons_append, Option.toList_some, Option.toList_none, Bool.and_true, Bool.or_false, Bool.false_or, Bool.true_or, Bool.and_self, true_and, and_true, Nat.reduceAdd, Nat.reduceBEq, Int.reduceAdd, Int.reduceNeg, Int.reduceLE, Int.reduceLT, Int.reduceSub, Int.reduceMul, Int.reduceToNat, cEq, cNe, cLt, cGe, cGt, cLe, iR, lR, cl_0, cl_1, cl_4, cl_9, cl_86, al_2, al_3, al_5, al_13, al_6, al_7, al_8, al_10, al_11, al_87, al_88, al_90, al_91, al_92, al_93, al_94, al_95, al_96, al_97, al_98, al_99, al_100, ne_eq, not_true_eq_false, not_false_eq_true, upM_eq, upM_ni, upM_nj, upM_24, upM_48, upM_i24, upM_i48, upM_2448, upM_4824, Nat.reduceEqDiff, reduceCtorEq, or_true, true_or, Int.reduceEq, true_implies, false_implies, Int.reducePow, Int.toNat_natCast]
    simp [k]
    omega
  · rw [if_neg q] at k ⊢
    refine Runs.go S.1 mo_X0_patternAt [5] 13 ?_
    simp only [e_X0_patternAt_0, e_X0_patternAt_1, e_X0_patternAt_2, e_X0_patternAt_5, e_X0_patternAt_8, e_X0_patternAt_9, e_X0_patternAt_12, e_X0_patternAt_13, e_X0_patternAt_14, e_X0_patternAt_17, e_X0_patternAt_18, f_callV, f_getR, f_goto, f_iald, f_if0, f_iret, f_loadI, f_loadR, f_push, stN, lget, lput, clrL, lputL, lenLe, lenGe, noL, swL, List.elem_cons, List.elem_nil, List.take_succ_cons, List.take_zero, List.take_nil, List.drop_succ_cons, List.drop_zero, List.reverse_cons, List.reverse_nil, List.nil_append, List.cons_append, Option.toList_some, Option.toList_none, Bool.and_true, Bool.or_false, Bool.false_or, Bool.true_or, Bool.and_self, true_and, and_true, Nat.reduceAdd, Nat.reduceBEq, Int.reduceAdd, Int.reduceNeg, Int.reduceLE, Int.reduceLT, Int.reduceSub, Int.reduceMul, Int.reduceToNat, cEq, cNe, cLt, cGe, cGt, cLe, iR, lR, cl_0, cl_1, cl_4, cl_9, cl_86, al_2, al_3, al_5, al_13, al_6, al_7, al_8, al_10, al_11, al_87, al_88, al_90, al_91, al_92, al_93, al_94, al_95, al_96, al_97, al_98, al_99, al_100, ne_eq, not_true_eq_false, not_false_eq_true, upM_eq, upM_ni, upM_nj, upM_24, upM_48, upM_i24, upM_i48, upM_2448, upM_4824, Nat.reduceEqDiff, reduceCtorEq, or_true, true_or, Int.reduceEq, true_implies, false_implies, Int.reducePow, Int.toNat_natCast]
    simp [k]
set_option maxRecDepth 40000 in
set_option maxHeartbeats 4000000 in
theorem c_X0_rowsThenAt (S : Snd C) {x : Int} (hx : iR x) (h : 0 ≤ M 9 2 ∧ M 9 2 ≤ 2000) (k : Q (some (vI (if 0 ≤ x ∧ x < M 9 2 then M 11 x.toNat else 0))) M) : C (d + 1) 6 [vR 9, vI x] M Q := by
  refine en_X0_rowsThenAt S ?_
  refine Runs.go S.1 mo_X0_rowsThenAt [5] 13 ?_
  simp only [e_X0_rowsThenAt_0, e_X0_rowsThenAt_1, e_X0_rowsThenAt_2, e_X0_rowsThenAt_5, e_X0_rowsThenAt_8, e_X0_rowsThenAt_9, e_X0_rowsThenAt_12, e_X0_rowsThenAt_13, e_X0_rowsThenAt_14, e_X0_rowsThenAt_17, e_X0_rowsThenAt_18, f_callV, f_getR, f_goto, f_iald, f_if0, f_iret, f_loadI, f_loadR, f_push, stN, lget, lput, clrL, lputL, lenLe, lenGe, noL, swL, List.elem_cons, List.elem_nil, List.take_succ_cons, List.take_zero, List.take_nil, List.drop_succ_cons, List.drop_zero, List.reverse_cons, List.reverse_nil, List.nil_append, List.cons_append, Option.toList_some, Option.toList_none, Bool.and_true, Bool.or_false, Bool.false_or, Bool.true_or, Bool.and_self, true_and, and_true, Nat.reduceAdd, Nat.reduceBEq, Int.reduceAdd, Int.reduceNeg, Int.reduceLE, Int.reduceLT, Int.reduceSub, Int.reduceMul, Int.reduceToNat, cEq, cNe, cLt, cGe, cGt, cLe, iR, lR, cl_0, cl_1, cl_4, cl_9, cl_86, al_2, al_3, al_5, al_13, al_6, al_7, al_8, al_10, al_11, al_87, al_88, al_90, al_91, al_92, al_93, al_94, al_95, al_96, al_97, al_98, al_99, al_100, ne_eq, not_true_eq_false, not_false_eq_true, upM_eq, upM_ni, upM_nj, upM_24, upM_48, upM_i24, upM_i48, upM_2448, upM_4824, Nat.reduceEqDiff, reduceCtorEq, or_true, true_or, Int.reduceEq, true_implies, false_implies, Int.reducePow, Int.toNat_natCast]
  refine c_X0_holds S hx h ?_
  by_cases q : 0 ≤ x ∧ x < M 9 2
  · rw [if_pos q] at k ⊢
    refine Runs.go S.1 mo_X0_rowsThenAt [5] 13 ?_
    simp only [e_X0_rowsThenAt_0, e_X0_rowsThenAt_1, e_X0_rowsThenAt_2, e_X0_rowsThenAt_5, e_X0_rowsThenAt_8, e_X0_rowsThenAt_9, e_X0_rowsThenAt_12, e_X0_rowsThenAt_13, e_X0_rowsThenAt_14, e_X0_rowsThenAt_17, e_X0_rowsThenAt_18, f_callV, f_getR, f_goto, f_iald, f_if0, f_iret, f_loadI, f_loadR, f_push, stN, lget, lput, clrL, lputL, lenLe, lenGe, noL, swL, List.elem_cons, List.elem_nil, List.take_succ_cons, List.take_zero, List.take_nil, List.drop_succ_cons, List.drop_zero, List.reverse_cons, List.reverse_nil, List.nil_append, List.cons_append, Option.toList_some, Option.toList_none, Bool.and_true, Bool.or_false, Bool.false_or, Bool.true_or, Bool.and_self, true_and, and_true, Nat.reduceAdd, Nat.reduceBEq, Int.reduceAdd, Int.reduceNeg, Int.reduceLE, Int.reduceLT, Int.reduceSub, Int.reduceMul, Int.reduceToNat, cEq, cNe, cLt, cGe, cGt, cLe, iR, lR, cl_0, cl_1, cl_4, cl_9, cl_86, al_2, al_3, al_5, al_13, al_6, al_7, al_8, al_10, al_11, al_87, al_88, al_90, al_91, al_92, al_93, al_94, al_95, al_96, al_97, al_98, al_99, al_100, ne_eq, not_true_eq_false, not_false_eq_true, upM_eq, upM_ni, upM_nj, upM_24, upM_48, upM_i24, upM_i48, upM_2448, upM_4824, Nat.reduceEqDiff, reduceCtorEq, or_true, true_or, Int.reduceEq, true_implies, false_implies, Int.reducePow, Int.toNat_natCast]
    simp [k]
    omega
  · rw [if_neg q] at k ⊢
    refine Runs.go S.1 mo_X0_rowsThenAt [5] 13 ?_
    simp only [e_X0_rowsThenAt_0, e_X0_rowsThenAt_1, e_X0_rowsThenAt_2, e_X0_rowsThenAt_5, e_X0_rowsThenAt_8, e_X0_rowsThenAt_9, e_X0_rowsThenAt_12, e_X0_rowsThenAt_13, e_X0_rowsThenAt_14, e_X0_rowsThenAt_17, e_X0_rowsThenAt_18, f_callV, f_getR, f_goto, f_iald, f_if0, f_iret, f_loadI, f_loadR, f_push, stN, lget, lput, clrL, lputL, lenLe, lenGe, noL, swL, List.elem_cons, List.elem_nil, List.take_succ_cons, List.take_zero, List.take_nil, List.drop_succ_cons, List.drop_zero, List.reverse_cons, List.reverse_nil, List.nil_append, List.cons_append, Option.toList_some, Option.toList_none, Bool.and_true, Bool.or_false, Bool.false_or, Bool.true_or, Bool.and_self, true_and, and_true, Nat.reduceAdd, Nat.reduceBEq, Int.reduceAdd, Int.reduceNeg, Int.reduceLE, Int.reduceLT, Int.reduceSub, Int.reduceMul, Int.reduceToNat, cEq, cNe, cLt, cGe, cGt, cLe, iR, lR, cl_0, cl_1, cl_4, cl_9, cl_86, al_2, al_3, al_5, al_13, al_6, al_7, al_8, al_10, al_11, al_87, al_88, al_90, al_91, al_92, al_93, al_94, al_95, al_96, al_97, al_98, al_99, al_100, ne_eq, not_true_eq_false, not_false_eq_true, upM_eq, upM_ni, upM_nj, upM_24, upM_48, upM_i24, upM_i48, upM_2448, upM_4824, Nat.reduceEqDiff, reduceCtorEq, or_true, true_or, Int.reduceEq, true_implies, false_implies, Int.reducePow, Int.toNat_natCast]
    simp [k]
end
/-- the mask of the chain from x on, n steps at most -/
def clm (ov : Nat → Int) : Nat → Int → Nat
  | 0, _ => 0
  | n + 1, x => if x = -1 then 0 else 2 ^ x.toNat ||| clm ov n (ov x.toNat)
/-- the chain from x on ends within n steps, in kinds -/
def eds (ov : Nat → Int) : Nat → Int → Prop
  | 0, x => x = -1
  | n + 1, x => x = -1 ∨ ((0 ≤ x ∧ x ≤ 15) ∧ eds ov n (ov x.toNat))
theorem eds.r {ov : Nat → Int} : ∀ {n : Nat} {x : Int}, eds ov n x → -1 ≤ x ∧ x ≤ 15
  | 0, x, h => by rw [show x = -1 from h]; omega
  | n + 1, x, h => by
    rcases h with h | h
    · omega
    · omega
theorem clm.lt {ov : Nat → Int} : ∀ {n : Nat} {x : Int}, eds ov n x → clm ov n x < 2 ^ 16
  | 0, x, h => by simp [clm]
  | n + 1, x, h => by
    unfold clm
    rcases h with h | ⟨h, h2⟩
    · rw [if_pos h]; omega
    · rw [if_neg (by omega)]
      refine Nat.or_lt_two_pow (Nat.pow_lt_pow_right (by omega) (by omega)) (clm.lt h2)
theorem eds.mono {ov : Nat → Int} : ∀ {n m : Nat} {x : Int}, n ≤ m → eds ov n x → eds ov m x
  | 0, 0, x, _, h => h
  | 0, m + 1, x, _, h => Or.inl h
  | n + 1, 0, x, hm, h => by omega
  | n + 1, m + 1, x, hm, h => by
    rcases h with h | ⟨h, h2⟩
    · exact Or.inl h
    · exact Or.inr ⟨h, eds.mono (by omega) h2⟩
theorem clm.mono {ov : Nat → Int} : ∀ {n m : Nat} {x : Int}, n ≤ m → eds ov n x → clm ov m x = clm ov n x
  | 0, 0, x, _, h => rfl
  | 0, m + 1, x, _, h => by unfold clm; rw [if_pos (show x = -1 from h)]
  | n + 1, 0, x, hm, h => by omega
  | n + 1, m + 1, x, hm, h => by
    unfold clm
    rcases h with h | ⟨h, h2⟩
    · rw [if_pos h, if_pos h]
    · rw [if_neg (by omega), if_neg (by omega), clm.mono (by omega) h2]
section
variable {C : tC} {Q : tQ} {d : Nat} {M : tM}
set_option maxRecDepth 40000 in
set_option maxHeartbeats 4000000 in
theorem c_X1_climb (S : Snd C) {x : Int} (hx : 0 ≤ x ∧ x ≤ 15) (h : eds (M 3) 16 x) (k : Q (some (vI ((clm (M 3) 16 x : Nat) : Int))) M) : C d 8 [vR 1, vI x] M Q := by
  refine en_X1_climb S ?_
  refine Runs.go S.1 mo_X1_climb [7] 29 ?_
  simp only [e_X1_climb_0, e_X1_climb_1, e_X1_climb_2, e_X1_climb_3, e_X1_climb_4, e_X1_climb_5, e_X1_climb_7, e_X1_climb_9, e_X1_climb_11, e_X1_climb_14, e_X1_climb_15, e_X1_climb_16, e_X1_climb_19, e_X1_climb_20, e_X1_climb_21, e_X1_climb_22, e_X1_climb_23, e_X1_climb_24, e_X1_climb_25, e_X1_climb_26, e_X1_climb_29, e_X1_climb_30, e_X1_climb_31, e_X1_climb_32, e_X1_climb_35, e_X1_climb_38, e_X1_climb_39, f_getR, f_goto, f_iald, f_icmp, f_iinc, f_iret, f_loadI, f_loadR, f_or, f_push, f_shl, f_storeI, stN, lget, lput, clrL, lputL, lenLe, lenGe, noL, swL, List.elem_cons, List.elem_nil, List.take_succ_cons, List.take_zero, List.take_nil, List.drop_succ_cons, List.drop_zero, List.reverse_cons, List.reverse_nil, List.nil_append, List.cons_append, Option.toList_some, Option.toList_none, Bool.and_true, Bool.or_false, Bool.false_or, Bool.true_or, Bool.and_self, true_and, and_true, Nat.reduceAdd, Nat.reduceBEq, Int.reduceAdd, Int.reduceNeg, Int.reduceLE, Int.reduceLT, Int.reduceSub, Int.reduceMul, Int.reduceToNat, cEq, cNe, cLt, cGe, cGt, cLe, iR, lR, cl_0, cl_1, cl_4, cl_9, cl_86, al_2, al_3, al_5, al_13, al_6, al_7, al_8, al_10, al_11, al_87, al_88, al_90, al_91, al_92, al_93, al_94, al_95, al_96, al_97, al_98, al_99, al_100, ne_eq, not_true_eq_false, not_false_eq_true, upM_eq, upM_ni, upM_nj, upM_24, upM_48, upM_i24, upM_i48, upM_2448, upM_4824, Nat.reduceEqDiff, reduceCtorEq, or_true, true_or, Int.reduceEq, true_implies, false_implies, Int.reducePow, Int.toNat_natCast]
  have loop : ∀ (n : Nat) (s : Nat) (at0 : Int) (met : Nat), s + n = 16 → met < 2 ^ 16 → eds (M 3) n at0 → met ||| clm (M 3) n at0 = clm (M 3) 16 x → Runs C (tabF k_X1_climb) d Q 7 [some (vR 1), some (vI x), some (vI met), some (vI at0), some (vI s)] [] M := by
    intro n
    induction n with
    | zero =>
      intro s at0 met hs hm he hc
      have := eds.r he
      refine Runs.go S.1 mo_X1_climb [7] 29 ?_
      simp only [e_X1_climb_0, e_X1_climb_1, e_X1_climb_2, e_X1_climb_3, e_X1_climb_4, e_X1_climb_5, e_X1_climb_7, e_X1_climb_9, e_X1_climb_11, e_X1_climb_14, e_X1_climb_15, e_X1_climb_16, e_X1_climb_19, e_X1_climb_20, e_X1_climb_21, e_X1_climb_22, e_X1_climb_23, e_X1_climb_24, e_X1_climb_25, e_X1_climb_26, e_X1_climb_29, e_X1_climb_30, e_X1_climb_31, e_X1_climb_32, e_X1_climb_35, e_X1_climb_38, e_X1_climb_39, f_getR, f_goto, f_iald, f_icmp, f_iinc, f_iret, f_loadI, f_loadR, f_or, f_push, f_shl, f_storeI, stN, lget, lput, clrL, lputL, lenLe, lenGe, noL, swL, List.elem_cons, List.elem_nil, List.take_succ_cons, List.take_zero, List.take_nil, List.drop_succ_cons, List.drop_zero, List.reverse_cons, List.reverse_nil, List.nil_append, List.cons_append, Option.toList_some, Option.toList_none, Bool.and_true, Bool.or_false, Bool.false_or, Bool.true_or, Bool.and_self, true_and, and_true, Nat.reduceAdd, Nat.reduceBEq, Int.reduceAdd, Int.reduceNeg, Int.reduceLE, Int.reduceLT, Int.reduceSub, Int.reduceMul, Int.reduceToNat, cEq, cNe, cLt, cGe, cGt, cLe, iR, lR, cl_0, cl_1, cl_4, cl_9, cl_86, al_2, al_3, al_5, al_13, al_6, al_7, al_8, al_10, al_11, al_87, al_88, al_90, al_91, al_92, al_93, al_94, al_95, al_96, al_97, al_98, al_99, al_100, ne_eq, not_true_eq_false, not_false_eq_true, upM_eq, upM_ni, upM_nj, upM_24, upM_48, upM_i24, upM_i48, upM_2448, upM_4824, Nat.reduceEqDiff, reduceCtorEq, or_true, true_or, Int.reduceEq, true_implies, false_implies, Int.reducePow, Int.toNat_natCast]
      refine ⟨by omega, fun _ => ?_, fun _ => by omega⟩
      rw [show clm (M 3) 0 at0 = 0 from rfl, Nat.or_zero] at hc
      rw [hc]
      exact k
    | succ n ih =>
      intro s at0 met hs hm he hc
      have hr := eds.r he
      refine Runs.go S.1 mo_X1_climb [7] 29 ?_
      simp only [e_X1_climb_0, e_X1_climb_1, e_X1_climb_2, e_X1_climb_3, e_X1_climb_4, e_X1_climb_5, e_X1_climb_7, e_X1_climb_9, e_X1_climb_11, e_X1_climb_14, e_X1_climb_15, e_X1_climb_16, e_X1_climb_19, e_X1_climb_20, e_X1_climb_21, e_X1_climb_22, e_X1_climb_23, e_X1_climb_24, e_X1_climb_25, e_X1_climb_26, e_X1_climb_29, e_X1_climb_30, e_X1_climb_31, e_X1_climb_32, e_X1_climb_35, e_X1_climb_38, e_X1_climb_39, f_getR, f_goto, f_iald, f_icmp, f_iinc, f_iret, f_loadI, f_loadR, f_or, f_push, f_shl, f_storeI, stN, lget, lput, clrL, lputL, lenLe, lenGe, noL, swL, List.elem_cons, List.elem_nil, List.take_succ_cons, List.take_zero, List.take_nil, List.drop_succ_cons, List.drop_zero, List.reverse_cons, List.reverse_nil, List.nil_append, List.cons_append, Option.toList_some, Option.toList_none, Bool.and_true, Bool.or_false, Bool.false_or, Bool.true_or, Bool.and_self, true_and, and_true, Nat.reduceAdd, Nat.reduceBEq, Int.reduceAdd, Int.reduceNeg, Int.reduceLE, Int.reduceLT, Int.reduceSub, Int.reduceMul, Int.reduceToNat, cEq, cNe, cLt, cGe, cGt, cLe, iR, lR, cl_0, cl_1, cl_4, cl_9, cl_86, al_2, al_3, al_5, al_13, al_6, al_7, al_8, al_10, al_11, al_87, al_88, al_90, al_91, al_92, al_93, al_94, al_95, al_96, al_97, al_98, al_99, al_100, ne_eq, not_true_eq_false, not_false_eq_true, upM_eq, upM_ni, upM_nj, upM_24, upM_48, upM_i24, upM_i48, upM_2448, upM_4824, Nat.reduceEqDiff, reduceCtorEq, or_true, true_or, Int.reduceEq, true_implies, false_implies, Int.reducePow, Int.toNat_natCast]
      refine ⟨by omega, fun _ => by omega, fun _ => ⟨by omega, fun q => ?_, fun q => ?_⟩⟩
      · unfold clm at hc
        rw [if_pos q, Nat.or_zero] at hc
        rw [hc]
        exact k
      · refine ⟨by omega, by omega, ?_⟩
        rcases he with he | ⟨-, he⟩
        · exact absurd he q
        · unfold clm at hc
          rw [if_neg q, ← Nat.or_assoc] at hc
          have e : bOr (met : Int) (1 * 2 ^ at0.toNat) = ((met ||| 2 ^ at0.toNat : Nat) : Int) := by
            have h2 : 2 ^ at0.toNat < 2 ^ 16 := Nat.pow_lt_pow_right (by omega) (by omega)
            rw [← bOr_nat (by omega) (by omega), Int.natCast_pow, Int.one_mul]
            rfl
          rw [e]
          exact ih (s + 1) _ _ (by omega) (Nat.or_lt_two_pow hm (Nat.pow_lt_pow_right (by omega) (by omega))) he hc
  exact loop 16 0 x 0 (by omega) (by omega) h (by rw [Nat.zero_or])
set_option maxRecDepth 40000 in
set_option maxHeartbeats 4000000 in
theorem c_X1_is (S : Snd C) {x y : Int} (hx : 0 ≤ x ∧ x ≤ 15) (hy : 0 ≤ y ∧ y ≤ 15) {w : Nat} (hw : M 2 x.toNat = w) (h16 : w < 65536) (k : Q (some (vI (if w.testBit y.toNat then 1 else 0))) M) : C d 9 [vR 1, vI x, vI y] M Q := by
  refine en_X1_is S ?_
  refine Runs.go S.1 mo_X1_is [] 15 ?_
  simp only [e_X1_is_0, e_X1_is_1, e_X1_is_4, e_X1_is_5, e_X1_is_6, e_X1_is_7, e_X1_is_8, e_X1_is_9, e_X1_is_10, e_X1_is_13, e_X1_is_14, e_X1_is_17, e_X1_is_18, f_and, f_getR, f_goto, f_iald, f_if0, f_loadI, f_loadR, f_push, f_shr, f_zret, stN, lget, lput, clrL, lputL, lenLe, lenGe, noL, swL, List.elem_cons, List.elem_nil, List.take_succ_cons, List.take_zero, List.take_nil, List.drop_succ_cons, List.drop_zero, List.reverse_cons, List.reverse_nil, List.nil_append, List.cons_append, Option.toList_some, Option.toList_none, Bool.and_true, Bool.or_false, Bool.false_or, Bool.true_or, Bool.and_self, true_and, and_true, Nat.reduceAdd, Nat.reduceBEq, Int.reduceAdd, Int.reduceNeg, Int.reduceLE, Int.reduceLT, Int.reduceSub, Int.reduceMul, Int.reduceToNat, cEq, cNe, cLt, cGe, cGt, cLe, iR, lR, cl_0, cl_1, cl_4, cl_9, cl_86, al_2, al_3, al_5, al_13, al_6, al_7, al_8, al_10, al_11, al_87, al_88, al_90, al_91, al_92, al_93, al_94, al_95, al_96, al_97, al_98, al_99, al_100, ne_eq, not_true_eq_false, not_false_eq_true, upM_eq, upM_ni, upM_nj, upM_24, upM_48, upM_i24, upM_i48, upM_2448, upM_4824, Nat.reduceEqDiff, reduceCtorEq, or_true, true_or, Int.reduceEq, true_implies, false_implies, Int.reducePow, Int.toNat_natCast]
  rw [hw, bit_ask]
  by_cases q : w.testBit y.toNat = true
  · rw [if_pos q] at k ⊢
    simp [k]
    omega
  · rw [if_neg q] at k ⊢
    simp [k]
    omega
set_option maxRecDepth 40000 in
set_option maxHeartbeats 4000000 in
theorem c_X1_liesJustUnder (S : Snd C) {x y : Int} (hx : 0 ≤ x ∧ x ≤ 15) (hy : iR y) (hw : iR (M 3 x.toNat)) (k : Q (some (vI (if M 3 x.toNat = y then 1 else 0))) M) : C d 10 [vR 1, vI x, vI y] M Q := by
  unfold iR at hy hw
  refine en_X1_liesJustUnder S ?_
  refine Runs.go S.1 mo_X1_liesJustUnder [] 12 ?_
  simp only [e_X1_liesJustUnder_0, e_X1_liesJustUnder_1, e_X1_liesJustUnder_4, e_X1_liesJustUnder_5, e_X1_liesJustUnder_6, e_X1_liesJustUnder_7, e_X1_liesJustUnder_10, e_X1_liesJustUnder_11, e_X1_liesJustUnder_14, e_X1_liesJustUnder_15, f_getR, f_goto, f_iald, f_icmp, f_loadI, f_loadR, f_push, f_zret, stN, lget, lput, clrL, lputL, lenLe, lenGe, noL, swL, List.elem_cons, List.elem_nil, List.take_succ_cons, List.take_zero, List.take_nil, List.drop_succ_cons, List.drop_zero, List.reverse_cons, List.reverse_nil, List.nil_append, List.cons_append, Option.toList_some, Option.toList_none, Bool.and_true, Bool.or_false, Bool.false_or, Bool.true_or, Bool.and_self, true_and, and_true, Nat.reduceAdd, Nat.reduceBEq, Int.reduceAdd, Int.reduceNeg, Int.reduceLE, Int.reduceLT, Int.reduceSub, Int.reduceMul, Int.reduceToNat, cEq, cNe, cLt, cGe, cGt, cLe, iR, lR, cl_0, cl_1, cl_4, cl_9, cl_86, al_2, al_3, al_5, al_13, al_6, al_7, al_8, al_10, al_11, al_87, al_88, al_90, al_91, al_92, al_93, al_94, al_95, al_96, al_97, al_98, al_99, al_100, ne_eq, not_true_eq_false, not_false_eq_true, upM_eq, upM_ni, upM_nj, upM_24, upM_48, upM_i24, upM_i48, upM_2448, upM_4824, Nat.reduceEqDiff, reduceCtorEq, or_true, true_or, Int.reduceEq, true_implies, false_implies, Int.reducePow, Int.toNat_natCast]
  by_cases q : M 3 x.toNat = y
  · rw [if_pos q] at k
    simp [k, q]
    omega
  · rw [if_neg q] at k
    simp [k, q]
    omega
end

/-! class Row -/
abbrev IRow (i : Nat) : Prop := 14 ≤ i ∧ i < 38
def RowOk (M : tM) (i : Nat) : Prop := (0 ≤ M i 4 ∧ M i 4 ≤ 30) ∧ (∀ p : Nat, (p : Int) < M i 4 → (0 ≤ M (i + 24) p ∧ M (i + 24) p ≤ 9999) ∧ (0 ≤ M (i + 48) p ∧ M (i + 48) p ≤ 15)) ∧ (∀ p q : Nat, p ≤ q → (q : Int) < M i 4 → M (i + 24) p ≤ M (i + 24) q)
def tkA (M : tM) (i : Nat) (x : Int) : Int := if 0 ≤ x ∧ x < M i 4 then M (i + 24) x.toNat else -1
def knA (M : tM) (i : Nat) (x : Int) : Int := if 0 ≤ x ∧ x < M i 4 then M (i + 48) x.toNat else -1
def btA (M : tM) (a i : Nat) (x : Int) : Int := if 0 ≤ x ∧ x < M i 4 then M a (M (i + 48) x.toNat).toNat else 0
def sumI (f : Nat → Int) : Nat → Int
  | 0 => 0
  | n + 1 => sumI f n + f n
theorem tkA_in {M : tM} {i : Nat} {x : Int} (h : 0 ≤ x) (h2 : x < M i 4) : tkA M i x = M (i + 24) x.toNat := by unfold tkA; rw [if_pos ⟨h, h2⟩]
theorem btA_in {M : tM} {a i : Nat} {x : Int} (h : 0 ≤ x) (h2 : x < M i 4) : btA M a i x = M a (M (i + 48) x.toNat).toNat := by unfold btA; rw [if_pos ⟨h, h2⟩]
theorem tkA_r {M : tM} {i : Nat} {x : Int} (h : RowOk M i) : -1 ≤ tkA M i x ∧ tkA M i x ≤ 9999 := by
  unfold tkA
  split
  · have := (h.2.1 x.toNat (by omega)).1
    omega
  · omega
section
variable {C : tC} {Q : tQ} {d : Nat} {M : tM}
set_option maxRecDepth 40000 in
set_option maxHeartbeats 4000000 in
theorem c_X4_size (S : Snd C) {i : Nat} (hi : IRow i) (k : Q (some (vI (M i 4))) M) : C d 35 [vR i] M Q := by
  have hc := cl_row hi
  refine en_X4_size S ?_
  refine Runs.go S.1 mo_X4_size [] 5 ?_
  simp only [e_X4_size_0, e_X4_size_1, e_X4_size_4, hc, f_getI, f_iret, f_loadR, stN, lget, lput, clrL, lputL, lenLe, lenGe, noL, swL, List.elem_cons, List.elem_nil, List.take_succ_cons, List.take_zero, List.take_nil, List.drop_succ_cons, List.drop_zero, List.reverse_cons, List.reverse_nil, List.nil_append, List.cons_append, Option.toList_some, Option.toList_none, Bool.and_true, Bool.or_false, Bool.false_or, Bool.true_or, Bool.and_self, true_and, and_true, Nat.reduceAdd, Nat.reduceBEq, Int.reduceAdd, Int.reduceNeg, Int.reduceLE, Int.reduceLT, Int.reduceSub, Int.reduceMul, Int.reduceToNat, cEq, cNe, cLt, cGe, cGt, cLe, iR, lR, cl_0, cl_1, cl_4, cl_9, cl_86, al_2, al_3, al_5, al_13, al_6, al_7, al_8, al_10, al_11, al_87, al_88, al_90, al_91, al_92, al_93, al_94, al_95, al_96, al_97, al_98, al_99, al_100, ne_eq, not_true_eq_false, not_false_eq_true, upM_eq, upM_ni, upM_nj, upM_24, upM_48, upM_i24, upM_i48, upM_2448, upM_4824, Nat.reduceEqDiff, reduceCtorEq, or_true, true_or, Int.reduceEq, true_implies, false_implies, Int.reducePow, Int.toNat_natCast]
  exact k
set_option maxRecDepth 40000 in
set_option maxHeartbeats 4000000 in
theorem c_X4_tickAt (S : Snd C) {i : Nat} {x : Int} (hi : IRow i) (hx : iR x) (h : RowOk M i) (k : Q (some (vI (tkA M i x))) M) : C d 36 [vR i, vI x] M Q := by
  have hc := cl_row hi
  have ha := al_tk hi
  have h1 := h.1
  unfold iR at hx
  refine en_X4_tickAt S ?_
  refine Runs.go S.1 mo_X4_tickAt [] 15 ?_
  simp only [e_X4_tickAt_0, e_X4_tickAt_1, e_X4_tickAt_4, e_X4_tickAt_5, e_X4_tickAt_6, e_X4_tickAt_9, e_X4_tickAt_12, e_X4_tickAt_13, e_X4_tickAt_16, e_X4_tickAt_17, e_X4_tickAt_18, e_X4_tickAt_21, e_X4_tickAt_22, hc, ha, f_getI, f_getR, f_goto, f_iald, f_icmp, f_if0, f_iret, f_loadI, f_loadR, f_push, stN, lget, lput, clrL, lputL, lenLe, lenGe, noL, swL, List.elem_cons, List.elem_nil, List.take_succ_cons, List.take_zero, List.take_nil, List.drop_succ_cons, List.drop_zero, List.reverse_cons, List.reverse_nil, List.nil_append, List.cons_append, Option.toList_some, Option.toList_none, Bool.and_true, Bool.or_false, Bool.false_or, Bool.true_or, Bool.and_self, true_and, and_true, Nat.reduceAdd, Nat.reduceBEq, Int.reduceAdd, Int.reduceNeg, Int.reduceLE, Int.reduceLT, Int.reduceSub, Int.reduceMul, Int.reduceToNat, cEq, cNe, cLt, cGe, cGt, cLe, iR, lR, cl_0, cl_1, cl_4, cl_9, cl_86, al_2, al_3, al_5, al_13, al_6, al_7, al_8, al_10, al_11, al_87, al_88, al_90, al_91, al_92, al_93, al_94, al_95, al_96, al_97, al_98, al_99, al_100, ne_eq, not_true_eq_false, not_false_eq_true, upM_eq, upM_ni, upM_nj, upM_24, upM_48, upM_i24, upM_i48, upM_2448, upM_4824, Nat.reduceEqDiff, reduceCtorEq, or_true, true_or, Int.reduceEq, true_implies, false_implies, Int.reducePow, Int.toNat_natCast]
  unfold tkA at k
  repeat' (first | refine And.intro ?_ ?_ | intro _)
  all_goals first | omega | (rw [if_neg (by omega)] at k; exact k) | (rw [if_pos (by omega)] at k; exact k)
set_option maxRecDepth 40000 in
set_option maxHeartbeats 4000000 in
theorem c_X4_kindAt (S : Snd C) {i : Nat} {x : Int} (hi : IRow i) (hx : iR x) (h : RowOk M i) (k : Q (some (vI (knA M i x))) M) : C d 37 [vR i, vI x] M Q := by
  have hc := cl_row hi
  have ha := al_kn hi
  have h1 := h.1
  unfold iR at hx
  refine en_X4_kindAt S ?_
  refine Runs.go S.1 mo_X4_kindAt [] 15 ?_
  simp only [e_X4_kindAt_0, e_X4_kindAt_1, e_X4_kindAt_4, e_X4_kindAt_5, e_X4_kindAt_6, e_X4_kindAt_9, e_X4_kindAt_12, e_X4_kindAt_13, e_X4_kindAt_16, e_X4_kindAt_17, e_X4_kindAt_18, e_X4_kindAt_21, e_X4_kindAt_22, hc, ha, f_getI, f_getR, f_goto, f_iald, f_icmp, f_if0, f_iret, f_loadI, f_loadR, f_push, stN, lget, lput, clrL, lputL, lenLe, lenGe, noL, swL, List.elem_cons, List.elem_nil, List.take_succ_cons, List.take_zero, List.take_nil, List.drop_succ_cons, List.drop_zero, List.reverse_cons, List.reverse_nil, List.nil_append, List.cons_append, Option.toList_some, Option.toList_none, Bool.and_true, Bool.or_false, Bool.false_or, Bool.true_or, Bool.and_self, true_and, and_true, Nat.reduceAdd, Nat.reduceBEq, Int.reduceAdd, Int.reduceNeg, Int.reduceLE, Int.reduceLT, Int.reduceSub, Int.reduceMul, Int.reduceToNat, cEq, cNe, cLt, cGe, cGt, cLe, iR, lR, cl_0, cl_1, cl_4, cl_9, cl_86, al_2, al_3, al_5, al_13, al_6, al_7, al_8, al_10, al_11, al_87, al_88, al_90, al_91, al_92, al_93, al_94, al_95, al_96, al_97, al_98, al_99, al_100, ne_eq, not_true_eq_false, not_false_eq_true, upM_eq, upM_ni, upM_nj, upM_24, upM_48, upM_i24, upM_i48, upM_2448, upM_4824, Nat.reduceEqDiff, reduceCtorEq, or_true, true_or, Int.reduceEq, true_implies, false_implies, Int.reducePow, Int.toNat_natCast]
  unfold knA at k
  repeat' (first | refine And.intro ?_ ?_ | intro _)
  all_goals first | omega | (rw [if_neg (by omega)] at k; exact k) | (rw [if_pos (by omega)] at k; exact k)
set_option maxRecDepth 40000 in
set_option maxHeartbeats 4000000 in
theorem c_X4_bitsAt (S : Snd C) {i a : Nat} {x : Int} (hi : IRow i) (hx : iR x) (h : RowOk M i) (hal : alen a = 16) (k : Q (some (vI (btA M a i x))) M) : C d 38 [vR i, vI x, vR a] M Q := by
  have hc := cl_row hi
  have ha := al_kn hi
  obtain ⟨h1, h2, -⟩ := h
  unfold iR at hx
  refine en_X4_bitsAt S ?_
  refine Runs.go S.1 mo_X4_bitsAt [] 17 ?_
  simp only [e_X4_bitsAt_0, e_X4_bitsAt_1, e_X4_bitsAt_4, e_X4_bitsAt_5, e_X4_bitsAt_6, e_X4_bitsAt_9, e_X4_bitsAt_12, e_X4_bitsAt_13, e_X4_bitsAt_14, e_X4_bitsAt_17, e_X4_bitsAt_18, e_X4_bitsAt_19, e_X4_bitsAt_20, e_X4_bitsAt_23, e_X4_bitsAt_24, hc, ha, hal, f_getI, f_getR, f_goto, f_iald, f_icmp, f_if0, f_iret, f_loadI, f_loadR, f_push, stN, lget, lput, clrL, lputL, lenLe, lenGe, noL, swL, List.elem_cons, List.elem_nil, List.take_succ_cons, List.take_zero, List.take_nil, List.drop_succ_cons, List.drop_zero, List.reverse_cons, List.reverse_nil, List.nil_append, List.cons_append, Option.toList_some, Option.toList_none, Bool.and_true, Bool.or_false, Bool.false_or, Bool.true_or, Bool.and_self, true_and, and_true, Nat.reduceAdd, Nat.reduceBEq, Int.reduceAdd, Int.reduceNeg, Int.reduceLE, Int.reduceLT, Int.reduceSub, Int.reduceMul, Int.reduceToNat, cEq, cNe, cLt, cGe, cGt, cLe, iR, lR, cl_0, cl_1, cl_4, cl_9, cl_86, al_2, al_3, al_5, al_13, al_6, al_7, al_8, al_10, al_11, al_87, al_88, al_90, al_91, al_92, al_93, al_94, al_95, al_96, al_97, al_98, al_99, al_100, ne_eq, not_true_eq_false, not_false_eq_true, upM_eq, upM_ni, upM_nj, upM_24, upM_48, upM_i24, upM_i48, upM_2448, upM_4824, Nat.reduceEqDiff, reduceCtorEq, or_true, true_or, Int.reduceEq, true_implies, false_implies, Int.reducePow, Int.toNat_natCast]
  unfold btA at k
  have h3 := h2 x.toNat
  repeat' (first | refine And.intro ?_ ?_ | intro _)
  all_goals first | omega | (rw [if_neg (by omega)] at k; exact k) | (rw [if_pos (by omega)] at k; exact k)
set_option maxRecDepth 40000 in
set_option maxHeartbeats 4000000 in
theorem c_X4_begin (S : Snd C) {i : Nat} {x : Int} (hi : IRow i) (k : Q none (upM (upM (upM M i 0 x) i 1 1) i 4 0)) : C d 33 [vR i, vI x] M Q := by
  have hc := cl_row hi
  refine en_X4_begin S ?_
  refine Runs.go S.1 mo_X4_begin [] 12 ?_
  simp only [e_X4_begin_0, e_X4_begin_1, e_X4_begin_2, e_X4_begin_5, e_X4_begin_6, e_X4_begin_7, e_X4_begin_10, e_X4_begin_11, e_X4_begin_12, e_X4_begin_15, hc, f_loadI, f_loadR, f_push, f_putI, f_putZ, f_vret, stN, lget, lput, clrL, lputL, lenLe, lenGe, noL, swL, List.elem_cons, List.elem_nil, List.take_succ_cons, List.take_zero, List.take_nil, List.drop_succ_cons, List.drop_zero, List.reverse_cons, List.reverse_nil, List.nil_append, List.cons_append, Option.toList_some, Option.toList_none, Bool.and_true, Bool.or_false, Bool.false_or, Bool.true_or, Bool.and_self, true_and, and_true, Nat.reduceAdd, Nat.reduceBEq, Int.reduceAdd, Int.reduceNeg, Int.reduceLE, Int.reduceLT, Int.reduceSub, Int.reduceMul, Int.reduceToNat, cEq, cNe, cLt, cGe, cGt, cLe, iR, lR, cl_0, cl_1, cl_4, cl_9, cl_86, al_2, al_3, al_5, al_13, al_6, al_7, al_8, al_10, al_11, al_87, al_88, al_90, al_91, al_92, al_93, al_94, al_95, al_96, al_97, al_98, al_99, al_100, ne_eq, not_true_eq_false, not_false_eq_true, upM_eq, upM_ni, upM_nj, upM_24, upM_48, upM_i24, upM_i48, upM_2448, upM_4824, Nat.reduceEqDiff, reduceCtorEq, or_true, true_or, Int.reduceEq, true_implies, false_implies, Int.reducePow, Int.toNat_natCast]
  exact k
set_option maxRecDepth 40000 in
set_option maxHeartbeats 4000000 in
theorem c_X4_append (S : Snd C) {i : Nat} {x y : Int} (hi : IRow i) (hx : 0 ≤ x ∧ x ≤ 9999) (h : RowOk M i)
    (k1 : 30 ≤ M i 4 ∨ x < tkA M i (M i 4 - 1) → Q (some (vI (-1))) M) (k2 : M i 4 < 30 → tkA M i (M i 4 - 1) ≤ x → Q (some (vI (M i 4))) (upM (upM (upM M (i + 24) (M i 4).toNat x) (i + 48) (M i 4).toNat y) i 4 (M i 4 + 1))) : C (d + 1) 34 [vR i, vI x, vI y] M Q := by
  have hc := cl_row hi
  have ha := al_kn hi
  have ha2 := al_tk hi
  obtain ⟨h1, h2, h3⟩ := id h
  refine en_X4_append S ?_
  refine Runs.go S.1 mo_X4_append [20] 39 ?_
  simp only [e_X4_append_0, e_X4_append_1, e_X4_append_4, e_X4_append_6, e_X4_append_9, e_X4_append_10, e_X4_append_11, e_X4_append_12, e_X4_append_15, e_X4_append_16, e_X4_append_17, e_X4_append_20, e_X4_append_23, e_X4_append_24, e_X4_append_25, e_X4_append_26, e_X4_append_29, e_X4_append_30, e_X4_append_33, e_X4_append_34, e_X4_append_35, e_X4_append_36, e_X4_append_39, e_X4_append_40, e_X4_append_43, e_X4_append_44, e_X4_append_45, e_X4_append_46, e_X4_append_47, e_X4_append_50, e_X4_append_51, e_X4_append_52, e_X4_append_55, e_X4_append_56, e_X4_append_59, e_X4_append_60, e_X4_append_61, hc, ha, ha2, f_add, f_callV, f_dup, f_getI, f_getR, f_iast, f_icmp, f_iret, f_loadI, f_loadR, f_push, f_putI, f_sub, stN, lget, lput, clrL, lputL, lenLe, lenGe, noL, swL, List.elem_cons, List.elem_nil, List.take_succ_cons, List.take_zero, List.take_nil, List.drop_succ_cons, List.drop_zero, List.reverse_cons, List.reverse_nil, List.nil_append, List.cons_append, Option.toList_some, Option.toList_none, Bool.and_true, Bool.or_false, Bool.false_or, Bool.true_or, Bool.and_self, true_and, and_true, Nat.reduceAdd, Nat.reduceBEq, Int.reduceAdd, Int.reduceNeg, Int.reduceLE, Int.reduceLT, Int.reduceSub, Int.reduceMul, Int.reduceToNat, cEq, cNe, cLt, cGe, cGt, cLe, iR, lR, cl_0, cl_1, cl_4, cl_9, cl_86, al_2, al_3, al_5, al_13, al_6, al_7, al_8, al_10, al_11, al_87, al_88, al_90, al_91, al_92, al_93, al_94, al_95, al_96, al_97, al_98, al_99, al_100, ne_eq, not_true_eq_false, not_false_eq_true, upM_eq, upM_ni, upM_nj, upM_24, upM_48, upM_i24, upM_i48, upM_2448, upM_4824, Nat.reduceEqDiff, reduceCtorEq, or_true, true_or, Int.reduceEq, true_implies, false_implies, Int.reducePow, Int.toNat_natCast]
  refine ⟨by omega, fun q => k1 (Or.inl q), fun q => ?_⟩
  refine c_X4_tickAt S hi ⟨by omega, by omega⟩ h ?_
  have ht := tkA_r (x := M i 4 - 1) h
  refine Runs.go S.1 mo_X4_append [20] 39 ?_
  simp only [e_X4_append_0, e_X4_append_1, e_X4_append_4, e_X4_append_6, e_X4_append_9, e_X4_append_10, e_X4_append_11, e_X4_append_12, e_X4_append_15, e_X4_append_16, e_X4_append_17, e_X4_append_20, e_X4_append_23, e_X4_append_24, e_X4_append_25, e_X4_append_26, e_X4_append_29, e_X4_append_30, e_X4_append_33, e_X4_append_34, e_X4_append_35, e_X4_append_36, e_X4_append_39, e_X4_append_40, e_X4_append_43, e_X4_append_44, e_X4_append_45, e_X4_append_46, e_X4_append_47, e_X4_append_50, e_X4_append_51, e_X4_append_52, e_X4_append_55, e_X4_append_56, e_X4_append_59, e_X4_append_60, e_X4_append_61, hc, ha, ha2, f_add, f_callV, f_dup, f_getI, f_getR, f_iast, f_icmp, f_iret, f_loadI, f_loadR, f_push, f_putI, f_sub, stN, lget, lput, clrL, lputL, lenLe, lenGe, noL, swL, List.elem_cons, List.elem_nil, List.take_succ_cons, List.take_zero, List.take_nil, List.drop_succ_cons, List.drop_zero, List.reverse_cons, List.reverse_nil, List.nil_append, List.cons_append, Option.toList_some, Option.toList_none, Bool.and_true, Bool.or_false, Bool.false_or, Bool.true_or, Bool.and_self, true_and, and_true, Nat.reduceAdd, Nat.reduceBEq, Int.reduceAdd, Int.reduceNeg, Int.reduceLE, Int.reduceLT, Int.reduceSub, Int.reduceMul, Int.reduceToNat, cEq, cNe, cLt, cGe, cGt, cLe, iR, lR, cl_0, cl_1, cl_4, cl_9, cl_86, al_2, al_3, al_5, al_13, al_6, al_7, al_8, al_10, al_11, al_87, al_88, al_90, al_91, al_92, al_93, al_94, al_95, al_96, al_97, al_98, al_99, al_100, ne_eq, not_true_eq_false, not_false_eq_true, upM_eq, upM_ni, upM_nj, upM_24, upM_48, upM_i24, upM_i48, upM_2448, upM_4824, Nat.reduceEqDiff, reduceCtorEq, or_true, true_or, Int.reduceEq, true_implies, false_implies, Int.reducePow, Int.toNat_natCast]
  refine ⟨by omega, by omega, fun q2 => ?_, fun q2 => k1 (Or.inr q2)⟩
  refine ⟨by omega, by omega, ?_⟩
  have := k2 q q2
  rw [show M i 4 + 1 - 1 = M i 4 by omega]
  exact this
set_option maxRecDepth 40000 in
set_option maxHeartbeats 4000000 in
theorem c_X4_howMany (S : Snd C) {i : Nat} {x : Int} (hi : IRow i) (h : RowOk M i) (hx : 0 ≤ x ∧ x < 16) (hw : ∀ j : Nat, j < 16 → iR (M 2 j)) (k : Q (some (vI (sumI (fun p => bAnd (M 2 (M (i + 48) p).toNat / 2 ^ x.toNat) 1) (M i 4).toNat))) M) : C (d + 1) 39 [vR i, vR 1, vI x] M Q := by
  have hc := cl_row hi
  have ha := al_kn hi
  have ha2 := al_tk hi
  obtain ⟨h1, h2, h3⟩ := id h
  refine en_X4_howMany S ?_
  refine Runs.go S.1 mo_X4_howMany [5, 25] 26 ?_
  simp only [e_X4_howMany_0, e_X4_howMany_1, e_X4_howMany_2, e_X4_howMany_3, e_X4_howMany_5, e_X4_howMany_7, e_X4_howMany_8, e_X4_howMany_11, e_X4_howMany_14, e_X4_howMany_15, e_X4_howMany_16, e_X4_howMany_18, e_X4_howMany_19, e_X4_howMany_22, e_X4_howMany_25, e_X4_howMany_26, e_X4_howMany_27, e_X4_howMany_28, e_X4_howMany_29, e_X4_howMany_30, e_X4_howMany_31, e_X4_howMany_34, e_X4_howMany_37, e_X4_howMany_38, hc, ha, ha2, f_add, f_and, f_callV, f_getI, f_getR, f_goto, f_icmp, f_iinc, f_iret, f_loadI, f_loadR, f_push, f_shr, f_storeI, stN, lget, lput, clrL, lputL, lenLe, lenGe, noL, swL, List.elem_cons, List.elem_nil, List.take_succ_cons, List.take_zero, List.take_nil, List.drop_succ_cons, List.drop_zero, List.reverse_cons, List.reverse_nil, List.nil_append, List.cons_append, Option.toList_some, Option.toList_none, Bool.and_true, Bool.or_false, Bool.false_or, Bool.true_or, Bool.and_self, true_and, and_true, Nat.reduceAdd, Nat.reduceBEq, Int.reduceAdd, Int.reduceNeg, Int.reduceLE, Int.reduceLT, Int.reduceSub, Int.reduceMul, Int.reduceToNat, cEq, cNe, cLt, cGe, cGt, cLe, iR, lR, cl_0, cl_1, cl_4, cl_9, cl_86, al_2, al_3, al_5, al_13, al_6, al_7, al_8, al_10, al_11, al_87, al_88, al_90, al_91, al_92, al_93, al_94, al_95, al_96, al_97, al_98, al_99, al_100, ne_eq, not_true_eq_false, not_false_eq_true, upM_eq, upM_ni, upM_nj, upM_24, upM_48, upM_i24, upM_i48, upM_2448, upM_4824, Nat.reduceEqDiff, reduceCtorEq, or_true, true_or, Int.reduceEq, true_implies, false_implies, Int.reducePow, Int.toNat_natCast]
  have loop : ∀ (n p : Nat), p + n = (M i 4).toNat → Runs C (tabF k_X4_howMany) (d + 1) Q 5 [some (vR i), some (vR 1), some (vI x), some (vI (sumI (fun p => bAnd (M 2 (M (i + 48) p).toNat / 2 ^ x.toNat) 1) p)), some (vI p)] [] M := by
    intro n
    induction n with
    | zero =>
      intro p hp
      refine Runs.go S.1 mo_X4_howMany [5, 25] 26 ?_
      simp only [e_X4_howMany_0, e_X4_howMany_1, e_X4_howMany_2, e_X4_howMany_3, e_X4_howMany_5, e_X4_howMany_7, e_X4_howMany_8, e_X4_howMany_11, e_X4_howMany_14, e_X4_howMany_15, e_X4_howMany_16, e_X4_howMany_18, e_X4_howMany_19, e_X4_howMany_22, e_X4_howMany_25, e_X4_howMany_26, e_X4_howMany_27, e_X4_howMany_28, e_X4_howMany_29, e_X4_howMany_30, e_X4_howMany_31, e_X4_howMany_34, e_X4_howMany_37, e_X4_howMany_38, hc, ha, ha2, f_add, f_and, f_callV, f_getI, f_getR, f_goto, f_icmp, f_iinc, f_iret, f_loadI, f_loadR, f_push, f_shr, f_storeI, stN, lget, lput, clrL, lputL, lenLe, lenGe, noL, swL, List.elem_cons, List.elem_nil, List.take_succ_cons, List.take_zero, List.take_nil, List.drop_succ_cons, List.drop_zero, List.reverse_cons, List.reverse_nil, List.nil_append, List.cons_append, Option.toList_some, Option.toList_none, Bool.and_true, Bool.or_false, Bool.false_or, Bool.true_or, Bool.and_self, true_and, and_true, Nat.reduceAdd, Nat.reduceBEq, Int.reduceAdd, Int.reduceNeg, Int.reduceLE, Int.reduceLT, Int.reduceSub, Int.reduceMul, Int.reduceToNat, cEq, cNe, cLt, cGe, cGt, cLe, iR, lR, cl_0, cl_1, cl_4, cl_9, cl_86, al_2, al_3, al_5, al_13, al_6, al_7, al_8, al_10, al_11, al_87, al_88, al_90, al_91, al_92, al_93, al_94, al_95, al_96, al_97, al_98, al_99, al_100, ne_eq, not_true_eq_false, not_false_eq_true, upM_eq, upM_ni, upM_nj, upM_24, upM_48, upM_i24, upM_i48, upM_2448, upM_4824, Nat.reduceEqDiff, reduceCtorEq, or_true, true_or, Int.reduceEq, true_implies, false_implies, Int.reducePow, Int.toNat_natCast]
      refine ⟨by omega, by omega, fun _ => ?_, fun _ => by omega⟩
      rw [show p = (M i 4).toNat by omega]
      exact k
    | succ n ih =>
      intro p hp
      refine Runs.go S.1 mo_X4_howMany [5, 25] 26 ?_
      simp only [e_X4_howMany_0, e_X4_howMany_1, e_X4_howMany_2, e_X4_howMany_3, e_X4_howMany_5, e_X4_howMany_7, e_X4_howMany_8, e_X4_howMany_11, e_X4_howMany_14, e_X4_howMany_15, e_X4_howMany_16, e_X4_howMany_18, e_X4_howMany_19, e_X4_howMany_22, e_X4_howMany_25, e_X4_howMany_26, e_X4_howMany_27, e_X4_howMany_28, e_X4_howMany_29, e_X4_howMany_30, e_X4_howMany_31, e_X4_howMany_34, e_X4_howMany_37, e_X4_howMany_38, hc, ha, ha2, f_add, f_and, f_callV, f_getI, f_getR, f_goto, f_icmp, f_iinc, f_iret, f_loadI, f_loadR, f_push, f_shr, f_storeI, stN, lget, lput, clrL, lputL, lenLe, lenGe, noL, swL, List.elem_cons, List.elem_nil, List.take_succ_cons, List.take_zero, List.take_nil, List.drop_succ_cons, List.drop_zero, List.reverse_cons, List.reverse_nil, List.nil_append, List.cons_append, Option.toList_some, Option.toList_none, Bool.and_true, Bool.or_false, Bool.false_or, Bool.true_or, Bool.and_self, true_and, and_true, Nat.reduceAdd, Nat.reduceBEq, Int.reduceAdd, Int.reduceNeg, Int.reduceLE, Int.reduceLT, Int.reduceSub, Int.reduceMul, Int.reduceToNat, cEq, cNe, cLt, cGe, cGt, cLe, iR, lR, cl_0, cl_1, cl_4, cl_9, cl_86, al_2, al_3, al_5, al_13, al_6, al_7, al_8, al_10, al_11, al_87, al_88, al_90, al_91, al_92, al_93, al_94, al_95, al_96, al_97, al_98, al_99, al_100, ne_eq, not_true_eq_false, not_false_eq_true, upM_eq, upM_ni, upM_nj, upM_24, upM_48, upM_i24, upM_i48, upM_2448, upM_4824, Nat.reduceEqDiff, reduceCtorEq, or_true, true_or, Int.reduceEq, true_implies, false_implies, Int.reducePow, Int.toNat_natCast]
      refine ⟨by omega, by omega, fun _ => by omega, fun _ => ?_⟩
      refine c_X4_bitsAt S hi ⟨by omega, by omega⟩ h rfl ?_
      rw [btA_in (by omega) (by omega)]
      have h4 := hw (M (i + 48) p).toNat (by have := (h2 p (by omega)).2; omega)
      unfold iR at h4
      refine Runs.go S.1 mo_X4_howMany [5, 25] 26 ?_
      simp only [e_X4_howMany_0, e_X4_howMany_1, e_X4_howMany_2, e_X4_howMany_3, e_X4_howMany_5, e_X4_howMany_7, e_X4_howMany_8, e_X4_howMany_11, e_X4_howMany_14, e_X4_howMany_15, e_X4_howMany_16, e_X4_howMany_18, e_X4_howMany_19, e_X4_howMany_22, e_X4_howMany_25, e_X4_howMany_26, e_X4_howMany_27, e_X4_howMany_28, e_X4_howMany_29, e_X4_howMany_30, e_X4_howMany_31, e_X4_howMany_34, e_X4_howMany_37, e_X4_howMany_38, hc, ha, ha2, f_add, f_and, f_callV, f_getI, f_getR, f_goto, f_icmp, f_iinc, f_iret, f_loadI, f_loadR, f_push, f_shr, f_storeI, stN, lget, lput, clrL, lputL, lenLe, lenGe, noL, swL, List.elem_cons, List.elem_nil, List.take_succ_cons, List.take_zero, List.take_nil, List.drop_succ_cons, List.drop_zero, List.reverse_cons, List.reverse_nil, List.nil_append, List.cons_append, Option.toList_some, Option.toList_none, Bool.and_true, Bool.or_false, Bool.false_or, Bool.true_or, Bool.and_self, true_and, and_true, Nat.reduceAdd, Nat.reduceBEq, Int.reduceAdd, Int.reduceNeg, Int.reduceLE, Int.reduceLT, Int.reduceSub, Int.reduceMul, Int.reduceToNat, cEq, cNe, cLt, cGe, cGt, cLe, iR, lR, cl_0, cl_1, cl_4, cl_9, cl_86, al_2, al_3, al_5, al_13, al_6, al_7, al_8, al_10, al_11, al_87, al_88, al_90, al_91, al_92, al_93, al_94, al_95, al_96, al_97, al_98, al_99, al_100, ne_eq, not_true_eq_false, not_false_eq_true, upM_eq, upM_ni, upM_nj, upM_24, upM_48, upM_i24, upM_i48, upM_2448, upM_4824, Nat.reduceEqDiff, reduceCtorEq, or_true, true_or, Int.reduceEq, true_implies, false_implies, Int.reducePow, Int.toNat_natCast]
      refine ⟨h4, by omega, ?_⟩
      exact ih (p + 1) (by omega)
  exact loop (M i 4).toNat 0 (by omega)
end

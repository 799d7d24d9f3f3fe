/-! Patterns: a pattern is a list of up to four kinds; its number -/
def enc (l : List Nat) : Nat := l.foldl (fun c k => 16 * c + k) 1
abbrev PL (l : List Nat) : Prop := l.length ≤ 4 ∧ ∀ k ∈ l, k < 16
def plenI (p : Int) : Int := if 0 < p / 16 then (if 0 < p / 256 then (if 0 < p / 4096 then (if 0 < p / 65536 then 4 else 3) else 2) else 1) else 0
/-- lists of up to four, one by one -/
theorem PL.cases {P : List Nat → Prop} (h0 : P []) (h1 : ∀ a, a < 16 → P [a]) (h2 : ∀ a b, a < 16 → b < 16 → P [a, b]) (h3 : ∀ a b c, a < 16 → b < 16 → c < 16 → P [a, b, c]) (h4 : ∀ a b c d, a < 16 → b < 16 → c < 16 → d < 16 → P [a, b, c, d]) : ∀ l, PL l → P l := by
  intro l ⟨h, hk⟩
  match l, h, hk with
  | [], _, _ => exact h0
  | [a], _, hk => exact h1 a (hk a (by simp))
  | [a, b], _, hk => exact h2 a b (hk a (by simp)) (hk b (by simp))
  | [a, b, c], _, hk => exact h3 a b c (hk a (by simp)) (hk b (by simp)) (hk c (by simp))
  | [a, b, c, d], _, hk => exact h4 a b c d (hk a (by simp)) (hk b (by simp)) (hk c (by simp)) (hk d (by simp))
  | a :: b :: c :: d :: e :: l, h, _ => simp at h
theorem enc_plen : ∀ l, PL l → plenI (enc l) = l.length := by
  refine PL.cases ?_ ?_ ?_ ?_ ?_
  all_goals intros
  all_goals (unfold plenI enc; simp only [List.foldl, List.length])
  all_goals (repeat' split) <;> omega
theorem enc_b : ∀ l, PL l → 1 ≤ enc l ∧ enc l < 131072 := by
  refine PL.cases ?_ ?_ ?_ ?_ ?_
  all_goals intros
  all_goals (unfold enc; simp only [List.foldl])
  all_goals omega
theorem enc_b3 : ∀ l, PL l → l.length ≤ 3 → enc l < 8192 := by
  refine PL.cases ?_ ?_ ?_ ?_ ?_
  all_goals intros
  all_goals (unfold enc; simp only [List.foldl, List.length] at *)
  all_goals omega
theorem enc_snoc (l : List Nat) (k : Nat) : enc (l ++ [k]) = 16 * enc l + k := by unfold enc; rw [List.foldl_append]; rfl
def itemI (l : List Nat) (k : Int) : Int := if 0 ≤ k ∧ k < l.length then (l.getD k.toNat 0 : Nat) else -1
def insL (l : List Nat) (a k : Nat) : List Nat := l.take (l.length - a) ++ k :: l.drop (l.length - a)
section
variable {C : tC} {Q : tQ} {d : Nat} {M : tM}
set_option maxRecDepth 40000 in
set_option maxHeartbeats 4000000 in
theorem c_X5_isKind (S : Snd C) {x : Int} (hx : iR x) (k : Q (some (vI (if 0 ≤ x ∧ x < 16 then 1 else 0))) M) : C d 60 [vI x] M Q := by
  unfold iR at hx
  refine en_X5_isKind S ?_
  refine Runs.go S.1 mo_X5_isKind [] 11 ?_
  simp only [e_X5_isKind_0, e_X5_isKind_1, e_X5_isKind_4, e_X5_isKind_5, e_X5_isKind_7, e_X5_isKind_10, e_X5_isKind_11, e_X5_isKind_14, e_X5_isKind_15, f_goto, f_icmp, f_if0, f_loadI, f_push, f_zret, stN, lget, lput, clrL, lputL, lenLe, lenGe, noL, swL, List.elem_cons, List.elem_nil, List.take_succ_cons, List.take_zero, List.take_nil, List.drop_succ_cons, List.drop_zero, List.reverse_cons, List.reverse_nil, List.nil_append, List.cons_append, Option.toList_some, Option.toList_none, Bool.and_true, Bool.or_false, Bool.false_or, Bool.true_or, Bool.and_self, true_and, and_true, Nat.reduceAdd, Nat.reduceBEq, Int.reduceAdd, Int.reduceNeg, Int.reduceLE, Int.reduceLT, Int.reduceSub, Int.reduceMul, Int.reduceToNat, cEq, cNe, cLt, cGe, cGt, cLe, iR, lR, cl_0, cl_1, cl_4, cl_9, cl_86, al_2, al_3, al_5, al_13, al_6, al_7, al_8, al_10, al_11, al_87, al_88, al_90, al_91, al_92, al_93, al_94, al_95, al_96, al_97, al_98, al_99, al_100, ne_eq, not_true_eq_false, not_false_eq_true, upM_eq, upM_ni, upM_nj, upM_24, upM_48, upM_i24, upM_i48, upM_2448, upM_4824, Nat.reduceEqDiff, reduceCtorEq, or_true, true_or, Int.reduceEq, true_implies, false_implies, Int.reducePow, Int.toNat_natCast]
  repeat' (first | refine And.intro ?_ ?_ | intro _)
  all_goals first | omega | (rw [if_neg (by omega)] at k; exact k) | (rw [if_pos (by omega)] at k; exact k)
set_option maxRecDepth 40000 in
set_option maxHeartbeats 4000000 in
theorem c_X5_isTick (S : Snd C) {x : Int} (hx : iR x) (k : Q (some (vI (if 0 ≤ x ∧ x ≤ 9999 then 1 else 0))) M) : C d 61 [vI x] M Q := by
  unfold iR at hx
  refine en_X5_isTick S ?_
  refine Runs.go S.1 mo_X5_isTick [] 11 ?_
  simp only [e_X5_isTick_0, e_X5_isTick_1, e_X5_isTick_4, e_X5_isTick_5, e_X5_isTick_8, e_X5_isTick_11, e_X5_isTick_12, e_X5_isTick_15, e_X5_isTick_16, f_goto, f_icmp, f_if0, f_loadI, f_push, f_zret, stN, lget, lput, clrL, lputL, lenLe, lenGe, noL, swL, List.elem_cons, List.elem_nil, List.take_succ_cons, List.take_zero, List.take_nil, List.drop_succ_cons, List.drop_zero, List.reverse_cons, List.reverse_nil, List.nil_append, List.cons_append, Option.toList_some, Option.toList_none, Bool.and_true, Bool.or_false, Bool.false_or, Bool.true_or, Bool.and_self, true_and, and_true, Nat.reduceAdd, Nat.reduceBEq, Int.reduceAdd, Int.reduceNeg, Int.reduceLE, Int.reduceLT, Int.reduceSub, Int.reduceMul, Int.reduceToNat, cEq, cNe, cLt, cGe, cGt, cLe, iR, lR, cl_0, cl_1, cl_4, cl_9, cl_86, al_2, al_3, al_5, al_13, al_6, al_7, al_8, al_10, al_11, al_87, al_88, al_90, al_91, al_92, al_93, al_94, al_95, al_96, al_97, al_98, al_99, al_100, ne_eq, not_true_eq_false, not_false_eq_true, upM_eq, upM_ni, upM_nj, upM_24, upM_48, upM_i24, upM_i48, upM_2448, upM_4824, Nat.reduceEqDiff, reduceCtorEq, or_true, true_or, Int.reduceEq, true_implies, false_implies, Int.reducePow, Int.toNat_natCast]
  repeat' (first | refine And.intro ?_ ?_ | intro _)
  all_goals first | omega | (rw [if_neg (by omega)] at k; exact k) | (rw [if_pos (by omega)] at k; exact k)
set_option maxRecDepth 40000 in
set_option maxHeartbeats 4000000 in
theorem c_X3_isKindOrNone (S : Snd C) {x : Int} (hx : iR x) (k : Q (some (vI (if -1 ≤ x ∧ x < 16 then 1 else 0))) M) : C (d + 1) 25 [vI x] M Q := by
  have hx2 := hx
  unfold iR at hx
  refine en_X3_isKindOrNone S ?_
  refine Runs.go S.1 mo_X3_isKindOrNone [9] 12 ?_
  simp only [e_X3_isKindOrNone_0, e_X3_isKindOrNone_1, e_X3_isKindOrNone_2, e_X3_isKindOrNone_5, e_X3_isKindOrNone_6, e_X3_isKindOrNone_9, e_X3_isKindOrNone_12, e_X3_isKindOrNone_13, e_X3_isKindOrNone_16, e_X3_isKindOrNone_17, f_callS, f_goto, f_icmp, f_if0, f_loadI, f_push, f_zret, stN, lget, lput, clrL, lputL, lenLe, lenGe, noL, swL, List.elem_cons, List.elem_nil, List.take_succ_cons, List.take_zero, List.take_nil, List.drop_succ_cons, List.drop_zero, List.reverse_cons, List.reverse_nil, List.nil_append, List.cons_append, Option.toList_some, Option.toList_none, Bool.and_true, Bool.or_false, Bool.false_or, Bool.true_or, Bool.and_self, true_and, and_true, Nat.reduceAdd, Nat.reduceBEq, Int.reduceAdd, Int.reduceNeg, Int.reduceLE, Int.reduceLT, Int.reduceSub, Int.reduceMul, Int.reduceToNat, cEq, cNe, cLt, cGe, cGt, cLe, iR, lR, cl_0, cl_1, cl_4, cl_9, cl_86, al_2, al_3, al_5, al_13, al_6, al_7, al_8, al_10, al_11, al_87, al_88, al_90, al_91, al_92, al_93, al_94, al_95, al_96, al_97, al_98, al_99, al_100, ne_eq, not_true_eq_false, not_false_eq_true, upM_eq, upM_ni, upM_nj, upM_24, upM_48, upM_i24, upM_i48, upM_2448, upM_4824, Nat.reduceEqDiff, reduceCtorEq, or_true, true_or, Int.reduceEq, true_implies, false_implies, Int.reducePow, Int.toNat_natCast]
  refine ⟨by omega, fun q => ?_, fun q => ?_⟩
  · rw [if_pos (by omega)] at k; exact k
  · refine c_X5_isKind S hx2 ?_
    by_cases q2 : 0 ≤ x ∧ x < 16
    · rw [if_pos q2]
      rw [if_pos (by omega)] at k
      refine Runs.go S.1 mo_X3_isKindOrNone [9] 12 ?_
      simp only [e_X3_isKindOrNone_0, e_X3_isKindOrNone_1, e_X3_isKindOrNone_2, e_X3_isKindOrNone_5, e_X3_isKindOrNone_6, e_X3_isKindOrNone_9, e_X3_isKindOrNone_12, e_X3_isKindOrNone_13, e_X3_isKindOrNone_16, e_X3_isKindOrNone_17, f_callS, f_goto, f_icmp, f_if0, f_loadI, f_push, f_zret, stN, lget, lput, clrL, lputL, lenLe, lenGe, noL, swL, List.elem_cons, List.elem_nil, List.take_succ_cons, List.take_zero, List.take_nil, List.drop_succ_cons, List.drop_zero, List.reverse_cons, List.reverse_nil, List.nil_append, List.cons_append, Option.toList_some, Option.toList_none, Bool.and_true, Bool.or_false, Bool.false_or, Bool.true_or, Bool.and_self, true_and, and_true, Nat.reduceAdd, Nat.reduceBEq, Int.reduceAdd, Int.reduceNeg, Int.reduceLE, Int.reduceLT, Int.reduceSub, Int.reduceMul, Int.reduceToNat, cEq, cNe, cLt, cGe, cGt, cLe, iR, lR, cl_0, cl_1, cl_4, cl_9, cl_86, al_2, al_3, al_5, al_13, al_6, al_7, al_8, al_10, al_11, al_87, al_88, al_90, al_91, al_92, al_93, al_94, al_95, al_96, al_97, al_98, al_99, al_100, ne_eq, not_true_eq_false, not_false_eq_true, upM_eq, upM_ni, upM_nj, upM_24, upM_48, upM_i24, upM_i48, upM_2448, upM_4824, Nat.reduceEqDiff, reduceCtorEq, or_true, true_or, Int.reduceEq, true_implies, false_implies, Int.reducePow, Int.toNat_natCast]
      exact k
    · rw [if_neg q2]
      rw [if_neg (by omega)] at k
      refine Runs.go S.1 mo_X3_isKindOrNone [9] 12 ?_
      simp only [e_X3_isKindOrNone_0, e_X3_isKindOrNone_1, e_X3_isKindOrNone_2, e_X3_isKindOrNone_5, e_X3_isKindOrNone_6, e_X3_isKindOrNone_9, e_X3_isKindOrNone_12, e_X3_isKindOrNone_13, e_X3_isKindOrNone_16, e_X3_isKindOrNone_17, f_callS, f_goto, f_icmp, f_if0, f_loadI, f_push, f_zret, stN, lget, lput, clrL, lputL, lenLe, lenGe, noL, swL, List.elem_cons, List.elem_nil, List.take_succ_cons, List.take_zero, List.take_nil, List.drop_succ_cons, List.drop_zero, List.reverse_cons, List.reverse_nil, List.nil_append, List.cons_append, Option.toList_some, Option.toList_none, Bool.and_true, Bool.or_false, Bool.false_or, Bool.true_or, Bool.and_self, true_and, and_true, Nat.reduceAdd, Nat.reduceBEq, Int.reduceAdd, Int.reduceNeg, Int.reduceLE, Int.reduceLT, Int.reduceSub, Int.reduceMul, Int.reduceToNat, cEq, cNe, cLt, cGe, cGt, cLe, iR, lR, cl_0, cl_1, cl_4, cl_9, cl_86, al_2, al_3, al_5, al_13, al_6, al_7, al_8, al_10, al_11, al_87, al_88, al_90, al_91, al_92, al_93, al_94, al_95, al_96, al_97, al_98, al_99, al_100, ne_eq, not_true_eq_false, not_false_eq_true, upM_eq, upM_ni, upM_nj, upM_24, upM_48, upM_i24, upM_i48, upM_2448, upM_4824, Nat.reduceEqDiff, reduceCtorEq, or_true, true_or, Int.reduceEq, true_implies, false_implies, Int.reducePow, Int.toNat_natCast]
      exact k
set_option maxRecDepth 40000 in
set_option maxHeartbeats 4000000 in
theorem c_X3_insert (S : Snd C) {p a x : Nat} (hp : p < 8192) (ha : a ≤ 3) (hx : x < 16) (k : Q (some (vI (((p / 16 ^ a * 16 + x) * 16 ^ a + p % 16 ^ a : Nat) : Int))) M) : C d 31 [vI p, vI a, vI x] M Q := by
  refine en_X3_insert S ?_
  have e1 : (4 * (a : Int)).toNat = 4 * a := by omega
  refine Runs.go S.1 mo_X3_insert [] 26 ?_
  simp only [e_X3_insert_0, e_X3_insert_1, e_X3_insert_2, e_X3_insert_3, e_X3_insert_4, e_X3_insert_5, e_X3_insert_6, e_X3_insert_7, e_X3_insert_8, e_X3_insert_9, e_X3_insert_10, e_X3_insert_11, e_X3_insert_13, e_X3_insert_14, e_X3_insert_15, e_X3_insert_16, e_X3_insert_17, e_X3_insert_18, e_X3_insert_19, e_X3_insert_20, e_X3_insert_21, e_X3_insert_22, e_X3_insert_24, e_X3_insert_25, e1, f_and, f_iret, f_loadI, f_mul, f_or, f_push, f_shl, f_shr, f_storeI, f_sub, stN, lget, lput, clrL, lputL, lenLe, lenGe, noL, swL, List.elem_cons, List.elem_nil, List.take_succ_cons, List.take_zero, List.take_nil, List.drop_succ_cons, List.drop_zero, List.reverse_cons, List.reverse_nil, List.nil_append, List.cons_append, Option.toList_some, Option.toList_none, Bool.and_true, Bool.or_false, Bool.false_or, Bool.true_or, Bool.and_self, true_and, and_true, Nat.reduceAdd, Nat.reduceBEq, Int.reduceAdd, Int.reduceNeg, Int.reduceLE, Int.reduceLT, Int.reduceSub, Int.reduceMul, Int.reduceToNat, cEq, cNe, cLt, cGe, cGt, cLe, iR, lR, cl_0, cl_1, cl_4, cl_9, cl_86, al_2, al_3, al_5, al_13, al_6, al_7, al_8, al_10, al_11, al_87, al_88, al_90, al_91, al_92, al_93, al_94, al_95, al_96, al_97, al_98, al_99, al_100, ne_eq, not_true_eq_false, not_false_eq_true, upM_eq, upM_ni, upM_nj, upM_24, upM_48, upM_i24, upM_i48, upM_2448, upM_4824, Nat.reduceEqDiff, reduceCtorEq, or_true, true_or, Int.reduceEq, true_implies, false_implies, Int.reducePow, Int.toNat_natCast]
  refine ⟨by omega, by omega, by omega, by omega, ?_⟩
  have h16 : (2 : Nat) ^ (4 * a) = 16 ^ a := by rw [Nat.pow_mul]
  have e2 : bAnd (p : Int) (1 * 2 ^ (4 * a) - 1) = ((p % 16 ^ a : Nat) : Int) := by rw [Int.one_mul, bAnd_mask (by omega), h16]
  have hle : p / 16 ^ a ≤ p := Nat.div_le_self _ _
  have hlt : p % 16 ^ a < 16 ^ a := Nat.mod_lt _ (Nat.pow_pos (by omega))
  have hq : p / 16 ^ a * 16 ^ a ≤ p := Nat.div_mul_le_self _ _
  have h3 : 16 ^ a ≤ 4096 := Nat.pow_le_pow_right (n := 16) (by omega) ha
  have e3 : (p : Int) / 2 ^ (4 * a) = ((p / 16 ^ a : Nat) : Int) := by
    rw [Int.natCast_ediv, ← h16, Int.natCast_pow]
    rfl
  rw [e2, e3]
  have e4 : bOr (((p / 16 ^ a : Nat) : Int) * 16) (x : Int) = ((p / 16 ^ a * 16 + x : Nat) : Int) := by
    have := bOr_sum (a := p / 16 ^ a) (b := x) (k := 4) (by omega) (by omega)
    rw [show ((2 : Int) ^ 4) = 16 from rfl] at this
    rw [this]
    omega
  rw [e4]
  have hb : (p / 16 ^ a * 16 + x) * 16 ^ a + p % 16 ^ a < 2147483648 := by
    have : (p / 16 ^ a * 16 + x) * 16 ^ a = p / 16 ^ a * 16 ^ a * 16 + x * 16 ^ a := by rw [Nat.add_mul, Nat.mul_right_comm]
    have h5 : x * 16 ^ a ≤ 16 * 4096 := Nat.mul_le_mul (by omega) h3
    omega
  have e5 : bOr (((p / 16 ^ a * 16 + x : Nat) : Int) * 2 ^ (4 * a)) ((p % 16 ^ a : Nat) : Int) = (((p / 16 ^ a * 16 + x) * 16 ^ a + p % 16 ^ a : Nat) : Int) := by
    rw [bOr_sum (by rw [h16]; exact hlt) (by rw [h16]; exact hb), ← h16]
    push_cast
    rfl
  rw [e5]
  exact k
set_option maxRecDepth 40000 in
set_option maxHeartbeats 4000000 in
theorem c_X3_length (S : Snd C) {p : Int} (hp : iR p) (k : Q (some (vI (plenI p))) M) : C d 27 [vI p] M Q := by
  unfold iR at hp
  refine en_X3_length S ?_
  refine Runs.go S.1 mo_X3_length [] 80 ?_
  simp only [e_X3_length_0, e_X3_length_1, e_X3_length_2, e_X3_length_3, e_X3_length_4, e_X3_length_7, e_X3_length_8, e_X3_length_9, e_X3_length_10, e_X3_length_11, e_X3_length_12, e_X3_length_13, e_X3_length_14, e_X3_length_17, e_X3_length_20, e_X3_length_23, e_X3_length_24, f_add, f_goto, f_icmp, f_if0, f_iinc, f_iret, f_loadI, f_mul, f_push, f_shr, f_storeI, stN, lget, lput, clrL, lputL, lenLe, lenGe, noL, swL, List.elem_cons, List.elem_nil, List.take_succ_cons, List.take_zero, List.take_nil, List.drop_succ_cons, List.drop_zero, List.reverse_cons, List.reverse_nil, List.nil_append, List.cons_append, Option.toList_some, Option.toList_none, Bool.and_true, Bool.or_false, Bool.false_or, Bool.true_or, Bool.and_self, true_and, and_true, Nat.reduceAdd, Nat.reduceBEq, Int.reduceAdd, Int.reduceNeg, Int.reduceLE, Int.reduceLT, Int.reduceSub, Int.reduceMul, Int.reduceToNat, cEq, cNe, cLt, cGe, cGt, cLe, iR, lR, cl_0, cl_1, cl_4, cl_9, cl_86, al_2, al_3, al_5, al_13, al_6, al_7, al_8, al_10, al_11, al_87, al_88, al_90, al_91, al_92, al_93, al_94, al_95, al_96, al_97, al_98, al_99, al_100, ne_eq, not_true_eq_false, not_false_eq_true, upM_eq, upM_ni, upM_nj, upM_24, upM_48, upM_i24, upM_i48, upM_2448, upM_4824, Nat.reduceEqDiff, reduceCtorEq, or_true, true_or, Int.reduceEq, true_implies, false_implies, Int.reducePow, Int.toNat_natCast]
  unfold plenI at k
  repeat' (first | refine And.intro ?_ ?_ | intro _)
  all_goals first | omega | ((repeat (first | rw [if_pos (by omega)] at k | rw [if_neg (by omega)] at k)); exact k)
set_option maxRecDepth 40000 in
set_option maxHeartbeats 4000000 in
theorem c_X3_lastItem (S : Snd C) {p : Nat} (k : Q (some (vI ((p % 16 : Nat) : Int))) M) : C d 29 [vI p] M Q := by
  refine en_X3_lastItem S ?_
  refine Runs.go S.1 mo_X3_lastItem [] 6 ?_
  simp only [e_X3_lastItem_0, e_X3_lastItem_1, e_X3_lastItem_3, e_X3_lastItem_4, f_and, f_iret, f_loadI, f_push, stN, lget, lput, clrL, lputL, lenLe, lenGe, noL, swL, List.elem_cons, List.elem_nil, List.take_succ_cons, List.take_zero, List.take_nil, List.drop_succ_cons, List.drop_zero, List.reverse_cons, List.reverse_nil, List.nil_append, List.cons_append, Option.toList_some, Option.toList_none, Bool.and_true, Bool.or_false, Bool.false_or, Bool.true_or, Bool.and_self, true_and, and_true, Nat.reduceAdd, Nat.reduceBEq, Int.reduceAdd, Int.reduceNeg, Int.reduceLE, Int.reduceLT, Int.reduceSub, Int.reduceMul, Int.reduceToNat, cEq, cNe, cLt, cGe, cGt, cLe, iR, lR, cl_0, cl_1, cl_4, cl_9, cl_86, al_2, al_3, al_5, al_13, al_6, al_7, al_8, al_10, al_11, al_87, al_88, al_90, al_91, al_92, al_93, al_94, al_95, al_96, al_97, al_98, al_99, al_100, ne_eq, not_true_eq_false, not_false_eq_true, upM_eq, upM_ni, upM_nj, upM_24, upM_48, upM_i24, upM_i48, upM_2448, upM_4824, Nat.reduceEqDiff, reduceCtorEq, or_true, true_or, Int.reduceEq, true_implies, false_implies, Int.reducePow, Int.toNat_natCast]
  have := bAnd_mask (a := p) (k := 4) (by omega)
  rw [show ((2 : Int) ^ 4 - 1) = 15 from rfl, show ((2 : Nat) ^ 4) = 16 from rfl] at this
  rw [this]
  exact k
set_option maxRecDepth 40000 in
set_option maxHeartbeats 4000000 in
theorem c_X3_withoutLast (S : Snd C) {p : Nat} (hp : p < 2147483648) (k : Q (some (vI ((p / 16 : Nat) : Int))) M) : C d 30 [vI p] M Q := by
  refine en_X3_withoutLast S ?_
  refine Runs.go S.1 mo_X3_withoutLast [] 6 ?_
  simp only [e_X3_withoutLast_0, e_X3_withoutLast_1, e_X3_withoutLast_2, e_X3_withoutLast_3, f_iret, f_loadI, f_push, f_shr, stN, lget, lput, clrL, lputL, lenLe, lenGe, noL, swL, List.elem_cons, List.elem_nil, List.take_succ_cons, List.take_zero, List.take_nil, List.drop_succ_cons, List.drop_zero, List.reverse_cons, List.reverse_nil, List.nil_append, List.cons_append, Option.toList_some, Option.toList_none, Bool.and_true, Bool.or_false, Bool.false_or, Bool.true_or, Bool.and_self, true_and, and_true, Nat.reduceAdd, Nat.reduceBEq, Int.reduceAdd, Int.reduceNeg, Int.reduceLE, Int.reduceLT, Int.reduceSub, Int.reduceMul, Int.reduceToNat, cEq, cNe, cLt, cGe, cGt, cLe, iR, lR, cl_0, cl_1, cl_4, cl_9, cl_86, al_2, al_3, al_5, al_13, al_6, al_7, al_8, al_10, al_11, al_87, al_88, al_90, al_91, al_92, al_93, al_94, al_95, al_96, al_97, al_98, al_99, al_100, ne_eq, not_true_eq_false, not_false_eq_true, upM_eq, upM_ni, upM_nj, upM_24, upM_48, upM_i24, upM_i48, upM_2448, upM_4824, Nat.reduceEqDiff, reduceCtorEq, or_true, true_or, Int.reduceEq, true_implies, false_implies, Int.reducePow, Int.toNat_natCast]
  refine ⟨by omega, ?_⟩
  rw [show ((p : Int) / 16) = ((p / 16 : Nat) : Int) by omega]
  exact k
theorem enc_item : ∀ l, PL l → ∀ k, k < l.length → enc l / 16 ^ (l.length - 1 - k) % 16 = l.getD k 0 := by
  refine PL.cases ?_ ?_ ?_ ?_ ?_
  · intro k hk; simp at hk
  · intro a ha k hk
    match k, hk with
    | 0, _ => simp [enc]; omega
  · intro a b ha hb k hk
    match k, hk with
    | 0, _ => simp [enc]; omega
    | 1, _ => simp [enc]; omega
  · intro a b c ha hb hc k hk
    match k, hk with
    | 0, _ => simp [enc]; omega
    | 1, _ => simp [enc]; omega
    | 2, _ => simp [enc]; omega
  · intro a b c d ha hb hc hd k hk
    match k, hk with
    | 0, _ => simp [enc]; omega
    | 1, _ => simp [enc]; omega
    | 2, _ => simp [enc]; omega
    | 3, _ => simp [enc]; omega
set_option maxRecDepth 40000 in
set_option maxHeartbeats 4000000 in
theorem c_X3_item (S : Snd C) {l : List Nat} {x : Int} (hl : PL l) (hx : iR x) (k : Q (some (vI (itemI l x))) M) : C (d + 1) 28 [vI (enc l : Nat), vI x] M Q := by
  have hb := enc_b l hl
  have h4 := hl.1
  unfold iR at hx
  refine en_X3_item S ?_
  refine Runs.go S.1 mo_X3_item [4] 24 ?_
  simp only [e_X3_item_0, e_X3_item_1, e_X3_item_4, e_X3_item_5, e_X3_item_6, e_X3_item_9, e_X3_item_10, e_X3_item_11, e_X3_item_14, e_X3_item_15, e_X3_item_18, e_X3_item_19, e_X3_item_20, e_X3_item_21, e_X3_item_22, e_X3_item_23, e_X3_item_24, e_X3_item_25, e_X3_item_26, e_X3_item_27, e_X3_item_29, e_X3_item_30, f_and, f_callS, f_goto, f_icmp, f_if0, f_iret, f_loadI, f_mul, f_push, f_shr, f_storeI, f_sub, stN, lget, lput, clrL, lputL, lenLe, lenGe, noL, swL, List.elem_cons, List.elem_nil, List.take_succ_cons, List.take_zero, List.take_nil, List.drop_succ_cons, List.drop_zero, List.reverse_cons, List.reverse_nil, List.nil_append, List.cons_append, Option.toList_some, Option.toList_none, Bool.and_true, Bool.or_false, Bool.false_or, Bool.true_or, Bool.and_self, true_and, and_true, Nat.reduceAdd, Nat.reduceBEq, Int.reduceAdd, Int.reduceNeg, Int.reduceLE, Int.reduceLT, Int.reduceSub, Int.reduceMul, Int.reduceToNat, cEq, cNe, cLt, cGe, cGt, cLe, iR, lR, cl_0, cl_1, cl_4, cl_9, cl_86, al_2, al_3, al_5, al_13, al_6, al_7, al_8, al_10, al_11, al_87, al_88, al_90, al_91, al_92, al_93, al_94, al_95, al_96, al_97, al_98, al_99, al_100, ne_eq, not_true_eq_false, not_false_eq_true, upM_eq, upM_ni, upM_nj, upM_24, upM_48, upM_i24, upM_i48, upM_2448, upM_4824, Nat.reduceEqDiff, reduceCtorEq, or_true, true_or, Int.reduceEq, true_implies, false_implies, Int.reducePow, Int.toNat_natCast]
  refine c_X3_length S ⟨by omega, by omega⟩ ?_
  rw [enc_plen l hl]
  unfold itemI at k
  refine Runs.go S.1 mo_X3_item [4] 24 ?_
  simp only [e_X3_item_0, e_X3_item_1, e_X3_item_4, e_X3_item_5, e_X3_item_6, e_X3_item_9, e_X3_item_10, e_X3_item_11, e_X3_item_14, e_X3_item_15, e_X3_item_18, e_X3_item_19, e_X3_item_20, e_X3_item_21, e_X3_item_22, e_X3_item_23, e_X3_item_24, e_X3_item_25, e_X3_item_26, e_X3_item_27, e_X3_item_29, e_X3_item_30, f_and, f_callS, f_goto, f_icmp, f_if0, f_iret, f_loadI, f_mul, f_push, f_shr, f_storeI, f_sub, stN, lget, lput, clrL, lputL, lenLe, lenGe, noL, swL, List.elem_cons, List.elem_nil, List.take_succ_cons, List.take_zero, List.take_nil, List.drop_succ_cons, List.drop_zero, List.reverse_cons, List.reverse_nil, List.nil_append, List.cons_append, Option.toList_some, Option.toList_none, Bool.and_true, Bool.or_false, Bool.false_or, Bool.true_or, Bool.and_self, true_and, and_true, Nat.reduceAdd, Nat.reduceBEq, Int.reduceAdd, Int.reduceNeg, Int.reduceLE, Int.reduceLT, Int.reduceSub, Int.reduceMul, Int.reduceToNat, cEq, cNe, cLt, cGe, cGt, cLe, iR, lR, cl_0, cl_1, cl_4, cl_9, cl_86, al_2, al_3, al_5, al_13, al_6, al_7, al_8, al_10, al_11, al_87, al_88, al_90, al_91, al_92, al_93, al_94, al_95, al_96, al_97, al_98, al_99, al_100, ne_eq, not_true_eq_false, not_false_eq_true, upM_eq, upM_ni, upM_nj, upM_24, upM_48, upM_i24, upM_i48, upM_2448, upM_4824, Nat.reduceEqDiff, reduceCtorEq, or_true, true_or, Int.reduceEq, true_implies, false_implies, Int.reducePow, Int.toNat_natCast]
  refine ⟨by omega, fun q => ?_, fun q => ⟨by omega, by omega, fun q2 => ⟨⟨by omega, by omega⟩, ⟨by omega, by omega⟩, ?_⟩, fun q2 => ?_⟩⟩
  · rw [if_neg (by omega)] at k; exact k
  rotate_left
  · rw [if_neg (by omega)] at k; exact k
  · rw [if_pos (by omega)] at k
    have e1 : (4 * ((l.length : Int) - 1 - x)).toNat = 4 * (l.length - 1 - x.toNat) := by omega
    have e2 : ((enc l : Nat) : Int) / 2 ^ (4 * (l.length - 1 - x.toNat)) = ((enc l / 16 ^ (l.length - 1 - x.toNat) : Nat) : Int) := by
      rw [Int.natCast_ediv, show (16 : Nat) = 2 ^ 4 from rfl, ← Nat.pow_mul, Int.natCast_pow]
      rfl
    have e3 := bAnd_mask (a := enc l / 16 ^ (l.length - 1 - x.toNat)) (k := 4) (by omega)
    rw [show ((2 : Int) ^ 4 - 1) = 15 from rfl, show ((2 : Nat) ^ 4) = 16 from rfl, enc_item l hl x.toNat (by omega)] at e3
    rw [e1, e2, e3]
    exact k
set_option maxRecDepth 40000 in
set_option maxHeartbeats 4000000 in
theorem c_X3_lengthen (S : Snd C) {l : List Nat} {x : Int} (hl : PL l) (hx : -1 ≤ x ∧ x ≤ 15) (h3 : x ≠ -1 → l.length ≤ 3) (k1 : x = -1 → Q (some (vI (enc l : Nat))) M) (k2 : x ≠ -1 → Q (some (vI (enc (l ++ [x.toNat]) : Nat))) M) : C (d + 1) 26 [vI (enc l : Nat), vI x] M Q := by
  refine en_X3_lengthen S ?_
  refine Runs.go S.1 mo_X3_lengthen [15] 12 ?_
  simp only [e_X3_lengthen_0, e_X3_lengthen_1, e_X3_lengthen_2, e_X3_lengthen_5, e_X3_lengthen_6, e_X3_lengthen_9, e_X3_lengthen_10, e_X3_lengthen_11, e_X3_lengthen_12, e_X3_lengthen_15, f_callS, f_goto, f_icmp, f_iret, f_loadI, f_push, stN, lget, lput, clrL, lputL, lenLe, lenGe, noL, swL, List.elem_cons, List.elem_nil, List.take_succ_cons, List.take_zero, List.take_nil, List.drop_succ_cons, List.drop_zero, List.reverse_cons, List.reverse_nil, List.nil_append, List.cons_append, Option.toList_some, Option.toList_none, Bool.and_true, Bool.or_false, Bool.false_or, Bool.true_or, Bool.and_self, true_and, and_true, Nat.reduceAdd, Nat.reduceBEq, Int.reduceAdd, Int.reduceNeg, Int.reduceLE, Int.reduceLT, Int.reduceSub, Int.reduceMul, Int.reduceToNat, cEq, cNe, cLt, cGe, cGt, cLe, iR, lR, cl_0, cl_1, cl_4, cl_9, cl_86, al_2, al_3, al_5, al_13, al_6, al_7, al_8, al_10, al_11, al_87, al_88, al_90, al_91, al_92, al_93, al_94, al_95, al_96, al_97, al_98, al_99, al_100, ne_eq, not_true_eq_false, not_false_eq_true, upM_eq, upM_ni, upM_nj, upM_24, upM_48, upM_i24, upM_i48, upM_2448, upM_4824, Nat.reduceEqDiff, reduceCtorEq, or_true, true_or, Int.reduceEq, true_implies, false_implies, Int.reducePow, Int.toNat_natCast]
  refine ⟨by omega, fun q => ?_, fun q => ?_⟩
  rotate_left
  · refine Runs.go S.1 mo_X3_lengthen [15] 12 ?_
    simp only [e_X3_lengthen_0, e_X3_lengthen_1, e_X3_lengthen_2, e_X3_lengthen_5, e_X3_lengthen_6, e_X3_lengthen_9, e_X3_lengthen_10, e_X3_lengthen_11, e_X3_lengthen_12, e_X3_lengthen_15, f_callS, f_goto, f_icmp, f_iret, f_loadI, f_push, stN, lget, lput, clrL, lputL, lenLe, lenGe, noL, swL, List.elem_cons, List.elem_nil, List.take_succ_cons, List.take_zero, List.take_nil, List.drop_succ_cons, List.drop_zero, List.reverse_cons, List.reverse_nil, List.nil_append, List.cons_append, Option.toList_some, Option.toList_none, Bool.and_true, Bool.or_false, Bool.false_or, Bool.true_or, Bool.and_self, true_and, and_true, Nat.reduceAdd, Nat.reduceBEq, Int.reduceAdd, Int.reduceNeg, Int.reduceLE, Int.reduceLT, Int.reduceSub, Int.reduceMul, Int.reduceToNat, cEq, cNe, cLt, cGe, cGt, cLe, iR, lR, cl_0, cl_1, cl_4, cl_9, cl_86, al_2, al_3, al_5, al_13, al_6, al_7, al_8, al_10, al_11, al_87, al_88, al_90, al_91, al_92, al_93, al_94, al_95, al_96, al_97, al_98, al_99, al_100, ne_eq, not_true_eq_false, not_false_eq_true, upM_eq, upM_ni, upM_nj, upM_24, upM_48, upM_i24, upM_i48, upM_2448, upM_4824, Nat.reduceEqDiff, reduceCtorEq, or_true, true_or, Int.reduceEq, true_implies, false_implies, Int.reducePow, Int.toNat_natCast]
    exact k1 q
  have := c_X3_insert (d := d) (M := M) (Q := fun r M2 => Runs C (tabF k_X3_lengthen) (d + 1) Q 15 [some (vI (enc l : Nat)), some (vI x)] (r.toList ++ []) M2) S (p := enc l) (a := 0) (x := x.toNat) (enc_b3 l hl (h3 q)) (by omega) (by omega) (by
    refine Runs.go S.1 mo_X3_lengthen [15] 12 ?_
    simp only [e_X3_lengthen_0, e_X3_lengthen_1, e_X3_lengthen_2, e_X3_lengthen_5, e_X3_lengthen_6, e_X3_lengthen_9, e_X3_lengthen_10, e_X3_lengthen_11, e_X3_lengthen_12, e_X3_lengthen_15, f_callS, f_goto, f_icmp, f_iret, f_loadI, f_push, stN, lget, lput, clrL, lputL, lenLe, lenGe, noL, swL, List.elem_cons, List.elem_nil, List.take_succ_cons, List.take_zero, List.take_nil, List.drop_succ_cons, List.drop_zero, List.reverse_cons, List.reverse_nil, List.nil_append, List.cons_append, Option.toList_some, Option.toList_none, Bool.and_true, Bool.or_false, Bool.false_or, Bool.true_or, Bool.and_self, true_and, and_true, Nat.reduceAdd, Nat.reduceBEq, Int.reduceAdd, Int.reduceNeg, Int.reduceLE, Int.reduceLT, Int.reduceSub, Int.reduceMul, Int.reduceToNat, cEq, cNe, cLt, cGe, cGt, cLe, iR, lR, cl_0, cl_1, cl_4, cl_9, cl_86, al_2, al_3, al_5, al_13, al_6, al_7, al_8, al_10, al_11, al_87, al_88, al_90, al_91, al_92, al_93, al_94, al_95, al_96, al_97, al_98, al_99, al_100, ne_eq, not_true_eq_false, not_false_eq_true, upM_eq, upM_ni, upM_nj, upM_24, upM_48, upM_i24, upM_i48, upM_2448, upM_4824, Nat.reduceEqDiff, reduceCtorEq, or_true, true_or, Int.reduceEq, true_implies, false_implies, Int.reducePow, Int.toNat_natCast]
    have h := k2 q
    rw [enc_snoc, show 16 * enc l + x.toNat = (enc l / 16 ^ 0 * 16 + x.toNat) * 16 ^ 0 + enc l % 16 ^ 0 by simp; omega] at h
    exact h)
  rw [show ((x.toNat : Nat) : Int) = x by omega] at this
  exact this
/-- the pattern that four numbers tell -/
def patL (a b c d : Int) : Option (List Nat) :=
  if 0 ≤ a ∧ a < 16 then (if b = -1 then (if c = -1 ∧ d = -1 then some [a.toNat] else none)
    else if 0 ≤ b ∧ b < 16 then (if c = -1 then (if d = -1 then some [a.toNat, b.toNat] else none)
      else if 0 ≤ c ∧ c < 16 then (if d = -1 then some [a.toNat, b.toNat, c.toNat] else if 0 ≤ d ∧ d < 16 then some [a.toNat, b.toNat, c.toNat, d.toNat] else none) else none) else none) else none
def encO : Option (List Nat) → Int
  | none => -1
  | some l => (enc l : Nat)
theorem patL_PL {a b c d : Int} {l : List Nat} (h : patL a b c d = some l) : PL l ∧ 1 ≤ l.length := by
  unfold patL at h
  repeat' split at h
  all_goals first | (cases h; done) | skip
  all_goals (cases h; refine ⟨⟨by simp, ?_⟩, by simp⟩; intro k hk; simp only [List.mem_cons, List.not_mem_nil, or_false] at hk; omega)
set_option maxRecDepth 40000 in
set_option maxHeartbeats 4000000 in
theorem c_X3_of (S : Snd C) {a b c e : Int} (ha : iR a) (hb : iR b) (hc : iR c) (he : iR e) (k : Q (some (vI (encO (patL a b c e)))) M) : C (d + 2) 24 [vI a, vI b, vI c, vI e] M Q := by
  have a1 := ha
  have b1 := hb
  have c1 := hc
  have e1 := he
  unfold iR at a1 b1 c1 e1
  refine en_X3_of S ?_
  refine Runs.go S.1 mo_X3_of [4, 11, 18, 25, 57, 61, 65, 69] 40 ?_
  simp only [e_X3_of_0, e_X3_of_1, e_X3_of_4, e_X3_of_7, e_X3_of_8, e_X3_of_11, e_X3_of_14, e_X3_of_15, e_X3_of_18, e_X3_of_21, e_X3_of_22, e_X3_of_25, e_X3_of_28, e_X3_of_29, e_X3_of_30, e_X3_of_31, e_X3_of_32, e_X3_of_35, e_X3_of_36, e_X3_of_37, e_X3_of_40, e_X3_of_41, e_X3_of_42, e_X3_of_45, e_X3_of_46, e_X3_of_47, e_X3_of_50, e_X3_of_51, e_X3_of_52, e_X3_of_53, e_X3_of_54, e_X3_of_57, e_X3_of_58, e_X3_of_61, e_X3_of_62, e_X3_of_65, e_X3_of_66, e_X3_of_69, f_callS, f_icmp, f_if0, f_iret, f_loadI, f_push, stN, lget, lput, clrL, lputL, lenLe, lenGe, noL, swL, List.elem_cons, List.elem_nil, List.take_succ_cons, List.take_zero, List.take_nil, List.drop_succ_cons, List.drop_zero, List.reverse_cons, List.reverse_nil, List.nil_append, List.cons_append, Option.toList_some, Option.toList_none, Bool.and_true, Bool.or_false, Bool.false_or, Bool.true_or, Bool.and_self, true_and, and_true, Nat.reduceAdd, Nat.reduceBEq, Int.reduceAdd, Int.reduceNeg, Int.reduceLE, Int.reduceLT, Int.reduceSub, Int.reduceMul, Int.reduceToNat, cEq, cNe, cLt, cGe, cGt, cLe, iR, lR, cl_0, cl_1, cl_4, cl_9, cl_86, al_2, al_3, al_5, al_13, al_6, al_7, al_8, al_10, al_11, al_87, al_88, al_90, al_91, al_92, al_93, al_94, al_95, al_96, al_97, al_98, al_99, al_100, ne_eq, not_true_eq_false, not_false_eq_true, upM_eq, upM_ni, upM_nj, upM_24, upM_48, upM_i24, upM_i48, upM_2448, upM_4824, Nat.reduceEqDiff, reduceCtorEq, or_true, true_or, Int.reduceEq, true_implies, false_implies, Int.reducePow, Int.toNat_natCast]
  refine c_X5_isKind S ha ?_
  rcases (Decidable.em (0 ≤ a ∧ a < 16)).symm with qa | qa
  · rw [if_neg qa]
    unfold patL at k
    rw [if_neg qa] at k
    refine Runs.go S.1 mo_X3_of [4, 11, 18, 25, 57, 61, 65, 69] 40 ?_
    simp only [e_X3_of_0, e_X3_of_1, e_X3_of_4, e_X3_of_7, e_X3_of_8, e_X3_of_11, e_X3_of_14, e_X3_of_15, e_X3_of_18, e_X3_of_21, e_X3_of_22, e_X3_of_25, e_X3_of_28, e_X3_of_29, e_X3_of_30, e_X3_of_31, e_X3_of_32, e_X3_of_35, e_X3_of_36, e_X3_of_37, e_X3_of_40, e_X3_of_41, e_X3_of_42, e_X3_of_45, e_X3_of_46, e_X3_of_47, e_X3_of_50, e_X3_of_51, e_X3_of_52, e_X3_of_53, e_X3_of_54, e_X3_of_57, e_X3_of_58, e_X3_of_61, e_X3_of_62, e_X3_of_65, e_X3_of_66, e_X3_of_69, f_callS, f_icmp, f_if0, f_iret, f_loadI, f_push, stN, lget, lput, clrL, lputL, lenLe, lenGe, noL, swL, List.elem_cons, List.elem_nil, List.take_succ_cons, List.take_zero, List.take_nil, List.drop_succ_cons, List.drop_zero, List.reverse_cons, List.reverse_nil, List.nil_append, List.cons_append, Option.toList_some, Option.toList_none, Bool.and_true, Bool.or_false, Bool.false_or, Bool.true_or, Bool.and_self, true_and, and_true, Nat.reduceAdd, Nat.reduceBEq, Int.reduceAdd, Int.reduceNeg, Int.reduceLE, Int.reduceLT, Int.reduceSub, Int.reduceMul, Int.reduceToNat, cEq, cNe, cLt, cGe, cGt, cLe, iR, lR, cl_0, cl_1, cl_4, cl_9, cl_86, al_2, al_3, al_5, al_13, al_6, al_7, al_8, al_10, al_11, al_87, al_88, al_90, al_91, al_92, al_93, al_94, al_95, al_96, al_97, al_98, al_99, al_100, ne_eq, not_true_eq_false, not_false_eq_true, upM_eq, upM_ni, upM_nj, upM_24, upM_48, upM_i24, upM_i48, upM_2448, upM_4824, Nat.reduceEqDiff, reduceCtorEq, or_true, true_or, Int.reduceEq, true_implies, false_implies, Int.reducePow, Int.toNat_natCast]
    exact k
  rw [if_pos qa]
  refine Runs.go S.1 mo_X3_of [4, 11, 18, 25, 57, 61, 65, 69] 40 ?_
  simp only [e_X3_of_0, e_X3_of_1, e_X3_of_4, e_X3_of_7, e_X3_of_8, e_X3_of_11, e_X3_of_14, e_X3_of_15, e_X3_of_18, e_X3_of_21, e_X3_of_22, e_X3_of_25, e_X3_of_28, e_X3_of_29, e_X3_of_30, e_X3_of_31, e_X3_of_32, e_X3_of_35, e_X3_of_36, e_X3_of_37, e_X3_of_40, e_X3_of_41, e_X3_of_42, e_X3_of_45, e_X3_of_46, e_X3_of_47, e_X3_of_50, e_X3_of_51, e_X3_of_52, e_X3_of_53, e_X3_of_54, e_X3_of_57, e_X3_of_58, e_X3_of_61, e_X3_of_62, e_X3_of_65, e_X3_of_66, e_X3_of_69, f_callS, f_icmp, f_if0, f_iret, f_loadI, f_push, stN, lget, lput, clrL, lputL, lenLe, lenGe, noL, swL, List.elem_cons, List.elem_nil, List.take_succ_cons, List.take_zero, List.take_nil, List.drop_succ_cons, List.drop_zero, List.reverse_cons, List.reverse_nil, List.nil_append, List.cons_append, Option.toList_some, Option.toList_none, Bool.and_true, Bool.or_false, Bool.false_or, Bool.true_or, Bool.and_self, true_and, and_true, Nat.reduceAdd, Nat.reduceBEq, Int.reduceAdd, Int.reduceNeg, Int.reduceLE, Int.reduceLT, Int.reduceSub, Int.reduceMul, Int.reduceToNat, cEq, cNe, cLt, cGe, cGt, cLe, iR, lR, cl_0, cl_1, cl_4, cl_9, cl_86, al_2, al_3, al_5, al_13, al_6, al_7, al_8, al_10, al_11, al_87, al_88, al_90, al_91, al_92, al_93, al_94, al_95, al_96, al_97, al_98, al_99, al_100, ne_eq, not_true_eq_false, not_false_eq_true, upM_eq, upM_ni, upM_nj, upM_24, upM_48, upM_i24, upM_i48, upM_2448, upM_4824, Nat.reduceEqDiff, reduceCtorEq, or_true, true_or, Int.reduceEq, true_implies, false_implies, Int.reducePow, Int.toNat_natCast]
  refine c_X3_isKindOrNone S hb ?_
  rcases (Decidable.em (-1 ≤ b ∧ b < 16)).symm with qb | qb
  · rw [if_neg qb]
    unfold patL at k
    rw [if_pos qa, if_neg (by omega), if_neg (by omega)] at k
    refine Runs.go S.1 mo_X3_of [4, 11, 18, 25, 57, 61, 65, 69] 40 ?_
    simp only [e_X3_of_0, e_X3_of_1, e_X3_of_4, e_X3_of_7, e_X3_of_8, e_X3_of_11, e_X3_of_14, e_X3_of_15, e_X3_of_18, e_X3_of_21, e_X3_of_22, e_X3_of_25, e_X3_of_28, e_X3_of_29, e_X3_of_30, e_X3_of_31, e_X3_of_32, e_X3_of_35, e_X3_of_36, e_X3_of_37, e_X3_of_40, e_X3_of_41, e_X3_of_42, e_X3_of_45, e_X3_of_46, e_X3_of_47, e_X3_of_50, e_X3_of_51, e_X3_of_52, e_X3_of_53, e_X3_of_54, e_X3_of_57, e_X3_of_58, e_X3_of_61, e_X3_of_62, e_X3_of_65, e_X3_of_66, e_X3_of_69, f_callS, f_icmp, f_if0, f_iret, f_loadI, f_push, stN, lget, lput, clrL, lputL, lenLe, lenGe, noL, swL, List.elem_cons, List.elem_nil, List.take_succ_cons, List.take_zero, List.take_nil, List.drop_succ_cons, List.drop_zero, List.reverse_cons, List.reverse_nil, List.nil_append, List.cons_append, Option.toList_some, Option.toList_none, Bool.and_true, Bool.or_false, Bool.false_or, Bool.true_or, Bool.and_self, true_and, and_true, Nat.reduceAdd, Nat.reduceBEq, Int.reduceAdd, Int.reduceNeg, Int.reduceLE, Int.reduceLT, Int.reduceSub, Int.reduceMul, Int.reduceToNat, cEq, cNe, cLt, cGe, cGt, cLe, iR, lR, cl_0, cl_1, cl_4, cl_9, cl_86, al_2, al_3, al_5, al_13, al_6, al_7, al_8, al_10, al_11, al_87, al_88, al_90, al_91, al_92, al_93, al_94, al_95, al_96, al_97, al_98, al_99, al_100, ne_eq, not_true_eq_false, not_false_eq_true, upM_eq, upM_ni, upM_nj, upM_24, upM_48, upM_i24, upM_i48, upM_2448, upM_4824, Nat.reduceEqDiff, reduceCtorEq, or_true, true_or, Int.reduceEq, true_implies, false_implies, Int.reducePow, Int.toNat_natCast]
    exact k
  rw [if_pos qb]
  refine Runs.go S.1 mo_X3_of [4, 11, 18, 25, 57, 61, 65, 69] 40 ?_
  simp only [e_X3_of_0, e_X3_of_1, e_X3_of_4, e_X3_of_7, e_X3_of_8, e_X3_of_11, e_X3_of_14, e_X3_of_15, e_X3_of_18, e_X3_of_21, e_X3_of_22, e_X3_of_25, e_X3_of_28, e_X3_of_29, e_X3_of_30, e_X3_of_31, e_X3_of_32, e_X3_of_35, e_X3_of_36, e_X3_of_37, e_X3_of_40, e_X3_of_41, e_X3_of_42, e_X3_of_45, e_X3_of_46, e_X3_of_47, e_X3_of_50, e_X3_of_51, e_X3_of_52, e_X3_of_53, e_X3_of_54, e_X3_of_57, e_X3_of_58, e_X3_of_61, e_X3_of_62, e_X3_of_65, e_X3_of_66, e_X3_of_69, f_callS, f_icmp, f_if0, f_iret, f_loadI, f_push, stN, lget, lput, clrL, lputL, lenLe, lenGe, noL, swL, List.elem_cons, List.elem_nil, List.take_succ_cons, List.take_zero, List.take_nil, List.drop_succ_cons, List.drop_zero, List.reverse_cons, List.reverse_nil, List.nil_append, List.cons_append, Option.toList_some, Option.toList_none, Bool.and_true, Bool.or_false, Bool.false_or, Bool.true_or, Bool.and_self, true_and, and_true, Nat.reduceAdd, Nat.reduceBEq, Int.reduceAdd, Int.reduceNeg, Int.reduceLE, Int.reduceLT, Int.reduceSub, Int.reduceMul, Int.reduceToNat, cEq, cNe, cLt, cGe, cGt, cLe, iR, lR, cl_0, cl_1, cl_4, cl_9, cl_86, al_2, al_3, al_5, al_13, al_6, al_7, al_8, al_10, al_11, al_87, al_88, al_90, al_91, al_92, al_93, al_94, al_95, al_96, al_97, al_98, al_99, al_100, ne_eq, not_true_eq_false, not_false_eq_true, upM_eq, upM_ni, upM_nj, upM_24, upM_48, upM_i24, upM_i48, upM_2448, upM_4824, Nat.reduceEqDiff, reduceCtorEq, or_true, true_or, Int.reduceEq, true_implies, false_implies, Int.reducePow, Int.toNat_natCast]
  refine c_X3_isKindOrNone S hc ?_
  rcases (Decidable.em (-1 ≤ c ∧ c < 16)).symm with qc | qc
  · rw [if_neg qc]
    unfold patL at k
    rw [if_pos qa] at k
    by_cases q1 : b = -1
    · rw [if_pos q1, if_neg (by omega)] at k
      refine Runs.go S.1 mo_X3_of [4, 11, 18, 25, 57, 61, 65, 69] 40 ?_
      simp only [e_X3_of_0, e_X3_of_1, e_X3_of_4, e_X3_of_7, e_X3_of_8, e_X3_of_11, e_X3_of_14, e_X3_of_15, e_X3_of_18, e_X3_of_21, e_X3_of_22, e_X3_of_25, e_X3_of_28, e_X3_of_29, e_X3_of_30, e_X3_of_31, e_X3_of_32, e_X3_of_35, e_X3_of_36, e_X3_of_37, e_X3_of_40, e_X3_of_41, e_X3_of_42, e_X3_of_45, e_X3_of_46, e_X3_of_47, e_X3_of_50, e_X3_of_51, e_X3_of_52, e_X3_of_53, e_X3_of_54, e_X3_of_57, e_X3_of_58, e_X3_of_61, e_X3_of_62, e_X3_of_65, e_X3_of_66, e_X3_of_69, f_callS, f_icmp, f_if0, f_iret, f_loadI, f_push, stN, lget, lput, clrL, lputL, lenLe, lenGe, noL, swL, List.elem_cons, List.elem_nil, List.take_succ_cons, List.take_zero, List.take_nil, List.drop_succ_cons, List.drop_zero, List.reverse_cons, List.reverse_nil, List.nil_append, List.cons_append, Option.toList_some, Option.toList_none, Bool.and_true, Bool.or_false, Bool.false_or, Bool.true_or, Bool.and_self, true_and, and_true, Nat.reduceAdd, Nat.reduceBEq, Int.reduceAdd, Int.reduceNeg, Int.reduceLE, Int.reduceLT, Int.reduceSub, Int.reduceMul, Int.reduceToNat, cEq, cNe, cLt, cGe, cGt, cLe, iR, lR, cl_0, cl_1, cl_4, cl_9, cl_86, al_2, al_3, al_5, al_13, al_6, al_7, al_8, al_10, al_11, al_87, al_88, al_90, al_91, al_92, al_93, al_94, al_95, al_96, al_97, al_98, al_99, al_100, ne_eq, not_true_eq_false, not_false_eq_true, upM_eq, upM_ni, upM_nj, upM_24, upM_48, upM_i24, upM_i48, upM_2448, upM_4824, Nat.reduceEqDiff, reduceCtorEq, or_true, true_or, Int.reduceEq, true_implies, false_implies, Int.reducePow, Int.toNat_natCast]
      exact k
    · rw [if_neg q1, if_pos (by omega), if_neg (by omega), if_neg (by omega)] at k
      refine Runs.go S.1 mo_X3_of [4, 11, 18, 25, 57, 61, 65, 69] 40 ?_
      simp only [e_X3_of_0, e_X3_of_1, e_X3_of_4, e_X3_of_7, e_X3_of_8, e_X3_of_11, e_X3_of_14, e_X3_of_15, e_X3_of_18, e_X3_of_21, e_X3_of_22, e_X3_of_25, e_X3_of_28, e_X3_of_29, e_X3_of_30, e_X3_of_31, e_X3_of_32, e_X3_of_35, e_X3_of_36, e_X3_of_37, e_X3_of_40, e_X3_of_41, e_X3_of_42, e_X3_of_45, e_X3_of_46, e_X3_of_47, e_X3_of_50, e_X3_of_51, e_X3_of_52, e_X3_of_53, e_X3_of_54, e_X3_of_57, e_X3_of_58, e_X3_of_61, e_X3_of_62, e_X3_of_65, e_X3_of_66, e_X3_of_69, f_callS, f_icmp, f_if0, f_iret, f_loadI, f_push, stN, lget, lput, clrL, lputL, lenLe, lenGe, noL, swL, List.elem_cons, List.elem_nil, List.take_succ_cons, List.take_zero, List.take_nil, List.drop_succ_cons, List.drop_zero, List.reverse_cons, List.reverse_nil, List.nil_append, List.cons_append, Option.toList_some, Option.toList_none, Bool.and_true, Bool.or_false, Bool.false_or, Bool.true_or, Bool.and_self, true_and, and_true, Nat.reduceAdd, Nat.reduceBEq, Int.reduceAdd, Int.reduceNeg, Int.reduceLE, Int.reduceLT, Int.reduceSub, Int.reduceMul, Int.reduceToNat, cEq, cNe, cLt, cGe, cGt, cLe, iR, lR, cl_0, cl_1, cl_4, cl_9, cl_86, al_2, al_3, al_5, al_13, al_6, al_7, al_8, al_10, al_11, al_87, al_88, al_90, al_91, al_92, al_93, al_94, al_95, al_96, al_97, al_98, al_99, al_100, ne_eq, not_true_eq_false, not_false_eq_true, upM_eq, upM_ni, upM_nj, upM_24, upM_48, upM_i24, upM_i48, upM_2448, upM_4824, Nat.reduceEqDiff, reduceCtorEq, or_true, true_or, Int.reduceEq, true_implies, false_implies, Int.reducePow, Int.toNat_natCast]
      exact k
  rw [if_pos qc]
  refine Runs.go S.1 mo_X3_of [4, 11, 18, 25, 57, 61, 65, 69] 40 ?_
  simp only [e_X3_of_0, e_X3_of_1, e_X3_of_4, e_X3_of_7, e_X3_of_8, e_X3_of_11, e_X3_of_14, e_X3_of_15, e_X3_of_18, e_X3_of_21, e_X3_of_22, e_X3_of_25, e_X3_of_28, e_X3_of_29, e_X3_of_30, e_X3_of_31, e_X3_of_32, e_X3_of_35, e_X3_of_36, e_X3_of_37, e_X3_of_40, e_X3_of_41, e_X3_of_42, e_X3_of_45, e_X3_of_46, e_X3_of_47, e_X3_of_50, e_X3_of_51, e_X3_of_52, e_X3_of_53, e_X3_of_54, e_X3_of_57, e_X3_of_58, e_X3_of_61, e_X3_of_62, e_X3_of_65, e_X3_of_66, e_X3_of_69, f_callS, f_icmp, f_if0, f_iret, f_loadI, f_push, stN, lget, lput, clrL, lputL, lenLe, lenGe, noL, swL, List.elem_cons, List.elem_nil, List.take_succ_cons, List.take_zero, List.take_nil, List.drop_succ_cons, List.drop_zero, List.reverse_cons, List.reverse_nil, List.nil_append, List.cons_append, Option.toList_some, Option.toList_none, Bool.and_true, Bool.or_false, Bool.false_or, Bool.true_or, Bool.and_self, true_and, and_true, Nat.reduceAdd, Nat.reduceBEq, Int.reduceAdd, Int.reduceNeg, Int.reduceLE, Int.reduceLT, Int.reduceSub, Int.reduceMul, Int.reduceToNat, cEq, cNe, cLt, cGe, cGt, cLe, iR, lR, cl_0, cl_1, cl_4, cl_9, cl_86, al_2, al_3, al_5, al_13, al_6, al_7, al_8, al_10, al_11, al_87, al_88, al_90, al_91, al_92, al_93, al_94, al_95, al_96, al_97, al_98, al_99, al_100, ne_eq, not_true_eq_false, not_false_eq_true, upM_eq, upM_ni, upM_nj, upM_24, upM_48, upM_i24, upM_i48, upM_2448, upM_4824, Nat.reduceEqDiff, reduceCtorEq, or_true, true_or, Int.reduceEq, true_implies, false_implies, Int.reducePow, Int.toNat_natCast]
  refine c_X3_isKindOrNone S he ?_
  rcases (Decidable.em (-1 ≤ e ∧ e < 16)).symm with qe | qe
  · rw [if_neg qe]
    have : encO (patL a b c e) = -1 := by
      unfold patL
      rw [if_pos qa]
      repeat' split
      all_goals first | rfl | omega
    rw [this] at k
    refine Runs.go S.1 mo_X3_of [4, 11, 18, 25, 57, 61, 65, 69] 40 ?_
    simp only [e_X3_of_0, e_X3_of_1, e_X3_of_4, e_X3_of_7, e_X3_of_8, e_X3_of_11, e_X3_of_14, e_X3_of_15, e_X3_of_18, e_X3_of_21, e_X3_of_22, e_X3_of_25, e_X3_of_28, e_X3_of_29, e_X3_of_30, e_X3_of_31, e_X3_of_32, e_X3_of_35, e_X3_of_36, e_X3_of_37, e_X3_of_40, e_X3_of_41, e_X3_of_42, e_X3_of_45, e_X3_of_46, e_X3_of_47, e_X3_of_50, e_X3_of_51, e_X3_of_52, e_X3_of_53, e_X3_of_54, e_X3_of_57, e_X3_of_58, e_X3_of_61, e_X3_of_62, e_X3_of_65, e_X3_of_66, e_X3_of_69, f_callS, f_icmp, f_if0, f_iret, f_loadI, f_push, stN, lget, lput, clrL, lputL, lenLe, lenGe, noL, swL, List.elem_cons, List.elem_nil, List.take_succ_cons, List.take_zero, List.take_nil, List.drop_succ_cons, List.drop_zero, List.reverse_cons, List.reverse_nil, List.nil_append, List.cons_append, Option.toList_some, Option.toList_none, Bool.and_true, Bool.or_false, Bool.false_or, Bool.true_or, Bool.and_self, true_and, and_true, Nat.reduceAdd, Nat.reduceBEq, Int.reduceAdd, Int.reduceNeg, Int.reduceLE, Int.reduceLT, Int.reduceSub, Int.reduceMul, Int.reduceToNat, cEq, cNe, cLt, cGe, cGt, cLe, iR, lR, cl_0, cl_1, cl_4, cl_9, cl_86, al_2, al_3, al_5, al_13, al_6, al_7, al_8, al_10, al_11, al_87, al_88, al_90, al_91, al_92, al_93, al_94, al_95, al_96, al_97, al_98, al_99, al_100, ne_eq, not_true_eq_false, not_false_eq_true, upM_eq, upM_ni, upM_nj, upM_24, upM_48, upM_i24, upM_i48, upM_2448, upM_4824, Nat.reduceEqDiff, reduceCtorEq, or_true, true_or, Int.reduceEq, true_implies, false_implies, Int.reducePow, Int.toNat_natCast]
    exact k
  rw [if_pos qe]
  have fin : (b = -1 → c = -1) → (c = -1 → e = -1) → C (d + 1) 26 [vI 1, vI a] M fun r M2 => Runs C (tabF k_X3_of) (d + 2) Q 57 [some (vI a), some (vI b), some (vI c), some (vI e)] (r.toList ++ []) M2 := by
    intro h1 h2
    refine c_X3_lengthen S (l := []) ⟨by simp, by simp⟩ (by omega) (fun _ => by simp) (fun q => by omega) (fun _ => ?_)
    refine Runs.go S.1 mo_X3_of [4, 11, 18, 25, 57, 61, 65, 69] 40 ?_
    simp only [e_X3_of_0, e_X3_of_1, e_X3_of_4, e_X3_of_7, e_X3_of_8, e_X3_of_11, e_X3_of_14, e_X3_of_15, e_X3_of_18, e_X3_of_21, e_X3_of_22, e_X3_of_25, e_X3_of_28, e_X3_of_29, e_X3_of_30, e_X3_of_31, e_X3_of_32, e_X3_of_35, e_X3_of_36, e_X3_of_37, e_X3_of_40, e_X3_of_41, e_X3_of_42, e_X3_of_45, e_X3_of_46, e_X3_of_47, e_X3_of_50, e_X3_of_51, e_X3_of_52, e_X3_of_53, e_X3_of_54, e_X3_of_57, e_X3_of_58, e_X3_of_61, e_X3_of_62, e_X3_of_65, e_X3_of_66, e_X3_of_69, f_callS, f_icmp, f_if0, f_iret, f_loadI, f_push, stN, lget, lput, clrL, lputL, lenLe, lenGe, noL, swL, List.elem_cons, List.elem_nil, List.take_succ_cons, List.take_zero, List.take_nil, List.drop_succ_cons, List.drop_zero, List.reverse_cons, List.reverse_nil, List.nil_append, List.cons_append, Option.toList_some, Option.toList_none, Bool.and_true, Bool.or_false, Bool.false_or, Bool.true_or, Bool.and_self, true_and, and_true, Nat.reduceAdd, Nat.reduceBEq, Int.reduceAdd, Int.reduceNeg, Int.reduceLE, Int.reduceLT, Int.reduceSub, Int.reduceMul, Int.reduceToNat, cEq, cNe, cLt, cGe, cGt, cLe, iR, lR, cl_0, cl_1, cl_4, cl_9, cl_86, al_2, al_3, al_5, al_13, al_6, al_7, al_8, al_10, al_11, al_87, al_88, al_90, al_91, al_92, al_93, al_94, al_95, al_96, al_97, al_98, al_99, al_100, ne_eq, not_true_eq_false, not_false_eq_true, upM_eq, upM_ni, upM_nj, upM_24, upM_48, upM_i24, upM_i48, upM_2448, upM_4824, Nat.reduceEqDiff, reduceCtorEq, or_true, true_or, Int.reduceEq, true_implies, false_implies, Int.reducePow, Int.toNat_natCast]
    refine c_X3_lengthen S (l := [a.toNat]) ⟨by simp, by simp; omega⟩ (by omega) (fun _ => by simp) (fun q1 => ?_) (fun q1 => ?_)
    · refine Runs.go S.1 mo_X3_of [4, 11, 18, 25, 57, 61, 65, 69] 40 ?_
      simp only [e_X3_of_0, e_X3_of_1, e_X3_of_4, e_X3_of_7, e_X3_of_8, e_X3_of_11, e_X3_of_14, e_X3_of_15, e_X3_of_18, e_X3_of_21, e_X3_of_22, e_X3_of_25, e_X3_of_28, e_X3_of_29, e_X3_of_30, e_X3_of_31, e_X3_of_32, e_X3_of_35, e_X3_of_36, e_X3_of_37, e_X3_of_40, e_X3_of_41, e_X3_of_42, e_X3_of_45, e_X3_of_46, e_X3_of_47, e_X3_of_50, e_X3_of_51, e_X3_of_52, e_X3_of_53, e_X3_of_54, e_X3_of_57, e_X3_of_58, e_X3_of_61, e_X3_of_62, e_X3_of_65, e_X3_of_66, e_X3_of_69, f_callS, f_icmp, f_if0, f_iret, f_loadI, f_push, stN, lget, lput, clrL, lputL, lenLe, lenGe, noL, swL, List.elem_cons, List.elem_nil, List.take_succ_cons, List.take_zero, List.take_nil, List.drop_succ_cons, List.drop_zero, List.reverse_cons, List.reverse_nil, List.nil_append, List.cons_append, Option.toList_some, Option.toList_none, Bool.and_true, Bool.or_false, Bool.false_or, Bool.true_or, Bool.and_self, true_and, and_true, Nat.reduceAdd, Nat.reduceBEq, Int.reduceAdd, Int.reduceNeg, Int.reduceLE, Int.reduceLT, Int.reduceSub, Int.reduceMul, Int.reduceToNat, cEq, cNe, cLt, cGe, cGt, cLe, iR, lR, cl_0, cl_1, cl_4, cl_9, cl_86, al_2, al_3, al_5, al_13, al_6, al_7, al_8, al_10, al_11, al_87, al_88, al_90, al_91, al_92, al_93, al_94, al_95, al_96, al_97, al_98, al_99, al_100, ne_eq, not_true_eq_false, not_false_eq_true, upM_eq, upM_ni, upM_nj, upM_24, upM_48, upM_i24, upM_i48, upM_2448, upM_4824, Nat.reduceEqDiff, reduceCtorEq, or_true, true_or, Int.reduceEq, true_implies, false_implies, Int.reducePow, Int.toNat_natCast]
      refine c_X3_lengthen S (l := [a.toNat]) ⟨by simp, by simp; omega⟩ (by omega) (fun _ => by simp) (fun q2 => ?_) (fun q2 => by omega)
      refine Runs.go S.1 mo_X3_of [4, 11, 18, 25, 57, 61, 65, 69] 40 ?_
      simp only [e_X3_of_0, e_X3_of_1, e_X3_of_4, e_X3_of_7, e_X3_of_8, e_X3_of_11, e_X3_of_14, e_X3_of_15, e_X3_of_18, e_X3_of_21, e_X3_of_22, e_X3_of_25, e_X3_of_28, e_X3_of_29, e_X3_of_30, e_X3_of_31, e_X3_of_32, e_X3_of_35, e_X3_of_36, e_X3_of_37, e_X3_of_40, e_X3_of_41, e_X3_of_42, e_X3_of_45, e_X3_of_46, e_X3_of_47, e_X3_of_50, e_X3_of_51, e_X3_of_52, e_X3_of_53, e_X3_of_54, e_X3_of_57, e_X3_of_58, e_X3_of_61, e_X3_of_62, e_X3_of_65, e_X3_of_66, e_X3_of_69, f_callS, f_icmp, f_if0, f_iret, f_loadI, f_push, stN, lget, lput, clrL, lputL, lenLe, lenGe, noL, swL, List.elem_cons, List.elem_nil, List.take_succ_cons, List.take_zero, List.take_nil, List.drop_succ_cons, List.drop_zero, List.reverse_cons, List.reverse_nil, List.nil_append, List.cons_append, Option.toList_some, Option.toList_none, Bool.and_true, Bool.or_false, Bool.false_or, Bool.true_or, Bool.and_self, true_and, and_true, Nat.reduceAdd, Nat.reduceBEq, Int.reduceAdd, Int.reduceNeg, Int.reduceLE, Int.reduceLT, Int.reduceSub, Int.reduceMul, Int.reduceToNat, cEq, cNe, cLt, cGe, cGt, cLe, iR, lR, cl_0, cl_1, cl_4, cl_9, cl_86, al_2, al_3, al_5, al_13, al_6, al_7, al_8, al_10, al_11, al_87, al_88, al_90, al_91, al_92, al_93, al_94, al_95, al_96, al_97, al_98, al_99, al_100, ne_eq, not_true_eq_false, not_false_eq_true, upM_eq, upM_ni, upM_nj, upM_24, upM_48, upM_i24, upM_i48, upM_2448, upM_4824, Nat.reduceEqDiff, reduceCtorEq, or_true, true_or, Int.reduceEq, true_implies, false_implies, Int.reducePow, Int.toNat_natCast]
      refine c_X3_lengthen S (l := [a.toNat]) ⟨by simp, by simp; omega⟩ (by omega) (fun _ => by simp) (fun q3 => ?_) (fun q3 => by omega)
      refine Runs.go S.1 mo_X3_of [4, 11, 18, 25, 57, 61, 65, 69] 40 ?_
      simp only [e_X3_of_0, e_X3_of_1, e_X3_of_4, e_X3_of_7, e_X3_of_8, e_X3_of_11, e_X3_of_14, e_X3_of_15, e_X3_of_18, e_X3_of_21, e_X3_of_22, e_X3_of_25, e_X3_of_28, e_X3_of_29, e_X3_of_30, e_X3_of_31, e_X3_of_32, e_X3_of_35, e_X3_of_36, e_X3_of_37, e_X3_of_40, e_X3_of_41, e_X3_of_42, e_X3_of_45, e_X3_of_46, e_X3_of_47, e_X3_of_50, e_X3_of_51, e_X3_of_52, e_X3_of_53, e_X3_of_54, e_X3_of_57, e_X3_of_58, e_X3_of_61, e_X3_of_62, e_X3_of_65, e_X3_of_66, e_X3_of_69, f_callS, f_icmp, f_if0, f_iret, f_loadI, f_push, stN, lget, lput, clrL, lputL, lenLe, lenGe, noL, swL, List.elem_cons, List.elem_nil, List.take_succ_cons, List.take_zero, List.take_nil, List.drop_succ_cons, List.drop_zero, List.reverse_cons, List.reverse_nil, List.nil_append, List.cons_append, Option.toList_some, Option.toList_none, Bool.and_true, Bool.or_false, Bool.false_or, Bool.true_or, Bool.and_self, true_and, and_true, Nat.reduceAdd, Nat.reduceBEq, Int.reduceAdd, Int.reduceNeg, Int.reduceLE, Int.reduceLT, Int.reduceSub, Int.reduceMul, Int.reduceToNat, cEq, cNe, cLt, cGe, cGt, cLe, iR, lR, cl_0, cl_1, cl_4, cl_9, cl_86, al_2, al_3, al_5, al_13, al_6, al_7, al_8, al_10, al_11, al_87, al_88, al_90, al_91, al_92, al_93, al_94, al_95, al_96, al_97, al_98, al_99, al_100, ne_eq, not_true_eq_false, not_false_eq_true, upM_eq, upM_ni, upM_nj, upM_24, upM_48, upM_i24, upM_i48, upM_2448, upM_4824, Nat.reduceEqDiff, reduceCtorEq, or_true, true_or, Int.reduceEq, true_implies, false_implies, Int.reducePow, Int.toNat_natCast]
      unfold patL at k
      rw [if_pos qa, if_pos q1, if_pos ⟨q2, q3⟩] at k
      exact k
    · refine Runs.go S.1 mo_X3_of [4, 11, 18, 25, 57, 61, 65, 69] 40 ?_
      simp only [e_X3_of_0, e_X3_of_1, e_X3_of_4, e_X3_of_7, e_X3_of_8, e_X3_of_11, e_X3_of_14, e_X3_of_15, e_X3_of_18, e_X3_of_21, e_X3_of_22, e_X3_of_25, e_X3_of_28, e_X3_of_29, e_X3_of_30, e_X3_of_31, e_X3_of_32, e_X3_of_35, e_X3_of_36, e_X3_of_37, e_X3_of_40, e_X3_of_41, e_X3_of_42, e_X3_of_45, e_X3_of_46, e_X3_of_47, e_X3_of_50, e_X3_of_51, e_X3_of_52, e_X3_of_53, e_X3_of_54, e_X3_of_57, e_X3_of_58, e_X3_of_61, e_X3_of_62, e_X3_of_65, e_X3_of_66, e_X3_of_69, f_callS, f_icmp, f_if0, f_iret, f_loadI, f_push, stN, lget, lput, clrL, lputL, lenLe, lenGe, noL, swL, List.elem_cons, List.elem_nil, List.take_succ_cons, List.take_zero, List.take_nil, List.drop_succ_cons, List.drop_zero, List.reverse_cons, List.reverse_nil, List.nil_append, List.cons_append, Option.toList_some, Option.toList_none, Bool.and_true, Bool.or_false, Bool.false_or, Bool.true_or, Bool.and_self, true_and, and_true, Nat.reduceAdd, Nat.reduceBEq, Int.reduceAdd, Int.reduceNeg, Int.reduceLE, Int.reduceLT, Int.reduceSub, Int.reduceMul, Int.reduceToNat, cEq, cNe, cLt, cGe, cGt, cLe, iR, lR, cl_0, cl_1, cl_4, cl_9, cl_86, al_2, al_3, al_5, al_13, al_6, al_7, al_8, al_10, al_11, al_87, al_88, al_90, al_91, al_92, al_93, al_94, al_95, al_96, al_97, al_98, al_99, al_100, ne_eq, not_true_eq_false, not_false_eq_true, upM_eq, upM_ni, upM_nj, upM_24, upM_48, upM_i24, upM_i48, upM_2448, upM_4824, Nat.reduceEqDiff, reduceCtorEq, or_true, true_or, Int.reduceEq, true_implies, false_implies, Int.reducePow, Int.toNat_natCast]
      refine c_X3_lengthen S (l := [a.toNat] ++ [b.toNat]) ⟨by simp, by simp; omega⟩ (by omega) (fun _ => by simp) (fun q2 => ?_) (fun q2 => ?_)
      · refine Runs.go S.1 mo_X3_of [4, 11, 18, 25, 57, 61, 65, 69] 40 ?_
        simp only [e_X3_of_0, e_X3_of_1, e_X3_of_4, e_X3_of_7, e_X3_of_8, e_X3_of_11, e_X3_of_14, e_X3_of_15, e_X3_of_18, e_X3_of_21, e_X3_of_22, e_X3_of_25, e_X3_of_28, e_X3_of_29, e_X3_of_30, e_X3_of_31, e_X3_of_32, e_X3_of_35, e_X3_of_36, e_X3_of_37, e_X3_of_40, e_X3_of_41, e_X3_of_42, e_X3_of_45, e_X3_of_46, e_X3_of_47, e_X3_of_50, e_X3_of_51, e_X3_of_52, e_X3_of_53, e_X3_of_54, e_X3_of_57, e_X3_of_58, e_X3_of_61, e_X3_of_62, e_X3_of_65, e_X3_of_66, e_X3_of_69, f_callS, f_icmp, f_if0, f_iret, f_loadI, f_push, stN, lget, lput, clrL, lputL, lenLe, lenGe, noL, swL, List.elem_cons, List.elem_nil, List.take_succ_cons, List.take_zero, List.take_nil, List.drop_succ_cons, List.drop_zero, List.reverse_cons, List.reverse_nil, List.nil_append, List.cons_append, Option.toList_some, Option.toList_none, Bool.and_true, Bool.or_false, Bool.false_or, Bool.true_or, Bool.and_self, true_and, and_true, Nat.reduceAdd, Nat.reduceBEq, Int.reduceAdd, Int.reduceNeg, Int.reduceLE, Int.reduceLT, Int.reduceSub, Int.reduceMul, Int.reduceToNat, cEq, cNe, cLt, cGe, cGt, cLe, iR, lR, cl_0, cl_1, cl_4, cl_9, cl_86, al_2, al_3, al_5, al_13, al_6, al_7, al_8, al_10, al_11, al_87, al_88, al_90, al_91, al_92, al_93, al_94, al_95, al_96, al_97, al_98, al_99, al_100, ne_eq, not_true_eq_false, not_false_eq_true, upM_eq, upM_ni, upM_nj, upM_24, upM_48, upM_i24, upM_i48, upM_2448, upM_4824, Nat.reduceEqDiff, reduceCtorEq, or_true, true_or, Int.reduceEq, true_implies, false_implies, Int.reducePow, Int.toNat_natCast]
        refine c_X3_lengthen S (l := [a.toNat] ++ [b.toNat]) ⟨by simp, by simp; omega⟩ (by omega) (fun _ => by simp) (fun q3 => ?_) (fun q3 => by omega)
        refine Runs.go S.1 mo_X3_of [4, 11, 18, 25, 57, 61, 65, 69] 40 ?_
        simp only [e_X3_of_0, e_X3_of_1, e_X3_of_4, e_X3_of_7, e_X3_of_8, e_X3_of_11, e_X3_of_14, e_X3_of_15, e_X3_of_18, e_X3_of_21, e_X3_of_22, e_X3_of_25, e_X3_of_28, e_X3_of_29, e_X3_of_30, e_X3_of_31, e_X3_of_32, e_X3_of_35, e_X3_of_36, e_X3_of_37, e_X3_of_40, e_X3_of_41, e_X3_of_42, e_X3_of_45, e_X3_of_46, e_X3_of_47, e_X3_of_50, e_X3_of_51, e_X3_of_52, e_X3_of_53, e_X3_of_54, e_X3_of_57, e_X3_of_58, e_X3_of_61, e_X3_of_62, e_X3_of_65, e_X3_of_66, e_X3_of_69, f_callS, f_icmp, f_if0, f_iret, f_loadI, f_push, stN, lget, lput, clrL, lputL, lenLe, lenGe, noL, swL, List.elem_cons, List.elem_nil, List.take_succ_cons, List.take_zero, List.take_nil, List.drop_succ_cons, List.drop_zero, List.reverse_cons, List.reverse_nil, List.nil_append, List.cons_append, Option.toList_some, Option.toList_none, Bool.and_true, Bool.or_false, Bool.false_or, Bool.true_or, Bool.and_self, true_and, and_true, Nat.reduceAdd, Nat.reduceBEq, Int.reduceAdd, Int.reduceNeg, Int.reduceLE, Int.reduceLT, Int.reduceSub, Int.reduceMul, Int.reduceToNat, cEq, cNe, cLt, cGe, cGt, cLe, iR, lR, cl_0, cl_1, cl_4, cl_9, cl_86, al_2, al_3, al_5, al_13, al_6, al_7, al_8, al_10, al_11, al_87, al_88, al_90, al_91, al_92, al_93, al_94, al_95, al_96, al_97, al_98, al_99, al_100, ne_eq, not_true_eq_false, not_false_eq_true, upM_eq, upM_ni, upM_nj, upM_24, upM_48, upM_i24, upM_i48, upM_2448, upM_4824, Nat.reduceEqDiff, reduceCtorEq, or_true, true_or, Int.reduceEq, true_implies, false_implies, Int.reducePow, Int.toNat_natCast]
        unfold patL at k
        rw [if_pos qa, if_neg q1, if_pos (by omega), if_pos q2, if_pos q3] at k
        exact k
      · refine Runs.go S.1 mo_X3_of [4, 11, 18, 25, 57, 61, 65, 69] 40 ?_
        simp only [e_X3_of_0, e_X3_of_1, e_X3_of_4, e_X3_of_7, e_X3_of_8, e_X3_of_11, e_X3_of_14, e_X3_of_15, e_X3_of_18, e_X3_of_21, e_X3_of_22, e_X3_of_25, e_X3_of_28, e_X3_of_29, e_X3_of_30, e_X3_of_31, e_X3_of_32, e_X3_of_35, e_X3_of_36, e_X3_of_37, e_X3_of_40, e_X3_of_41, e_X3_of_42, e_X3_of_45, e_X3_of_46, e_X3_of_47, e_X3_of_50, e_X3_of_51, e_X3_of_52, e_X3_of_53, e_X3_of_54, e_X3_of_57, e_X3_of_58, e_X3_of_61, e_X3_of_62, e_X3_of_65, e_X3_of_66, e_X3_of_69, f_callS, f_icmp, f_if0, f_iret, f_loadI, f_push, stN, lget, lput, clrL, lputL, lenLe, lenGe, noL, swL, List.elem_cons, List.elem_nil, List.take_succ_cons, List.take_zero, List.take_nil, List.drop_succ_cons, List.drop_zero, List.reverse_cons, List.reverse_nil, List.nil_append, List.cons_append, Option.toList_some, Option.toList_none, Bool.and_true, Bool.or_false, Bool.false_or, Bool.true_or, Bool.and_self, true_and, and_true, Nat.reduceAdd, Nat.reduceBEq, Int.reduceAdd, Int.reduceNeg, Int.reduceLE, Int.reduceLT, Int.reduceSub, Int.reduceMul, Int.reduceToNat, cEq, cNe, cLt, cGe, cGt, cLe, iR, lR, cl_0, cl_1, cl_4, cl_9, cl_86, al_2, al_3, al_5, al_13, al_6, al_7, al_8, al_10, al_11, al_87, al_88, al_90, al_91, al_92, al_93, al_94, al_95, al_96, al_97, al_98, al_99, al_100, ne_eq, not_true_eq_false, not_false_eq_true, upM_eq, upM_ni, upM_nj, upM_24, upM_48, upM_i24, upM_i48, upM_2448, upM_4824, Nat.reduceEqDiff, reduceCtorEq, or_true, true_or, Int.reduceEq, true_implies, false_implies, Int.reducePow, Int.toNat_natCast]
        refine c_X3_lengthen S (l := [a.toNat] ++ [b.toNat] ++ [c.toNat]) ⟨by simp, by simp; omega⟩ (by omega) (fun _ => by simp) (fun q3 => ?_) (fun q3 => ?_)
        · refine Runs.go S.1 mo_X3_of [4, 11, 18, 25, 57, 61, 65, 69] 40 ?_
          simp only [e_X3_of_0, e_X3_of_1, e_X3_of_4, e_X3_of_7, e_X3_of_8, e_X3_of_11, e_X3_of_14, e_X3_of_15, e_X3_of_18, e_X3_of_21, e_X3_of_22, e_X3_of_25, e_X3_of_28, e_X3_of_29, e_X3_of_30, e_X3_of_31, e_X3_of_32, e_X3_of_35, e_X3_of_36, e_X3_of_37, e_X3_of_40, e_X3_of_41, e_X3_of_42, e_X3_of_45, e_X3_of_46, e_X3_of_47, e_X3_of_50, e_X3_of_51, e_X3_of_52, e_X3_of_53, e_X3_of_54, e_X3_of_57, e_X3_of_58, e_X3_of_61, e_X3_of_62, e_X3_of_65, e_X3_of_66, e_X3_of_69, f_callS, f_icmp, f_if0, f_iret, f_loadI, f_push, stN, lget, lput, clrL, lputL, lenLe, lenGe, noL, swL, List.elem_cons, List.elem_nil, List.take_succ_cons, List.take_zero, List.take_nil, List.drop_succ_cons, List.drop_zero, List.reverse_cons, List.reverse_nil, List.nil_append, List.cons_append, Option.toList_some, Option.toList_none, Bool.and_true, Bool.or_false, Bool.false_or, Bool.true_or, Bool.and_self, true_and, and_true, Nat.reduceAdd, Nat.reduceBEq, Int.reduceAdd, Int.reduceNeg, Int.reduceLE, Int.reduceLT, Int.reduceSub, Int.reduceMul, Int.reduceToNat, cEq, cNe, cLt, cGe, cGt, cLe, iR, lR, cl_0, cl_1, cl_4, cl_9, cl_86, al_2, al_3, al_5, al_13, al_6, al_7, al_8, al_10, al_11, al_87, al_88, al_90, al_91, al_92, al_93, al_94, al_95, al_96, al_97, al_98, al_99, al_100, ne_eq, not_true_eq_false, not_false_eq_true, upM_eq, upM_ni, upM_nj, upM_24, upM_48, upM_i24, upM_i48, upM_2448, upM_4824, Nat.reduceEqDiff, reduceCtorEq, or_true, true_or, Int.reduceEq, true_implies, false_implies, Int.reducePow, Int.toNat_natCast]
          unfold patL at k
          rw [if_pos qa, if_neg q1, if_pos (by omega), if_neg q2, if_pos (by omega), if_pos q3] at k
          exact k
        · refine Runs.go S.1 mo_X3_of [4, 11, 18, 25, 57, 61, 65, 69] 40 ?_
          simp only [e_X3_of_0, e_X3_of_1, e_X3_of_4, e_X3_of_7, e_X3_of_8, e_X3_of_11, e_X3_of_14, e_X3_of_15, e_X3_of_18, e_X3_of_21, e_X3_of_22, e_X3_of_25, e_X3_of_28, e_X3_of_29, e_X3_of_30, e_X3_of_31, e_X3_of_32, e_X3_of_35, e_X3_of_36, e_X3_of_37, e_X3_of_40, e_X3_of_41, e_X3_of_42, e_X3_of_45, e_X3_of_46, e_X3_of_47, e_X3_of_50, e_X3_of_51, e_X3_of_52, e_X3_of_53, e_X3_of_54, e_X3_of_57, e_X3_of_58, e_X3_of_61, e_X3_of_62, e_X3_of_65, e_X3_of_66, e_X3_of_69, f_callS, f_icmp, f_if0, f_iret, f_loadI, f_push, stN, lget, lput, clrL, lputL, lenLe, lenGe, noL, swL, List.elem_cons, List.elem_nil, List.take_succ_cons, List.take_zero, List.take_nil, List.drop_succ_cons, List.drop_zero, List.reverse_cons, List.reverse_nil, List.nil_append, List.cons_append, Option.toList_some, Option.toList_none, Bool.and_true, Bool.or_false, Bool.false_or, Bool.true_or, Bool.and_self, true_and, and_true, Nat.reduceAdd, Nat.reduceBEq, Int.reduceAdd, Int.reduceNeg, Int.reduceLE, Int.reduceLT, Int.reduceSub, Int.reduceMul, Int.reduceToNat, cEq, cNe, cLt, cGe, cGt, cLe, iR, lR, cl_0, cl_1, cl_4, cl_9, cl_86, al_2, al_3, al_5, al_13, al_6, al_7, al_8, al_10, al_11, al_87, al_88, al_90, al_91, al_92, al_93, al_94, al_95, al_96, al_97, al_98, al_99, al_100, ne_eq, not_true_eq_false, not_false_eq_true, upM_eq, upM_ni, upM_nj, upM_24, upM_48, upM_i24, upM_i48, upM_2448, upM_4824, Nat.reduceEqDiff, reduceCtorEq, or_true, true_or, Int.reduceEq, true_implies, false_implies, Int.reducePow, Int.toNat_natCast]
          unfold patL at k
          rw [if_pos qa, if_neg q1, if_pos (by omega), if_neg q2, if_pos (by omega), if_neg q3, if_pos (by omega)] at k
          exact k
  have kn : (b = -1 ∧ c ≠ -1) ∨ (c = -1 ∧ e ≠ -1) → Q (some (vI (-1))) M := fun h => by
    have : encO (patL a b c e) = -1 := by
      unfold patL
      repeat' split
      all_goals first | rfl | omega
    rw [this] at k
    exact k
  refine Runs.go S.1 mo_X3_of [4, 11, 18, 25, 57, 61, 65, 69] 40 ?_
  simp only [e_X3_of_0, e_X3_of_1, e_X3_of_4, e_X3_of_7, e_X3_of_8, e_X3_of_11, e_X3_of_14, e_X3_of_15, e_X3_of_18, e_X3_of_21, e_X3_of_22, e_X3_of_25, e_X3_of_28, e_X3_of_29, e_X3_of_30, e_X3_of_31, e_X3_of_32, e_X3_of_35, e_X3_of_36, e_X3_of_37, e_X3_of_40, e_X3_of_41, e_X3_of_42, e_X3_of_45, e_X3_of_46, e_X3_of_47, e_X3_of_50, e_X3_of_51, e_X3_of_52, e_X3_of_53, e_X3_of_54, e_X3_of_57, e_X3_of_58, e_X3_of_61, e_X3_of_62, e_X3_of_65, e_X3_of_66, e_X3_of_69, f_callS, f_icmp, f_if0, f_iret, f_loadI, f_push, stN, lget, lput, clrL, lputL, lenLe, lenGe, noL, swL, List.elem_cons, List.elem_nil, List.take_succ_cons, List.take_zero, List.take_nil, List.drop_succ_cons, List.drop_zero, List.reverse_cons, List.reverse_nil, List.nil_append, List.cons_append, Option.toList_some, Option.toList_none, Bool.and_true, Bool.or_false, Bool.false_or, Bool.true_or, Bool.and_self, true_and, and_true, Nat.reduceAdd, Nat.reduceBEq, Int.reduceAdd, Int.reduceNeg, Int.reduceLE, Int.reduceLT, Int.reduceSub, Int.reduceMul, Int.reduceToNat, cEq, cNe, cLt, cGe, cGt, cLe, iR, lR, cl_0, cl_1, cl_4, cl_9, cl_86, al_2, al_3, al_5, al_13, al_6, al_7, al_8, al_10, al_11, al_87, al_88, al_90, al_91, al_92, al_93, al_94, al_95, al_96, al_97, al_98, al_99, al_100, ne_eq, not_true_eq_false, not_false_eq_true, upM_eq, upM_ni, upM_nj, upM_24, upM_48, upM_i24, upM_i48, upM_2448, upM_4824, Nat.reduceEqDiff, reduceCtorEq, or_true, true_or, Int.reduceEq, true_implies, false_implies, Int.reducePow, Int.toNat_natCast]
  exact ⟨by omega, fun qb1 => ⟨by omega, fun qc1 => fin (by omega) (by omega), fun qc1 => ⟨by omega, fun qe1 => fin (by omega) (by omega), fun qe1 => kn (by omega)⟩⟩, fun qb1 => ⟨by omega, fun qc1 => kn (by omega), fun qc1 => ⟨by omega, fun z => absurd qc1 z, fun _ => ⟨by omega, fun qe1 => fin (by omega) (by omega), fun qe1 => kn (by omega)⟩⟩⟩⟩
end

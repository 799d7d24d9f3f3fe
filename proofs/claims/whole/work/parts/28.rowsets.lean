/-! RowFinder: sets of rows as masks -/
abbrev Esc (M M2 : tM) : Prop := ∀ a b : Nat, a ≠ 5 → a ≠ 6 → a ≠ 7 → a ≠ 8 → a ≠ 13 → ¬ (a = 4 ∧ b = 3) → M2 a b = M a b
theorem Esc.rf {M : tM} : Esc M M := fun _ _ _ _ _ _ _ _ => rfl
theorem Esc.tr {M M2 M3 : tM} (h : Esc M M2) (h2 : Esc M2 M3) : Esc M M3 := fun a b c1 c2 c3 c4 c5 c6 => (h2 a b c1 c2 c3 c4 c5 c6).trans (h a b c1 c2 c3 c4 c5 c6)
theorem Esc.sy {M M2 : tM} (h : Esc M M2) : Esc M2 M := fun a b c1 c2 c3 c4 c5 c6 => (h a b c1 c2 c3 c4 c5 c6).symm
theorem E5.sc {M M2 : tM} (h : E5 M M2) : Esc M M2 := fun a b c1 _ _ _ _ c6 => h a b c1 c6
theorem E67.sc {M M2 : tM} (h : E67 M M2) : Esc M M2 := fun a b _ c2 c3 _ _ _ => by rw [h a c2 c3]
theorem Esc.cell {M M2 : tM} (h : Esc M M2) {a : Nat} (c1 : a ≠ 5) (c2 : a ≠ 6) (c3 : a ≠ 7) (c4 : a ≠ 8) (c5 : a ≠ 13) (c6 : a ≠ 4) : M2 a = M a := by
  funext b
  exact h a b c1 c2 c3 c4 c5 (fun z => c6 z.1)
theorem Esc.row {M M2 : tM} (h : Esc M M2) {a : Nat} (c : 14 ≤ a) : M2 a = M a := h.cell (by omega) (by omega) (by omega) (by omega) (by omega) (by omega)
theorem Esc.g0 {M M2 : tM} (h : Esc M M2) : M2 4 0 = M 4 0 := h 4 0 (by decide) (by decide) (by decide) (by decide) (by decide) (by decide)
theorem Esc.g1 {M M2 : tM} (h : Esc M M2) : M2 4 1 = M 4 1 := h 4 1 (by decide) (by decide) (by decide) (by decide) (by decide) (by decide)
theorem Esc.c0 {M M2 : tM} (h : Esc M M2) : M2 0 = M 0 := h.cell (by decide) (by decide) (by decide) (by decide) (by decide) (by decide)
theorem Esc.c2 {M M2 : tM} (h : Esc M M2) : M2 2 = M 2 := h.cell (by decide) (by decide) (by decide) (by decide) (by decide) (by decide)
theorem Esc.c3 {M M2 : tM} (h : Esc M M2) : M2 3 = M 3 := h.cell (by decide) (by decide) (by decide) (by decide) (by decide) (by decide)
theorem Esc.c9 {M M2 : tM} (h : Esc M M2) : M2 9 = M 9 := h.cell (by decide) (by decide) (by decide) (by decide) (by decide) (by decide)
theorem Esc.c10 {M M2 : tM} (h : Esc M M2) : M2 10 = M 10 := h.cell (by decide) (by decide) (by decide) (by decide) (by decide) (by decide)
theorem Esc.c11 {M M2 : tM} (h : Esc M M2) : M2 11 = M 11 := h.cell (by decide) (by decide) (by decide) (by decide) (by decide) (by decide)
theorem Esc.cr {M M2 : tM} (h : Esc M M2) {i : Nat} (hi : 14 ≤ i) {l : List Nat} : chR M2 i l = chR M i l := by
  have e1 := h.row (a := i) hi
  have e2 := h.row (a := i + 24) (by omega)
  have e3 := h.row (a := i + 48) (by omega)
  have e4 : KR M2 i = KR M i := by unfold KR; rw [e3, h.c3]
  show ch (nR M2 i) (tR M2 i) (KR M2 i) (M2 4 0) (M2 4 1) _ = ch (nR M i) (tR M i) (KR M i) (M 4 0) (M 4 1) _
  rw [e4, h.g0, h.g1]
  show ch (M2 i 4).toNat (M2 (i + 24)) _ _ _ _ = _
  rw [e1, e2]
theorem Esc.has {M M2 : tM} (h : Esc M M2) {i : Nat} (hi : 14 ≤ i) {l : List Nat} : hasR M2 i l ↔ hasR M i l := by
  unfold hasR
  rw [h.cr hi]
theorem Esc.ro {M M2 : tM} (h : Esc M M2) {i : Nat} (hi : 14 ≤ i) (hR : RowOk M i) : RowOk M2 i := hR.congr (h.row hi) (h.row (by omega)) (h.row (by omega))
theorem Esc.wk {M M2 : tM} (h : Esc M M2) (hk : WFk M) : WFk M2 := by
  unfold WFk at hk ⊢
  rw [h.c2, h.c3]
  exact hk
theorem Esc.wg {M M2 : tM} (h : Esc M M2) (hk : WFg M) : WFg M2 := by
  unfold WFg at hk ⊢
  rw [h.g0, h.g1]
  exact hk
def WFr (M : tM) : Prop := (0 ≤ M 0 5 ∧ M 0 5 ≤ 24) ∧ ∀ r : Nat, (r : Int) < M 0 5 → RowOk M (14 + r) ∧ (M (14 + r) 0 = 0 ∨ M (14 + r) 0 = 1) ∧ (M (14 + r) 1 = 0 ∨ M (14 + r) 1 = 1)
theorem Esc.wr {M M2 : tM} (h : Esc M M2) (hk : WFr M) : WFr M2 := by
  refine ⟨by rw [h.c0]; exact hk.1, fun r hr => ?_⟩
  rw [h.c0] at hr
  obtain ⟨h1, h2, h3⟩ := hk.2 r hr
  exact ⟨h.ro (by omega) h1, by rw [h.row (by omega)]; exact h2, by rw [h.row (by omega)]; exact h3⟩
theorem mask_yes {w r : Nat} {P : Nat → Prop} (h : ∀ j, w.testBit j = true ↔ j < r ∧ P j) (hP : P r) : ∀ j, (w ||| 2 ^ r).testBit j = true ↔ j < r + 1 ∧ P j := by
  intro j
  rw [Nat.testBit_or, Bool.or_eq_true, h j]
  by_cases q : j = r
  · subst q
    rw [Nat.testBit_two_pow_self]
    exact ⟨fun _ => ⟨by omega, hP⟩, fun _ => Or.inr rfl⟩
  · rw [Nat.testBit_two_pow_of_ne (by omega)]
    constructor
    · rintro (⟨a, b⟩ | z)
      · exact ⟨by omega, b⟩
      · cases z
    · rintro ⟨a, b⟩; exact Or.inl ⟨by omega, b⟩
theorem mask_no {w r : Nat} {P : Nat → Prop} (h : ∀ j, w.testBit j = true ↔ j < r ∧ P j) (hP : ¬ P r) : ∀ j, w.testBit j = true ↔ j < r + 1 ∧ P j := by
  intro j
  rw [h j]
  constructor
  · rintro ⟨a, b⟩; exact ⟨by omega, b⟩
  · rintro ⟨a, b⟩
    by_cases q : j = r
    · subst q; exact absurd b hP
    · exact ⟨by omega, b⟩
theorem mask_0 {P : Nat → Prop} : ∀ j, (0 : Nat).testBit j = true ↔ j < 0 ∧ P j := by
  intro j
  rw [Nat.zero_testBit]
  constructor
  · intro z; cases z
  · rintro ⟨a, -⟩; omega
theorem mask_or {w r : Nat} (hw : w < 16777216) (hr : r < 24) : bOr (w : Int) (1 * 2 ^ r) = ((w ||| 2 ^ r : Nat) : Int) ∧ (w ||| 2 ^ r) < 16777216 := by
  have h2 : 2 ^ r < 2 ^ 24 := Nat.pow_lt_pow_right (by omega) hr
  refine ⟨?_, Nat.or_lt_two_pow (n := 24) hw h2⟩
  rw [← bOr_nat (by omega) (by omega), Int.natCast_pow, Int.one_mul]
  rfl
noncomputable def cnt (N : tM) (l : List Nat) : Int := sumI (fun r => tf ((r : Int) < N 0 5 ∧ N (14 + r) 1 = 1 ∧ hasR N (14 + r) l)) 24
theorem popc_tf {w : Nat} {P : Nat → Prop} (h : ∀ j, w.testBit j = true ↔ P j) (n : Nat) : popc w n = sumI (fun r => tf (P r)) n := by
  unfold popc
  congr 1
  funext r
  by_cases q : w.testBit r = true
  · rw [if_pos q, tf_t ((h r).mp q)]
  · rw [if_neg q, tf_f (fun z => q ((h r).mpr z))]
theorem sumI_b {f : Nat → Int} (h : ∀ r, 0 ≤ f r ∧ f r ≤ 1) : ∀ n, 0 ≤ sumI f n ∧ sumI f n ≤ n
  | 0 => ⟨Int.le_refl _, Int.le_refl _⟩
  | n + 1 => by
    have h1 := sumI_b h n
    have h2 := h n
    show 0 ≤ sumI f n + f n ∧ sumI f n + f n ≤ ((n + 1 : Nat) : Int)
    omega
theorem cnt_b (N : tM) (l : List Nat) : 0 ≤ cnt N l ∧ cnt N l ≤ 24 := sumI_b (fun r => by rcases tf_r ((r : Int) < N 0 5 ∧ N (14 + r) 1 = 1 ∧ hasR N (14 + r) l) with h | h <;> rw [h] <;> omega) 24
theorem Esc.ct {M M2 : tM} (h : Esc M M2) {l : List Nat} : cnt M2 l = cnt M l := by
  unfold cnt
  congr 1
  funext r
  refine tf_congr ?_
  rw [h.c0, h.row (by omega), h.has (by omega)]
section
variable {C : tC} {Q : tQ} {d : Nat} {N : tM}
set_option maxRecDepth 40000 in
set_option maxHeartbeats 4000000 in
theorem c_X5_isRow (S : Snd C) {x : Int} (hx : iR x) (h : WFr N) (k1 : 0 ≤ x → x < N 0 5 → Q (some (vI 1)) N) (k0 : ¬ (0 ≤ x ∧ x < N 0 5) → Q (some (vI 0)) N) : C d 63 [vR 0, vI x] N Q := by
  have h1 := h.1
  unfold iR at hx
  refine en_X5_isRow S ?_
  refine Runs.go S.1 mo_X5_isRow [] 12 ?_
  simp only [e_X5_isRow_0, e_X5_isRow_1, e_X5_isRow_4, e_X5_isRow_5, e_X5_isRow_6, e_X5_isRow_9, e_X5_isRow_12, e_X5_isRow_13, e_X5_isRow_16, e_X5_isRow_17, f_getI, f_goto, f_icmp, f_if0, f_loadI, f_loadR, f_push, f_zret, stN, lget, lput, clrL, lputL, lenLe, lenGe, noL, swL, List.elem_cons, List.elem_nil, List.take_succ_cons, List.take_zero, List.take_nil, List.drop_succ_cons, List.drop_zero, List.reverse_cons, List.reverse_nil, List.nil_append, List.cons_append, Option.toList_some, Option.toList_none, Bool.and_true, Bool.or_false, Bool.false_or, Bool.true_or, Bool.and_self, true_and, and_true, Nat.reduceAdd, Nat.reduceBEq, Int.reduceAdd, Int.reduceNeg, Int.reduceLE, Int.reduceLT, Int.reduceSub, Int.reduceMul, Int.reduceToNat, cEq, cNe, cLt, cGe, cGt, cLe, iR, lR, cl_0, cl_1, cl_4, cl_9, cl_86, al_2, al_3, al_5, al_13, al_6, al_7, al_8, al_10, al_11, al_87, al_88, al_90, al_91, al_92, al_93, al_94, al_95, al_96, al_97, al_98, al_99, al_100, ne_eq, not_true_eq_false, not_false_eq_true, upM_eq, upM_ni, upM_nj, upM_24, upM_48, upM_i24, upM_i48, upM_2448, upM_4824, Nat.reduceEqDiff, reduceCtorEq, or_true, true_or, Int.reduceEq, true_implies, false_implies, Int.reducePow, Int.toNat_natCast]
  exact ⟨by omega, fun q => k0 (by omega), fun q => ⟨by omega, by omega, fun q2 => k0 (by omega), fun q2 => k1 q q2⟩⟩
set_option maxRecDepth 40000 in
set_option maxHeartbeats 4000000 in
theorem c_X5_isAmong (S : Snd C) {x w : Nat} (hx : x < 32) (hw : w < 2147483648) (k1 : w.testBit x = true → Q (some (vI 1)) N) (k0 : w.testBit x = false → Q (some (vI 0)) N) : C d 62 [vI x, vI w] N Q := by
  refine en_X5_isAmong S ?_
  refine Runs.go S.1 mo_X5_isAmong [] 12 ?_
  simp only [e_X5_isAmong_0, e_X5_isAmong_1, e_X5_isAmong_2, e_X5_isAmong_3, e_X5_isAmong_4, e_X5_isAmong_5, e_X5_isAmong_8, e_X5_isAmong_9, e_X5_isAmong_12, e_X5_isAmong_13, f_and, f_goto, f_if0, f_loadI, f_push, f_shr, f_zret, stN, lget, lput, clrL, lputL, lenLe, lenGe, noL, swL, List.elem_cons, List.elem_nil, List.take_succ_cons, List.take_zero, List.take_nil, List.drop_succ_cons, List.drop_zero, List.reverse_cons, List.reverse_nil, List.nil_append, List.cons_append, Option.toList_some, Option.toList_none, Bool.and_true, Bool.or_false, Bool.false_or, Bool.true_or, Bool.and_self, true_and, and_true, Nat.reduceAdd, Nat.reduceBEq, Int.reduceAdd, Int.reduceNeg, Int.reduceLE, Int.reduceLT, Int.reduceSub, Int.reduceMul, Int.reduceToNat, cEq, cNe, cLt, cGe, cGt, cLe, iR, lR, cl_0, cl_1, cl_4, cl_9, cl_86, al_2, al_3, al_5, al_13, al_6, al_7, al_8, al_10, al_11, al_87, al_88, al_90, al_91, al_92, al_93, al_94, al_95, al_96, al_97, al_98, al_99, al_100, ne_eq, not_true_eq_false, not_false_eq_true, upM_eq, upM_ni, upM_nj, upM_24, upM_48, upM_i24, upM_i48, upM_2448, upM_4824, Nat.reduceEqDiff, reduceCtorEq, or_true, true_or, Int.reduceEq, true_implies, false_implies, Int.reducePow, Int.toNat_natCast]
  rw [bit_ask]
  cases hb : w.testBit x with
  | true => simp; exact ⟨by omega, by omega, k1 hb⟩
  | false => simp; exact ⟨by omega, by omega, k0 hb⟩
set_option maxRecDepth 40000 in
set_option maxHeartbeats 4000000 in
theorem c_X5_rowsInOf (S : Snd C) {x : Int} (hx : iR x) (h : WFr N) (k : ∀ w : Nat, w < 16777216 → (∀ r, w.testBit r = true ↔ (r : Int) < N 0 5 ∧ N (14 + r) 1 = 1 ∧ N (14 + r) 0 = x) → Q (some (vI w)) N) : C d 66 [vR 0, vI x] N Q := by
  have h1 := h.1
  unfold iR at hx
  have loop : ∀ (n r w : Nat), r + n = (N 0 5).toNat → w < 16777216 → (∀ j, w.testBit j = true ↔ j < r ∧ (N (14 + j) 1 = 1 ∧ N (14 + j) 0 = x)) → Runs C (tabF k_X5_rowsInOf) d Q 4 [some (vR 0), some (vI x), some (vI w), some (vI r)] [] N := by
    intro n
    induction n with
    | zero =>
      intro r w hr hw hm
      refine Runs.go S.1 mo_X5_rowsInOf [4] 33 ?_
      simp only [e_X5_rowsInOf_0, e_X5_rowsInOf_1, e_X5_rowsInOf_2, e_X5_rowsInOf_3, e_X5_rowsInOf_4, e_X5_rowsInOf_5, e_X5_rowsInOf_6, e_X5_rowsInOf_9, e_X5_rowsInOf_12, e_X5_rowsInOf_13, e_X5_rowsInOf_16, e_X5_rowsInOf_17, e_X5_rowsInOf_18, e_X5_rowsInOf_21, e_X5_rowsInOf_24, e_X5_rowsInOf_25, e_X5_rowsInOf_28, e_X5_rowsInOf_29, e_X5_rowsInOf_30, e_X5_rowsInOf_33, e_X5_rowsInOf_34, e_X5_rowsInOf_37, e_X5_rowsInOf_38, e_X5_rowsInOf_39, e_X5_rowsInOf_40, e_X5_rowsInOf_41, e_X5_rowsInOf_42, e_X5_rowsInOf_43, e_X5_rowsInOf_46, e_X5_rowsInOf_49, e_X5_rowsInOf_50, f_aald, f_getI, f_getR, f_goto, f_icmp, f_if0, f_iinc, f_iret, f_loadI, f_loadR, f_or, f_push, f_shl, f_storeI, stN, lget, lput, clrL, lputL, lenLe, lenGe, noL, swL, List.elem_cons, List.elem_nil, List.take_succ_cons, List.take_zero, List.take_nil, List.drop_succ_cons, List.drop_zero, List.reverse_cons, List.reverse_nil, List.nil_append, List.cons_append, Option.toList_some, Option.toList_none, Bool.and_true, Bool.or_false, Bool.false_or, Bool.true_or, Bool.and_self, true_and, and_true, Nat.reduceAdd, Nat.reduceBEq, Int.reduceAdd, Int.reduceNeg, Int.reduceLE, Int.reduceLT, Int.reduceSub, Int.reduceMul, Int.reduceToNat, cEq, cNe, cLt, cGe, cGt, cLe, iR, lR, cl_0, cl_1, cl_4, cl_9, cl_86, al_2, al_3, al_5, al_13, al_6, al_7, al_8, al_10, al_11, al_87, al_88, al_90, al_91, al_92, al_93, al_94, al_95, al_96, al_97, al_98, al_99, al_100, ne_eq, not_true_eq_false, not_false_eq_true, upM_eq, upM_ni, upM_nj, upM_24, upM_48, upM_i24, upM_i48, upM_2448, upM_4824, Nat.reduceEqDiff, reduceCtorEq, or_true, true_or, Int.reduceEq, true_implies, false_implies, Int.reducePow, Int.toNat_natCast]
      refine ⟨by omega, by omega, fun _ => k w hw (fun j => ?_), fun z => by omega⟩
      rw [hm j]
      constructor
      · rintro ⟨a, b⟩; exact ⟨by omega, b⟩
      · rintro ⟨a, b⟩; exact ⟨by omega, b⟩
    | succ n ih =>
      intro r w hr hw hm
      obtain ⟨hR, hh, hin⟩ := h.2 r (by omega)
      have hci := cl_row (i := 14 + r) (by omega)
      refine Runs.go S.1 mo_X5_rowsInOf [4] 33 ?_
      simp only [e_X5_rowsInOf_0, e_X5_rowsInOf_1, e_X5_rowsInOf_2, e_X5_rowsInOf_3, e_X5_rowsInOf_4, e_X5_rowsInOf_5, e_X5_rowsInOf_6, e_X5_rowsInOf_9, e_X5_rowsInOf_12, e_X5_rowsInOf_13, e_X5_rowsInOf_16, e_X5_rowsInOf_17, e_X5_rowsInOf_18, e_X5_rowsInOf_21, e_X5_rowsInOf_24, e_X5_rowsInOf_25, e_X5_rowsInOf_28, e_X5_rowsInOf_29, e_X5_rowsInOf_30, e_X5_rowsInOf_33, e_X5_rowsInOf_34, e_X5_rowsInOf_37, e_X5_rowsInOf_38, e_X5_rowsInOf_39, e_X5_rowsInOf_40, e_X5_rowsInOf_41, e_X5_rowsInOf_42, e_X5_rowsInOf_43, e_X5_rowsInOf_46, e_X5_rowsInOf_49, e_X5_rowsInOf_50, hci, f_aald, f_getI, f_getR, f_goto, f_icmp, f_if0, f_iinc, f_iret, f_loadI, f_loadR, f_or, f_push, f_shl, f_storeI, stN, lget, lput, clrL, lputL, lenLe, lenGe, noL, swL, List.elem_cons, List.elem_nil, List.take_succ_cons, List.take_zero, List.take_nil, List.drop_succ_cons, List.drop_zero, List.reverse_cons, List.reverse_nil, List.nil_append, List.cons_append, Option.toList_some, Option.toList_none, Bool.and_true, Bool.or_false, Bool.false_or, Bool.true_or, Bool.and_self, true_and, and_true, Nat.reduceAdd, Nat.reduceBEq, Int.reduceAdd, Int.reduceNeg, Int.reduceLE, Int.reduceLT, Int.reduceSub, Int.reduceMul, Int.reduceToNat, cEq, cNe, cLt, cGe, cGt, cLe, iR, lR, cl_0, cl_1, cl_4, cl_9, cl_86, al_2, al_3, al_5, al_13, al_6, al_7, al_8, al_10, al_11, al_87, al_88, al_90, al_91, al_92, al_93, al_94, al_95, al_96, al_97, al_98, al_99, al_100, ne_eq, not_true_eq_false, not_false_eq_true, upM_eq, upM_ni, upM_nj, upM_24, upM_48, upM_i24, upM_i48, upM_2448, upM_4824, Nat.reduceEqDiff, reduceCtorEq, or_true, true_or, Int.reduceEq, true_implies, false_implies, Int.reducePow, Int.toNat_natCast]
      refine ⟨by omega, by omega, fun z => by omega, fun _ => ⟨by omega, by omega, fun q => ?_, fun q => ⟨by omega, by omega, by omega, fun q2 => ?_, fun q2 => ⟨by omega, ?_⟩⟩⟩⟩
      · exact ih (r + 1) w (by omega) hw (mask_no hm (by omega))
      · exact ih (r + 1) w (by omega) hw (mask_no hm (by omega))
      · obtain ⟨e1, e2⟩ := mask_or (w := w) (r := r) hw (by omega)
        rw [e1]
        exact ih (r + 1) _ (by omega) e2 (mask_yes hm (by omega))
  refine en_X5_rowsInOf S ?_
  refine Runs.go S.1 mo_X5_rowsInOf [4] 33 ?_
  simp only [e_X5_rowsInOf_0, e_X5_rowsInOf_1, e_X5_rowsInOf_2, e_X5_rowsInOf_3, e_X5_rowsInOf_4, e_X5_rowsInOf_5, e_X5_rowsInOf_6, e_X5_rowsInOf_9, e_X5_rowsInOf_12, e_X5_rowsInOf_13, e_X5_rowsInOf_16, e_X5_rowsInOf_17, e_X5_rowsInOf_18, e_X5_rowsInOf_21, e_X5_rowsInOf_24, e_X5_rowsInOf_25, e_X5_rowsInOf_28, e_X5_rowsInOf_29, e_X5_rowsInOf_30, e_X5_rowsInOf_33, e_X5_rowsInOf_34, e_X5_rowsInOf_37, e_X5_rowsInOf_38, e_X5_rowsInOf_39, e_X5_rowsInOf_40, e_X5_rowsInOf_41, e_X5_rowsInOf_42, e_X5_rowsInOf_43, e_X5_rowsInOf_46, e_X5_rowsInOf_49, e_X5_rowsInOf_50, f_aald, f_getI, f_getR, f_goto, f_icmp, f_if0, f_iinc, f_iret, f_loadI, f_loadR, f_or, f_push, f_shl, f_storeI, stN, lget, lput, clrL, lputL, lenLe, lenGe, noL, swL, List.elem_cons, List.elem_nil, List.take_succ_cons, List.take_zero, List.take_nil, List.drop_succ_cons, List.drop_zero, List.reverse_cons, List.reverse_nil, List.nil_append, List.cons_append, Option.toList_some, Option.toList_none, Bool.and_true, Bool.or_false, Bool.false_or, Bool.true_or, Bool.and_self, true_and, and_true, Nat.reduceAdd, Nat.reduceBEq, Int.reduceAdd, Int.reduceNeg, Int.reduceLE, Int.reduceLT, Int.reduceSub, Int.reduceMul, Int.reduceToNat, cEq, cNe, cLt, cGe, cGt, cLe, iR, lR, cl_0, cl_1, cl_4, cl_9, cl_86, al_2, al_3, al_5, al_13, al_6, al_7, al_8, al_10, al_11, al_87, al_88, al_90, al_91, al_92, al_93, al_94, al_95, al_96, al_97, al_98, al_99, al_100, ne_eq, not_true_eq_false, not_false_eq_true, upM_eq, upM_ni, upM_nj, upM_24, upM_48, upM_i24, upM_i48, upM_2448, upM_4824, Nat.reduceEqDiff, reduceCtorEq, or_true, true_or, Int.reduceEq, true_implies, false_implies, Int.reducePow, Int.toNat_natCast]
  exact loop (N 0 5).toNat 0 0 (by omega) (by omega) mask_0
set_option maxRecDepth 40000 in
set_option maxHeartbeats 4000000 in
theorem c_X5_rowsIn (S : Snd C) (h : WFr N) (k : ∀ w : Nat, w < 16777216 → (∀ r, w.testBit r = true ↔ (r : Int) < N 0 5 ∧ N (14 + r) 1 = 1) → Q (some (vI w)) N) : C (d + 1) 67 [vR 0] N Q := by
  refine en_X5_rowsIn S ?_
  refine Runs.go S.1 mo_X5_rowsIn [5, 10] 10 ?_
  simp only [e_X5_rowsIn_0, e_X5_rowsIn_1, e_X5_rowsIn_2, e_X5_rowsIn_5, e_X5_rowsIn_6, e_X5_rowsIn_7, e_X5_rowsIn_10, e_X5_rowsIn_11, f_callV, f_iret, f_loadR, f_or, f_push, stN, lget, lput, clrL, lputL, lenLe, lenGe, noL, swL, List.elem_cons, List.elem_nil, List.take_succ_cons, List.take_zero, List.take_nil, List.drop_succ_cons, List.drop_zero, List.reverse_cons, List.reverse_nil, List.nil_append, List.cons_append, Option.toList_some, Option.toList_none, Bool.and_true, Bool.or_false, Bool.false_or, Bool.true_or, Bool.and_self, true_and, and_true, Nat.reduceAdd, Nat.reduceBEq, Int.reduceAdd, Int.reduceNeg, Int.reduceLE, Int.reduceLT, Int.reduceSub, Int.reduceMul, Int.reduceToNat, cEq, cNe, cLt, cGe, cGt, cLe, iR, lR, cl_0, cl_1, cl_4, cl_9, cl_86, al_2, al_3, al_5, al_13, al_6, al_7, al_8, al_10, al_11, al_87, al_88, al_90, al_91, al_92, al_93, al_94, al_95, al_96, al_97, al_98, al_99, al_100, ne_eq, not_true_eq_false, not_false_eq_true, upM_eq, upM_ni, upM_nj, upM_24, upM_48, upM_i24, upM_i48, upM_2448, upM_4824, Nat.reduceEqDiff, reduceCtorEq, or_true, true_or, Int.reduceEq, true_implies, false_implies, Int.reducePow, Int.toNat_natCast]
  refine c_X5_rowsInOf S ⟨by omega, by omega⟩ h (fun w hw hm => ?_)
  refine Runs.go S.1 mo_X5_rowsIn [5, 10] 10 ?_
  simp only [e_X5_rowsIn_0, e_X5_rowsIn_1, e_X5_rowsIn_2, e_X5_rowsIn_5, e_X5_rowsIn_6, e_X5_rowsIn_7, e_X5_rowsIn_10, e_X5_rowsIn_11, f_callV, f_iret, f_loadR, f_or, f_push, stN, lget, lput, clrL, lputL, lenLe, lenGe, noL, swL, List.elem_cons, List.elem_nil, List.take_succ_cons, List.take_zero, List.take_nil, List.drop_succ_cons, List.drop_zero, List.reverse_cons, List.reverse_nil, List.nil_append, List.cons_append, Option.toList_some, Option.toList_none, Bool.and_true, Bool.or_false, Bool.false_or, Bool.true_or, Bool.and_self, true_and, and_true, Nat.reduceAdd, Nat.reduceBEq, Int.reduceAdd, Int.reduceNeg, Int.reduceLE, Int.reduceLT, Int.reduceSub, Int.reduceMul, Int.reduceToNat, cEq, cNe, cLt, cGe, cGt, cLe, iR, lR, cl_0, cl_1, cl_4, cl_9, cl_86, al_2, al_3, al_5, al_13, al_6, al_7, al_8, al_10, al_11, al_87, al_88, al_90, al_91, al_92, al_93, al_94, al_95, al_96, al_97, al_98, al_99, al_100, ne_eq, not_true_eq_false, not_false_eq_true, upM_eq, upM_ni, upM_nj, upM_24, upM_48, upM_i24, upM_i48, upM_2448, upM_4824, Nat.reduceEqDiff, reduceCtorEq, or_true, true_or, Int.reduceEq, true_implies, false_implies, Int.reducePow, Int.toNat_natCast]
  refine c_X5_rowsInOf S ⟨by omega, by omega⟩ h (fun w2 hw2 hm2 => ?_)
  refine Runs.go S.1 mo_X5_rowsIn [5, 10] 10 ?_
  simp only [e_X5_rowsIn_0, e_X5_rowsIn_1, e_X5_rowsIn_2, e_X5_rowsIn_5, e_X5_rowsIn_6, e_X5_rowsIn_7, e_X5_rowsIn_10, e_X5_rowsIn_11, f_callV, f_iret, f_loadR, f_or, f_push, stN, lget, lput, clrL, lputL, lenLe, lenGe, noL, swL, List.elem_cons, List.elem_nil, List.take_succ_cons, List.take_zero, List.take_nil, List.drop_succ_cons, List.drop_zero, List.reverse_cons, List.reverse_nil, List.nil_append, List.cons_append, Option.toList_some, Option.toList_none, Bool.and_true, Bool.or_false, Bool.false_or, Bool.true_or, Bool.and_self, true_and, and_true, Nat.reduceAdd, Nat.reduceBEq, Int.reduceAdd, Int.reduceNeg, Int.reduceLE, Int.reduceLT, Int.reduceSub, Int.reduceMul, Int.reduceToNat, cEq, cNe, cLt, cGe, cGt, cLe, iR, lR, cl_0, cl_1, cl_4, cl_9, cl_86, al_2, al_3, al_5, al_13, al_6, al_7, al_8, al_10, al_11, al_87, al_88, al_90, al_91, al_92, al_93, al_94, al_95, al_96, al_97, al_98, al_99, al_100, ne_eq, not_true_eq_false, not_false_eq_true, upM_eq, upM_ni, upM_nj, upM_24, upM_48, upM_i24, upM_i48, upM_2448, upM_4824, Nat.reduceEqDiff, reduceCtorEq, or_true, true_or, Int.reduceEq, true_implies, false_implies, Int.reducePow, Int.toNat_natCast]
  rw [bOr_nat (by omega) (by omega)]
  refine k _ (Nat.or_lt_two_pow (n := 24) hw hw2) (fun r => ?_)
  rw [Nat.testBit_or, Bool.or_eq_true, hm r, hm2 r]
  constructor
  · rintro (⟨a, b, -⟩ | ⟨a, b, -⟩) <;> exact ⟨a, b⟩
  · rintro ⟨a, b⟩
    rcases (h.2 r a).2.1 with z | z
    · exact Or.inl ⟨a, b, z⟩
    · exact Or.inr ⟨a, b, z⟩
set_option maxRecDepth 40000 in
set_option maxHeartbeats 4000000 in
theorem c_X5_rowsWith (S : Snd C) {l : List Nat} (hl : PL l) (h1l : 0 < l.length) (hk : WFk N) (h : WFr N) (hg : WFg N) (k : ∀ w : Nat, w < 16777216 → (∀ r, w.testBit r = true ↔ (r : Int) < N 0 5 ∧ N (14 + r) 1 = 1 ∧ hasR N (14 + r) l) → ∀ M2, Esc N M2 → Q (some (vI w)) M2) : C (d + 3) 68 [vR 0, vI (enc l : Nat)] N Q := by
  have h1 := h.1
  have loop : ∀ (n r w : Nat), r + n = (N 0 5).toNat → w < 16777216 → (∀ j, w.testBit j = true ↔ j < r ∧ (N (14 + j) 1 = 1 ∧ hasR N (14 + j) l)) → ∀ M, Esc N M → TU M l → Runs C (tabF k_X5_rowsWith) (d + 3) Q 12 [some (vR 0), some (vI (enc l : Nat)), some (vI w), some (vI r)] [] M := by
    intro n
    induction n with
    | zero =>
      intro r w hr hw hm M hE hT
      have e0 : M 0 5 = N 0 5 := by rw [hE.c0]
      refine Runs.go S.1 mo_X5_rowsWith [8, 12, 45] 38 ?_
      simp only [e_X5_rowsWith_0, e_X5_rowsWith_1, e_X5_rowsWith_4, e_X5_rowsWith_5, e_X5_rowsWith_8, e_X5_rowsWith_9, e_X5_rowsWith_10, e_X5_rowsWith_11, e_X5_rowsWith_12, e_X5_rowsWith_13, e_X5_rowsWith_14, e_X5_rowsWith_17, e_X5_rowsWith_20, e_X5_rowsWith_21, e_X5_rowsWith_24, e_X5_rowsWith_25, e_X5_rowsWith_26, e_X5_rowsWith_29, e_X5_rowsWith_32, e_X5_rowsWith_33, e_X5_rowsWith_36, e_X5_rowsWith_37, e_X5_rowsWith_40, e_X5_rowsWith_41, e_X5_rowsWith_42, e_X5_rowsWith_45, e_X5_rowsWith_48, e_X5_rowsWith_49, e_X5_rowsWith_50, e_X5_rowsWith_51, e_X5_rowsWith_52, e_X5_rowsWith_53, e_X5_rowsWith_54, e_X5_rowsWith_57, e_X5_rowsWith_60, e_X5_rowsWith_61, e0, f_aald, f_callV, f_getI, f_getR, f_goto, f_icmp, f_if0, f_iinc, f_iret, f_loadI, f_loadR, f_or, f_push, f_shl, f_storeI, stN, lget, lput, clrL, lputL, lenLe, lenGe, noL, swL, List.elem_cons, List.elem_nil, List.take_succ_cons, List.take_zero, List.take_nil, List.drop_succ_cons, List.drop_zero, List.reverse_cons, List.reverse_nil, List.nil_append, List.cons_append, Option.toList_some, Option.toList_none, Bool.and_true, Bool.or_false, Bool.false_or, Bool.true_or, Bool.and_self, true_and, and_true, Nat.reduceAdd, Nat.reduceBEq, Int.reduceAdd, Int.reduceNeg, Int.reduceLE, Int.reduceLT, Int.reduceSub, Int.reduceMul, Int.reduceToNat, cEq, cNe, cLt, cGe, cGt, cLe, iR, lR, cl_0, cl_1, cl_4, cl_9, cl_86, al_2, al_3, al_5, al_13, al_6, al_7, al_8, al_10, al_11, al_87, al_88, al_90, al_91, al_92, al_93, al_94, al_95, al_96, al_97, al_98, al_99, al_100, ne_eq, not_true_eq_false, not_false_eq_true, upM_eq, upM_ni, upM_nj, upM_24, upM_48, upM_i24, upM_i48, upM_2448, upM_4824, Nat.reduceEqDiff, reduceCtorEq, or_true, true_or, Int.reduceEq, true_implies, false_implies, Int.reducePow, Int.toNat_natCast]
      refine ⟨by omega, by omega, fun _ => k w hw (fun j => ?_) M hE, fun z => by omega⟩
      rw [hm j]
      constructor
      · rintro ⟨a, b⟩; exact ⟨by omega, b⟩
      · rintro ⟨a, b⟩; exact ⟨by omega, b⟩
    | succ n ih =>
      intro r w hr hw hm M hE hT
      obtain ⟨hR, hh, hin⟩ := h.2 r (by omega)
      have hci := cl_row (i := 14 + r) (by omega)
      have e0 : M 0 5 = N 0 5 := by rw [hE.c0]
      have e1 : M (14 + r) 1 = N (14 + r) 1 := by rw [hE.row (by omega)]
      refine Runs.go S.1 mo_X5_rowsWith [8, 12, 45] 38 ?_
      simp only [e_X5_rowsWith_0, e_X5_rowsWith_1, e_X5_rowsWith_4, e_X5_rowsWith_5, e_X5_rowsWith_8, e_X5_rowsWith_9, e_X5_rowsWith_10, e_X5_rowsWith_11, e_X5_rowsWith_12, e_X5_rowsWith_13, e_X5_rowsWith_14, e_X5_rowsWith_17, e_X5_rowsWith_20, e_X5_rowsWith_21, e_X5_rowsWith_24, e_X5_rowsWith_25, e_X5_rowsWith_26, e_X5_rowsWith_29, e_X5_rowsWith_32, e_X5_rowsWith_33, e_X5_rowsWith_36, e_X5_rowsWith_37, e_X5_rowsWith_40, e_X5_rowsWith_41, e_X5_rowsWith_42, e_X5_rowsWith_45, e_X5_rowsWith_48, e_X5_rowsWith_49, e_X5_rowsWith_50, e_X5_rowsWith_51, e_X5_rowsWith_52, e_X5_rowsWith_53, e_X5_rowsWith_54, e_X5_rowsWith_57, e_X5_rowsWith_60, e_X5_rowsWith_61, e0, e1, hci, f_aald, f_callV, f_getI, f_getR, f_goto, f_icmp, f_if0, f_iinc, f_iret, f_loadI, f_loadR, f_or, f_push, f_shl, f_storeI, stN, lget, lput, clrL, lputL, lenLe, lenGe, noL, swL, List.elem_cons, List.elem_nil, List.take_succ_cons, List.take_zero, List.take_nil, List.drop_succ_cons, List.drop_zero, List.reverse_cons, List.reverse_nil, List.nil_append, List.cons_append, Option.toList_some, Option.toList_none, Bool.and_true, Bool.or_false, Bool.false_or, Bool.true_or, Bool.and_self, true_and, and_true, Nat.reduceAdd, Nat.reduceBEq, Int.reduceAdd, Int.reduceNeg, Int.reduceLE, Int.reduceLT, Int.reduceSub, Int.reduceMul, Int.reduceToNat, cEq, cNe, cLt, cGe, cGt, cLe, iR, lR, cl_0, cl_1, cl_4, cl_9, cl_86, al_2, al_3, al_5, al_13, al_6, al_7, al_8, al_10, al_11, al_87, al_88, al_90, al_91, al_92, al_93, al_94, al_95, al_96, al_97, al_98, al_99, al_100, ne_eq, not_true_eq_false, not_false_eq_true, upM_eq, upM_ni, upM_nj, upM_24, upM_48, upM_i24, upM_i48, upM_2448, upM_4824, Nat.reduceEqDiff, reduceCtorEq, or_true, true_or, Int.reduceEq, true_implies, false_implies, Int.reducePow, Int.toNat_natCast]
      refine ⟨by omega, by omega, fun z => by omega, fun _ => ⟨by omega, by omega, fun q => ?_, fun q => ⟨by omega, ?_⟩⟩⟩
      · exact ih (r + 1) w (by omega) hw (mask_no hm (by omega)) M hE hT
      · refine c_X2_isIn S (by omega) hl h1l (hE.ro (by omega) hR) (hE.wg hg) hT (fun hx M2 hE2 => ?_) (fun hx M2 hE2 => ?_)
        · rw [hE.has (by omega)] at hx
          obtain ⟨e2, e3⟩ := mask_or (w := w) (r := r) hw (by omega)
          refine Runs.go S.1 mo_X5_rowsWith [8, 12, 45] 38 ?_
          simp only [e_X5_rowsWith_0, e_X5_rowsWith_1, e_X5_rowsWith_4, e_X5_rowsWith_5, e_X5_rowsWith_8, e_X5_rowsWith_9, e_X5_rowsWith_10, e_X5_rowsWith_11, e_X5_rowsWith_12, e_X5_rowsWith_13, e_X5_rowsWith_14, e_X5_rowsWith_17, e_X5_rowsWith_20, e_X5_rowsWith_21, e_X5_rowsWith_24, e_X5_rowsWith_25, e_X5_rowsWith_26, e_X5_rowsWith_29, e_X5_rowsWith_32, e_X5_rowsWith_33, e_X5_rowsWith_36, e_X5_rowsWith_37, e_X5_rowsWith_40, e_X5_rowsWith_41, e_X5_rowsWith_42, e_X5_rowsWith_45, e_X5_rowsWith_48, e_X5_rowsWith_49, e_X5_rowsWith_50, e_X5_rowsWith_51, e_X5_rowsWith_52, e_X5_rowsWith_53, e_X5_rowsWith_54, e_X5_rowsWith_57, e_X5_rowsWith_60, e_X5_rowsWith_61, f_aald, f_callV, f_getI, f_getR, f_goto, f_icmp, f_if0, f_iinc, f_iret, f_loadI, f_loadR, f_or, f_push, f_shl, f_storeI, stN, lget, lput, clrL, lputL, lenLe, lenGe, noL, swL, List.elem_cons, List.elem_nil, List.take_succ_cons, List.take_zero, List.take_nil, List.drop_succ_cons, List.drop_zero, List.reverse_cons, List.reverse_nil, List.nil_append, List.cons_append, Option.toList_some, Option.toList_none, Bool.and_true, Bool.or_false, Bool.false_or, Bool.true_or, Bool.and_self, true_and, and_true, Nat.reduceAdd, Nat.reduceBEq, Int.reduceAdd, Int.reduceNeg, Int.reduceLE, Int.reduceLT, Int.reduceSub, Int.reduceMul, Int.reduceToNat, cEq, cNe, cLt, cGe, cGt, cLe, iR, lR, cl_0, cl_1, cl_4, cl_9, cl_86, al_2, al_3, al_5, al_13, al_6, al_7, al_8, al_10, al_11, al_87, al_88, al_90, al_91, al_92, al_93, al_94, al_95, al_96, al_97, al_98, al_99, al_100, ne_eq, not_true_eq_false, not_false_eq_true, upM_eq, upM_ni, upM_nj, upM_24, upM_48, upM_i24, upM_i48, upM_2448, upM_4824, Nat.reduceEqDiff, reduceCtorEq, or_true, true_or, Int.reduceEq, true_implies, false_implies, Int.reducePow, Int.toNat_natCast]
          refine ⟨by omega, ?_⟩
          rw [e2]
          refine ih (r + 1) _ (by omega) e3 (mask_yes hm ⟨by omega, hx⟩) M2 (hE.tr hE2.sc) ?_
          unfold TU at hT ⊢
          rw [hE2 4 (by decide) (by decide), hE2 5 (by decide) (by decide), hE2 3 (by decide) (by decide)]
          exact hT
        · rw [hE.has (by omega)] at hx
          refine Runs.go S.1 mo_X5_rowsWith [8, 12, 45] 38 ?_
          simp only [e_X5_rowsWith_0, e_X5_rowsWith_1, e_X5_rowsWith_4, e_X5_rowsWith_5, e_X5_rowsWith_8, e_X5_rowsWith_9, e_X5_rowsWith_10, e_X5_rowsWith_11, e_X5_rowsWith_12, e_X5_rowsWith_13, e_X5_rowsWith_14, e_X5_rowsWith_17, e_X5_rowsWith_20, e_X5_rowsWith_21, e_X5_rowsWith_24, e_X5_rowsWith_25, e_X5_rowsWith_26, e_X5_rowsWith_29, e_X5_rowsWith_32, e_X5_rowsWith_33, e_X5_rowsWith_36, e_X5_rowsWith_37, e_X5_rowsWith_40, e_X5_rowsWith_41, e_X5_rowsWith_42, e_X5_rowsWith_45, e_X5_rowsWith_48, e_X5_rowsWith_49, e_X5_rowsWith_50, e_X5_rowsWith_51, e_X5_rowsWith_52, e_X5_rowsWith_53, e_X5_rowsWith_54, e_X5_rowsWith_57, e_X5_rowsWith_60, e_X5_rowsWith_61, f_aald, f_callV, f_getI, f_getR, f_goto, f_icmp, f_if0, f_iinc, f_iret, f_loadI, f_loadR, f_or, f_push, f_shl, f_storeI, stN, lget, lput, clrL, lputL, lenLe, lenGe, noL, swL, List.elem_cons, List.elem_nil, List.take_succ_cons, List.take_zero, List.take_nil, List.drop_succ_cons, List.drop_zero, List.reverse_cons, List.reverse_nil, List.nil_append, List.cons_append, Option.toList_some, Option.toList_none, Bool.and_true, Bool.or_false, Bool.false_or, Bool.true_or, Bool.and_self, true_and, and_true, Nat.reduceAdd, Nat.reduceBEq, Int.reduceAdd, Int.reduceNeg, Int.reduceLE, Int.reduceLT, Int.reduceSub, Int.reduceMul, Int.reduceToNat, cEq, cNe, cLt, cGe, cGt, cLe, iR, lR, cl_0, cl_1, cl_4, cl_9, cl_86, al_2, al_3, al_5, al_13, al_6, al_7, al_8, al_10, al_11, al_87, al_88, al_90, al_91, al_92, al_93, al_94, al_95, al_96, al_97, al_98, al_99, al_100, ne_eq, not_true_eq_false, not_false_eq_true, upM_eq, upM_ni, upM_nj, upM_24, upM_48, upM_i24, upM_i48, upM_2448, upM_4824, Nat.reduceEqDiff, reduceCtorEq, or_true, true_or, Int.reduceEq, true_implies, false_implies, Int.reducePow, Int.toNat_natCast]
          refine ih (r + 1) w (by omega) hw (mask_no hm (fun z => hx z.2)) M2 (hE.tr hE2.sc) ?_
          unfold TU at hT ⊢
          rw [hE2 4 (by decide) (by decide), hE2 5 (by decide) (by decide), hE2 3 (by decide) (by decide)]
          exact hT
  refine en_X5_rowsWith S ?_
  refine Runs.go S.1 mo_X5_rowsWith [8, 12, 45] 38 ?_
  simp only [e_X5_rowsWith_0, e_X5_rowsWith_1, e_X5_rowsWith_4, e_X5_rowsWith_5, e_X5_rowsWith_8, e_X5_rowsWith_9, e_X5_rowsWith_10, e_X5_rowsWith_11, e_X5_rowsWith_12, e_X5_rowsWith_13, e_X5_rowsWith_14, e_X5_rowsWith_17, e_X5_rowsWith_20, e_X5_rowsWith_21, e_X5_rowsWith_24, e_X5_rowsWith_25, e_X5_rowsWith_26, e_X5_rowsWith_29, e_X5_rowsWith_32, e_X5_rowsWith_33, e_X5_rowsWith_36, e_X5_rowsWith_37, e_X5_rowsWith_40, e_X5_rowsWith_41, e_X5_rowsWith_42, e_X5_rowsWith_45, e_X5_rowsWith_48, e_X5_rowsWith_49, e_X5_rowsWith_50, e_X5_rowsWith_51, e_X5_rowsWith_52, e_X5_rowsWith_53, e_X5_rowsWith_54, e_X5_rowsWith_57, e_X5_rowsWith_60, e_X5_rowsWith_61, f_aald, f_callV, f_getI, f_getR, f_goto, f_icmp, f_if0, f_iinc, f_iret, f_loadI, f_loadR, f_or, f_push, f_shl, f_storeI, stN, lget, lput, clrL, lputL, lenLe, lenGe, noL, swL, List.elem_cons, List.elem_nil, List.take_succ_cons, List.take_zero, List.take_nil, List.drop_succ_cons, List.drop_zero, List.reverse_cons, List.reverse_nil, List.nil_append, List.cons_append, Option.toList_some, Option.toList_none, Bool.and_true, Bool.or_false, Bool.false_or, Bool.true_or, Bool.and_self, true_and, and_true, Nat.reduceAdd, Nat.reduceBEq, Int.reduceAdd, Int.reduceNeg, Int.reduceLE, Int.reduceLT, Int.reduceSub, Int.reduceMul, Int.reduceToNat, cEq, cNe, cLt, cGe, cGt, cLe, iR, lR, cl_0, cl_1, cl_4, cl_9, cl_86, al_2, al_3, al_5, al_13, al_6, al_7, al_8, al_10, al_11, al_87, al_88, al_90, al_91, al_92, al_93, al_94, al_95, al_96, al_97, al_98, al_99, al_100, ne_eq, not_true_eq_false, not_false_eq_true, upM_eq, upM_ni, upM_nj, upM_24, upM_48, upM_i24, upM_i48, upM_2448, upM_4824, Nat.reduceEqDiff, reduceCtorEq, or_true, true_or, Int.reduceEq, true_implies, false_implies, Int.reducePow, Int.toNat_natCast]
  refine c_X2_takeUp S hl hk (fun M2 hE2 hT => ?_)
  refine Runs.go S.1 mo_X5_rowsWith [8, 12, 45] 38 ?_
  simp only [e_X5_rowsWith_0, e_X5_rowsWith_1, e_X5_rowsWith_4, e_X5_rowsWith_5, e_X5_rowsWith_8, e_X5_rowsWith_9, e_X5_rowsWith_10, e_X5_rowsWith_11, e_X5_rowsWith_12, e_X5_rowsWith_13, e_X5_rowsWith_14, e_X5_rowsWith_17, e_X5_rowsWith_20, e_X5_rowsWith_21, e_X5_rowsWith_24, e_X5_rowsWith_25, e_X5_rowsWith_26, e_X5_rowsWith_29, e_X5_rowsWith_32, e_X5_rowsWith_33, e_X5_rowsWith_36, e_X5_rowsWith_37, e_X5_rowsWith_40, e_X5_rowsWith_41, e_X5_rowsWith_42, e_X5_rowsWith_45, e_X5_rowsWith_48, e_X5_rowsWith_49, e_X5_rowsWith_50, e_X5_rowsWith_51, e_X5_rowsWith_52, e_X5_rowsWith_53, e_X5_rowsWith_54, e_X5_rowsWith_57, e_X5_rowsWith_60, e_X5_rowsWith_61, f_aald, f_callV, f_getI, f_getR, f_goto, f_icmp, f_if0, f_iinc, f_iret, f_loadI, f_loadR, f_or, f_push, f_shl, f_storeI, stN, lget, lput, clrL, lputL, lenLe, lenGe, noL, swL, List.elem_cons, List.elem_nil, List.take_succ_cons, List.take_zero, List.take_nil, List.drop_succ_cons, List.drop_zero, List.reverse_cons, List.reverse_nil, List.nil_append, List.cons_append, Option.toList_some, Option.toList_none, Bool.and_true, Bool.or_false, Bool.false_or, Bool.true_or, Bool.and_self, true_and, and_true, Nat.reduceAdd, Nat.reduceBEq, Int.reduceAdd, Int.reduceNeg, Int.reduceLE, Int.reduceLT, Int.reduceSub, Int.reduceMul, Int.reduceToNat, cEq, cNe, cLt, cGe, cGt, cLe, iR, lR, cl_0, cl_1, cl_4, cl_9, cl_86, al_2, al_3, al_5, al_13, al_6, al_7, al_8, al_10, al_11, al_87, al_88, al_90, al_91, al_92, al_93, al_94, al_95, al_96, al_97, al_98, al_99, al_100, ne_eq, not_true_eq_false, not_false_eq_true, upM_eq, upM_ni, upM_nj, upM_24, upM_48, upM_i24, upM_i48, upM_2448, upM_4824, Nat.reduceEqDiff, reduceCtorEq, or_true, true_or, Int.reduceEq, true_implies, false_implies, Int.reducePow, Int.toNat_natCast]
  exact loop (N 0 5).toNat 0 0 (by omega) (by omega) mask_0 M2 hE2.sc hT
set_option maxRecDepth 40000 in
set_option maxHeartbeats 4000000 in
theorem c_X5_countOf (S : Snd C) {l : List Nat} (hl : PL l) (h1l : 0 < l.length) (hk : WFk N) (h : WFr N) (hg : WFg N) (k : ∀ M2, Esc N M2 → Q (some (vI (cnt N l))) M2) : C (d + 4) 69 [vR 0, vI (enc l : Nat)] N Q := by
  refine en_X5_countOf S ?_
  refine Runs.go S.1 mo_X5_countOf [5, 8] 7 ?_
  simp only [e_X5_countOf_0, e_X5_countOf_1, e_X5_countOf_2, e_X5_countOf_5, e_X5_countOf_8, f_callS, f_callV, f_iret, f_loadI, f_loadR, stN, lget, lput, clrL, lputL, lenLe, lenGe, noL, swL, List.elem_cons, List.elem_nil, List.take_succ_cons, List.take_zero, List.take_nil, List.drop_succ_cons, List.drop_zero, List.reverse_cons, List.reverse_nil, List.nil_append, List.cons_append, Option.toList_some, Option.toList_none, Bool.and_true, Bool.or_false, Bool.false_or, Bool.true_or, Bool.and_self, true_and, and_true, Nat.reduceAdd, Nat.reduceBEq, Int.reduceAdd, Int.reduceNeg, Int.reduceLE, Int.reduceLT, Int.reduceSub, Int.reduceMul, Int.reduceToNat, cEq, cNe, cLt, cGe, cGt, cLe, iR, lR, cl_0, cl_1, cl_4, cl_9, cl_86, al_2, al_3, al_5, al_13, al_6, al_7, al_8, al_10, al_11, al_87, al_88, al_90, al_91, al_92, al_93, al_94, al_95, al_96, al_97, al_98, al_99, al_100, ne_eq, not_true_eq_false, not_false_eq_true, upM_eq, upM_ni, upM_nj, upM_24, upM_48, upM_i24, upM_i48, upM_2448, upM_4824, Nat.reduceEqDiff, reduceCtorEq, or_true, true_or, Int.reduceEq, true_implies, false_implies, Int.reducePow, Int.toNat_natCast]
  refine c_X5_rowsWith S hl h1l hk h hg (fun w hw hm M2 hE => ?_)
  refine Runs.go S.1 mo_X5_countOf [5, 8] 7 ?_
  simp only [e_X5_countOf_0, e_X5_countOf_1, e_X5_countOf_2, e_X5_countOf_5, e_X5_countOf_8, f_callS, f_callV, f_iret, f_loadI, f_loadR, stN, lget, lput, clrL, lputL, lenLe, lenGe, noL, swL, List.elem_cons, List.elem_nil, List.take_succ_cons, List.take_zero, List.take_nil, List.drop_succ_cons, List.drop_zero, List.reverse_cons, List.reverse_nil, List.nil_append, List.cons_append, Option.toList_some, Option.toList_none, Bool.and_true, Bool.or_false, Bool.false_or, Bool.true_or, Bool.and_self, true_and, and_true, Nat.reduceAdd, Nat.reduceBEq, Int.reduceAdd, Int.reduceNeg, Int.reduceLE, Int.reduceLT, Int.reduceSub, Int.reduceMul, Int.reduceToNat, cEq, cNe, cLt, cGe, cGt, cLe, iR, lR, cl_0, cl_1, cl_4, cl_9, cl_86, al_2, al_3, al_5, al_13, al_6, al_7, al_8, al_10, al_11, al_87, al_88, al_90, al_91, al_92, al_93, al_94, al_95, al_96, al_97, al_98, al_99, al_100, ne_eq, not_true_eq_false, not_false_eq_true, upM_eq, upM_ni, upM_nj, upM_24, upM_48, upM_i24, upM_i48, upM_2448, upM_4824, Nat.reduceEqDiff, reduceCtorEq, or_true, true_or, Int.reduceEq, true_implies, false_implies, Int.reducePow, Int.toNat_natCast]
  refine c_J6_bitCount S hw ?_
  rw [popc_tf hm]
  refine Runs.go S.1 mo_X5_countOf [5, 8] 7 ?_
  simp only [e_X5_countOf_0, e_X5_countOf_1, e_X5_countOf_2, e_X5_countOf_5, e_X5_countOf_8, f_callS, f_callV, f_iret, f_loadI, f_loadR, stN, lget, lput, clrL, lputL, lenLe, lenGe, noL, swL, List.elem_cons, List.elem_nil, List.take_succ_cons, List.take_zero, List.take_nil, List.drop_succ_cons, List.drop_zero, List.reverse_cons, List.reverse_nil, List.nil_append, List.cons_append, Option.toList_some, Option.toList_none, Bool.and_true, Bool.or_false, Bool.false_or, Bool.true_or, Bool.and_self, true_and, and_true, Nat.reduceAdd, Nat.reduceBEq, Int.reduceAdd, Int.reduceNeg, Int.reduceLE, Int.reduceLT, Int.reduceSub, Int.reduceMul, Int.reduceToNat, cEq, cNe, cLt, cGe, cGt, cLe, iR, lR, cl_0, cl_1, cl_4, cl_9, cl_86, al_2, al_3, al_5, al_13, al_6, al_7, al_8, al_10, al_11, al_87, al_88, al_90, al_91, al_92, al_93, al_94, al_95, al_96, al_97, al_98, al_99, al_100, ne_eq, not_true_eq_false, not_false_eq_true, upM_eq, upM_ni, upM_nj, upM_24, upM_48, upM_i24, upM_i48, upM_2448, upM_4824, Nat.reduceEqDiff, reduceCtorEq, or_true, true_or, Int.reduceEq, true_implies, false_implies, Int.reducePow, Int.toNat_natCast]
  exact k M2 hE
end

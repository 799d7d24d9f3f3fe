/-! Matcher.takeUp, loseChains, canFollow -/
abbrev E5 (M M2 : tM) : Prop := ∀ a b : Nat, a ≠ 5 → ¬ (a = 4 ∧ b = 3) → M2 a b = M a b
abbrev E67 (M M2 : tM) : Prop := ∀ a : Nat, a ≠ 6 → a ≠ 7 → M2 a = M a
theorem enc_take {l : List Nat} {m : Nat} (hm : m < l.length) : enc (l.take (m + 1)) = 16 * enc (l.take m) + l.getD m 0 := by
  rw [List.take_succ, List.getElem?_eq_getElem hm]
  show enc (l.take m ++ [l[m]]) = _
  rw [enc_snoc]
  simp [hm]
theorem PL_take {l : List Nat} {m : Nat} (h : PL l) : PL (l.take m) := ⟨by rw [List.length_take]; have := h.1; omega, fun k hk => h.2 k (List.mem_of_mem_take hk)⟩
theorem PL_get {l : List Nat} {m : Nat} (h : PL l) (hm : m < l.length) : l.getD m 0 < 16 := by
  rw [List.getD_eq_getElem?_getD, List.getElem?_eq_getElem hm]
  exact h.2 _ (List.getElem_mem hm)
theorem bit_shift {w j m : Nat} {x : Int} (hw : x = (w : Nat)) (hm : m < 4) : bAnd (x / 2 ^ j) 1 * 2 ^ m = (((if w.testBit j then 2 ^ m else 0) : Nat) : Int) := by
  rw [hw, bit_ask]
  by_cases q : w.testBit j = true
  · rw [if_pos q, if_pos q, Int.one_mul, Int.natCast_pow]; rfl
  · rw [if_neg q, if_neg q]; simp
section
variable {C : tC} {Q : tQ} {d : Nat} {M : tM}
set_option maxRecDepth 40000 in
set_option maxHeartbeats 4000000 in
theorem c_X2_takeUp (S : Snd C) {l : List Nat} (hl : PL l) (hk : WFk M) (k : ∀ M2, E5 M M2 → TU M2 l → Q none M2) : C (d + 1) 11 [vR 4, vI (enc l : Nat)] M Q := by
  have hb := enc_b l hl
  have h4 := hl.1
  -- one kind's own mask, from item m - 1 down
  have inner : ∀ (o : Nat), o < 16 → (∀ M2, E5 M M2 → M2 4 3 = l.length → (∀ o2 : Nat, o2 < o + 1 → M2 5 o2 = ((fitF (clm (M 3) 16 (o2 : Int)) l : Nat) : Int)) → ∀ z y x, Runs C (tabF k_X2_takeUp) (d + 1) Q 10 [some (vR 4), some (vI (enc l : Nat)), some (vI ((o : Int) + 1)), some (vI z), some (vI y), some (vI x)] [] M2) →
      ∀ (m : Nat), m ≤ l.length → ∀ (M2 : tM) (f : Nat), E5 M M2 → M2 4 3 = l.length → (∀ o2 : Nat, o2 < o → M2 5 o2 = ((fitF (clm (M 3) 16 (o2 : Int)) l : Nat) : Int)) → M2 5 o = f → f < 16 → (∀ j, f.testBit j = true ↔ m ≤ j ∧ j < l.length ∧ (clm (M 3) 16 (o : Int)).testBit (l.getD j 0) = true) →
      Runs C (tabF k_X2_takeUp) (d + 1) Q 44 [some (vR 4), some (vI (enc l : Nat)), some (vI o), some (vI ((clm (M 3) 16 (o : Int) : Nat) : Int)), some (vI (enc (l.take m) : Nat)), some (vI ((m : Int) - 1))] [] M2 := by
    intro o ho next m
    induction m with
    | zero =>
      intro _ M2 f hE h3 hlow hf hf16 hbit
      have hfe : f = fitF (clm (M 3) 16 (o : Int)) l := by
        apply Nat.eq_of_testBit_eq
        intro j
        rw [Bool.eq_iff_iff, hbit j, fitF_bit h4 j]
        exact ⟨fun z => z.2, fun z => ⟨Nat.zero_le _, z⟩⟩
      refine Runs.go S.1 mo_X2_takeUp [5, 10, 44, 62, 75] 54 ?_
      simp only [e_X2_takeUp_0, e_X2_takeUp_1, e_X2_takeUp_2, e_X2_takeUp_5, e_X2_takeUp_8, e_X2_takeUp_9, e_X2_takeUp_10, e_X2_takeUp_11, e_X2_takeUp_13, e_X2_takeUp_16, e_X2_takeUp_17, e_X2_takeUp_20, e_X2_takeUp_23, e_X2_takeUp_24, e_X2_takeUp_25, e_X2_takeUp_26, e_X2_takeUp_27, e_X2_takeUp_29, e_X2_takeUp_30, e_X2_takeUp_33, e_X2_takeUp_34, e_X2_takeUp_35, e_X2_takeUp_36, e_X2_takeUp_37, e_X2_takeUp_40, e_X2_takeUp_41, e_X2_takeUp_42, e_X2_takeUp_44, e_X2_takeUp_46, e_X2_takeUp_49, e_X2_takeUp_50, e_X2_takeUp_53, e_X2_takeUp_54, e_X2_takeUp_55, e_X2_takeUp_56, e_X2_takeUp_57, e_X2_takeUp_59, e_X2_takeUp_62, e_X2_takeUp_63, e_X2_takeUp_64, e_X2_takeUp_65, e_X2_takeUp_67, e_X2_takeUp_68, e_X2_takeUp_69, e_X2_takeUp_70, e_X2_takeUp_72, e_X2_takeUp_75, e_X2_takeUp_77, e_X2_takeUp_80, e_X2_takeUp_83, e_X2_takeUp_86, e_X2_takeUp_89, f_and, f_callS, f_dup2, f_getI, f_getR, f_goto, f_iald, f_iast, f_icmp, f_if0, f_iinc, f_loadI, f_loadR, f_or, f_push, f_putI, f_shl, f_shr, f_storeI, f_sub, f_vret, stN, lget, lput, clrL, lputL, lenLe, lenGe, noL, swL, List.elem_cons, List.elem_nil, List.take_succ_cons, List.take_zero, List.take_nil, List.drop_succ_cons, List.drop_zero, List.reverse_cons, List.reverse_nil, List.nil_append, List.cons_append, Option.toList_some, Option.toList_none, Bool.and_true, Bool.or_false, Bool.false_or, Bool.true_or, Bool.and_self, true_and, and_true, Nat.reduceAdd, Nat.reduceBEq, Int.reduceAdd, Int.reduceNeg, Int.reduceLE, Int.reduceLT, Int.reduceSub, Int.reduceMul, Int.reduceToNat, cEq, cNe, cLt, cGe, cGt, cLe, iR, lR, cl_0, cl_1, cl_4, cl_9, cl_86, al_2, al_3, al_5, al_13, al_6, al_7, al_8, al_10, al_11, al_87, al_88, al_90, al_91, al_92, al_93, al_94, al_95, al_96, al_97, al_98, al_99, al_100, ne_eq, not_true_eq_false, not_false_eq_true, upM_eq, upM_ni, upM_nj, upM_24, upM_48, upM_i24, upM_i48, upM_2448, upM_4824, Nat.reduceEqDiff, reduceCtorEq, or_true, true_or, Int.reduceEq, true_implies, false_implies, Int.reducePow, Int.toNat_natCast]
      refine ⟨by omega, fun _ => ?_, fun q => by omega⟩
      refine next M2 hE h3 (fun o2 h2 => ?_) _ _ _
      rcases Nat.lt_or_ge o2 o with q | q
      · exact hlow o2 q
      · rw [show o2 = o by omega, hf, hfe]
    | succ m ih =>
      intro hm M2 f hE h3 hlow hf hf16 hbit
      have hit := PL_get hl (m := m) (by omega)
      have ht := enc_take (l := l) (m := m) (by omega)
      have htb := enc_b _ (PL_take (m := m) hl)
      have htb1 := enc_b _ (PL_take (m := m + 1) hl)
      have hclm := clm.lt (hk o ho).1
      refine Runs.go S.1 mo_X2_takeUp [5, 10, 44, 62, 75] 54 ?_
      simp only [e_X2_takeUp_0, e_X2_takeUp_1, e_X2_takeUp_2, e_X2_takeUp_5, e_X2_takeUp_8, e_X2_takeUp_9, e_X2_takeUp_10, e_X2_takeUp_11, e_X2_takeUp_13, e_X2_takeUp_16, e_X2_takeUp_17, e_X2_takeUp_20, e_X2_takeUp_23, e_X2_takeUp_24, e_X2_takeUp_25, e_X2_takeUp_26, e_X2_takeUp_27, e_X2_takeUp_29, e_X2_takeUp_30, e_X2_takeUp_33, e_X2_takeUp_34, e_X2_takeUp_35, e_X2_takeUp_36, e_X2_takeUp_37, e_X2_takeUp_40, e_X2_takeUp_41, e_X2_takeUp_42, e_X2_takeUp_44, e_X2_takeUp_46, e_X2_takeUp_49, e_X2_takeUp_50, e_X2_takeUp_53, e_X2_takeUp_54, e_X2_takeUp_55, e_X2_takeUp_56, e_X2_takeUp_57, e_X2_takeUp_59, e_X2_takeUp_62, e_X2_takeUp_63, e_X2_takeUp_64, e_X2_takeUp_65, e_X2_takeUp_67, e_X2_takeUp_68, e_X2_takeUp_69, e_X2_takeUp_70, e_X2_takeUp_72, e_X2_takeUp_75, e_X2_takeUp_77, e_X2_takeUp_80, e_X2_takeUp_83, e_X2_takeUp_86, e_X2_takeUp_89, f_and, f_callS, f_dup2, f_getI, f_getR, f_goto, f_iald, f_iast, f_icmp, f_if0, f_iinc, f_loadI, f_loadR, f_or, f_push, f_putI, f_shl, f_shr, f_storeI, f_sub, f_vret, stN, lget, lput, clrL, lputL, lenLe, lenGe, noL, swL, List.elem_cons, List.elem_nil, List.take_succ_cons, List.take_zero, List.take_nil, List.drop_succ_cons, List.drop_zero, List.reverse_cons, List.reverse_nil, List.nil_append, List.cons_append, Option.toList_some, Option.toList_none, Bool.and_true, Bool.or_false, Bool.false_or, Bool.true_or, Bool.and_self, true_and, and_true, Nat.reduceAdd, Nat.reduceBEq, Int.reduceAdd, Int.reduceNeg, Int.reduceLE, Int.reduceLT, Int.reduceSub, Int.reduceMul, Int.reduceToNat, cEq, cNe, cLt, cGe, cGt, cLe, iR, lR, cl_0, cl_1, cl_4, cl_9, cl_86, al_2, al_3, al_5, al_13, al_6, al_7, al_8, al_10, al_11, al_87, al_88, al_90, al_91, al_92, al_93, al_94, al_95, al_96, al_97, al_98, al_99, al_100, ne_eq, not_true_eq_false, not_false_eq_true, upM_eq, upM_ni, upM_nj, upM_24, upM_48, upM_i24, upM_i48, upM_2448, upM_4824, Nat.reduceEqDiff, reduceCtorEq, or_true, true_or, Int.reduceEq, true_implies, false_implies, Int.reducePow, Int.toNat_natCast]
      refine ⟨by omega, fun q => by omega, fun _ => ⟨by omega, ?_⟩⟩
      refine c_X3_lastItem S ?_
      rw [show enc (l.take (m + 1)) % 16 = l.getD m 0 by omega]
      refine Runs.go S.1 mo_X2_takeUp [5, 10, 44, 62, 75] 54 ?_
      simp only [e_X2_takeUp_0, e_X2_takeUp_1, e_X2_takeUp_2, e_X2_takeUp_5, e_X2_takeUp_8, e_X2_takeUp_9, e_X2_takeUp_10, e_X2_takeUp_11, e_X2_takeUp_13, e_X2_takeUp_16, e_X2_takeUp_17, e_X2_takeUp_20, e_X2_takeUp_23, e_X2_takeUp_24, e_X2_takeUp_25, e_X2_takeUp_26, e_X2_takeUp_27, e_X2_takeUp_29, e_X2_takeUp_30, e_X2_takeUp_33, e_X2_takeUp_34, e_X2_takeUp_35, e_X2_takeUp_36, e_X2_takeUp_37, e_X2_takeUp_40, e_X2_takeUp_41, e_X2_takeUp_42, e_X2_takeUp_44, e_X2_takeUp_46, e_X2_takeUp_49, e_X2_takeUp_50, e_X2_takeUp_53, e_X2_takeUp_54, e_X2_takeUp_55, e_X2_takeUp_56, e_X2_takeUp_57, e_X2_takeUp_59, e_X2_takeUp_62, e_X2_takeUp_63, e_X2_takeUp_64, e_X2_takeUp_65, e_X2_takeUp_67, e_X2_takeUp_68, e_X2_takeUp_69, e_X2_takeUp_70, e_X2_takeUp_72, e_X2_takeUp_75, e_X2_takeUp_77, e_X2_takeUp_80, e_X2_takeUp_83, e_X2_takeUp_86, e_X2_takeUp_89, f_and, f_callS, f_dup2, f_getI, f_getR, f_goto, f_iald, f_iast, f_icmp, f_if0, f_iinc, f_loadI, f_loadR, f_or, f_push, f_putI, f_shl, f_shr, f_storeI, f_sub, f_vret, stN, lget, lput, clrL, lputL, lenLe, lenGe, noL, swL, List.elem_cons, List.elem_nil, List.take_succ_cons, List.take_zero, List.take_nil, List.drop_succ_cons, List.drop_zero, List.reverse_cons, List.reverse_nil, List.nil_append, List.cons_append, Option.toList_some, Option.toList_none, Bool.and_true, Bool.or_false, Bool.false_or, Bool.true_or, Bool.and_self, true_and, and_true, Nat.reduceAdd, Nat.reduceBEq, Int.reduceAdd, Int.reduceNeg, Int.reduceLE, Int.reduceLT, Int.reduceSub, Int.reduceMul, Int.reduceToNat, cEq, cNe, cLt, cGe, cGt, cLe, iR, lR, cl_0, cl_1, cl_4, cl_9, cl_86, al_2, al_3, al_5, al_13, al_6, al_7, al_8, al_10, al_11, al_87, al_88, al_90, al_91, al_92, al_93, al_94, al_95, al_96, al_97, al_98, al_99, al_100, ne_eq, not_true_eq_false, not_false_eq_true, upM_eq, upM_ni, upM_nj, upM_24, upM_48, upM_i24, upM_i48, upM_2448, upM_4824, Nat.reduceEqDiff, reduceCtorEq, or_true, true_or, Int.reduceEq, true_implies, false_implies, Int.reducePow, Int.toNat_natCast]
      refine ⟨by omega, by omega, by omega, by omega, ?_⟩
      refine c_X3_withoutLast S (by omega) ?_
      rw [show enc (l.take (m + 1)) / 16 = enc (l.take m) by omega]
      refine Runs.go S.1 mo_X2_takeUp [5, 10, 44, 62, 75] 54 ?_
      simp only [e_X2_takeUp_0, e_X2_takeUp_1, e_X2_takeUp_2, e_X2_takeUp_5, e_X2_takeUp_8, e_X2_takeUp_9, e_X2_takeUp_10, e_X2_takeUp_11, e_X2_takeUp_13, e_X2_takeUp_16, e_X2_takeUp_17, e_X2_takeUp_20, e_X2_takeUp_23, e_X2_takeUp_24, e_X2_takeUp_25, e_X2_takeUp_26, e_X2_takeUp_27, e_X2_takeUp_29, e_X2_takeUp_30, e_X2_takeUp_33, e_X2_takeUp_34, e_X2_takeUp_35, e_X2_takeUp_36, e_X2_takeUp_37, e_X2_takeUp_40, e_X2_takeUp_41, e_X2_takeUp_42, e_X2_takeUp_44, e_X2_takeUp_46, e_X2_takeUp_49, e_X2_takeUp_50, e_X2_takeUp_53, e_X2_takeUp_54, e_X2_takeUp_55, e_X2_takeUp_56, e_X2_takeUp_57, e_X2_takeUp_59, e_X2_takeUp_62, e_X2_takeUp_63, e_X2_takeUp_64, e_X2_takeUp_65, e_X2_takeUp_67, e_X2_takeUp_68, e_X2_takeUp_69, e_X2_takeUp_70, e_X2_takeUp_72, e_X2_takeUp_75, e_X2_takeUp_77, e_X2_takeUp_80, e_X2_takeUp_83, e_X2_takeUp_86, e_X2_takeUp_89, f_and, f_callS, f_dup2, f_getI, f_getR, f_goto, f_iald, f_iast, f_icmp, f_if0, f_iinc, f_loadI, f_loadR, f_or, f_push, f_putI, f_shl, f_shr, f_storeI, f_sub, f_vret, stN, lget, lput, clrL, lputL, lenLe, lenGe, noL, swL, List.elem_cons, List.elem_nil, List.take_succ_cons, List.take_zero, List.take_nil, List.drop_succ_cons, List.drop_zero, List.reverse_cons, List.reverse_nil, List.nil_append, List.cons_append, Option.toList_some, Option.toList_none, Bool.and_true, Bool.or_false, Bool.false_or, Bool.true_or, Bool.and_self, true_and, and_true, Nat.reduceAdd, Nat.reduceBEq, Int.reduceAdd, Int.reduceNeg, Int.reduceLE, Int.reduceLT, Int.reduceSub, Int.reduceMul, Int.reduceToNat, cEq, cNe, cLt, cGe, cGt, cLe, iR, lR, cl_0, cl_1, cl_4, cl_9, cl_86, al_2, al_3, al_5, al_13, al_6, al_7, al_8, al_10, al_11, al_87, al_88, al_90, al_91, al_92, al_93, al_94, al_95, al_96, al_97, al_98, al_99, al_100, ne_eq, not_true_eq_false, not_false_eq_true, upM_eq, upM_ni, upM_nj, upM_24, upM_48, upM_i24, upM_i48, upM_2448, upM_4824, Nat.reduceEqDiff, reduceCtorEq, or_true, true_or, Int.reduceEq, true_implies, false_implies, Int.reducePow, Int.toNat_natCast]
      rw [show (((m + 1 : Nat)) : Int) - 1 = m by omega, Int.toNat_natCast, hf, bit_shift rfl (by omega), bOr_nat (by omega) (by split; exact Nat.lt_of_lt_of_le (Nat.pow_lt_pow_right (by omega) (show m < 4 by omega)) (by omega); omega)]
      have hor : f ||| (if (clm (M 3) 16 (o : Int)).testBit (l.getD m 0) = true then 2 ^ m else 0) < 2 ^ 4 := Nat.or_lt_two_pow hf16 (by split; exact Nat.pow_lt_pow_right (by omega) (by omega); omega)
      have := ih (by omega) (upM M2 5 o ((f ||| (if (clm (M 3) 16 (o : Int)).testBit (l.getD m 0) = true then 2 ^ m else 0) : Nat) : Int)) (f ||| (if (clm (M 3) 16 (o : Int)).testBit (l.getD m 0) = true then 2 ^ m else 0)) (fun a b h1 h2 => by rw [upM_ni h1]; exact hE a b h1 h2) (by rw [upM_ni (by decide)]; exact h3) (fun o2 h2 => by rw [upM_nj (by omega)]; exact hlow o2 h2) upM_eq hor (fun j => by
        rw [Nat.testBit_or, Bool.or_eq_true, hbit j]
        by_cases q : (clm (M 3) 16 (o : Int)).testBit (l.getD m 0) = true
        · rw [if_pos q]
          by_cases qj : j = m
          · subst qj
            rw [Nat.testBit_two_pow_self]
            simp only [q]
            constructor
            · intro _; exact ⟨by omega, by omega, trivial⟩
            · intro _; right; trivial
          · rw [Nat.testBit_two_pow_of_ne (by omega)]
            constructor
            · rintro (⟨a1, a2, a3⟩ | z)
              · exact ⟨by omega, a2, a3⟩
              · cases z
            · rintro ⟨a1, a2, a3⟩
              exact Or.inl ⟨by omega, a2, a3⟩
        · rw [if_neg q, Nat.zero_testBit]
          constructor
          · rintro (⟨a1, a2, a3⟩ | z)
            · exact ⟨by omega, a2, a3⟩
            · cases z
          · rintro ⟨a1, a2, a3⟩
            by_cases qj : j = m
            · subst qj; exact absurd a3 q
            · exact Or.inl ⟨by omega, a2, a3⟩)
      exact this
  have outer : ∀ (n o : Nat), o + n = 16 → ∀ M2, E5 M M2 → M2 4 3 = l.length → (∀ o2 : Nat, o2 < o → M2 5 o2 = ((fitF (clm (M 3) 16 (o2 : Int)) l : Nat) : Int)) → ∀ z y x, Runs C (tabF k_X2_takeUp) (d + 1) Q 10 [some (vR 4), some (vI (enc l : Nat)), some (vI o), z, y, x] [] M2 := by
    intro n
    induction n with
    | zero =>
      intro o ho M2 hE h3 hlow z y x
      refine Runs.go S.1 mo_X2_takeUp [5, 10, 44, 62, 75] 54 ?_
      simp only [e_X2_takeUp_0, e_X2_takeUp_1, e_X2_takeUp_2, e_X2_takeUp_5, e_X2_takeUp_8, e_X2_takeUp_9, e_X2_takeUp_10, e_X2_takeUp_11, e_X2_takeUp_13, e_X2_takeUp_16, e_X2_takeUp_17, e_X2_takeUp_20, e_X2_takeUp_23, e_X2_takeUp_24, e_X2_takeUp_25, e_X2_takeUp_26, e_X2_takeUp_27, e_X2_takeUp_29, e_X2_takeUp_30, e_X2_takeUp_33, e_X2_takeUp_34, e_X2_takeUp_35, e_X2_takeUp_36, e_X2_takeUp_37, e_X2_takeUp_40, e_X2_takeUp_41, e_X2_takeUp_42, e_X2_takeUp_44, e_X2_takeUp_46, e_X2_takeUp_49, e_X2_takeUp_50, e_X2_takeUp_53, e_X2_takeUp_54, e_X2_takeUp_55, e_X2_takeUp_56, e_X2_takeUp_57, e_X2_takeUp_59, e_X2_takeUp_62, e_X2_takeUp_63, e_X2_takeUp_64, e_X2_takeUp_65, e_X2_takeUp_67, e_X2_takeUp_68, e_X2_takeUp_69, e_X2_takeUp_70, e_X2_takeUp_72, e_X2_takeUp_75, e_X2_takeUp_77, e_X2_takeUp_80, e_X2_takeUp_83, e_X2_takeUp_86, e_X2_takeUp_89, f_and, f_callS, f_dup2, f_getI, f_getR, f_goto, f_iald, f_iast, f_icmp, f_if0, f_iinc, f_loadI, f_loadR, f_or, f_push, f_putI, f_shl, f_shr, f_storeI, f_sub, f_vret, stN, lget, lput, clrL, lputL, lenLe, lenGe, noL, swL, List.elem_cons, List.elem_nil, List.take_succ_cons, List.take_zero, List.take_nil, List.drop_succ_cons, List.drop_zero, List.reverse_cons, List.reverse_nil, List.nil_append, List.cons_append, Option.toList_some, Option.toList_none, Bool.and_true, Bool.or_false, Bool.false_or, Bool.true_or, Bool.and_self, true_and, and_true, Nat.reduceAdd, Nat.reduceBEq, Int.reduceAdd, Int.reduceNeg, Int.reduceLE, Int.reduceLT, Int.reduceSub, Int.reduceMul, Int.reduceToNat, cEq, cNe, cLt, cGe, cGt, cLe, iR, lR, cl_0, cl_1, cl_4, cl_9, cl_86, al_2, al_3, al_5, al_13, al_6, al_7, al_8, al_10, al_11, al_87, al_88, al_90, al_91, al_92, al_93, al_94, al_95, al_96, al_97, al_98, al_99, al_100, ne_eq, not_true_eq_false, not_false_eq_true, upM_eq, upM_ni, upM_nj, upM_24, upM_48, upM_i24, upM_i48, upM_2448, upM_4824, Nat.reduceEqDiff, reduceCtorEq, or_true, true_or, Int.reduceEq, true_implies, false_implies, Int.reducePow, Int.toNat_natCast]
      refine ⟨by omega, fun _ => ?_, fun _ => by omega⟩
      have e3 : M2 3 = M 3 := by funext b; exact hE 3 b (by decide) (by omega)
      exact k M2 hE ⟨h3, fun o2 h2 => by rw [e3]; exact hlow o2 (by omega)⟩
    | succ n ih =>
      intro o ho M2 hE h3 hlow z y x
      have hw : M2 2 o = ((clm (M 3) 16 (o : Int) : Nat) : Int) := by rw [hE 2 o (by decide) (by omega)]; exact (hk o (by omega)).2
      refine Runs.go S.1 mo_X2_takeUp [5, 10, 44, 62, 75] 54 ?_
      simp only [e_X2_takeUp_0, e_X2_takeUp_1, e_X2_takeUp_2, e_X2_takeUp_5, e_X2_takeUp_8, e_X2_takeUp_9, e_X2_takeUp_10, e_X2_takeUp_11, e_X2_takeUp_13, e_X2_takeUp_16, e_X2_takeUp_17, e_X2_takeUp_20, e_X2_takeUp_23, e_X2_takeUp_24, e_X2_takeUp_25, e_X2_takeUp_26, e_X2_takeUp_27, e_X2_takeUp_29, e_X2_takeUp_30, e_X2_takeUp_33, e_X2_takeUp_34, e_X2_takeUp_35, e_X2_takeUp_36, e_X2_takeUp_37, e_X2_takeUp_40, e_X2_takeUp_41, e_X2_takeUp_42, e_X2_takeUp_44, e_X2_takeUp_46, e_X2_takeUp_49, e_X2_takeUp_50, e_X2_takeUp_53, e_X2_takeUp_54, e_X2_takeUp_55, e_X2_takeUp_56, e_X2_takeUp_57, e_X2_takeUp_59, e_X2_takeUp_62, e_X2_takeUp_63, e_X2_takeUp_64, e_X2_takeUp_65, e_X2_takeUp_67, e_X2_takeUp_68, e_X2_takeUp_69, e_X2_takeUp_70, e_X2_takeUp_72, e_X2_takeUp_75, e_X2_takeUp_77, e_X2_takeUp_80, e_X2_takeUp_83, e_X2_takeUp_86, e_X2_takeUp_89, f_and, f_callS, f_dup2, f_getI, f_getR, f_goto, f_iald, f_iast, f_icmp, f_if0, f_iinc, f_loadI, f_loadR, f_or, f_push, f_putI, f_shl, f_shr, f_storeI, f_sub, f_vret, stN, lget, lput, clrL, lputL, lenLe, lenGe, noL, swL, List.elem_cons, List.elem_nil, List.take_succ_cons, List.take_zero, List.take_nil, List.drop_succ_cons, List.drop_zero, List.reverse_cons, List.reverse_nil, List.nil_append, List.cons_append, Option.toList_some, Option.toList_none, Bool.and_true, Bool.or_false, Bool.false_or, Bool.true_or, Bool.and_self, true_and, and_true, Nat.reduceAdd, Nat.reduceBEq, Int.reduceAdd, Int.reduceNeg, Int.reduceLE, Int.reduceLT, Int.reduceSub, Int.reduceMul, Int.reduceToNat, cEq, cNe, cLt, cGe, cGt, cLe, iR, lR, cl_0, cl_1, cl_4, cl_9, cl_86, al_2, al_3, al_5, al_13, al_6, al_7, al_8, al_10, al_11, al_87, al_88, al_90, al_91, al_92, al_93, al_94, al_95, al_96, al_97, al_98, al_99, al_100, ne_eq, not_true_eq_false, not_false_eq_true, upM_eq, upM_ni, upM_nj, upM_24, upM_48, upM_i24, upM_i48, upM_2448, upM_4824, Nat.reduceEqDiff, reduceCtorEq, or_true, true_or, Int.reduceEq, true_implies, false_implies, Int.reducePow, Int.toNat_natCast]
      refine ⟨by omega, fun _ => by omega, fun _ => ⟨by omega, by omega, ?_⟩⟩
      rw [hw, h3]
      have := inner o (by omega) (fun M3 a1 a2 a3 z y x => by
        have := ih (o + 1) (by omega) M3 a1 a2 a3 (some (vI z)) (some (vI y)) (some (vI x))
        rw [Int.natCast_add] at this
        exact this) l.length (Nat.le_refl _) (upM M2 5 o 0) 0 (fun a b h1 h2 => by rw [upM_ni h1]; exact hE a b h1 h2) (by rw [upM_ni (by decide)]; exact h3) (fun o2 h2 => by rw [upM_nj (by omega)]; exact hlow o2 h2) upM_eq (by omega) (fun j => by
          rw [Nat.zero_testBit]
          constructor
          · intro z; cases z
          · intro z; omega)
      rw [List.take_length] at this
      exact this
  refine en_X2_takeUp S ?_
  refine Runs.go S.1 mo_X2_takeUp [5, 10, 44, 62, 75] 54 ?_
  simp only [e_X2_takeUp_0, e_X2_takeUp_1, e_X2_takeUp_2, e_X2_takeUp_5, e_X2_takeUp_8, e_X2_takeUp_9, e_X2_takeUp_10, e_X2_takeUp_11, e_X2_takeUp_13, e_X2_takeUp_16, e_X2_takeUp_17, e_X2_takeUp_20, e_X2_takeUp_23, e_X2_takeUp_24, e_X2_takeUp_25, e_X2_takeUp_26, e_X2_takeUp_27, e_X2_takeUp_29, e_X2_takeUp_30, e_X2_takeUp_33, e_X2_takeUp_34, e_X2_takeUp_35, e_X2_takeUp_36, e_X2_takeUp_37, e_X2_takeUp_40, e_X2_takeUp_41, e_X2_takeUp_42, e_X2_takeUp_44, e_X2_takeUp_46, e_X2_takeUp_49, e_X2_takeUp_50, e_X2_takeUp_53, e_X2_takeUp_54, e_X2_takeUp_55, e_X2_takeUp_56, e_X2_takeUp_57, e_X2_takeUp_59, e_X2_takeUp_62, e_X2_takeUp_63, e_X2_takeUp_64, e_X2_takeUp_65, e_X2_takeUp_67, e_X2_takeUp_68, e_X2_takeUp_69, e_X2_takeUp_70, e_X2_takeUp_72, e_X2_takeUp_75, e_X2_takeUp_77, e_X2_takeUp_80, e_X2_takeUp_83, e_X2_takeUp_86, e_X2_takeUp_89, f_and, f_callS, f_dup2, f_getI, f_getR, f_goto, f_iald, f_iast, f_icmp, f_if0, f_iinc, f_loadI, f_loadR, f_or, f_push, f_putI, f_shl, f_shr, f_storeI, f_sub, f_vret, stN, lget, lput, clrL, lputL, lenLe, lenGe, noL, swL, List.elem_cons, List.elem_nil, List.take_succ_cons, List.take_zero, List.take_nil, List.drop_succ_cons, List.drop_zero, List.reverse_cons, List.reverse_nil, List.nil_append, List.cons_append, Option.toList_some, Option.toList_none, Bool.and_true, Bool.or_false, Bool.false_or, Bool.true_or, Bool.and_self, true_and, and_true, Nat.reduceAdd, Nat.reduceBEq, Int.reduceAdd, Int.reduceNeg, Int.reduceLE, Int.reduceLT, Int.reduceSub, Int.reduceMul, Int.reduceToNat, cEq, cNe, cLt, cGe, cGt, cLe, iR, lR, cl_0, cl_1, cl_4, cl_9, cl_86, al_2, al_3, al_5, al_13, al_6, al_7, al_8, al_10, al_11, al_87, al_88, al_90, al_91, al_92, al_93, al_94, al_95, al_96, al_97, al_98, al_99, al_100, ne_eq, not_true_eq_false, not_false_eq_true, upM_eq, upM_ni, upM_nj, upM_24, upM_48, upM_i24, upM_i48, upM_2448, upM_4824, Nat.reduceEqDiff, reduceCtorEq, or_true, true_or, Int.reduceEq, true_implies, false_implies, Int.reducePow, Int.toNat_natCast]
  refine c_X3_length S ⟨by omega, by omega⟩ ?_
  rw [enc_plen l hl]
  refine Runs.go S.1 mo_X2_takeUp [5, 10, 44, 62, 75] 54 ?_
  simp only [e_X2_takeUp_0, e_X2_takeUp_1, e_X2_takeUp_2, e_X2_takeUp_5, e_X2_takeUp_8, e_X2_takeUp_9, e_X2_takeUp_10, e_X2_takeUp_11, e_X2_takeUp_13, e_X2_takeUp_16, e_X2_takeUp_17, e_X2_takeUp_20, e_X2_takeUp_23, e_X2_takeUp_24, e_X2_takeUp_25, e_X2_takeUp_26, e_X2_takeUp_27, e_X2_takeUp_29, e_X2_takeUp_30, e_X2_takeUp_33, e_X2_takeUp_34, e_X2_takeUp_35, e_X2_takeUp_36, e_X2_takeUp_37, e_X2_takeUp_40, e_X2_takeUp_41, e_X2_takeUp_42, e_X2_takeUp_44, e_X2_takeUp_46, e_X2_takeUp_49, e_X2_takeUp_50, e_X2_takeUp_53, e_X2_takeUp_54, e_X2_takeUp_55, e_X2_takeUp_56, e_X2_takeUp_57, e_X2_takeUp_59, e_X2_takeUp_62, e_X2_takeUp_63, e_X2_takeUp_64, e_X2_takeUp_65, e_X2_takeUp_67, e_X2_takeUp_68, e_X2_takeUp_69, e_X2_takeUp_70, e_X2_takeUp_72, e_X2_takeUp_75, e_X2_takeUp_77, e_X2_takeUp_80, e_X2_takeUp_83, e_X2_takeUp_86, e_X2_takeUp_89, f_and, f_callS, f_dup2, f_getI, f_getR, f_goto, f_iald, f_iast, f_icmp, f_if0, f_iinc, f_loadI, f_loadR, f_or, f_push, f_putI, f_shl, f_shr, f_storeI, f_sub, f_vret, stN, lget, lput, clrL, lputL, lenLe, lenGe, noL, swL, List.elem_cons, List.elem_nil, List.take_succ_cons, List.take_zero, List.take_nil, List.drop_succ_cons, List.drop_zero, List.reverse_cons, List.reverse_nil, List.nil_append, List.cons_append, Option.toList_some, Option.toList_none, Bool.and_true, Bool.or_false, Bool.false_or, Bool.true_or, Bool.and_self, true_and, and_true, Nat.reduceAdd, Nat.reduceBEq, Int.reduceAdd, Int.reduceNeg, Int.reduceLE, Int.reduceLT, Int.reduceSub, Int.reduceMul, Int.reduceToNat, cEq, cNe, cLt, cGe, cGt, cLe, iR, lR, cl_0, cl_1, cl_4, cl_9, cl_86, al_2, al_3, al_5, al_13, al_6, al_7, al_8, al_10, al_11, al_87, al_88, al_90, al_91, al_92, al_93, al_94, al_95, al_96, al_97, al_98, al_99, al_100, ne_eq, not_true_eq_false, not_false_eq_true, upM_eq, upM_ni, upM_nj, upM_24, upM_48, upM_i24, upM_i48, upM_2448, upM_4824, Nat.reduceEqDiff, reduceCtorEq, or_true, true_or, Int.reduceEq, true_implies, false_implies, Int.reducePow, Int.toNat_natCast]
  have := outer 16 0 (by omega) (upM M 4 3 l.length) (fun a b h1 h2 => upM_ne h2) upM_eq (fun o2 h2 => by omega) none none none
  exact this
def loseM (M : tM) (n : Nat) : tM := fun i j => if (i = 6 ∨ i = 7) ∧ j < n then -1 else M i j
theorem loseM_s {M : tM} {n : Nat} : upM (upM (loseM M n) 6 n (-1)) 7 n (-1) = loseM M (n + 1) := by
  funext i j
  simp only [upM, loseM]
  by_cases h6 : i = 6
  · subst h6
    by_cases hj : j = n
    · subst hj; simp
    · by_cases q : j < n
      · simp [hj, q, show j < n + 1 by omega]
      · simp [hj, q, show ¬ j < n + 1 by omega]
  · by_cases h7 : i = 7
    · subst h7
      by_cases hj : j = n
      · subst hj; simp
      · by_cases q : j < n
        · simp [hj, q, show j < n + 1 by omega]
        · simp [hj, q, show ¬ j < n + 1 by omega]
    · simp [h6, h7]
set_option maxRecDepth 40000 in
set_option maxHeartbeats 4000000 in
theorem c_X2_loseChains (S : Snd C) (k : ∀ M2, E67 M M2 → (∀ j, j < 4 → M2 6 j = -1 ∧ M2 7 j = -1) → Q none M2) : C d 15 [vR 4] M Q := by
  have loop : ∀ (n o : Nat), o + n = 4 → Runs C (tabF k_X2_loseChains) d Q 2 [some (vR 4), some (vI o)] [] (loseM M o) := by
    intro n
    induction n with
    | zero =>
      intro o ho
      refine Runs.go S.1 mo_X2_loseChains [2] 20 ?_
      simp only [e_X2_loseChains_0, e_X2_loseChains_1, e_X2_loseChains_2, e_X2_loseChains_3, e_X2_loseChains_4, e_X2_loseChains_7, e_X2_loseChains_8, e_X2_loseChains_11, e_X2_loseChains_12, e_X2_loseChains_13, e_X2_loseChains_14, e_X2_loseChains_15, e_X2_loseChains_18, e_X2_loseChains_19, e_X2_loseChains_20, e_X2_loseChains_21, e_X2_loseChains_24, e_X2_loseChains_27, f_getR, f_goto, f_iast, f_icmp, f_iinc, f_loadI, f_loadR, f_push, f_storeI, f_vret, stN, lget, lput, clrL, lputL, lenLe, lenGe, noL, swL, List.elem_cons, List.elem_nil, List.take_succ_cons, List.take_zero, List.take_nil, List.drop_succ_cons, List.drop_zero, List.reverse_cons, List.reverse_nil, List.nil_append, List.cons_append, Option.toList_some, Option.toList_none, Bool.and_true, Bool.or_false, Bool.false_or, Bool.true_or, Bool.and_self, true_and, and_true, Nat.reduceAdd, Nat.reduceBEq, Int.reduceAdd, Int.reduceNeg, Int.reduceLE, Int.reduceLT, Int.reduceSub, Int.reduceMul, Int.reduceToNat, cEq, cNe, cLt, cGe, cGt, cLe, iR, lR, cl_0, cl_1, cl_4, cl_9, cl_86, al_2, al_3, al_5, al_13, al_6, al_7, al_8, al_10, al_11, al_87, al_88, al_90, al_91, al_92, al_93, al_94, al_95, al_96, al_97, al_98, al_99, al_100, ne_eq, not_true_eq_false, not_false_eq_true, upM_eq, upM_ni, upM_nj, upM_24, upM_48, upM_i24, upM_i48, upM_2448, upM_4824, Nat.reduceEqDiff, reduceCtorEq, or_true, true_or, Int.reduceEq, true_implies, false_implies, Int.reducePow, Int.toNat_natCast]
      refine ⟨by omega, fun _ => ?_, fun _ => by omega⟩
      refine k _ (fun a h6 h7 => ?_) (fun j hj => ?_)
      · funext b; simp [loseM, h6, h7]
      · simp [loseM, show j < o by omega]
    | succ n ih =>
      intro o ho
      refine Runs.go S.1 mo_X2_loseChains [2] 20 ?_
      simp only [e_X2_loseChains_0, e_X2_loseChains_1, e_X2_loseChains_2, e_X2_loseChains_3, e_X2_loseChains_4, e_X2_loseChains_7, e_X2_loseChains_8, e_X2_loseChains_11, e_X2_loseChains_12, e_X2_loseChains_13, e_X2_loseChains_14, e_X2_loseChains_15, e_X2_loseChains_18, e_X2_loseChains_19, e_X2_loseChains_20, e_X2_loseChains_21, e_X2_loseChains_24, e_X2_loseChains_27, f_getR, f_goto, f_iast, f_icmp, f_iinc, f_loadI, f_loadR, f_push, f_storeI, f_vret, stN, lget, lput, clrL, lputL, lenLe, lenGe, noL, swL, List.elem_cons, List.elem_nil, List.take_succ_cons, List.take_zero, List.take_nil, List.drop_succ_cons, List.drop_zero, List.reverse_cons, List.reverse_nil, List.nil_append, List.cons_append, Option.toList_some, Option.toList_none, Bool.and_true, Bool.or_false, Bool.false_or, Bool.true_or, Bool.and_self, true_and, and_true, Nat.reduceAdd, Nat.reduceBEq, Int.reduceAdd, Int.reduceNeg, Int.reduceLE, Int.reduceLT, Int.reduceSub, Int.reduceMul, Int.reduceToNat, cEq, cNe, cLt, cGe, cGt, cLe, iR, lR, cl_0, cl_1, cl_4, cl_9, cl_86, al_2, al_3, al_5, al_13, al_6, al_7, al_8, al_10, al_11, al_87, al_88, al_90, al_91, al_92, al_93, al_94, al_95, al_96, al_97, al_98, al_99, al_100, ne_eq, not_true_eq_false, not_false_eq_true, upM_eq, upM_ni, upM_nj, upM_24, upM_48, upM_i24, upM_i48, upM_2448, upM_4824, Nat.reduceEqDiff, reduceCtorEq, or_true, true_or, Int.reduceEq, true_implies, false_implies, Int.reducePow, Int.toNat_natCast]
      refine ⟨by omega, fun _ => by omega, fun _ => ⟨by omega, by omega, ?_⟩⟩
      rw [loseM_s]
      exact ih (o + 1) (by omega)
  refine en_X2_loseChains S ?_
  refine Runs.go S.1 mo_X2_loseChains [2] 20 ?_
  simp only [e_X2_loseChains_0, e_X2_loseChains_1, e_X2_loseChains_2, e_X2_loseChains_3, e_X2_loseChains_4, e_X2_loseChains_7, e_X2_loseChains_8, e_X2_loseChains_11, e_X2_loseChains_12, e_X2_loseChains_13, e_X2_loseChains_14, e_X2_loseChains_15, e_X2_loseChains_18, e_X2_loseChains_19, e_X2_loseChains_20, e_X2_loseChains_21, e_X2_loseChains_24, e_X2_loseChains_27, f_getR, f_goto, f_iast, f_icmp, f_iinc, f_loadI, f_loadR, f_push, f_storeI, f_vret, stN, lget, lput, clrL, lputL, lenLe, lenGe, noL, swL, List.elem_cons, List.elem_nil, List.take_succ_cons, List.take_zero, List.take_nil, List.drop_succ_cons, List.drop_zero, List.reverse_cons, List.reverse_nil, List.nil_append, List.cons_append, Option.toList_some, Option.toList_none, Bool.and_true, Bool.or_false, Bool.false_or, Bool.true_or, Bool.and_self, true_and, and_true, Nat.reduceAdd, Nat.reduceBEq, Int.reduceAdd, Int.reduceNeg, Int.reduceLE, Int.reduceLT, Int.reduceSub, Int.reduceMul, Int.reduceToNat, cEq, cNe, cLt, cGe, cGt, cLe, iR, lR, cl_0, cl_1, cl_4, cl_9, cl_86, al_2, al_3, al_5, al_13, al_6, al_7, al_8, al_10, al_11, al_87, al_88, al_90, al_91, al_92, al_93, al_94, al_95, al_96, al_97, al_98, al_99, al_100, ne_eq, not_true_eq_false, not_false_eq_true, upM_eq, upM_ni, upM_nj, upM_24, upM_48, upM_i24, upM_i48, upM_2448, upM_4824, Nat.reduceEqDiff, reduceCtorEq, or_true, true_or, Int.reduceEq, true_implies, false_implies, Int.reducePow, Int.toNat_natCast]
  have h0 : loseM M 0 = M := by funext i j; simp [loseM]
  have := loop 4 0 (by omega)
  rw [h0] at this
  exact this
set_option maxRecDepth 40000 in
set_option maxHeartbeats 4000000 in
theorem c_X2_canFollow (S : Snd C) {j : Nat} {x : Int} (hj : j ≤ 4) (hx : -1 ≤ x ∧ x ≤ 9999) (hg : 0 ≤ M 4 0 ∧ M 4 0 ≤ 9999) (hs : 0 ≤ M 4 1 ∧ M 4 1 ≤ 9999) (hc : ∀ j, j < 4 → (-1 ≤ M 6 j ∧ M 6 j ≤ 9999) ∧ (-1 ≤ M 7 j ∧ M 7 j ≤ 9999)) (k1 : (j = 0 ∨ (M 7 (j - 1) ≠ -1 ∧ x - M 7 (j - 1) ≤ M 4 0 ∧ x - M 6 (j - 1) ≤ M 4 1)) → Q (some (vI 1)) M) (k0 : ¬ (j = 0 ∨ (M 7 (j - 1) ≠ -1 ∧ x - M 7 (j - 1) ≤ M 4 0 ∧ x - M 6 (j - 1) ≤ M 4 1)) → Q (some (vI 0)) M) : C d 17 [vR 4, vI j, vI x] M Q := by
  have e1 : ((j : Int) - 1).toNat = j - 1 := by omega
  refine en_X2_canFollow S ?_
  refine Runs.go S.1 mo_X2_canFollow [] 38 ?_
  simp only [e_X2_canFollow_0, e_X2_canFollow_1, e_X2_canFollow_4, e_X2_canFollow_5, e_X2_canFollow_6, e_X2_canFollow_7, e_X2_canFollow_8, e_X2_canFollow_9, e_X2_canFollow_10, e_X2_canFollow_11, e_X2_canFollow_14, e_X2_canFollow_15, e_X2_canFollow_16, e_X2_canFollow_17, e_X2_canFollow_20, e_X2_canFollow_21, e_X2_canFollow_22, e_X2_canFollow_25, e_X2_canFollow_26, e_X2_canFollow_27, e_X2_canFollow_28, e_X2_canFollow_29, e_X2_canFollow_32, e_X2_canFollow_35, e_X2_canFollow_36, e_X2_canFollow_37, e_X2_canFollow_40, e_X2_canFollow_41, e_X2_canFollow_42, e_X2_canFollow_43, e_X2_canFollow_44, e_X2_canFollow_47, e_X2_canFollow_50, e_X2_canFollow_51, e_X2_canFollow_54, e_X2_canFollow_55, e1, f_getI, f_getR, f_goto, f_iald, f_icmp, f_if0, f_loadI, f_loadR, f_push, f_storeI, f_sub, f_zret, stN, lget, lput, clrL, lputL, lenLe, lenGe, noL, swL, List.elem_cons, List.elem_nil, List.take_succ_cons, List.take_zero, List.take_nil, List.drop_succ_cons, List.drop_zero, List.reverse_cons, List.reverse_nil, List.nil_append, List.cons_append, Option.toList_some, Option.toList_none, Bool.and_true, Bool.or_false, Bool.false_or, Bool.true_or, Bool.and_self, true_and, and_true, Nat.reduceAdd, Nat.reduceBEq, Int.reduceAdd, Int.reduceNeg, Int.reduceLE, Int.reduceLT, Int.reduceSub, Int.reduceMul, Int.reduceToNat, cEq, cNe, cLt, cGe, cGt, cLe, iR, lR, cl_0, cl_1, cl_4, cl_9, cl_86, al_2, al_3, al_5, al_13, al_6, al_7, al_8, al_10, al_11, al_87, al_88, al_90, al_91, al_92, al_93, al_94, al_95, al_96, al_97, al_98, al_99, al_100, ne_eq, not_true_eq_false, not_false_eq_true, upM_eq, upM_ni, upM_nj, upM_24, upM_48, upM_i24, upM_i48, upM_2448, upM_4824, Nat.reduceEqDiff, reduceCtorEq, or_true, true_or, Int.reduceEq, true_implies, false_implies, Int.reducePow, Int.toNat_natCast]
  have := hc (j - 1)
  refine ⟨by omega, fun q => ⟨by omega, by omega, fun q2 => ?_, fun q2 => ⟨by omega, by omega, by omega, fun q3 => ?_, fun q3 => ⟨by omega, by omega, by omega, fun q4 => ?_, fun q4 => ?_⟩⟩⟩, fun q => ?_⟩
  all_goals first | (refine k1 ?_; omega) | (refine k0 ?_; omega)
end

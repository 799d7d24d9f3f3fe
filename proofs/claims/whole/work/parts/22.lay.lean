/-! chains stay chains: pigeons, and Kinds.lay -/
theorem php : ∀ (n m : Nat) (f : Nat → Nat), (∀ i, i < m → f i < n) → (∀ i j, i < m → j < m → f i = f j → i = j) → m ≤ n
  | 0, m, f, h1, _ => by
    refine Nat.le_of_not_lt fun hm => ?_
    have := h1 0 hm
    omega
  | n + 1, m, f, h1, h2 => by
    by_cases hq : ∃ i, i < m ∧ f i = n
    · obtain ⟨i0, hi0, he⟩ := hq
      have hm : 0 < m := by omega
      have := php n (m - 1) (fun i => if i = i0 then f (m - 1) else f i) (fun i hi => by
          have a1 := h1 i (by omega)
          have a2 := h1 (m - 1) (by omega)
          by_cases q : i = i0
          · simp only [q, if_true]
            have : f (m - 1) ≠ n := fun z => by
              have := h2 (m - 1) i0 (by omega) hi0 (by rw [z, he])
              omega
            omega
          · simp only [q, if_false]
            have : f i ≠ n := fun z => q (h2 i i0 (by omega) hi0 (by rw [z, he]))
            omega) (fun i j hi hj hf => by
          by_cases qi : i = i0 <;> by_cases qj : j = i0
          · omega
          · simp only [qi, qj, if_true, if_false] at hf
            have := h2 (m - 1) j (by omega) (by omega) hf
            omega
          · simp only [qi, qj, if_true, if_false] at hf
            have := h2 i (m - 1) (by omega) (by omega) hf
            omega
          · simp only [qi, qj, if_false] at hf
            exact h2 i j (by omega) (by omega) hf)
      omega
    · have := php n m f (fun i hi => by
        have a1 := h1 i hi
        have : f i ≠ n := fun z => hq ⟨i, hi, z⟩
        omega) h2
      omega
/-- the n-th of the chain -/
def cit (ov : Nat → Int) : Nat → Int → Int
  | 0, x => x
  | n + 1, x => cit ov n (ov x.toNat)
theorem cit_add {ov : Nat → Int} : ∀ (n m : Nat) (x : Int), cit ov (n + m) x = cit ov m (cit ov n x)
  | 0, m, x => by rw [Nat.zero_add]; rfl
  | n + 1, m, x => by
    rw [Nat.add_right_comm]
    exact cit_add n m _
/-- the chain ends: its first end -/
theorem eds.first {ov : Nat → Int} : ∀ {n : Nat} {x : Int}, eds ov n x → ∃ m, m ≤ n ∧ cit ov m x = -1 ∧ ∀ i, i < m → 0 ≤ cit ov i x ∧ cit ov i x ≤ 15
  | 0, x, h => ⟨0, Nat.le_refl _, h, fun i hi => by omega⟩
  | n + 1, x, h => by
    rcases h with h | ⟨h, h2⟩
    · exact ⟨0, Nat.zero_le _, h, fun i hi => by omega⟩
    · obtain ⟨m, h3, h4, h5⟩ := eds.first h2
      refine ⟨m + 1, by omega, h4, fun i hi => ?_⟩
      cases i with
      | zero => exact h
      | succ i => exact h5 i (by omega)
theorem eds.of {ov : Nat → Int} : ∀ {m : Nat} {x : Int}, cit ov m x = -1 → (∀ i, i < m → 0 ≤ cit ov i x ∧ cit ov i x ≤ 15) → eds ov m x
  | 0, x, h, _ => h
  | m + 1, x, h, h2 => Or.inr ⟨h2 0 (by omega), eds.of h (fun i hi => h2 (i + 1) (by omega))⟩
theorem eds.small {ov : Nat → Int} {n : Nat} {x : Int} (h : eds ov n x) : eds ov 16 x := by
  obtain ⟨m, -, h4, h5⟩ := eds.first h
  have key : ∀ i j, i < m → j < m → i < j → cit ov i x ≠ cit ov j x := by
    intro i j hi hj hij e
    have e1 : cit ov (i + (m - j)) x = cit ov (j + (m - j)) x := by rw [cit_add, cit_add, e]
    rw [show j + (m - j) = m by omega, h4] at e1
    have := h5 (i + (m - j)) (by omega)
    omega
  have hm : m ≤ 16 := php 16 m (fun i => (cit ov i x).toNat) (fun i hi => by have := h5 i hi; show (cit ov i x).toNat < 16; omega) (fun i j hi hj he => by
    have a1 := h5 i hi
    have a2 := h5 j hj
    have e : cit ov i x = cit ov j x := by
      have he : (cit ov i x).toNat = (cit ov j x).toNat := he
      omega
    rcases Nat.lt_trichotomy i j with q | q | q
    · exact absurd e (key i j hi hj q)
    · exact q
    · exact absurd e.symm (key j i hj hi q))
  exact eds.mono hm (eds.of h4 h5)
abbrev ovU (ov : Nat → Int) (k : Nat) (y : Int) : Nat → Int := fun j => if j = k then y else ov j
/-- a chain without k is the same when what is over k changes -/
theorem eds.keep {ov : Nat → Int} {k : Nat} {y : Int} : ∀ {n : Nat} {x : Int}, eds ov n x → (clm ov n x).testBit k = false → eds (ovU ov k y) n x
  | 0, x, h, _ => h
  | n + 1, x, h, hb => by
    rcases h with h | ⟨h, h2⟩
    · exact Or.inl h
    · unfold clm at hb
      rw [if_neg (by omega), Nat.testBit_or, Bool.or_eq_false_iff] at hb
      have hk : x.toNat ≠ k := fun e => by
        rw [e, Nat.testBit_two_pow_self] at hb
        exact absurd hb.1 (by decide)
      refine Or.inr ⟨h, ?_⟩
      rw [show ovU ov k y x.toNat = ov x.toNat by simp [ovU, hk]]
      exact eds.keep h2 hb.2
theorem eds.upd {ov : Nat → Int} {k : Nat} {y : Int} (hk : k < 16) {N : Nat} (hy : eds (ovU ov k y) N y) : ∀ {n : Nat} {x : Int}, eds ov n x → eds (ovU ov k y) (n + N + 1) x
  | 0, x, h => Or.inl h
  | n + 1, x, h => by
    rcases h with h | ⟨h, h2⟩
    · exact Or.inl h
    · rw [show n + 1 + N + 1 = (n + N + 1) + 1 by omega]
      refine Or.inr ⟨h, ?_⟩
      by_cases hx : x.toNat = k
      · rw [show ovU ov k y x.toNat = y by simp [ovU, hx]]
        exact eds.mono (by omega) hy
      · rw [show ovU ov k y x.toNat = ov x.toNat by simp [ovU, hx]]
        exact eds.upd hk hy h2
def WFk (M : tM) : Prop := ∀ k : Nat, k < 16 → eds (M 3) 16 (k : Int) ∧ M 2 k = ((clm (M 3) 16 (k : Int) : Nat) : Int)
theorem WFk.ov {M : tM} (h : WFk M) {k : Nat} (hk : k < 16) : -1 ≤ M 3 k ∧ M 3 k ≤ 15 := by
  rcases (h k hk).1 with q | ⟨-, q⟩
  · omega
  · have := eds.r q
    rw [Int.toNat_natCast] at this
    exact this
def wAll (M : tM) (n : Nat) : tM := fun i j => if i = 2 ∧ j < n then ((clm (M 3) 16 (j : Int) : Nat) : Int) else M i j
def layM (M : tM) (x : Nat) (y : Int) : tM := wAll (upM M 3 x y) 16
theorem upM_fn {M : tM} {i x : Nat} {y : Int} : upM M i x y i = ovU (M i) x y := by
  funext j
  by_cases q : j = x
  · subst q; rw [upM_eq]; simp [ovU]
  · rw [upM_nj q]; simp [ovU, q]
theorem wAll_o {M : tM} {n i : Nat} (h : i ≠ 2) : wAll M n i = M i := by
  funext j
  simp [wAll, h]
theorem wAll_s {M : tM} {n : Nat} : upM (wAll M n) 2 n ((clm (M 3) 16 (n : Int) : Nat) : Int) = wAll M (n + 1) := by
  funext i j
  by_cases q : i = 2
  · subst q
    by_cases q2 : j = n
    · subst q2
      rw [upM_eq]
      simp [wAll]
    · rw [upM_nj q2]
      by_cases q3 : j < n
      · simp [wAll, q3, show j < n + 1 by omega]
      · simp [wAll, q3, show ¬ j < n + 1 by omega]
  · rw [upM_ni q, wAll_o q, wAll_o q]
theorem layM_eds {M : tM} (h : WFk M) {x : Nat} (hx : x < 16) {y : Int} (hy : -1 ≤ y ∧ y ≤ 15) (hn : y = -1 ∨ (clm (M 3) 16 y).testBit x = false) : ∀ k : Nat, k < 16 → eds (upM M 3 x y 3) 16 (k : Int) := by
  intro k hk
  rw [upM_fn]
  have hy2 : eds (ovU (M 3) x y) 16 y := by
    rcases hn with hn | hn
    · rw [hn]; exact Or.inl rfl
    · by_cases q : y = -1
      · exact Or.inl q
      · refine eds.keep ?_ hn
        have := (h y.toNat (by omega)).1
        rwa [show ((y.toNat : Nat) : Int) = y by omega] at this
  exact eds.small (eds.upd hx hy2 (h k hk).1)
theorem WFk.lay {M : tM} (h : WFk M) {x : Nat} (hx : x < 16) {y : Int} (hy : -1 ≤ y ∧ y ≤ 15) (hn : y = -1 ∨ (clm (M 3) 16 y).testBit x = false) : WFk (layM M x y) := by
  intro k hk
  have h3 : layM M x y 3 = upM M 3 x y 3 := wAll_o (by decide)
  rw [h3]
  refine ⟨layM_eds h hx hy hn k hk, ?_⟩
  show wAll _ 16 2 k = _
  simp [wAll, hk]
section
variable {C : tC} {Q : tQ} {d : Nat} {M : tM}
set_option maxRecDepth 40000 in
set_option maxHeartbeats 4000000 in
theorem c_X1_lay (S : Snd C) {x y : Int} (hx : 0 ≤ x ∧ x ≤ 15) (hy : -1 ≤ y ∧ y ≤ 15) (h : WFk M) (k1 : y ≠ -1 → (clm (M 3) 16 y).testBit x.toNat = true → Q (some (vI 0)) M) (k2 : (y = -1 ∨ (clm (M 3) 16 y).testBit x.toNat = false) → Q (some (vI 1)) (layM M x.toNat y)) : C (d + 1) 7 [vR 1, vI x, vI y] M Q := by
  have main : (y = -1 ∨ (clm (M 3) 16 y).testBit x.toNat = false) → ∀ (n s : Nat), s + n = 16 → Runs C (tabF k_X1_lay) (d + 1) Q 25 [some (vR 1), some (vI x), some (vI y), some (vI s)] [] (wAll (upM M 3 x.toNat y) s) := by
    intro hn n
    have he := layM_eds h (x := x.toNat) (by omega) hy hn
    induction n with
    | zero =>
      intro s hs
      refine Runs.go S.1 mo_X1_lay [11, 25, 41] 33 ?_
      simp only [e_X1_lay_0, e_X1_lay_1, e_X1_lay_2, e_X1_lay_5, e_X1_lay_6, e_X1_lay_7, e_X1_lay_8, e_X1_lay_11, e_X1_lay_14, e_X1_lay_15, e_X1_lay_16, e_X1_lay_17, e_X1_lay_20, e_X1_lay_21, e_X1_lay_22, e_X1_lay_23, e_X1_lay_24, e_X1_lay_25, e_X1_lay_26, e_X1_lay_28, e_X1_lay_31, e_X1_lay_32, e_X1_lay_35, e_X1_lay_36, e_X1_lay_37, e_X1_lay_38, e_X1_lay_41, e_X1_lay_42, e_X1_lay_45, e_X1_lay_48, e_X1_lay_49, f_callV, f_getR, f_goto, f_iast, f_icmp, f_if0, f_iinc, f_loadI, f_loadR, f_push, f_storeI, f_zret, stN, lget, lput, clrL, lputL, lenLe, lenGe, noL, swL, List.elem_cons, List.elem_nil, List.take_succ_cons, List.take_zero, List.take_nil, List.drop_succ_cons, List.drop_zero, List.reverse_cons, List.reverse_nil, List.nil_append, List.cons_append, Option.toList_some, Option.toList_none, Bool.and_true, Bool.or_false, Bool.false_or, Bool.true_or, Bool.and_self, true_and, and_true, Nat.reduceAdd, Nat.reduceBEq, Int.reduceAdd, Int.reduceNeg, Int.reduceLE, Int.reduceLT, Int.reduceSub, Int.reduceMul, Int.reduceToNat, cEq, cNe, cLt, cGe, cGt, cLe, iR, lR, cl_0, cl_1, cl_4, cl_9, cl_86, al_2, al_3, al_5, al_13, al_6, al_7, al_8, al_10, al_11, al_87, al_88, al_90, al_91, al_92, al_93, al_94, al_95, al_96, al_97, al_98, al_99, al_100, ne_eq, not_true_eq_false, not_false_eq_true, upM_eq, upM_ni, upM_nj, upM_24, upM_48, upM_i24, upM_i48, upM_2448, upM_4824, Nat.reduceEqDiff, reduceCtorEq, or_true, true_or, Int.reduceEq, true_implies, false_implies, Int.reducePow, Int.toNat_natCast]
      refine ⟨by omega, fun _ => ?_, fun _ => by omega⟩
      rw [show s = 16 by omega]
      exact k2 hn
    | succ n ih =>
      intro s hs
      refine Runs.go S.1 mo_X1_lay [11, 25, 41] 33 ?_
      simp only [e_X1_lay_0, e_X1_lay_1, e_X1_lay_2, e_X1_lay_5, e_X1_lay_6, e_X1_lay_7, e_X1_lay_8, e_X1_lay_11, e_X1_lay_14, e_X1_lay_15, e_X1_lay_16, e_X1_lay_17, e_X1_lay_20, e_X1_lay_21, e_X1_lay_22, e_X1_lay_23, e_X1_lay_24, e_X1_lay_25, e_X1_lay_26, e_X1_lay_28, e_X1_lay_31, e_X1_lay_32, e_X1_lay_35, e_X1_lay_36, e_X1_lay_37, e_X1_lay_38, e_X1_lay_41, e_X1_lay_42, e_X1_lay_45, e_X1_lay_48, e_X1_lay_49, f_callV, f_getR, f_goto, f_iast, f_icmp, f_if0, f_iinc, f_loadI, f_loadR, f_push, f_storeI, f_zret, stN, lget, lput, clrL, lputL, lenLe, lenGe, noL, swL, List.elem_cons, List.elem_nil, List.take_succ_cons, List.take_zero, List.take_nil, List.drop_succ_cons, List.drop_zero, List.reverse_cons, List.reverse_nil, List.nil_append, List.cons_append, Option.toList_some, Option.toList_none, Bool.and_true, Bool.or_false, Bool.false_or, Bool.true_or, Bool.and_self, true_and, and_true, Nat.reduceAdd, Nat.reduceBEq, Int.reduceAdd, Int.reduceNeg, Int.reduceLE, Int.reduceLT, Int.reduceSub, Int.reduceMul, Int.reduceToNat, cEq, cNe, cLt, cGe, cGt, cLe, iR, lR, cl_0, cl_1, cl_4, cl_9, cl_86, al_2, al_3, al_5, al_13, al_6, al_7, al_8, al_10, al_11, al_87, al_88, al_90, al_91, al_92, al_93, al_94, al_95, al_96, al_97, al_98, al_99, al_100, ne_eq, not_true_eq_false, not_false_eq_true, upM_eq, upM_ni, upM_nj, upM_24, upM_48, upM_i24, upM_i48, upM_2448, upM_4824, Nat.reduceEqDiff, reduceCtorEq, or_true, true_or, Int.reduceEq, true_implies, false_implies, Int.reducePow, Int.toNat_natCast]
      refine ⟨by omega, fun _ => by omega, fun _ => ?_⟩
      refine c_X1_climb S (by omega) (by rw [wAll_o (by decide)]; exact he s (by omega)) ?_
      rw [wAll_o (by decide)]
      refine Runs.go S.1 mo_X1_lay [11, 25, 41] 33 ?_
      simp only [e_X1_lay_0, e_X1_lay_1, e_X1_lay_2, e_X1_lay_5, e_X1_lay_6, e_X1_lay_7, e_X1_lay_8, e_X1_lay_11, e_X1_lay_14, e_X1_lay_15, e_X1_lay_16, e_X1_lay_17, e_X1_lay_20, e_X1_lay_21, e_X1_lay_22, e_X1_lay_23, e_X1_lay_24, e_X1_lay_25, e_X1_lay_26, e_X1_lay_28, e_X1_lay_31, e_X1_lay_32, e_X1_lay_35, e_X1_lay_36, e_X1_lay_37, e_X1_lay_38, e_X1_lay_41, e_X1_lay_42, e_X1_lay_45, e_X1_lay_48, e_X1_lay_49, f_callV, f_getR, f_goto, f_iast, f_icmp, f_if0, f_iinc, f_loadI, f_loadR, f_push, f_storeI, f_zret, stN, lget, lput, clrL, lputL, lenLe, lenGe, noL, swL, List.elem_cons, List.elem_nil, List.take_succ_cons, List.take_zero, List.take_nil, List.drop_succ_cons, List.drop_zero, List.reverse_cons, List.reverse_nil, List.nil_append, List.cons_append, Option.toList_some, Option.toList_none, Bool.and_true, Bool.or_false, Bool.false_or, Bool.true_or, Bool.and_self, true_and, and_true, Nat.reduceAdd, Nat.reduceBEq, Int.reduceAdd, Int.reduceNeg, Int.reduceLE, Int.reduceLT, Int.reduceSub, Int.reduceMul, Int.reduceToNat, cEq, cNe, cLt, cGe, cGt, cLe, iR, lR, cl_0, cl_1, cl_4, cl_9, cl_86, al_2, al_3, al_5, al_13, al_6, al_7, al_8, al_10, al_11, al_87, al_88, al_90, al_91, al_92, al_93, al_94, al_95, al_96, al_97, al_98, al_99, al_100, ne_eq, not_true_eq_false, not_false_eq_true, upM_eq, upM_ni, upM_nj, upM_24, upM_48, upM_i24, upM_i48, upM_2448, upM_4824, Nat.reduceEqDiff, reduceCtorEq, or_true, true_or, Int.reduceEq, true_implies, false_implies, Int.reducePow, Int.toNat_natCast]
      refine ⟨by omega, ?_⟩
      rw [wAll_s]
      exact ih (s + 1) (by omega)
  have w0 : wAll (upM M 3 x.toNat y) 0 = upM M 3 x.toNat y := by
    funext i j
    simp [wAll]
  refine en_X1_lay S ?_
  refine Runs.go S.1 mo_X1_lay [11, 25, 41] 33 ?_
  simp only [e_X1_lay_0, e_X1_lay_1, e_X1_lay_2, e_X1_lay_5, e_X1_lay_6, e_X1_lay_7, e_X1_lay_8, e_X1_lay_11, e_X1_lay_14, e_X1_lay_15, e_X1_lay_16, e_X1_lay_17, e_X1_lay_20, e_X1_lay_21, e_X1_lay_22, e_X1_lay_23, e_X1_lay_24, e_X1_lay_25, e_X1_lay_26, e_X1_lay_28, e_X1_lay_31, e_X1_lay_32, e_X1_lay_35, e_X1_lay_36, e_X1_lay_37, e_X1_lay_38, e_X1_lay_41, e_X1_lay_42, e_X1_lay_45, e_X1_lay_48, e_X1_lay_49, f_callV, f_getR, f_goto, f_iast, f_icmp, f_if0, f_iinc, f_loadI, f_loadR, f_push, f_storeI, f_zret, stN, lget, lput, clrL, lputL, lenLe, lenGe, noL, swL, List.elem_cons, List.elem_nil, List.take_succ_cons, List.take_zero, List.take_nil, List.drop_succ_cons, List.drop_zero, List.reverse_cons, List.reverse_nil, List.nil_append, List.cons_append, Option.toList_some, Option.toList_none, Bool.and_true, Bool.or_false, Bool.false_or, Bool.true_or, Bool.and_self, true_and, and_true, Nat.reduceAdd, Nat.reduceBEq, Int.reduceAdd, Int.reduceNeg, Int.reduceLE, Int.reduceLT, Int.reduceSub, Int.reduceMul, Int.reduceToNat, cEq, cNe, cLt, cGe, cGt, cLe, iR, lR, cl_0, cl_1, cl_4, cl_9, cl_86, al_2, al_3, al_5, al_13, al_6, al_7, al_8, al_10, al_11, al_87, al_88, al_90, al_91, al_92, al_93, al_94, al_95, al_96, al_97, al_98, al_99, al_100, ne_eq, not_true_eq_false, not_false_eq_true, upM_eq, upM_ni, upM_nj, upM_24, upM_48, upM_i24, upM_i48, upM_2448, upM_4824, Nat.reduceEqDiff, reduceCtorEq, or_true, true_or, Int.reduceEq, true_implies, false_implies, Int.reducePow, Int.toNat_natCast]
  refine ⟨by omega, fun q => ?_, fun q => ?_⟩
  · refine ⟨by omega, ?_⟩
    have := main (Or.inl q) 16 0 (by omega)
    rw [w0] at this
    exact this
  · have hy2 := h y.toNat (by omega)
    rw [show ((y.toNat : Nat) : Int) = y by omega] at hy2
    refine c_X1_is S (by omega) (by omega) hy2.2 (clm.lt hy2.1) ?_
    by_cases hb : (clm (M 3) 16 y).testBit x.toNat = true
    · rw [if_pos hb]
      refine Runs.go S.1 mo_X1_lay [11, 25, 41] 33 ?_
      simp only [e_X1_lay_0, e_X1_lay_1, e_X1_lay_2, e_X1_lay_5, e_X1_lay_6, e_X1_lay_7, e_X1_lay_8, e_X1_lay_11, e_X1_lay_14, e_X1_lay_15, e_X1_lay_16, e_X1_lay_17, e_X1_lay_20, e_X1_lay_21, e_X1_lay_22, e_X1_lay_23, e_X1_lay_24, e_X1_lay_25, e_X1_lay_26, e_X1_lay_28, e_X1_lay_31, e_X1_lay_32, e_X1_lay_35, e_X1_lay_36, e_X1_lay_37, e_X1_lay_38, e_X1_lay_41, e_X1_lay_42, e_X1_lay_45, e_X1_lay_48, e_X1_lay_49, f_callV, f_getR, f_goto, f_iast, f_icmp, f_if0, f_iinc, f_loadI, f_loadR, f_push, f_storeI, f_zret, stN, lget, lput, clrL, lputL, lenLe, lenGe, noL, swL, List.elem_cons, List.elem_nil, List.take_succ_cons, List.take_zero, List.take_nil, List.drop_succ_cons, List.drop_zero, List.reverse_cons, List.reverse_nil, List.nil_append, List.cons_append, Option.toList_some, Option.toList_none, Bool.and_true, Bool.or_false, Bool.false_or, Bool.true_or, Bool.and_self, true_and, and_true, Nat.reduceAdd, Nat.reduceBEq, Int.reduceAdd, Int.reduceNeg, Int.reduceLE, Int.reduceLT, Int.reduceSub, Int.reduceMul, Int.reduceToNat, cEq, cNe, cLt, cGe, cGt, cLe, iR, lR, cl_0, cl_1, cl_4, cl_9, cl_86, al_2, al_3, al_5, al_13, al_6, al_7, al_8, al_10, al_11, al_87, al_88, al_90, al_91, al_92, al_93, al_94, al_95, al_96, al_97, al_98, al_99, al_100, ne_eq, not_true_eq_false, not_false_eq_true, upM_eq, upM_ni, upM_nj, upM_24, upM_48, upM_i24, upM_i48, upM_2448, upM_4824, Nat.reduceEqDiff, reduceCtorEq, or_true, true_or, Int.reduceEq, true_implies, false_implies, Int.reducePow, Int.toNat_natCast]
      exact k1 q hb
    · rw [if_neg hb]
      have hb2 : (clm (M 3) 16 y).testBit x.toNat = false := by simpa using hb
      refine Runs.go S.1 mo_X1_lay [11, 25, 41] 33 ?_
      simp only [e_X1_lay_0, e_X1_lay_1, e_X1_lay_2, e_X1_lay_5, e_X1_lay_6, e_X1_lay_7, e_X1_lay_8, e_X1_lay_11, e_X1_lay_14, e_X1_lay_15, e_X1_lay_16, e_X1_lay_17, e_X1_lay_20, e_X1_lay_21, e_X1_lay_22, e_X1_lay_23, e_X1_lay_24, e_X1_lay_25, e_X1_lay_26, e_X1_lay_28, e_X1_lay_31, e_X1_lay_32, e_X1_lay_35, e_X1_lay_36, e_X1_lay_37, e_X1_lay_38, e_X1_lay_41, e_X1_lay_42, e_X1_lay_45, e_X1_lay_48, e_X1_lay_49, f_callV, f_getR, f_goto, f_iast, f_icmp, f_if0, f_iinc, f_loadI, f_loadR, f_push, f_storeI, f_zret, stN, lget, lput, clrL, lputL, lenLe, lenGe, noL, swL, List.elem_cons, List.elem_nil, List.take_succ_cons, List.take_zero, List.take_nil, List.drop_succ_cons, List.drop_zero, List.reverse_cons, List.reverse_nil, List.nil_append, List.cons_append, Option.toList_some, Option.toList_none, Bool.and_true, Bool.or_false, Bool.false_or, Bool.true_or, Bool.and_self, true_and, and_true, Nat.reduceAdd, Nat.reduceBEq, Int.reduceAdd, Int.reduceNeg, Int.reduceLE, Int.reduceLT, Int.reduceSub, Int.reduceMul, Int.reduceToNat, cEq, cNe, cLt, cGe, cGt, cLe, iR, lR, cl_0, cl_1, cl_4, cl_9, cl_86, al_2, al_3, al_5, al_13, al_6, al_7, al_8, al_10, al_11, al_87, al_88, al_90, al_91, al_92, al_93, al_94, al_95, al_96, al_97, al_98, al_99, al_100, ne_eq, not_true_eq_false, not_false_eq_true, upM_eq, upM_ni, upM_nj, upM_24, upM_48, upM_i24, upM_i48, upM_2448, upM_4824, Nat.reduceEqDiff, reduceCtorEq, or_true, true_or, Int.reduceEq, true_implies, false_implies, Int.reducePow, Int.toNat_natCast]
      refine ⟨by omega, ?_⟩
      have := main (Or.inr hb2) 16 0 (by omega)
      rw [w0] at this
      exact this
end
